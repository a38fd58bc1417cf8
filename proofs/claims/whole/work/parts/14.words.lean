/-! words of the tables -/
theorem wd0 : Cond.selects "SalePlaces" ⟨"SalePlaces", "refuse", "(I)I"⟩ ⟨"SalePlaces", "refuse", "(I)I"⟩ ∈ xgood := xgood_in (List.mem_of_getElem? (i := 0) (by decide +kernel)) (by decide +kernel)
theorem wd1 : Cond.selects "SalePlaces$Tape" ⟨"SalePlaces$Tape", "takeWord", "()V"⟩ ⟨"SalePlaces$Tape", "takeWord", "()V"⟩ ∈ xgood := xgood_in (List.mem_of_getElem? (i := 1) (by decide +kernel)) (by decide +kernel)
theorem wd2 : Cond.selects "SalePlaces$Tape" ⟨"SalePlaces$Tape", "takeWhole", "()V"⟩ ⟨"SalePlaces$Tape", "takeWhole", "()V"⟩ ∈ xgood := xgood_in (List.mem_of_getElem? (i := 2) (by decide +kernel)) (by decide +kernel)
theorem wd3 : Cond.selects "SalePlaces$Reader" ⟨"SalePlaces$Reader", "readLine", "()Z"⟩ ⟨"SalePlaces$Reader", "readLine", "()Z"⟩ ∈ xgood := xgood_in (List.mem_of_getElem? (i := 3) (by decide +kernel)) (by decide +kernel)
theorem wd4 : Cond.selects "SalePlaces$Reader" ⟨"SalePlaces$Reader", "fails", "(I)Z"⟩ ⟨"SalePlaces$Reader", "fails", "(I)Z"⟩ ∈ xgood := xgood_in (List.mem_of_getElem? (i := 4) (by decide +kernel)) (by decide +kernel)
theorem wd5 : Cond.selects "SalePlaces$Reader" ⟨"SalePlaces$Reader", "failsAt", "(II)Z"⟩ ⟨"SalePlaces$Reader", "failsAt", "(II)Z"⟩ ∈ xgood := xgood_in (List.mem_of_getElem? (i := 5) (by decide +kernel)) (by decide +kernel)
theorem wd6 : Cond.selects "SalePlaces$Reader" ⟨"SalePlaces$Reader", "readDesk", "()Z"⟩ ⟨"SalePlaces$Reader", "readDesk", "()Z"⟩ ∈ xgood := xgood_in (List.mem_of_getElem? (i := 6) (by decide +kernel)) (by decide +kernel)
theorem wd7 : Cond.selects "SalePlaces$Reader" ⟨"SalePlaces$Reader", "readWord", "(Ljava/lang/String;)Z"⟩ ⟨"SalePlaces$Reader", "readWord", "(Ljava/lang/String;)Z"⟩ ∈ xgood := xgood_in (List.mem_of_getElem? (i := 7) (by decide +kernel)) (by decide +kernel)
theorem wd8 : Cond.selects "SalePlaces$Reader" ⟨"SalePlaces$Reader", "readWhole", "(II)I"⟩ ⟨"SalePlaces$Reader", "readWhole", "(II)I"⟩ ∈ xgood := xgood_in (List.mem_of_getElem? (i := 8) (by decide +kernel)) (by decide +kernel)
theorem wd9 : Cond.selects "SalePlaces$Reader" ⟨"SalePlaces$Reader", "starts", "(II)Z"⟩ ⟨"SalePlaces$Reader", "starts", "(II)Z"⟩ ∈ xgood := xgood_in (List.mem_of_getElem? (i := 9) (by decide +kernel)) (by decide +kernel)
theorem wd10 : Cond.selects "SalePlaces$Reader" ⟨"SalePlaces$Reader", "readClass", "()Z"⟩ ⟨"SalePlaces$Reader", "readClass", "()Z"⟩ ∈ xgood := xgood_in (List.mem_of_getElem? (i := 10) (by decide +kernel)) (by decide +kernel)
theorem wd11 : Cond.selects "SalePlaces$Reader" ⟨"SalePlaces$Reader", "readNewName", "()J"⟩ ⟨"SalePlaces$Reader", "readNewName", "()J"⟩ ∈ xgood := xgood_in (List.mem_of_getElem? (i := 11) (by decide +kernel)) (by decide +kernel)
theorem wd12 : Cond.selects "SalePlaces$Reader" ⟨"SalePlaces$Reader", "readName", "([JI)I"⟩ ⟨"SalePlaces$Reader", "readName", "([JI)I"⟩ ∈ xgood := xgood_in (List.mem_of_getElem? (i := 12) (by decide +kernel)) (by decide +kernel)
theorem wd13 : Cond.selects "SalePlaces$Reader" ⟨"SalePlaces$Reader", "readPlace", "()Z"⟩ ⟨"SalePlaces$Reader", "readPlace", "()Z"⟩ ∈ xgood := xgood_in (List.mem_of_getElem? (i := 13) (by decide +kernel)) (by decide +kernel)
theorem wd14 : Cond.selects "SalePlaces$Reader" ⟨"SalePlaces$Reader", "readBound", "()Z"⟩ ⟨"SalePlaces$Reader", "readBound", "()Z"⟩ ∈ xgood := xgood_in (List.mem_of_getElem? (i := 14) (by decide +kernel)) (by decide +kernel)
theorem wd15 : Cond.selects "SalePlaces$Reader" ⟨"SalePlaces$Reader", "readCorners", "(LSalePlaces$Bounds;)I"⟩ ⟨"SalePlaces$Reader", "readCorners", "(LSalePlaces$Bounds;)I"⟩ ∈ xgood := xgood_in (List.mem_of_getElem? (i := 15) (by decide +kernel)) (by decide +kernel)
theorem wd16 : Cond.selects "SalePlaces$Reader" ⟨"SalePlaces$Reader", "readRate", "()Z"⟩ ⟨"SalePlaces$Reader", "readRate", "()Z"⟩ ∈ xgood := xgood_in (List.mem_of_getElem? (i := 16) (by decide +kernel)) (by decide +kernel)
theorem wd17 : Cond.selects "SalePlaces$Reader" ⟨"SalePlaces$Reader", "readHoliday", "()Z"⟩ ⟨"SalePlaces$Reader", "readHoliday", "()Z"⟩ ∈ xgood := xgood_in (List.mem_of_getElem? (i := 17) (by decide +kernel)) (by decide +kernel)
theorem wd18 : Cond.selects "SalePlaces$Reader" ⟨"SalePlaces$Reader", "readCap", "()Z"⟩ ⟨"SalePlaces$Reader", "readCap", "()Z"⟩ ∈ xgood := xgood_in (List.mem_of_getElem? (i := 18) (by decide +kernel)) (by decide +kernel)
theorem wd19 : Cond.selects "SalePlaces$Reader" ⟨"SalePlaces$Reader", "isWhole", "()Z"⟩ ⟨"SalePlaces$Reader", "isWhole", "()Z"⟩ ∈ xgood := xgood_in (List.mem_of_getElem? (i := 19) (by decide +kernel)) (by decide +kernel)
theorem wd20 : Cond.selects "SalePlaces" ⟨"SalePlaces", "grant", "(I)I"⟩ ⟨"SalePlaces", "grant", "(I)I"⟩ ∈ xgood := xgood_in (List.mem_of_getElem? (i := 20) (by decide +kernel)) (by decide +kernel)
theorem wd21 : Cond.selects "SalePlaces" ⟨"SalePlaces", "isClass", "(I)Z"⟩ ⟨"SalePlaces", "isClass", "(I)Z"⟩ ∈ xgood := xgood_in (List.mem_of_getElem? (i := 21) (by decide +kernel)) (by decide +kernel)
theorem wd22 : Cond.selects "SalePlaces" ⟨"SalePlaces", "isPlace", "(I)Z"⟩ ⟨"SalePlaces", "isPlace", "(I)Z"⟩ ∈ xgood := xgood_in (List.mem_of_getElem? (i := 22) (by decide +kernel)) (by decide +kernel)
theorem wd23 : Cond.selects "SalePlaces" ⟨"SalePlaces", "refuseFar", "(I)I"⟩ ⟨"SalePlaces", "refuseFar", "(I)I"⟩ ∈ xgood := xgood_in (List.mem_of_getElem? (i := 23) (by decide +kernel)) (by decide +kernel)
theorem wd24 : Cond.selects "SalePlaces" ⟨"SalePlaces", "isPoint", "(II)Z"⟩ ⟨"SalePlaces", "isPoint", "(II)Z"⟩ ∈ xgood := xgood_in (List.mem_of_getElem? (i := 24) (by decide +kernel)) (by decide +kernel)
theorem wd25 : Cond.selects "SalePlaces$Bounds" ⟨"SalePlaces$Bounds", "isEast", "(IIII)Z"⟩ ⟨"SalePlaces$Bounds", "isEast", "(IIII)Z"⟩ ∈ xgood := xgood_in (List.mem_of_getElem? (i := 25) (by decide +kernel)) (by decide +kernel)
theorem wd26 : Cond.selects "SalePlaces$Bounds" ⟨"SalePlaces$Bounds", "isOn", "(IIII)Z"⟩ ⟨"SalePlaces$Bounds", "isOn", "(IIII)Z"⟩ ∈ xgood := xgood_in (List.mem_of_getElem? (i := 26) (by decide +kernel)) (by decide +kernel)
theorem wd27 : Cond.selects "SalePlaces$Ground" ⟨"SalePlaces$Ground", "pileMask", "(III)I"⟩ ⟨"SalePlaces$Ground", "pileMask", "(III)I"⟩ ∈ xgood := xgood_in (List.mem_of_getElem? (i := 27) (by decide +kernel)) (by decide +kernel)
theorem wd28 : Cond.selects "SalePlaces$Tariff" ⟨"SalePlaces$Tariff", "isUnder", "(II)Z"⟩ ⟨"SalePlaces$Tariff", "isUnder", "(II)Z"⟩ ∈ xgood := xgood_in (List.mem_of_getElem? (i := 28) (by decide +kernel)) (by decide +kernel)
theorem wd29 : Cond.selects "SalePlaces" ⟨"SalePlaces", "isSale", "(IIIII)Z"⟩ ⟨"SalePlaces", "isSale", "(IIIII)Z"⟩ ∈ xgood := xgood_in (List.mem_of_getElem? (i := 29) (by decide +kernel)) (by decide +kernel)
theorem wd30 : Cond.selects "SalePlaces" ⟨"SalePlaces", "dueOfTrial", "()I"⟩ ⟨"SalePlaces", "dueOfTrial", "()I"⟩ ∈ xgood := xgood_in (List.mem_of_getElem? (i := 30) (by decide +kernel)) (by decide +kernel)
theorem wd31 : Cond.selects "SalePlaces" ⟨"SalePlaces", "bestDayOfTrial", "(I)I"⟩ ⟨"SalePlaces", "bestDayOfTrial", "(I)I"⟩ ∈ xgood := xgood_in (List.mem_of_getElem? (i := 31) (by decide +kernel)) (by decide +kernel)
theorem wd32 : Cond.selects "SalePlaces" ⟨"SalePlaces", "isLine", "(I)Z"⟩ ⟨"SalePlaces", "isLine", "(I)Z"⟩ ∈ xgood := xgood_in (List.mem_of_getElem? (i := 32) (by decide +kernel)) (by decide +kernel)
theorem wd33 : Cond.selects "SalePlaces" ⟨"SalePlaces", "isPlaceOrAll", "(I)Z"⟩ ⟨"SalePlaces", "isPlaceOrAll", "(I)Z"⟩ ∈ xgood := xgood_in (List.mem_of_getElem? (i := 33) (by decide +kernel)) (by decide +kernel)
theorem wd34 : Cond.selects "SalePlaces" ⟨"SalePlaces", "isFiling", "(I)Z"⟩ ⟨"SalePlaces", "isFiling", "(I)Z"⟩ ∈ xgood := xgood_in (List.mem_of_getElem? (i := 34) (by decide +kernel)) (by decide +kernel)
theorem wd35 : Cond.selects "SalePlaces" ⟨"SalePlaces", "shortBy", "(LSalePlaces$Line;)I"⟩ ⟨"SalePlaces", "shortBy", "(LSalePlaces$Line;)I"⟩ ∈ xgood := xgood_in (List.mem_of_getElem? (i := 35) (by decide +kernel)) (by decide +kernel)
theorem wd36 : Cond.selects "SalePlaces$Acts" ⟨"SalePlaces$Acts", "forgetFirst", "()V"⟩ ⟨"SalePlaces$Acts", "forgetFirst", "()V"⟩ ∈ xgood := xgood_in (List.mem_of_getElem? (i := 36) (by decide +kernel)) (by decide +kernel)
theorem wd37 : Cond.selects "SalePlaces" ⟨"SalePlaces", "takeBack", "(I)V"⟩ ⟨"SalePlaces", "takeBack", "(I)V"⟩ ∈ xgood := xgood_in (List.mem_of_getElem? (i := 37) (by decide +kernel)) (by decide +kernel)
theorem wd39 : Cond.selects "SalePlacesModel" ⟨"SalePlacesModel", "refused", "(I)I"⟩ ⟨"SalePlacesModel", "refused", "(I)I"⟩ ∈ xgood := xgood_in (List.mem_of_getElem? (i := 39) (by decide +kernel)) (by decide +kernel)
theorem wd40 : Cond.selects "SalePlacesModel" ⟨"SalePlacesModel", "readAll", "()V"⟩ ⟨"SalePlacesModel", "readAll", "()V"⟩ ∈ xgood := xgood_in (List.mem_of_getElem? (i := 40) (by decide +kernel)) (by decide +kernel)
theorem wd41 : Cond.selects "SalePlacesModel" ⟨"SalePlacesModel", "next", "()V"⟩ ⟨"SalePlacesModel", "next", "()V"⟩ ∈ xgood := xgood_in (List.mem_of_getElem? (i := 41) (by decide +kernel)) (by decide +kernel)
theorem wd42 : Cond.selects "SalePlacesModel" ⟨"SalePlacesModel", "byteAt", "(I)I"⟩ ⟨"SalePlacesModel", "byteAt", "(I)I"⟩ ∈ xgood := xgood_in (List.mem_of_getElem? (i := 42) (by decide +kernel)) (by decide +kernel)
theorem wd43 : Cond.selects "SalePlacesModel" ⟨"SalePlacesModel", "nextWord", "()V"⟩ ⟨"SalePlacesModel", "nextWord", "()V"⟩ ∈ xgood := xgood_in (List.mem_of_getElem? (i := 43) (by decide +kernel)) (by decide +kernel)
theorem wd44 : Cond.selects "SalePlacesModel" ⟨"SalePlacesModel", "nextWhole", "()V"⟩ ⟨"SalePlacesModel", "nextWhole", "()V"⟩ ∈ xgood := xgood_in (List.mem_of_getElem? (i := 44) (by decide +kernel)) (by decide +kernel)
theorem wd45 : Cond.selects "SalePlacesModel" ⟨"SalePlacesModel", "nextSign", "(I)V"⟩ ⟨"SalePlacesModel", "nextSign", "(I)V"⟩ ∈ xgood := xgood_in (List.mem_of_getElem? (i := 45) (by decide +kernel)) (by decide +kernel)
theorem wd46 : Cond.selects "SalePlacesModel" ⟨"SalePlacesModel", "readLine", "()V"⟩ ⟨"SalePlacesModel", "readLine", "()V"⟩ ∈ xgood := xgood_in (List.mem_of_getElem? (i := 46) (by decide +kernel)) (by decide +kernel)
theorem wd47 : Cond.selects "SalePlacesModel" ⟨"SalePlacesModel", "isWord", "(Ljava/lang/String;)Z"⟩ ⟨"SalePlacesModel", "isWord", "(Ljava/lang/String;)Z"⟩ ∈ xgood := xgood_in (List.mem_of_getElem? (i := 47) (by decide +kernel)) (by decide +kernel)
theorem wd48 : Cond.selects "SalePlacesModel" ⟨"SalePlacesModel", "readDesk", "()V"⟩ ⟨"SalePlacesModel", "readDesk", "()V"⟩ ∈ xgood := xgood_in (List.mem_of_getElem? (i := 48) (by decide +kernel)) (by decide +kernel)
theorem wd49 : Cond.selects "SalePlacesModel" ⟨"SalePlacesModel", "flaw", "(I)V"⟩ ⟨"SalePlacesModel", "flaw", "(I)V"⟩ ∈ xgood := xgood_in (List.mem_of_getElem? (i := 49) (by decide +kernel)) (by decide +kernel)
theorem wd50 : Cond.selects "SalePlacesModel" ⟨"SalePlacesModel", "readPart", "(Ljava/lang/String;II)I"⟩ ⟨"SalePlacesModel", "readPart", "(Ljava/lang/String;II)I"⟩ ∈ xgood := xgood_in (List.mem_of_getElem? (i := 50) (by decide +kernel)) (by decide +kernel)
theorem wd51 : Cond.selects "SalePlacesModel" ⟨"SalePlacesModel", "takes", "(Ljava/lang/String;)Z"⟩ ⟨"SalePlacesModel", "takes", "(Ljava/lang/String;)Z"⟩ ∈ xgood := xgood_in (List.mem_of_getElem? (i := 51) (by decide +kernel)) (by decide +kernel)
theorem wd52 : Cond.selects "SalePlacesModel" ⟨"SalePlacesModel", "readWhole", "(II)I"⟩ ⟨"SalePlacesModel", "readWhole", "(II)I"⟩ ∈ xgood := xgood_in (List.mem_of_getElem? (i := 52) (by decide +kernel)) (by decide +kernel)
theorem wd53 : Cond.selects "SalePlacesModel" ⟨"SalePlacesModel", "readClass", "()V"⟩ ⟨"SalePlacesModel", "readClass", "()V"⟩ ∈ xgood := xgood_in (List.mem_of_getElem? (i := 53) (by decide +kernel)) (by decide +kernel)
theorem wd54 : Cond.selects "SalePlacesModel" ⟨"SalePlacesModel", "begins", "(II)V"⟩ ⟨"SalePlacesModel", "begins", "(II)V"⟩ ∈ xgood := xgood_in (List.mem_of_getElem? (i := 54) (by decide +kernel)) (by decide +kernel)
theorem wd55 : Cond.selects "SalePlacesModel" ⟨"SalePlacesModel", "readFresh", "()J"⟩ ⟨"SalePlacesModel", "readFresh", "()J"⟩ ∈ xgood := xgood_in (List.mem_of_getElem? (i := 55) (by decide +kernel)) (by decide +kernel)
theorem wd56 : Cond.selects "SalePlacesModel" ⟨"SalePlacesModel", "isName", "()Z"⟩ ⟨"SalePlacesModel", "isName", "()Z"⟩ ∈ xgood := xgood_in (List.mem_of_getElem? (i := 56) (by decide +kernel)) (by decide +kernel)
theorem wd57 : Cond.selects "SalePlacesModel" ⟨"SalePlacesModel", "classHere", "()I"⟩ ⟨"SalePlacesModel", "classHere", "()I"⟩ ∈ xgood := xgood_in (List.mem_of_getElem? (i := 57) (by decide +kernel)) (by decide +kernel)
theorem wd58 : Cond.selects "SalePlacesModel" ⟨"SalePlacesModel", "find", "([JI)I"⟩ ⟨"SalePlacesModel", "find", "([JI)I"⟩ ∈ xgood := xgood_in (List.mem_of_getElem? (i := 58) (by decide +kernel)) (by decide +kernel)
theorem wd59 : Cond.selects "SalePlacesModel" ⟨"SalePlacesModel", "placeHere", "()I"⟩ ⟨"SalePlacesModel", "placeHere", "()I"⟩ ∈ xgood := xgood_in (List.mem_of_getElem? (i := 59) (by decide +kernel)) (by decide +kernel)
theorem wd60 : Cond.selects "SalePlacesModel" ⟨"SalePlacesModel", "readKnown", "(Z)I"⟩ ⟨"SalePlacesModel", "readKnown", "(Z)I"⟩ ∈ xgood := xgood_in (List.mem_of_getElem? (i := 60) (by decide +kernel)) (by decide +kernel)
theorem wd61 : Cond.selects "SalePlacesModel" ⟨"SalePlacesModel", "known", "(Z)I"⟩ ⟨"SalePlacesModel", "known", "(Z)I"⟩ ∈ xgood := xgood_in (List.mem_of_getElem? (i := 61) (by decide +kernel)) (by decide +kernel)
theorem wd62 : Cond.selects "SalePlacesModel" ⟨"SalePlacesModel", "readPlace", "()V"⟩ ⟨"SalePlacesModel", "readPlace", "()V"⟩ ∈ xgood := xgood_in (List.mem_of_getElem? (i := 62) (by decide +kernel)) (by decide +kernel)
theorem wd63 : Cond.selects "SalePlacesModel" ⟨"SalePlacesModel", "readBound", "()V"⟩ ⟨"SalePlacesModel", "readBound", "()V"⟩ ∈ xgood := xgood_in (List.mem_of_getElem? (i := 63) (by decide +kernel)) (by decide +kernel)
theorem wd64 : Cond.selects "SalePlacesModel" ⟨"SalePlacesModel", "readRate", "()V"⟩ ⟨"SalePlacesModel", "readRate", "()V"⟩ ∈ xgood := xgood_in (List.mem_of_getElem? (i := 64) (by decide +kernel)) (by decide +kernel)
theorem wd65 : Cond.selects "SalePlacesModel" ⟨"SalePlacesModel", "readHoliday", "()V"⟩ ⟨"SalePlacesModel", "readHoliday", "()V"⟩ ∈ xgood := xgood_in (List.mem_of_getElem? (i := 65) (by decide +kernel)) (by decide +kernel)
theorem wd66 : Cond.selects "SalePlacesModel" ⟨"SalePlacesModel", "readCap", "()V"⟩ ⟨"SalePlacesModel", "readCap", "()V"⟩ ∈ xgood := xgood_in (List.mem_of_getElem? (i := 66) (by decide +kernel)) (by decide +kernel)
theorem wd67 : Cond.selects "SalePlacesModel" ⟨"SalePlacesModel", "good", "(I)I"⟩ ⟨"SalePlacesModel", "good", "(I)I"⟩ ∈ xgood := xgood_in (List.mem_of_getElem? (i := 67) (by decide +kernel)) (by decide +kernel)
theorem wd68 : Cond.selects "SalePlacesModel" ⟨"SalePlacesModel", "isClass", "(I)Z"⟩ ⟨"SalePlacesModel", "isClass", "(I)Z"⟩ ∈ xgood := xgood_in (List.mem_of_getElem? (i := 68) (by decide +kernel)) (by decide +kernel)
theorem wd69 : Cond.selects "SalePlacesModel" ⟨"SalePlacesModel", "isPlace", "(I)Z"⟩ ⟨"SalePlacesModel", "isPlace", "(I)Z"⟩ ∈ xgood := xgood_in (List.mem_of_getElem? (i := 69) (by decide +kernel)) (by decide +kernel)
theorem wd70 : Cond.selects "SalePlacesModel" ⟨"SalePlacesModel", "boundMany", "(I)I"⟩ ⟨"SalePlacesModel", "boundMany", "(I)I"⟩ ∈ xgood := xgood_in (List.mem_of_getElem? (i := 70) (by decide +kernel)) (by decide +kernel)
theorem wd71 : Cond.selects "SalePlacesModel" ⟨"SalePlacesModel", "refuses", "(ZI)I"⟩ ⟨"SalePlacesModel", "refuses", "(ZI)I"⟩ ∈ xgood := xgood_in (List.mem_of_getElem? (i := 71) (by decide +kernel)) (by decide +kernel)
theorem wd72 : Cond.selects "SalePlacesModel" ⟨"SalePlacesModel", "manyOn", "(II)I"⟩ ⟨"SalePlacesModel", "manyOn", "(II)I"⟩ ∈ xgood := xgood_in (List.mem_of_getElem? (i := 72) (by decide +kernel)) (by decide +kernel)
theorem wd73 : Cond.selects "SalePlacesModel" ⟨"SalePlacesModel", "boundOn", "(II)I"⟩ ⟨"SalePlacesModel", "boundOn", "(II)I"⟩ ∈ xgood := xgood_in (List.mem_of_getElem? (i := 73) (by decide +kernel)) (by decide +kernel)
theorem wd74 : Cond.selects "SalePlacesModel" ⟨"SalePlacesModel", "xOf", "(II)I"⟩ ⟨"SalePlacesModel", "xOf", "(II)I"⟩ ∈ xgood := xgood_in (List.mem_of_getElem? (i := 74) (by decide +kernel)) (by decide +kernel)
theorem wd75 : Cond.selects "SalePlacesModel" ⟨"SalePlacesModel", "yOf", "(II)I"⟩ ⟨"SalePlacesModel", "yOf", "(II)I"⟩ ∈ xgood := xgood_in (List.mem_of_getElem? (i := 75) (by decide +kernel)) (by decide +kernel)
theorem wd76 : Cond.selects "SalePlacesModel" ⟨"SalePlacesModel", "refusedLow", "(I)I"⟩ ⟨"SalePlacesModel", "refusedLow", "(I)I"⟩ ∈ xgood := xgood_in (List.mem_of_getElem? (i := 76) (by decide +kernel)) (by decide +kernel)
theorem wd77 : Cond.selects "SalePlacesModel" ⟨"SalePlacesModel", "refusesAt", "(ZIII)I"⟩ ⟨"SalePlacesModel", "refusesAt", "(ZIII)I"⟩ ∈ xgood := xgood_in (List.mem_of_getElem? (i := 77) (by decide +kernel)) (by decide +kernel)
theorem wd78 : Cond.selects "SalePlacesModel" ⟨"SalePlacesModel", "isPoint", "(II)Z"⟩ ⟨"SalePlacesModel", "isPoint", "(II)Z"⟩ ∈ xgood := xgood_in (List.mem_of_getElem? (i := 78) (by decide +kernel)) (by decide +kernel)
theorem wd79 : Cond.selects "SalePlacesModel" ⟨"SalePlacesModel", "isIn", "(IIII)Z"⟩ ⟨"SalePlacesModel", "isIn", "(IIII)Z"⟩ ∈ xgood := xgood_in (List.mem_of_getElem? (i := 79) (by decide +kernel)) (by decide +kernel)
theorem wd80 : Cond.selects "SalePlacesModel" ⟨"SalePlacesModel", "isEast", "(IIIII)Z"⟩ ⟨"SalePlacesModel", "isEast", "(IIIII)Z"⟩ ∈ xgood := xgood_in (List.mem_of_getElem? (i := 80) (by decide +kernel)) (by decide +kernel)
theorem wd81 : Cond.selects "SalePlacesModel" ⟨"SalePlacesModel", "settledIn", "(IIII)I"⟩ ⟨"SalePlacesModel", "settledIn", "(IIII)I"⟩ ∈ xgood := xgood_in (List.mem_of_getElem? (i := 81) (by decide +kernel)) (by decide +kernel)
theorem wd82 : Cond.selects "SalePlacesModel" ⟨"SalePlacesModel", "laysStack", "(III[I)I"⟩ ⟨"SalePlacesModel", "laysStack", "(III[I)I"⟩ ∈ xgood := xgood_in (List.mem_of_getElem? (i := 82) (by decide +kernel)) (by decide +kernel)
theorem wd83 : Cond.selects "SalePlacesModel" ⟨"SalePlacesModel", "rateOf", "(III)I"⟩ ⟨"SalePlacesModel", "rateOf", "(III)I"⟩ ∈ xgood := xgood_in (List.mem_of_getElem? (i := 83) (by decide +kernel)) (by decide +kernel)
theorem wd84 : Cond.selects "SalePlacesModel" ⟨"SalePlacesModel", "ownRate", "(III)I"⟩ ⟨"SalePlacesModel", "ownRate", "(III)I"⟩ ∈ xgood := xgood_in (List.mem_of_getElem? (i := 84) (by decide +kernel)) (by decide +kernel)
theorem wd85 : Cond.selects "SalePlacesModel" ⟨"SalePlacesModel", "isFree", "(IIII)Z"⟩ ⟨"SalePlacesModel", "isFree", "(IIII)Z"⟩ ∈ xgood := xgood_in (List.mem_of_getElem? (i := 85) (by decide +kernel)) (by decide +kernel)
theorem wd86 : Cond.selects "SalePlacesModel" ⟨"SalePlacesModel", "isOf", "(II)Z"⟩ ⟨"SalePlacesModel", "isOf", "(II)Z"⟩ ∈ xgood := xgood_in (List.mem_of_getElem? (i := 86) (by decide +kernel)) (by decide +kernel)
theorem wd87 : Cond.selects "SalePlacesModel" ⟨"SalePlacesModel", "capOf", "(II)I"⟩ ⟨"SalePlacesModel", "capOf", "(II)I"⟩ ∈ xgood := xgood_in (List.mem_of_getElem? (i := 87) (by decide +kernel)) (by decide +kernel)
theorem wd88 : Cond.selects "SalePlacesModel" ⟨"SalePlacesModel", "stackRateOf", "(IIII)I"⟩ ⟨"SalePlacesModel", "stackRateOf", "(IIII)I"⟩ ∈ xgood := xgood_in (List.mem_of_getElem? (i := 88) (by decide +kernel)) (by decide +kernel)
theorem wd89 : Cond.selects "SalePlacesModel" ⟨"SalePlacesModel", "refusesSale", "(IIIIII)I"⟩ ⟨"SalePlacesModel", "refusesSale", "(IIIIII)I"⟩ ∈ xgood := xgood_in (List.mem_of_getElem? (i := 89) (by decide +kernel)) (by decide +kernel)
theorem wd90 : Cond.selects "SalePlacesModel" ⟨"SalePlacesModel", "dueOf", "(IIIIII)I"⟩ ⟨"SalePlacesModel", "dueOf", "(IIIIII)I"⟩ ∈ xgood := xgood_in (List.mem_of_getElem? (i := 90) (by decide +kernel)) (by decide +kernel)
theorem wd91 : Cond.selects "SalePlacesModel" ⟨"SalePlacesModel", "isLine", "(I)Z"⟩ ⟨"SalePlacesModel", "isLine", "(I)Z"⟩ ∈ xgood := xgood_in (List.mem_of_getElem? (i := 91) (by decide +kernel)) (by decide +kernel)
theorem wd92 : Cond.selects "SalePlacesModel" ⟨"SalePlacesModel", "lineDue", "(I)I"⟩ ⟨"SalePlacesModel", "lineDue", "(I)I"⟩ ∈ xgood := xgood_in (List.mem_of_getElem? (i := 92) (by decide +kernel)) (by decide +kernel)
theorem wd93 : Cond.selects "SalePlacesModel" ⟨"SalePlacesModel", "told", "(II)I"⟩ ⟨"SalePlacesModel", "told", "(II)I"⟩ ∈ xgood := xgood_in (List.mem_of_getElem? (i := 93) (by decide +kernel)) (by decide +kernel)
theorem wd94 : Cond.selects "SalePlacesModel" ⟨"SalePlacesModel", "partTax", "(II)I"⟩ ⟨"SalePlacesModel", "partTax", "(II)I"⟩ ∈ xgood := xgood_in (List.mem_of_getElem? (i := 94) (by decide +kernel)) (by decide +kernel)
theorem wd95 : Cond.selects "SalePlacesModel" ⟨"SalePlacesModel", "partBase", "(II)I"⟩ ⟨"SalePlacesModel", "partBase", "(II)I"⟩ ∈ xgood := xgood_in (List.mem_of_getElem? (i := 95) (by decide +kernel)) (by decide +kernel)
theorem wd96 : Cond.selects "SalePlacesModel" ⟨"SalePlacesModel", "partIs", "(III)I"⟩ ⟨"SalePlacesModel", "partIs", "(III)I"⟩ ∈ xgood := xgood_in (List.mem_of_getElem? (i := 96) (by decide +kernel)) (by decide +kernel)
theorem wd97 : Cond.selects "SalePlacesModel" ⟨"SalePlacesModel", "laysLedger", "()V"⟩ ⟨"SalePlacesModel", "laysLedger", "()V"⟩ ∈ xgood := xgood_in (List.mem_of_getElem? (i := 97) (by decide +kernel)) (by decide +kernel)
theorem wd98 : Cond.selects "SalePlacesModel" ⟨"SalePlacesModel", "entryOf", "(II)I"⟩ ⟨"SalePlacesModel", "entryOf", "(II)I"⟩ ∈ xgood := xgood_in (List.mem_of_getElem? (i := 98) (by decide +kernel)) (by decide +kernel)
theorem wd99 : Cond.selects "SalePlacesModel" ⟨"SalePlacesModel", "isFiling", "(I)Z"⟩ ⟨"SalePlacesModel", "isFiling", "(I)Z"⟩ ∈ xgood := xgood_in (List.mem_of_getElem? (i := 99) (by decide +kernel)) (by decide +kernel)
theorem wd100 : Cond.selects "SalePlacesModel" ⟨"SalePlacesModel", "isPlaceOrAll", "(I)Z"⟩ ⟨"SalePlacesModel", "isPlaceOrAll", "(I)Z"⟩ ∈ xgood := xgood_in (List.mem_of_getElem? (i := 100) (by decide +kernel)) (by decide +kernel)
theorem wd101 : Cond.selects "SalePlacesModel" ⟨"SalePlacesModel", "canFile", "(I)Z"⟩ ⟨"SalePlacesModel", "canFile", "(I)Z"⟩ ∈ xgood := xgood_in (List.mem_of_getElem? (i := 101) (by decide +kernel)) (by decide +kernel)
theorem wd102 : Cond.selects "SalePlacesModel" ⟨"SalePlacesModel", "filedDay", "()I"⟩ ⟨"SalePlacesModel", "filedDay", "()I"⟩ ∈ xgood := xgood_in (List.mem_of_getElem? (i := 102) (by decide +kernel)) (by decide +kernel)
theorem wd103 : Cond.selects "SalePlacesModel" ⟨"SalePlacesModel", "wouldPay", "(II)I"⟩ ⟨"SalePlacesModel", "wouldPay", "(II)I"⟩ ∈ xgood := xgood_in (List.mem_of_getElem? (i := 103) (by decide +kernel)) (by decide +kernel)
theorem wd104 : Cond.selects "SalePlacesModel" ⟨"SalePlacesModel", "lineTaxes", "(II)I"⟩ ⟨"SalePlacesModel", "lineTaxes", "(II)I"⟩ ∈ xgood := xgood_in (List.mem_of_getElem? (i := 104) (by decide +kernel)) (by decide +kernel)
theorem wd105 : Cond.selects "SalePlacesModel" ⟨"SalePlacesModel", "remembers", "(III)V"⟩ ⟨"SalePlacesModel", "remembers", "(III)V"⟩ ∈ xgood := xgood_in (List.mem_of_getElem? (i := 105) (by decide +kernel)) (by decide +kernel)
theorem wd106 : Cond.selects "SalePlacesModel" ⟨"SalePlacesModel", "dueNow", "(I)I"⟩ ⟨"SalePlacesModel", "dueNow", "(I)I"⟩ ∈ xgood := xgood_in (List.mem_of_getElem? (i := 106) (by decide +kernel)) (by decide +kernel)
theorem wd107 : Cond.selects "SalePlacesModel" ⟨"SalePlacesModel", "canMove", "(III)Z"⟩ ⟨"SalePlacesModel", "canMove", "(III)Z"⟩ ∈ xgood := xgood_in (List.mem_of_getElem? (i := 107) (by decide +kernel)) (by decide +kernel)
theorem wd108 : Cond.selects "SalePlacesModel" ⟨"SalePlacesModel", "unfiles", "()V"⟩ ⟨"SalePlacesModel", "unfiles", "()V"⟩ ∈ xgood := xgood_in (List.mem_of_getElem? (i := 108) (by decide +kernel)) (by decide +kernel)
theorem wd109 : Cond.selects "SalePlacesModel" ⟨"SalePlacesModel", "isTaxed", "(I)Z"⟩ ⟨"SalePlacesModel", "isTaxed", "(I)Z"⟩ ∈ xgood := xgood_in (List.mem_of_getElem? (i := 109) (by decide +kernel)) (by decide +kernel)
theorem wd110 : Cond.selects "SalePlacesModel" ⟨"SalePlacesModel", "unitsLeft", "()I"⟩ ⟨"SalePlacesModel", "unitsLeft", "()I"⟩ ∈ xgood := xgood_in (List.mem_of_getElem? (i := 110) (by decide +kernel)) (by decide +kernel)
theorem wd111 : Cond.initialized "SalePlacesLaw" ∈ xgood := xgood_in (List.mem_of_getElem? (i := 111) (by decide +kernel)) (by decide +kernel)
theorem wd112 : Cond.initialized "SalePlaces" ∈ xgood := xgood_in (List.mem_of_getElem? (i := 112) (by decide +kernel)) (by decide +kernel)
theorem wd113 : Cond.initialized "SalePlaces$Reader" ∈ xgood := xgood_in (List.mem_of_getElem? (i := 113) (by decide +kernel)) (by decide +kernel)
theorem wd114 : Cond.initialized "SalePlaces$Tape" ∈ xgood := xgood_in (List.mem_of_getElem? (i := 114) (by decide +kernel)) (by decide +kernel)
theorem wd115 : Cond.initialized "SalePlaces$Desk" ∈ xgood := xgood_in (List.mem_of_getElem? (i := 115) (by decide +kernel)) (by decide +kernel)
theorem wd116 : Cond.initialized "SalePlaces$Ground" ∈ xgood := xgood_in (List.mem_of_getElem? (i := 116) (by decide +kernel)) (by decide +kernel)
theorem wd117 : Cond.initialized "SalePlaces$Bounds" ∈ xgood := xgood_in (List.mem_of_getElem? (i := 117) (by decide +kernel)) (by decide +kernel)
theorem wd118 : Cond.initialized "SalePlaces$Tariff" ∈ xgood := xgood_in (List.mem_of_getElem? (i := 118) (by decide +kernel)) (by decide +kernel)
theorem wd119 : Cond.initialized "SalePlaces$Rates" ∈ xgood := xgood_in (List.mem_of_getElem? (i := 119) (by decide +kernel)) (by decide +kernel)
theorem wd120 : Cond.initialized "SalePlaces$Book" ∈ xgood := xgood_in (List.mem_of_getElem? (i := 120) (by decide +kernel)) (by decide +kernel)
theorem wd121 : Cond.initialized "SalePlaces$Line" ∈ xgood := xgood_in (List.mem_of_getElem? (i := 121) (by decide +kernel)) (by decide +kernel)
theorem wd122 : Cond.initialized "SalePlaces$Acts" ∈ xgood := xgood_in (List.mem_of_getElem? (i := 122) (by decide +kernel)) (by decide +kernel)
theorem wd123 : Cond.initialized "SalePlacesModel" ∈ xgood := xgood_in (List.mem_of_getElem? (i := 123) (by decide +kernel)) (by decide +kernel)
theorem wd128 : Cond.initialized "java/lang/Math" ∈ xgood := xgood_in (List.mem_of_getElem? (i := 128) (by decide +kernel)) (by decide +kernel)
theorem wd133 : Cond.classLink "SalePlacesLaw" 8 "SalePlaces" ∈ xgood := xgood_in (List.mem_of_getElem? (i := 133) (by decide +kernel)) (by decide +kernel)
theorem wd134 : Cond.instantiable "SalePlaces" 7 ∈ xgood := xgood_in (List.mem_of_getElem? (i := 134) (by decide +kernel)) (by decide +kernel)
theorem wd135 : Cond.methodLink "SalePlacesLaw" 15 ⟨"SalePlaces", "<init>", "()V"⟩ ∈ xgood := xgood_in (List.mem_of_getElem? (i := 135) (by decide +kernel)) (by decide +kernel)
theorem wd136 : Cond.instanceMethod ⟨"SalePlaces", "<init>", "()V"⟩ ∈ xgood := xgood_in (List.mem_of_getElem? (i := 136) (by decide +kernel)) (by decide +kernel)
theorem wd137 : Cond.code ⟨"SalePlaces", "<init>", "()V"⟩ cX10_init 1 none ∈ xgood := xgood_in (List.mem_of_getElem? (i := 137) (by decide +kernel)) (by decide +kernel)
theorem wd138 : Cond.methodLink "SalePlaces" 3 ⟨"java/lang/Object", "<init>", "()V"⟩ ∈ xgood := xgood_in (List.mem_of_getElem? (i := 138) (by decide +kernel)) (by decide +kernel)
theorem wd139 : Cond.instanceMethod ⟨"java/lang/Object", "<init>", "()V"⟩ ∈ xgood := xgood_in (List.mem_of_getElem? (i := 139) (by decide +kernel)) (by decide +kernel)
theorem wd140 : Cond.code ⟨"java/lang/Object", "<init>", "()V"⟩ ⟨#[0xb1]⟩ 1 none ∈ xgood := xgood_in (List.mem_of_getElem? (i := 140) (by decide +kernel)) (by decide +kernel)
theorem wd141 : Cond.classLink "SalePlaces" 9 "SalePlaces$Reader" ∈ xgood := xgood_in (List.mem_of_getElem? (i := 141) (by decide +kernel)) (by decide +kernel)
theorem wd142 : Cond.instantiable "SalePlaces$Reader" 7 ∈ xgood := xgood_in (List.mem_of_getElem? (i := 142) (by decide +kernel)) (by decide +kernel)
theorem wd144 : Cond.instanceMethod ⟨"SalePlaces$Reader", "<init>", "()V"⟩ ∈ xgood := xgood_in (List.mem_of_getElem? (i := 144) (by decide +kernel)) (by decide +kernel)
theorem wd145 : Cond.code ⟨"SalePlaces$Reader", "<init>", "()V"⟩ cX7_init 1 none ∈ xgood := xgood_in (List.mem_of_getElem? (i := 145) (by decide +kernel)) (by decide +kernel)
theorem wd146 : Cond.methodLink "SalePlaces$Reader" 3 ⟨"java/lang/Object", "<init>", "()V"⟩ ∈ xgood := xgood_in (List.mem_of_getElem? (i := 146) (by decide +kernel)) (by decide +kernel)
theorem wd147 : Cond.classLink "SalePlaces$Reader" 9 "SalePlaces$Tape" ∈ xgood := xgood_in (List.mem_of_getElem? (i := 147) (by decide +kernel)) (by decide +kernel)
theorem wd148 : Cond.instantiable "SalePlaces$Tape" 8 ∈ xgood := xgood_in (List.mem_of_getElem? (i := 148) (by decide +kernel)) (by decide +kernel)
theorem wd150 : Cond.instanceMethod ⟨"SalePlaces$Tape", "<init>", "()V"⟩ ∈ xgood := xgood_in (List.mem_of_getElem? (i := 150) (by decide +kernel)) (by decide +kernel)
theorem wd151 : Cond.code ⟨"SalePlaces$Tape", "<init>", "()V"⟩ cX8_init 1 none ∈ xgood := xgood_in (List.mem_of_getElem? (i := 151) (by decide +kernel)) (by decide +kernel)
theorem wd152 : Cond.methodLink "SalePlaces$Tape" 3 ⟨"java/lang/Object", "<init>", "()V"⟩ ∈ xgood := xgood_in (List.mem_of_getElem? (i := 152) (by decide +kernel)) (by decide +kernel)
theorem wd153 : Cond.fieldLink "SalePlaces$Tape" 9 "SalePlaces$Tape" "text" "[B" ∈ xgood := xgood_in (List.mem_of_getElem? (i := 153) (by decide +kernel)) (by decide +kernel)
theorem wd154 : Cond.fieldLink "SalePlaces" 50 "SalePlaces$Tape" "fed" "I" ∈ xgood := xgood_in (List.mem_of_getElem? (i := 154) (by decide +kernel)) (by decide +kernel)
theorem wd155 : Cond.fieldLink "SalePlaces$Tape" 15 "SalePlaces$Tape" "fed" "I" ∈ xgood := xgood_in (List.mem_of_getElem? (i := 155) (by decide +kernel)) (by decide +kernel)
theorem wd156 : Cond.fieldLink "SalePlaces$Tape" 19 "SalePlaces$Tape" "end" "I" ∈ xgood := xgood_in (List.mem_of_getElem? (i := 156) (by decide +kernel)) (by decide +kernel)
theorem wd157 : Cond.fieldLink "SalePlaces$Tape" 28 "SalePlaces$Tape" "at" "I" ∈ xgood := xgood_in (List.mem_of_getElem? (i := 157) (by decide +kernel)) (by decide +kernel)
theorem wd158 : Cond.fieldLink "SalePlaces$Reader" 79 "SalePlaces$Tape" "at" "I" ∈ xgood := xgood_in (List.mem_of_getElem? (i := 158) (by decide +kernel)) (by decide +kernel)
theorem wd159 : Cond.fieldLink "SalePlaces$Tape" 22 "SalePlaces$Tape" "behind" "I" ∈ xgood := xgood_in (List.mem_of_getElem? (i := 159) (by decide +kernel)) (by decide +kernel)
theorem wd160 : Cond.fieldLink "SalePlaces$Reader" 48 "SalePlaces$Tape" "kind" "I" ∈ xgood := xgood_in (List.mem_of_getElem? (i := 160) (by decide +kernel)) (by decide +kernel)
theorem wd161 : Cond.fieldLink "SalePlaces$Tape" 31 "SalePlaces$Tape" "kind" "I" ∈ xgood := xgood_in (List.mem_of_getElem? (i := 161) (by decide +kernel)) (by decide +kernel)
theorem wd162 : Cond.fieldLink "SalePlaces$Tape" 40 "SalePlaces$Tape" "word" "J" ∈ xgood := xgood_in (List.mem_of_getElem? (i := 162) (by decide +kernel)) (by decide +kernel)
theorem wd163 : Cond.fieldLink "SalePlaces$Reader" 236 "SalePlaces$Tape" "word" "J" ∈ xgood := xgood_in (List.mem_of_getElem? (i := 163) (by decide +kernel)) (by decide +kernel)
theorem wd164 : Cond.fieldLink "SalePlaces$Tape" 46 "SalePlaces$Tape" "whole" "I" ∈ xgood := xgood_in (List.mem_of_getElem? (i := 164) (by decide +kernel)) (by decide +kernel)
theorem wd165 : Cond.fieldLink "SalePlaces$Reader" 224 "SalePlaces$Tape" "whole" "I" ∈ xgood := xgood_in (List.mem_of_getElem? (i := 165) (by decide +kernel)) (by decide +kernel)
theorem wd183 : Cond.arrayClass .byte ∈ xgood := xgood_in (List.mem_of_getElem? (i := 183) (by decide +kernel)) (by decide +kernel)
theorem wd184 : Cond.classLink "SalePlaces$Reader" 25 "SalePlaces$Desk" ∈ xgood := xgood_in (List.mem_of_getElem? (i := 184) (by decide +kernel)) (by decide +kernel)
theorem wd185 : Cond.instantiable "SalePlaces$Desk" 3 ∈ xgood := xgood_in (List.mem_of_getElem? (i := 185) (by decide +kernel)) (by decide +kernel)
theorem wd187 : Cond.instanceMethod ⟨"SalePlaces$Desk", "<init>", "()V"⟩ ∈ xgood := xgood_in (List.mem_of_getElem? (i := 187) (by decide +kernel)) (by decide +kernel)
theorem wd188 : Cond.code ⟨"SalePlaces$Desk", "<init>", "()V"⟩ cX3_init 1 none ∈ xgood := xgood_in (List.mem_of_getElem? (i := 188) (by decide +kernel)) (by decide +kernel)
theorem wd189 : Cond.methodLink "SalePlaces$Desk" 3 ⟨"java/lang/Object", "<init>", "()V"⟩ ∈ xgood := xgood_in (List.mem_of_getElem? (i := 189) (by decide +kernel)) (by decide +kernel)
theorem wd190 : Cond.classLink "SalePlaces$Desk" 9 "SalePlaces$Ground" ∈ xgood := xgood_in (List.mem_of_getElem? (i := 190) (by decide +kernel)) (by decide +kernel)
theorem wd191 : Cond.instantiable "SalePlaces$Ground" 9 ∈ xgood := xgood_in (List.mem_of_getElem? (i := 191) (by decide +kernel)) (by decide +kernel)
theorem wd193 : Cond.instanceMethod ⟨"SalePlaces$Ground", "<init>", "()V"⟩ ∈ xgood := xgood_in (List.mem_of_getElem? (i := 193) (by decide +kernel)) (by decide +kernel)
theorem wd194 : Cond.code ⟨"SalePlaces$Ground", "<init>", "()V"⟩ cX4_init 1 none ∈ xgood := xgood_in (List.mem_of_getElem? (i := 194) (by decide +kernel)) (by decide +kernel)
theorem wd195 : Cond.methodLink "SalePlaces$Ground" 3 ⟨"java/lang/Object", "<init>", "()V"⟩ ∈ xgood := xgood_in (List.mem_of_getElem? (i := 195) (by decide +kernel)) (by decide +kernel)
theorem wd196 : Cond.classLink "SalePlaces$Ground" 19 "SalePlaces$Bounds" ∈ xgood := xgood_in (List.mem_of_getElem? (i := 196) (by decide +kernel)) (by decide +kernel)
theorem wd197 : Cond.instantiable "SalePlaces$Bounds" 6 ∈ xgood := xgood_in (List.mem_of_getElem? (i := 197) (by decide +kernel)) (by decide +kernel)
theorem wd199 : Cond.instanceMethod ⟨"SalePlaces$Bounds", "<init>", "()V"⟩ ∈ xgood := xgood_in (List.mem_of_getElem? (i := 199) (by decide +kernel)) (by decide +kernel)
theorem wd200 : Cond.code ⟨"SalePlaces$Bounds", "<init>", "()V"⟩ cX2_init 1 none ∈ xgood := xgood_in (List.mem_of_getElem? (i := 200) (by decide +kernel)) (by decide +kernel)
theorem wd201 : Cond.methodLink "SalePlaces$Bounds" 3 ⟨"java/lang/Object", "<init>", "()V"⟩ ∈ xgood := xgood_in (List.mem_of_getElem? (i := 201) (by decide +kernel)) (by decide +kernel)
theorem wd202 : Cond.fieldLink "SalePlaces$Bounds" 27 "SalePlaces$Bounds" "count" "I" ∈ xgood := xgood_in (List.mem_of_getElem? (i := 202) (by decide +kernel)) (by decide +kernel)
theorem wd203 : Cond.fieldLink "SalePlaces$Ground" 42 "SalePlaces$Bounds" "count" "I" ∈ xgood := xgood_in (List.mem_of_getElem? (i := 203) (by decide +kernel)) (by decide +kernel)
theorem wd204 : Cond.fieldLink "SalePlaces$Desk" 52 "SalePlaces$Bounds" "count" "I" ∈ xgood := xgood_in (List.mem_of_getElem? (i := 204) (by decide +kernel)) (by decide +kernel)
theorem wd205 : Cond.fieldLink "SalePlaces$Reader" 116 "SalePlaces$Bounds" "count" "I" ∈ xgood := xgood_in (List.mem_of_getElem? (i := 205) (by decide +kernel)) (by decide +kernel)
theorem wd206 : Cond.fieldLink "SalePlaces" 330 "SalePlaces$Bounds" "count" "I" ∈ xgood := xgood_in (List.mem_of_getElem? (i := 206) (by decide +kernel)) (by decide +kernel)
theorem wd207 : Cond.fieldLink "SalePlaces$Bounds" 9 "SalePlaces$Bounds" "owners" "[I" ∈ xgood := xgood_in (List.mem_of_getElem? (i := 207) (by decide +kernel)) (by decide +kernel)
theorem wd208 : Cond.fieldLink "SalePlaces$Bounds" 15 "SalePlaces$Bounds" "days" "[I" ∈ xgood := xgood_in (List.mem_of_getElem? (i := 208) (by decide +kernel)) (by decide +kernel)
theorem wd209 : Cond.fieldLink "SalePlaces$Bounds" 18 "SalePlaces$Bounds" "corners" "[I" ∈ xgood := xgood_in (List.mem_of_getElem? (i := 209) (by decide +kernel)) (by decide +kernel)
theorem wd210 : Cond.fieldLink "SalePlaces" 156 "SalePlaces$Bounds" "corners" "[I" ∈ xgood := xgood_in (List.mem_of_getElem? (i := 210) (by decide +kernel)) (by decide +kernel)
theorem wd211 : Cond.fieldLink "SalePlaces$Bounds" 21 "SalePlaces$Bounds" "xs" "[I" ∈ xgood := xgood_in (List.mem_of_getElem? (i := 211) (by decide +kernel)) (by decide +kernel)
theorem wd212 : Cond.fieldLink "SalePlaces" 159 "SalePlaces$Bounds" "xs" "[I" ∈ xgood := xgood_in (List.mem_of_getElem? (i := 212) (by decide +kernel)) (by decide +kernel)
theorem wd213 : Cond.fieldLink "SalePlaces$Bounds" 24 "SalePlaces$Bounds" "ys" "[I" ∈ xgood := xgood_in (List.mem_of_getElem? (i := 213) (by decide +kernel)) (by decide +kernel)
theorem wd214 : Cond.fieldLink "SalePlaces" 162 "SalePlaces$Bounds" "ys" "[I" ∈ xgood := xgood_in (List.mem_of_getElem? (i := 214) (by decide +kernel)) (by decide +kernel)
theorem wd228 : Cond.arrayClass .long ∈ xgood := xgood_in (List.mem_of_getElem? (i := 228) (by decide +kernel)) (by decide +kernel)
theorem wd229 : Cond.arrayClass .int ∈ xgood := xgood_in (List.mem_of_getElem? (i := 229) (by decide +kernel)) (by decide +kernel)
theorem wd230 : Cond.arrayClass .boolean ∈ xgood := xgood_in (List.mem_of_getElem? (i := 230) (by decide +kernel)) (by decide +kernel)
theorem wd231 : Cond.fieldLink "SalePlaces$Ground" 32 "SalePlaces$Ground" "size" "I" ∈ xgood := xgood_in (List.mem_of_getElem? (i := 231) (by decide +kernel)) (by decide +kernel)
theorem wd232 : Cond.fieldLink "SalePlaces$Desk" 35 "SalePlaces$Ground" "size" "I" ∈ xgood := xgood_in (List.mem_of_getElem? (i := 232) (by decide +kernel)) (by decide +kernel)
theorem wd233 : Cond.fieldLink "SalePlaces$Reader" 202 "SalePlaces$Ground" "size" "I" ∈ xgood := xgood_in (List.mem_of_getElem? (i := 233) (by decide +kernel)) (by decide +kernel)
theorem wd234 : Cond.fieldLink "SalePlaces" 324 "SalePlaces$Ground" "size" "I" ∈ xgood := xgood_in (List.mem_of_getElem? (i := 234) (by decide +kernel)) (by decide +kernel)
theorem wd235 : Cond.fieldLink "SalePlaces$Ground" 36 "SalePlaces$Ground" "layers" "I" ∈ xgood := xgood_in (List.mem_of_getElem? (i := 235) (by decide +kernel)) (by decide +kernel)
theorem wd236 : Cond.fieldLink "SalePlaces$Desk" 39 "SalePlaces$Ground" "layers" "I" ∈ xgood := xgood_in (List.mem_of_getElem? (i := 236) (by decide +kernel)) (by decide +kernel)
theorem wd237 : Cond.fieldLink "SalePlaces$Reader" 181 "SalePlaces$Ground" "layers" "I" ∈ xgood := xgood_in (List.mem_of_getElem? (i := 237) (by decide +kernel)) (by decide +kernel)
theorem wd238 : Cond.fieldLink "SalePlaces" 184 "SalePlaces$Ground" "layers" "I" ∈ xgood := xgood_in (List.mem_of_getElem? (i := 238) (by decide +kernel)) (by decide +kernel)
theorem wd239 : Cond.fieldLink "SalePlaces$Ground" 39 "SalePlaces$Ground" "places" "I" ∈ xgood := xgood_in (List.mem_of_getElem? (i := 239) (by decide +kernel)) (by decide +kernel)
theorem wd240 : Cond.fieldLink "SalePlaces$Reader" 74 "SalePlaces$Ground" "places" "I" ∈ xgood := xgood_in (List.mem_of_getElem? (i := 240) (by decide +kernel)) (by decide +kernel)
theorem wd241 : Cond.fieldLink "SalePlaces$Desk" 45 "SalePlaces$Ground" "places" "I" ∈ xgood := xgood_in (List.mem_of_getElem? (i := 241) (by decide +kernel)) (by decide +kernel)
theorem wd242 : Cond.fieldLink "SalePlaces" 89 "SalePlaces$Ground" "places" "I" ∈ xgood := xgood_in (List.mem_of_getElem? (i := 242) (by decide +kernel)) (by decide +kernel)
theorem wd243 : Cond.fieldLink "SalePlaces$Ground" 9 "SalePlaces$Ground" "layerOf" "[I" ∈ xgood := xgood_in (List.mem_of_getElem? (i := 243) (by decide +kernel)) (by decide +kernel)
theorem wd244 : Cond.fieldLink "SalePlaces" 135 "SalePlaces$Ground" "layerOf" "[I" ∈ xgood := xgood_in (List.mem_of_getElem? (i := 244) (by decide +kernel)) (by decide +kernel)
theorem wd245 : Cond.fieldLink "SalePlaces$Ground" 15 "SalePlaces$Ground" "only" "[Z" ∈ xgood := xgood_in (List.mem_of_getElem? (i := 245) (by decide +kernel)) (by decide +kernel)
theorem wd246 : Cond.fieldLink "SalePlaces" 138 "SalePlaces$Ground" "only" "[Z" ∈ xgood := xgood_in (List.mem_of_getElem? (i := 246) (by decide +kernel)) (by decide +kernel)
theorem wd247 : Cond.fieldLink "SalePlaces$Ground" 22 "SalePlaces$Ground" "bounds" "LSalePlaces$Bounds;" ∈ xgood := xgood_in (List.mem_of_getElem? (i := 247) (by decide +kernel)) (by decide +kernel)
theorem wd248 : Cond.fieldLink "SalePlaces$Desk" 48 "SalePlaces$Ground" "bounds" "LSalePlaces$Bounds;" ∈ xgood := xgood_in (List.mem_of_getElem? (i := 248) (by decide +kernel)) (by decide +kernel)
theorem wd249 : Cond.fieldLink "SalePlaces$Reader" 112 "SalePlaces$Ground" "bounds" "LSalePlaces$Bounds;" ∈ xgood := xgood_in (List.mem_of_getElem? (i := 249) (by decide +kernel)) (by decide +kernel)
theorem wd250 : Cond.fieldLink "SalePlaces" 126 "SalePlaces$Ground" "bounds" "LSalePlaces$Bounds;" ∈ xgood := xgood_in (List.mem_of_getElem? (i := 250) (by decide +kernel)) (by decide +kernel)
theorem wd251 : Cond.fieldLink "SalePlaces$Ground" 26 "SalePlaces$Ground" "chosen" "[I" ∈ xgood := xgood_in (List.mem_of_getElem? (i := 251) (by decide +kernel)) (by decide +kernel)
theorem wd252 : Cond.fieldLink "SalePlaces$Ground" 29 "SalePlaces$Ground" "piled" "[I" ∈ xgood := xgood_in (List.mem_of_getElem? (i := 252) (by decide +kernel)) (by decide +kernel)
theorem wd253 : Cond.fieldLink "SalePlaces$Desk" 95 "SalePlaces$Ground" "piled" "[I" ∈ xgood := xgood_in (List.mem_of_getElem? (i := 253) (by decide +kernel)) (by decide +kernel)
theorem wd254 : Cond.fieldLink "SalePlaces" 201 "SalePlaces$Ground" "piled" "[I" ∈ xgood := xgood_in (List.mem_of_getElem? (i := 254) (by decide +kernel)) (by decide +kernel)
theorem wd255 : Cond.fieldLink "SalePlaces$Ground" 53 "SalePlaces$Ground" "height" "I" ∈ xgood := xgood_in (List.mem_of_getElem? (i := 255) (by decide +kernel)) (by decide +kernel)
theorem wd256 : Cond.fieldLink "SalePlaces$Desk" 92 "SalePlaces$Ground" "height" "I" ∈ xgood := xgood_in (List.mem_of_getElem? (i := 256) (by decide +kernel)) (by decide +kernel)
theorem wd257 : Cond.fieldLink "SalePlaces" 198 "SalePlaces$Ground" "height" "I" ∈ xgood := xgood_in (List.mem_of_getElem? (i := 257) (by decide +kernel)) (by decide +kernel)
theorem wd277 : Cond.classLink "SalePlaces$Desk" 18 "SalePlaces$Tariff" ∈ xgood := xgood_in (List.mem_of_getElem? (i := 277) (by decide +kernel)) (by decide +kernel)
theorem wd278 : Cond.instantiable "SalePlaces$Tariff" 13 ∈ xgood := xgood_in (List.mem_of_getElem? (i := 278) (by decide +kernel)) (by decide +kernel)
theorem wd280 : Cond.instanceMethod ⟨"SalePlaces$Tariff", "<init>", "()V"⟩ ∈ xgood := xgood_in (List.mem_of_getElem? (i := 280) (by decide +kernel)) (by decide +kernel)
theorem wd281 : Cond.code ⟨"SalePlaces$Tariff", "<init>", "()V"⟩ cX9_init 1 none ∈ xgood := xgood_in (List.mem_of_getElem? (i := 281) (by decide +kernel)) (by decide +kernel)
theorem wd282 : Cond.methodLink "SalePlaces$Tariff" 3 ⟨"java/lang/Object", "<init>", "()V"⟩ ∈ xgood := xgood_in (List.mem_of_getElem? (i := 282) (by decide +kernel)) (by decide +kernel)
theorem wd283 : Cond.classLink "SalePlaces$Tariff" 15 "SalePlaces$Rates" ∈ xgood := xgood_in (List.mem_of_getElem? (i := 283) (by decide +kernel)) (by decide +kernel)
theorem wd284 : Cond.instantiable "SalePlaces$Rates" 5 ∈ xgood := xgood_in (List.mem_of_getElem? (i := 284) (by decide +kernel)) (by decide +kernel)
theorem wd286 : Cond.instanceMethod ⟨"SalePlaces$Rates", "<init>", "()V"⟩ ∈ xgood := xgood_in (List.mem_of_getElem? (i := 286) (by decide +kernel)) (by decide +kernel)
theorem wd287 : Cond.code ⟨"SalePlaces$Rates", "<init>", "()V"⟩ cX6_init 1 none ∈ xgood := xgood_in (List.mem_of_getElem? (i := 287) (by decide +kernel)) (by decide +kernel)
theorem wd288 : Cond.methodLink "SalePlaces$Rates" 3 ⟨"java/lang/Object", "<init>", "()V"⟩ ∈ xgood := xgood_in (List.mem_of_getElem? (i := 288) (by decide +kernel)) (by decide +kernel)
theorem wd289 : Cond.fieldLink "SalePlaces$Rates" 24 "SalePlaces$Rates" "count" "I" ∈ xgood := xgood_in (List.mem_of_getElem? (i := 289) (by decide +kernel)) (by decide +kernel)
theorem wd290 : Cond.fieldLink "SalePlaces$Tariff" 50 "SalePlaces$Rates" "count" "I" ∈ xgood := xgood_in (List.mem_of_getElem? (i := 290) (by decide +kernel)) (by decide +kernel)
theorem wd291 : Cond.fieldLink "SalePlaces$Desk" 61 "SalePlaces$Rates" "count" "I" ∈ xgood := xgood_in (List.mem_of_getElem? (i := 291) (by decide +kernel)) (by decide +kernel)
theorem wd292 : Cond.fieldLink "SalePlaces$Reader" 130 "SalePlaces$Rates" "count" "I" ∈ xgood := xgood_in (List.mem_of_getElem? (i := 292) (by decide +kernel)) (by decide +kernel)
theorem wd293 : Cond.fieldLink "SalePlaces" 343 "SalePlaces$Rates" "count" "I" ∈ xgood := xgood_in (List.mem_of_getElem? (i := 293) (by decide +kernel)) (by decide +kernel)
theorem wd294 : Cond.fieldLink "SalePlaces$Rates" 9 "SalePlaces$Rates" "owners" "[I" ∈ xgood := xgood_in (List.mem_of_getElem? (i := 294) (by decide +kernel)) (by decide +kernel)
theorem wd295 : Cond.fieldLink "SalePlaces$Rates" 15 "SalePlaces$Rates" "goods" "[I" ∈ xgood := xgood_in (List.mem_of_getElem? (i := 295) (by decide +kernel)) (by decide +kernel)
theorem wd296 : Cond.fieldLink "SalePlaces$Rates" 18 "SalePlaces$Rates" "days" "[I" ∈ xgood := xgood_in (List.mem_of_getElem? (i := 296) (by decide +kernel)) (by decide +kernel)
theorem wd297 : Cond.fieldLink "SalePlaces$Tariff" 78 "SalePlaces$Rates" "days" "[I" ∈ xgood := xgood_in (List.mem_of_getElem? (i := 297) (by decide +kernel)) (by decide +kernel)
theorem wd298 : Cond.fieldLink "SalePlaces$Rates" 21 "SalePlaces$Rates" "parts" "[I" ∈ xgood := xgood_in (List.mem_of_getElem? (i := 298) (by decide +kernel)) (by decide +kernel)
theorem wd299 : Cond.fieldLink "SalePlaces$Tariff" 63 "SalePlaces$Rates" "parts" "[I" ∈ xgood := xgood_in (List.mem_of_getElem? (i := 299) (by decide +kernel)) (by decide +kernel)
theorem wd311 : Cond.fieldLink "SalePlaces$Tariff" 46 "SalePlaces$Tariff" "classes" "I" ∈ xgood := xgood_in (List.mem_of_getElem? (i := 311) (by decide +kernel)) (by decide +kernel)
theorem wd312 : Cond.fieldLink "SalePlaces$Reader" 65 "SalePlaces$Tariff" "classes" "I" ∈ xgood := xgood_in (List.mem_of_getElem? (i := 312) (by decide +kernel)) (by decide +kernel)
theorem wd313 : Cond.fieldLink "SalePlaces$Desk" 42 "SalePlaces$Tariff" "classes" "I" ∈ xgood := xgood_in (List.mem_of_getElem? (i := 313) (by decide +kernel)) (by decide +kernel)
theorem wd314 : Cond.fieldLink "SalePlaces" 360 "SalePlaces$Tariff" "classes" "I" ∈ xgood := xgood_in (List.mem_of_getElem? (i := 314) (by decide +kernel)) (by decide +kernel)
theorem wd315 : Cond.fieldLink "SalePlaces$Tariff" 9 "SalePlaces$Tariff" "classOf" "[I" ∈ xgood := xgood_in (List.mem_of_getElem? (i := 315) (by decide +kernel)) (by decide +kernel)
theorem wd316 : Cond.fieldLink "SalePlaces" 117 "SalePlaces$Tariff" "classOf" "[I" ∈ xgood := xgood_in (List.mem_of_getElem? (i := 316) (by decide +kernel)) (by decide +kernel)
theorem wd317 : Cond.fieldLink "SalePlaces$Tariff" 18 "SalePlaces$Tariff" "rates" "LSalePlaces$Rates;" ∈ xgood := xgood_in (List.mem_of_getElem? (i := 317) (by decide +kernel)) (by decide +kernel)
theorem wd318 : Cond.fieldLink "SalePlaces$Desk" 57 "SalePlaces$Tariff" "rates" "LSalePlaces$Rates;" ∈ xgood := xgood_in (List.mem_of_getElem? (i := 318) (by decide +kernel)) (by decide +kernel)
theorem wd319 : Cond.fieldLink "SalePlaces$Reader" 126 "SalePlaces$Tariff" "rates" "LSalePlaces$Rates;" ∈ xgood := xgood_in (List.mem_of_getElem? (i := 319) (by decide +kernel)) (by decide +kernel)
theorem wd320 : Cond.fieldLink "SalePlaces" 335 "SalePlaces$Tariff" "rates" "LSalePlaces$Rates;" ∈ xgood := xgood_in (List.mem_of_getElem? (i := 320) (by decide +kernel)) (by decide +kernel)
theorem wd321 : Cond.fieldLink "SalePlaces$Tariff" 53 "SalePlaces$Tariff" "holidays" "I" ∈ xgood := xgood_in (List.mem_of_getElem? (i := 321) (by decide +kernel)) (by decide +kernel)
theorem wd322 : Cond.fieldLink "SalePlaces$Desk" 64 "SalePlaces$Tariff" "holidays" "I" ∈ xgood := xgood_in (List.mem_of_getElem? (i := 322) (by decide +kernel)) (by decide +kernel)
theorem wd323 : Cond.fieldLink "SalePlaces$Reader" 138 "SalePlaces$Tariff" "holidays" "I" ∈ xgood := xgood_in (List.mem_of_getElem? (i := 323) (by decide +kernel)) (by decide +kernel)
theorem wd324 : Cond.fieldLink "SalePlaces$Tariff" 22 "SalePlaces$Tariff" "holidayPlaces" "[I" ∈ xgood := xgood_in (List.mem_of_getElem? (i := 324) (by decide +kernel)) (by decide +kernel)
theorem wd325 : Cond.fieldLink "SalePlaces$Tariff" 25 "SalePlaces$Tariff" "holidayClasses" "[I" ∈ xgood := xgood_in (List.mem_of_getElem? (i := 325) (by decide +kernel)) (by decide +kernel)
theorem wd326 : Cond.fieldLink "SalePlaces$Tariff" 28 "SalePlaces$Tariff" "holidayFirsts" "[I" ∈ xgood := xgood_in (List.mem_of_getElem? (i := 326) (by decide +kernel)) (by decide +kernel)
theorem wd327 : Cond.fieldLink "SalePlaces$Tariff" 31 "SalePlaces$Tariff" "holidayLasts" "[I" ∈ xgood := xgood_in (List.mem_of_getElem? (i := 327) (by decide +kernel)) (by decide +kernel)
theorem wd328 : Cond.fieldLink "SalePlaces$Tariff" 34 "SalePlaces$Tariff" "holidayPrices" "[I" ∈ xgood := xgood_in (List.mem_of_getElem? (i := 328) (by decide +kernel)) (by decide +kernel)
theorem wd329 : Cond.fieldLink "SalePlaces$Tariff" 56 "SalePlaces$Tariff" "caps" "I" ∈ xgood := xgood_in (List.mem_of_getElem? (i := 329) (by decide +kernel)) (by decide +kernel)
theorem wd330 : Cond.fieldLink "SalePlaces$Desk" 67 "SalePlaces$Tariff" "caps" "I" ∈ xgood := xgood_in (List.mem_of_getElem? (i := 330) (by decide +kernel)) (by decide +kernel)
theorem wd331 : Cond.fieldLink "SalePlaces$Reader" 146 "SalePlaces$Tariff" "caps" "I" ∈ xgood := xgood_in (List.mem_of_getElem? (i := 331) (by decide +kernel)) (by decide +kernel)
theorem wd332 : Cond.fieldLink "SalePlaces$Tariff" 37 "SalePlaces$Tariff" "capPlaces" "[I" ∈ xgood := xgood_in (List.mem_of_getElem? (i := 332) (by decide +kernel)) (by decide +kernel)
theorem wd333 : Cond.fieldLink "SalePlaces$Tariff" 40 "SalePlaces$Tariff" "capClasses" "[I" ∈ xgood := xgood_in (List.mem_of_getElem? (i := 333) (by decide +kernel)) (by decide +kernel)
theorem wd334 : Cond.fieldLink "SalePlaces$Tariff" 43 "SalePlaces$Tariff" "capAmounts" "[I" ∈ xgood := xgood_in (List.mem_of_getElem? (i := 334) (by decide +kernel)) (by decide +kernel)
theorem wd362 : Cond.fieldLink "SalePlaces$Desk" 12 "SalePlaces$Desk" "ground" "LSalePlaces$Ground;" ∈ xgood := xgood_in (List.mem_of_getElem? (i := 362) (by decide +kernel)) (by decide +kernel)
theorem wd363 : Cond.fieldLink "SalePlaces$Reader" 70 "SalePlaces$Desk" "ground" "LSalePlaces$Ground;" ∈ xgood := xgood_in (List.mem_of_getElem? (i := 363) (by decide +kernel)) (by decide +kernel)
theorem wd364 : Cond.fieldLink "SalePlaces" 85 "SalePlaces$Desk" "ground" "LSalePlaces$Ground;" ∈ xgood := xgood_in (List.mem_of_getElem? (i := 364) (by decide +kernel)) (by decide +kernel)
theorem wd365 : Cond.fieldLink "SalePlaces$Desk" 21 "SalePlaces$Desk" "tariff" "LSalePlaces$Tariff;" ∈ xgood := xgood_in (List.mem_of_getElem? (i := 365) (by decide +kernel)) (by decide +kernel)
theorem wd366 : Cond.fieldLink "SalePlaces$Reader" 61 "SalePlaces$Desk" "tariff" "LSalePlaces$Tariff;" ∈ xgood := xgood_in (List.mem_of_getElem? (i := 366) (by decide +kernel)) (by decide +kernel)
theorem wd367 : Cond.fieldLink "SalePlaces" 113 "SalePlaces$Desk" "tariff" "LSalePlaces$Tariff;" ∈ xgood := xgood_in (List.mem_of_getElem? (i := 367) (by decide +kernel)) (by decide +kernel)
theorem wd368 : Cond.fieldLink "SalePlaces$Desk" 25 "SalePlaces$Desk" "taken" "[I" ∈ xgood := xgood_in (List.mem_of_getElem? (i := 368) (by decide +kernel)) (by decide +kernel)
theorem wd376 : Cond.fieldLink "SalePlaces$Reader" 12 "SalePlaces$Reader" "tape" "LSalePlaces$Tape;" ∈ xgood := xgood_in (List.mem_of_getElem? (i := 376) (by decide +kernel)) (by decide +kernel)
theorem wd377 : Cond.fieldLink "SalePlaces" 46 "SalePlaces$Reader" "tape" "LSalePlaces$Tape;" ∈ xgood := xgood_in (List.mem_of_getElem? (i := 377) (by decide +kernel)) (by decide +kernel)
theorem wd378 : Cond.fieldLink "SalePlaces$Reader" 18 "SalePlaces$Reader" "classNames" "[J" ∈ xgood := xgood_in (List.mem_of_getElem? (i := 378) (by decide +kernel)) (by decide +kernel)
theorem wd379 : Cond.fieldLink "SalePlaces$Reader" 22 "SalePlaces$Reader" "placeNames" "[J" ∈ xgood := xgood_in (List.mem_of_getElem? (i := 379) (by decide +kernel)) (by decide +kernel)
theorem wd380 : Cond.fieldLink "SalePlaces$Reader" 28 "SalePlaces$Reader" "desk" "LSalePlaces$Desk;" ∈ xgood := xgood_in (List.mem_of_getElem? (i := 380) (by decide +kernel)) (by decide +kernel)
theorem wd381 : Cond.fieldLink "SalePlaces" 72 "SalePlaces$Reader" "desk" "LSalePlaces$Desk;" ∈ xgood := xgood_in (List.mem_of_getElem? (i := 381) (by decide +kernel)) (by decide +kernel)
theorem wd382 : Cond.fieldLink "SalePlaces$Reader" 36 "SalePlaces$Reader" "begun" "Z" ∈ xgood := xgood_in (List.mem_of_getElem? (i := 382) (by decide +kernel)) (by decide +kernel)
theorem wd383 : Cond.fieldLink "SalePlaces$Reader" 32 "SalePlaces$Reader" "faultNumber" "I" ∈ xgood := xgood_in (List.mem_of_getElem? (i := 383) (by decide +kernel)) (by decide +kernel)
theorem wd384 : Cond.fieldLink "SalePlaces" 97 "SalePlaces$Reader" "faultNumber" "I" ∈ xgood := xgood_in (List.mem_of_getElem? (i := 384) (by decide +kernel)) (by decide +kernel)
theorem wd385 : Cond.fieldLink "SalePlaces$Reader" 86 "SalePlaces$Reader" "faultPlace" "I" ∈ xgood := xgood_in (List.mem_of_getElem? (i := 385) (by decide +kernel)) (by decide +kernel)
theorem wd386 : Cond.fieldLink "SalePlaces" 103 "SalePlaces$Reader" "faultPlace" "I" ∈ xgood := xgood_in (List.mem_of_getElem? (i := 386) (by decide +kernel)) (by decide +kernel)
theorem wd402 : Cond.classLink "SalePlaces" 18 "SalePlaces$Desk" ∈ xgood := xgood_in (List.mem_of_getElem? (i := 402) (by decide +kernel)) (by decide +kernel)
theorem wd404 : Cond.classLink "SalePlaces" 25 "SalePlaces$Book" ∈ xgood := xgood_in (List.mem_of_getElem? (i := 404) (by decide +kernel)) (by decide +kernel)
theorem wd405 : Cond.instantiable "SalePlaces$Book" 8 ∈ xgood := xgood_in (List.mem_of_getElem? (i := 405) (by decide +kernel)) (by decide +kernel)
theorem wd406 : Cond.methodLink "SalePlaces" 27 ⟨"SalePlaces$Book", "<init>", "()V"⟩ ∈ xgood := xgood_in (List.mem_of_getElem? (i := 406) (by decide +kernel)) (by decide +kernel)
theorem wd407 : Cond.instanceMethod ⟨"SalePlaces$Book", "<init>", "()V"⟩ ∈ xgood := xgood_in (List.mem_of_getElem? (i := 407) (by decide +kernel)) (by decide +kernel)
theorem wd408 : Cond.code ⟨"SalePlaces$Book", "<init>", "()V"⟩ cX1_init 2 none ∈ xgood := xgood_in (List.mem_of_getElem? (i := 408) (by decide +kernel)) (by decide +kernel)
theorem wd409 : Cond.methodLink "SalePlaces$Book" 3 ⟨"java/lang/Object", "<init>", "()V"⟩ ∈ xgood := xgood_in (List.mem_of_getElem? (i := 409) (by decide +kernel)) (by decide +kernel)
theorem wd410 : Cond.classLink "SalePlaces$Book" 9 "SalePlaces$Line" ∈ xgood := xgood_in (List.mem_of_getElem? (i := 410) (by decide +kernel)) (by decide +kernel)
theorem wd412 : Cond.instantiable "SalePlaces$Line" 13 ∈ xgood := xgood_in (List.mem_of_getElem? (i := 412) (by decide +kernel)) (by decide +kernel)
theorem wd414 : Cond.instanceMethod ⟨"SalePlaces$Line", "<init>", "()V"⟩ ∈ xgood := xgood_in (List.mem_of_getElem? (i := 414) (by decide +kernel)) (by decide +kernel)
theorem wd415 : Cond.code ⟨"SalePlaces$Line", "<init>", "()V"⟩ cX5_init 1 none ∈ xgood := xgood_in (List.mem_of_getElem? (i := 415) (by decide +kernel)) (by decide +kernel)
theorem wd416 : Cond.methodLink "SalePlaces$Line" 3 ⟨"java/lang/Object", "<init>", "()V"⟩ ∈ xgood := xgood_in (List.mem_of_getElem? (i := 416) (by decide +kernel)) (by decide +kernel)
theorem wd417 : Cond.fieldLink "SalePlaces$Line" 29 "SalePlaces$Line" "day" "I" ∈ xgood := xgood_in (List.mem_of_getElem? (i := 417) (by decide +kernel)) (by decide +kernel)
theorem wd418 : Cond.fieldLink "SalePlaces$Desk" 104 "SalePlaces$Line" "day" "I" ∈ xgood := xgood_in (List.mem_of_getElem? (i := 418) (by decide +kernel)) (by decide +kernel)
theorem wd419 : Cond.fieldLink "SalePlaces$Book" 69 "SalePlaces$Line" "day" "I" ∈ xgood := xgood_in (List.mem_of_getElem? (i := 419) (by decide +kernel)) (by decide +kernel)
theorem wd420 : Cond.fieldLink "SalePlaces" 363 "SalePlaces$Line" "day" "I" ∈ xgood := xgood_in (List.mem_of_getElem? (i := 420) (by decide +kernel)) (by decide +kernel)
theorem wd421 : Cond.fieldLink "SalePlaces$Line" 32 "SalePlaces$Line" "x" "I" ∈ xgood := xgood_in (List.mem_of_getElem? (i := 421) (by decide +kernel)) (by decide +kernel)
theorem wd422 : Cond.fieldLink "SalePlaces$Desk" 109 "SalePlaces$Line" "x" "I" ∈ xgood := xgood_in (List.mem_of_getElem? (i := 422) (by decide +kernel)) (by decide +kernel)
theorem wd423 : Cond.fieldLink "SalePlaces" 369 "SalePlaces$Line" "x" "I" ∈ xgood := xgood_in (List.mem_of_getElem? (i := 423) (by decide +kernel)) (by decide +kernel)
theorem wd424 : Cond.fieldLink "SalePlaces$Line" 35 "SalePlaces$Line" "y" "I" ∈ xgood := xgood_in (List.mem_of_getElem? (i := 424) (by decide +kernel)) (by decide +kernel)
theorem wd425 : Cond.fieldLink "SalePlaces$Desk" 112 "SalePlaces$Line" "y" "I" ∈ xgood := xgood_in (List.mem_of_getElem? (i := 425) (by decide +kernel)) (by decide +kernel)
theorem wd426 : Cond.fieldLink "SalePlaces" 372 "SalePlaces$Line" "y" "I" ∈ xgood := xgood_in (List.mem_of_getElem? (i := 426) (by decide +kernel)) (by decide +kernel)
theorem wd427 : Cond.fieldLink "SalePlaces$Line" 38 "SalePlaces$Line" "good" "I" ∈ xgood := xgood_in (List.mem_of_getElem? (i := 427) (by decide +kernel)) (by decide +kernel)
theorem wd428 : Cond.fieldLink "SalePlaces$Book" 49 "SalePlaces$Line" "good" "I" ∈ xgood := xgood_in (List.mem_of_getElem? (i := 428) (by decide +kernel)) (by decide +kernel)
theorem wd429 : Cond.fieldLink "SalePlaces$Desk" 118 "SalePlaces$Line" "good" "I" ∈ xgood := xgood_in (List.mem_of_getElem? (i := 429) (by decide +kernel)) (by decide +kernel)
theorem wd430 : Cond.fieldLink "SalePlaces" 375 "SalePlaces$Line" "good" "I" ∈ xgood := xgood_in (List.mem_of_getElem? (i := 430) (by decide +kernel)) (by decide +kernel)
theorem wd431 : Cond.fieldLink "SalePlaces$Line" 41 "SalePlaces$Line" "sold" "I" ∈ xgood := xgood_in (List.mem_of_getElem? (i := 431) (by decide +kernel)) (by decide +kernel)
theorem wd432 : Cond.fieldLink "SalePlaces$Line" 47 "SalePlaces$Line" "price" "I" ∈ xgood := xgood_in (List.mem_of_getElem? (i := 432) (by decide +kernel)) (by decide +kernel)
theorem wd433 : Cond.fieldLink "SalePlaces$Desk" 124 "SalePlaces$Line" "price" "I" ∈ xgood := xgood_in (List.mem_of_getElem? (i := 433) (by decide +kernel)) (by decide +kernel)
theorem wd434 : Cond.fieldLink "SalePlaces" 378 "SalePlaces$Line" "price" "I" ∈ xgood := xgood_in (List.mem_of_getElem? (i := 434) (by decide +kernel)) (by decide +kernel)
theorem wd435 : Cond.fieldLink "SalePlaces$Line" 44 "SalePlaces$Line" "left" "I" ∈ xgood := xgood_in (List.mem_of_getElem? (i := 435) (by decide +kernel)) (by decide +kernel)
theorem wd436 : Cond.fieldLink "SalePlaces$Book" 42 "SalePlaces$Line" "left" "I" ∈ xgood := xgood_in (List.mem_of_getElem? (i := 436) (by decide +kernel)) (by decide +kernel)
theorem wd437 : Cond.fieldLink "SalePlaces" 315 "SalePlaces$Line" "left" "I" ∈ xgood := xgood_in (List.mem_of_getElem? (i := 437) (by decide +kernel)) (by decide +kernel)
theorem wd438 : Cond.fieldLink "SalePlaces$Line" 9 "SalePlaces$Line" "filedBy" "I" ∈ xgood := xgood_in (List.mem_of_getElem? (i := 438) (by decide +kernel)) (by decide +kernel)
theorem wd439 : Cond.fieldLink "SalePlaces$Book" 62 "SalePlaces$Line" "filedBy" "I" ∈ xgood := xgood_in (List.mem_of_getElem? (i := 439) (by decide +kernel)) (by decide +kernel)
theorem wd440 : Cond.fieldLink "SalePlaces$Line" 50 "SalePlaces$Line" "parts" "I" ∈ xgood := xgood_in (List.mem_of_getElem? (i := 440) (by decide +kernel)) (by decide +kernel)
theorem wd441 : Cond.fieldLink "SalePlaces$Book" 56 "SalePlaces$Line" "parts" "I" ∈ xgood := xgood_in (List.mem_of_getElem? (i := 441) (by decide +kernel)) (by decide +kernel)
theorem wd442 : Cond.fieldLink "SalePlaces$Desk" 115 "SalePlaces$Line" "parts" "I" ∈ xgood := xgood_in (List.mem_of_getElem? (i := 442) (by decide +kernel)) (by decide +kernel)
theorem wd443 : Cond.fieldLink "SalePlaces" 258 "SalePlaces$Line" "parts" "I" ∈ xgood := xgood_in (List.mem_of_getElem? (i := 443) (by decide +kernel)) (by decide +kernel)
theorem wd444 : Cond.fieldLink "SalePlaces$Line" 15 "SalePlaces$Line" "places" "[I" ∈ xgood := xgood_in (List.mem_of_getElem? (i := 444) (by decide +kernel)) (by decide +kernel)
theorem wd445 : Cond.fieldLink "SalePlaces$Book" 59 "SalePlaces$Line" "places" "[I" ∈ xgood := xgood_in (List.mem_of_getElem? (i := 445) (by decide +kernel)) (by decide +kernel)
theorem wd446 : Cond.fieldLink "SalePlaces$Line" 19 "SalePlaces$Line" "rates" "[I" ∈ xgood := xgood_in (List.mem_of_getElem? (i := 446) (by decide +kernel)) (by decide +kernel)
theorem wd447 : Cond.fieldLink "SalePlaces$Line" 22 "SalePlaces$Line" "caps" "[I" ∈ xgood := xgood_in (List.mem_of_getElem? (i := 447) (by decide +kernel)) (by decide +kernel)
theorem wd448 : Cond.fieldLink "SalePlaces$Line" 25 "SalePlaces$Line" "exempt" "[Z" ∈ xgood := xgood_in (List.mem_of_getElem? (i := 448) (by decide +kernel)) (by decide +kernel)
theorem wd476 : Cond.fieldLink "SalePlaces$Book" 35 "SalePlaces$Book" "count" "I" ∈ xgood := xgood_in (List.mem_of_getElem? (i := 476) (by decide +kernel)) (by decide +kernel)
theorem wd477 : Cond.fieldLink "SalePlaces" 106 "SalePlaces$Book" "count" "I" ∈ xgood := xgood_in (List.mem_of_getElem? (i := 477) (by decide +kernel)) (by decide +kernel)
theorem wd478 : Cond.fieldLink "SalePlaces$Book" 11 "SalePlaces$Book" "lines" "[LSalePlaces$Line;" ∈ xgood := xgood_in (List.mem_of_getElem? (i := 478) (by decide +kernel)) (by decide +kernel)
theorem wd479 : Cond.fieldLink "SalePlaces" 253 "SalePlaces$Book" "lines" "[LSalePlaces$Line;" ∈ xgood := xgood_in (List.mem_of_getElem? (i := 479) (by decide +kernel)) (by decide +kernel)
theorem wd480 : Cond.fieldLink "SalePlaces$Book" 39 "SalePlaces$Book" "filed" "I" ∈ xgood := xgood_in (List.mem_of_getElem? (i := 480) (by decide +kernel)) (by decide +kernel)
theorem wd481 : Cond.fieldLink "SalePlaces" 279 "SalePlaces$Book" "filed" "I" ∈ xgood := xgood_in (List.mem_of_getElem? (i := 481) (by decide +kernel)) (by decide +kernel)
theorem wd482 : Cond.fieldLink "SalePlaces$Book" 17 "SalePlaces$Book" "filingDays" "[I" ∈ xgood := xgood_in (List.mem_of_getElem? (i := 482) (by decide +kernel)) (by decide +kernel)
theorem wd483 : Cond.fieldLink "SalePlaces" 285 "SalePlaces$Book" "filingDays" "[I" ∈ xgood := xgood_in (List.mem_of_getElem? (i := 483) (by decide +kernel)) (by decide +kernel)
theorem wd484 : Cond.fieldLink "SalePlaces$Book" 21 "SalePlaces$Book" "paid" "[I" ∈ xgood := xgood_in (List.mem_of_getElem? (i := 484) (by decide +kernel)) (by decide +kernel)
theorem wd485 : Cond.fieldLink "SalePlaces$Book" 24 "SalePlaces$Book" "entryPlaces" "[I" ∈ xgood := xgood_in (List.mem_of_getElem? (i := 485) (by decide +kernel)) (by decide +kernel)
theorem wd486 : Cond.fieldLink "SalePlaces" 267 "SalePlaces$Book" "entryPlaces" "[I" ∈ xgood := xgood_in (List.mem_of_getElem? (i := 486) (by decide +kernel)) (by decide +kernel)
theorem wd487 : Cond.fieldLink "SalePlaces$Book" 27 "SalePlaces$Book" "entryClasses" "[I" ∈ xgood := xgood_in (List.mem_of_getElem? (i := 487) (by decide +kernel)) (by decide +kernel)
theorem wd488 : Cond.fieldLink "SalePlaces" 270 "SalePlaces$Book" "entryClasses" "[I" ∈ xgood := xgood_in (List.mem_of_getElem? (i := 488) (by decide +kernel)) (by decide +kernel)
theorem wd489 : Cond.fieldLink "SalePlaces$Book" 30 "SalePlaces$Book" "met" "[Z" ∈ xgood := xgood_in (List.mem_of_getElem? (i := 489) (by decide +kernel)) (by decide +kernel)
theorem wd507 : Cond.classLink "SalePlaces" 32 "SalePlaces$Acts" ∈ xgood := xgood_in (List.mem_of_getElem? (i := 507) (by decide +kernel)) (by decide +kernel)
theorem wd508 : Cond.instantiable "SalePlaces$Acts" 4 ∈ xgood := xgood_in (List.mem_of_getElem? (i := 508) (by decide +kernel)) (by decide +kernel)
theorem wd510 : Cond.instanceMethod ⟨"SalePlaces$Acts", "<init>", "()V"⟩ ∈ xgood := xgood_in (List.mem_of_getElem? (i := 510) (by decide +kernel)) (by decide +kernel)
theorem wd511 : Cond.code ⟨"SalePlaces$Acts", "<init>", "()V"⟩ cX0_init 1 none ∈ xgood := xgood_in (List.mem_of_getElem? (i := 511) (by decide +kernel)) (by decide +kernel)
theorem wd512 : Cond.methodLink "SalePlaces$Acts" 3 ⟨"java/lang/Object", "<init>", "()V"⟩ ∈ xgood := xgood_in (List.mem_of_getElem? (i := 512) (by decide +kernel)) (by decide +kernel)
theorem wd513 : Cond.fieldLink "SalePlaces$Acts" 21 "SalePlaces$Acts" "count" "I" ∈ xgood := xgood_in (List.mem_of_getElem? (i := 513) (by decide +kernel)) (by decide +kernel)
theorem wd514 : Cond.fieldLink "SalePlaces" 82 "SalePlaces$Acts" "count" "I" ∈ xgood := xgood_in (List.mem_of_getElem? (i := 514) (by decide +kernel)) (by decide +kernel)
theorem wd515 : Cond.fieldLink "SalePlaces$Acts" 9 "SalePlaces$Acts" "kinds" "[I" ∈ xgood := xgood_in (List.mem_of_getElem? (i := 515) (by decide +kernel)) (by decide +kernel)
theorem wd516 : Cond.fieldLink "SalePlaces" 381 "SalePlaces$Acts" "kinds" "[I" ∈ xgood := xgood_in (List.mem_of_getElem? (i := 516) (by decide +kernel)) (by decide +kernel)
theorem wd517 : Cond.fieldLink "SalePlaces$Acts" 15 "SalePlaces$Acts" "lines" "[I" ∈ xgood := xgood_in (List.mem_of_getElem? (i := 517) (by decide +kernel)) (by decide +kernel)
theorem wd518 : Cond.fieldLink "SalePlaces" 387 "SalePlaces$Acts" "lines" "[I" ∈ xgood := xgood_in (List.mem_of_getElem? (i := 518) (by decide +kernel)) (by decide +kernel)
theorem wd519 : Cond.fieldLink "SalePlaces$Acts" 18 "SalePlaces$Acts" "units" "[I" ∈ xgood := xgood_in (List.mem_of_getElem? (i := 519) (by decide +kernel)) (by decide +kernel)
theorem wd520 : Cond.fieldLink "SalePlaces" 389 "SalePlaces$Acts" "units" "[I" ∈ xgood := xgood_in (List.mem_of_getElem? (i := 520) (by decide +kernel)) (by decide +kernel)
theorem wd530 : Cond.classLink "SalePlaces" 39 "SalePlaces$Line" ∈ xgood := xgood_in (List.mem_of_getElem? (i := 530) (by decide +kernel)) (by decide +kernel)
theorem wd532 : Cond.fieldLink "SalePlaces" 12 "SalePlaces" "reader" "LSalePlaces$Reader;" ∈ xgood := xgood_in (List.mem_of_getElem? (i := 532) (by decide +kernel)) (by decide +kernel)
theorem wd533 : Cond.fieldLink "SalePlaces" 21 "SalePlaces" "current" "LSalePlaces$Desk;" ∈ xgood := xgood_in (List.mem_of_getElem? (i := 533) (by decide +kernel)) (by decide +kernel)
theorem wd534 : Cond.fieldLink "SalePlaces" 75 "SalePlaces" "open" "Z" ∈ xgood := xgood_in (List.mem_of_getElem? (i := 534) (by decide +kernel)) (by decide +kernel)
theorem wd535 : Cond.fieldLink "SalePlaces" 28 "SalePlaces" "book" "LSalePlaces$Book;" ∈ xgood := xgood_in (List.mem_of_getElem? (i := 535) (by decide +kernel)) (by decide +kernel)
theorem wd536 : Cond.fieldLink "SalePlaces" 35 "SalePlaces" "acts" "LSalePlaces$Acts;" ∈ xgood := xgood_in (List.mem_of_getElem? (i := 536) (by decide +kernel)) (by decide +kernel)
theorem wd537 : Cond.fieldLink "SalePlaces" 42 "SalePlaces" "trial" "LSalePlaces$Line;" ∈ xgood := xgood_in (List.mem_of_getElem? (i := 537) (by decide +kernel)) (by decide +kernel)
theorem wd538 : Cond.fieldLink "SalePlaces" 100 "SalePlaces" "refused" "I" ∈ xgood := xgood_in (List.mem_of_getElem? (i := 538) (by decide +kernel)) (by decide +kernel)
theorem wd554 : Cond.methodLink "SalePlacesLaw" 19 ⟨"SalePlaces", "feed", "(IIIII)I"⟩ ∈ xgood := xgood_in (List.mem_of_getElem? (i := 554) (by decide +kernel)) (by decide +kernel)
theorem wd555 : Cond.instanceMethod ⟨"SalePlaces", "feed", "(IIIII)I"⟩ ∈ xgood := xgood_in (List.mem_of_getElem? (i := 555) (by decide +kernel)) (by decide +kernel)
theorem wd556 : Cond.selects "SalePlaces" ⟨"SalePlaces", "feed", "(IIIII)I"⟩ ⟨"SalePlaces", "feed", "(IIIII)I"⟩ ∈ xgood := xgood_in (List.mem_of_getElem? (i := 556) (by decide +kernel)) (by decide +kernel)
theorem wd557 : Cond.code ⟨"SalePlaces", "feed", "(IIIII)I"⟩ cX10_feed 7 (some .int) ∈ xgood := xgood_in (List.mem_of_getElem? (i := 557) (by decide +kernel)) (by decide +kernel)
theorem wd558 : Cond.methodLink "SalePlaces" 56 ⟨"SalePlaces$Tape", "append", "(I)V"⟩ ∈ xgood := xgood_in (List.mem_of_getElem? (i := 558) (by decide +kernel)) (by decide +kernel)
theorem wd559 : Cond.instanceMethod ⟨"SalePlaces$Tape", "append", "(I)V"⟩ ∈ xgood := xgood_in (List.mem_of_getElem? (i := 559) (by decide +kernel)) (by decide +kernel)
theorem wd560 : Cond.selects "SalePlaces$Tape" ⟨"SalePlaces$Tape", "append", "(I)V"⟩ ⟨"SalePlaces$Tape", "append", "(I)V"⟩ ∈ xgood := xgood_in (List.mem_of_getElem? (i := 560) (by decide +kernel)) (by decide +kernel)
theorem wd561 : Cond.code ⟨"SalePlaces$Tape", "append", "(I)V"⟩ cX8_append 3 none ∈ xgood := xgood_in (List.mem_of_getElem? (i := 561) (by decide +kernel)) (by decide +kernel)
theorem wd562 : Cond.methodLink "SalePlacesLaw" 24 ⟨"SalePlaces", "desk", "(I)I"⟩ ∈ xgood := xgood_in (List.mem_of_getElem? (i := 562) (by decide +kernel)) (by decide +kernel)
theorem wd563 : Cond.instanceMethod ⟨"SalePlaces", "desk", "(I)I"⟩ ∈ xgood := xgood_in (List.mem_of_getElem? (i := 563) (by decide +kernel)) (by decide +kernel)
theorem wd564 : Cond.selects "SalePlaces" ⟨"SalePlaces", "desk", "(I)I"⟩ ⟨"SalePlaces", "desk", "(I)I"⟩ ∈ xgood := xgood_in (List.mem_of_getElem? (i := 564) (by decide +kernel)) (by decide +kernel)
theorem wd565 : Cond.code ⟨"SalePlaces", "desk", "(I)I"⟩ cX10_desk 3 (some .int) ∈ xgood := xgood_in (List.mem_of_getElem? (i := 565) (by decide +kernel)) (by decide +kernel)
theorem wd566 : Cond.methodLink "SalePlaces" 60 ⟨"SalePlaces", "within", "(III)Z"⟩ ∈ xgood := xgood_in (List.mem_of_getElem? (i := 566) (by decide +kernel)) (by decide +kernel)
theorem wd567 : Cond.static ⟨"SalePlaces", "within", "(III)Z"⟩ ∈ xgood := xgood_in (List.mem_of_getElem? (i := 567) (by decide +kernel)) (by decide +kernel)
theorem wd568 : Cond.code ⟨"SalePlaces", "within", "(III)Z"⟩ cX10_within 3 (some .boolean) ∈ xgood := xgood_in (List.mem_of_getElem? (i := 568) (by decide +kernel)) (by decide +kernel)
theorem wd569 : Cond.methodLink "SalePlaces" 64 ⟨"SalePlaces", "refuse", "(I)I"⟩ ∈ xgood := xgood_in (List.mem_of_getElem? (i := 569) (by decide +kernel)) (by decide +kernel)
theorem wd571 : Cond.instanceMethod ⟨"SalePlaces", "refuse", "(I)I"⟩ ∈ xgood := xgood_in (List.mem_of_getElem? (i := 571) (by decide +kernel)) (by decide +kernel)
theorem wd572 : Cond.code ⟨"SalePlaces", "refuse", "(I)I"⟩ cX10_refuse 2 (some .int) ∈ xgood := xgood_in (List.mem_of_getElem? (i := 572) (by decide +kernel)) (by decide +kernel)
theorem wd573 : Cond.methodLink "SalePlaces" 68 ⟨"SalePlaces$Reader", "reads", "(I)Z"⟩ ∈ xgood := xgood_in (List.mem_of_getElem? (i := 573) (by decide +kernel)) (by decide +kernel)
theorem wd574 : Cond.instanceMethod ⟨"SalePlaces$Reader", "reads", "(I)Z"⟩ ∈ xgood := xgood_in (List.mem_of_getElem? (i := 574) (by decide +kernel)) (by decide +kernel)
theorem wd575 : Cond.selects "SalePlaces$Reader" ⟨"SalePlaces$Reader", "reads", "(I)Z"⟩ ⟨"SalePlaces$Reader", "reads", "(I)Z"⟩ ∈ xgood := xgood_in (List.mem_of_getElem? (i := 575) (by decide +kernel)) (by decide +kernel)
theorem wd576 : Cond.code ⟨"SalePlaces$Reader", "reads", "(I)Z"⟩ cX7_reads 3 (some .boolean) ∈ xgood := xgood_in (List.mem_of_getElem? (i := 576) (by decide +kernel)) (by decide +kernel)
theorem wd577 : Cond.methodLink "SalePlaces$Reader" 40 ⟨"SalePlaces$Tape", "begin", "(I)V"⟩ ∈ xgood := xgood_in (List.mem_of_getElem? (i := 577) (by decide +kernel)) (by decide +kernel)
theorem wd578 : Cond.instanceMethod ⟨"SalePlaces$Tape", "begin", "(I)V"⟩ ∈ xgood := xgood_in (List.mem_of_getElem? (i := 578) (by decide +kernel)) (by decide +kernel)
theorem wd579 : Cond.selects "SalePlaces$Tape" ⟨"SalePlaces$Tape", "begin", "(I)V"⟩ ⟨"SalePlaces$Tape", "begin", "(I)V"⟩ ∈ xgood := xgood_in (List.mem_of_getElem? (i := 579) (by decide +kernel)) (by decide +kernel)
theorem wd580 : Cond.code ⟨"SalePlaces$Tape", "begin", "(I)V"⟩ cX8_begin 2 none ∈ xgood := xgood_in (List.mem_of_getElem? (i := 580) (by decide +kernel)) (by decide +kernel)
theorem wd581 : Cond.methodLink "SalePlaces$Tape" 25 ⟨"SalePlaces$Tape", "step", "()V"⟩ ∈ xgood := xgood_in (List.mem_of_getElem? (i := 581) (by decide +kernel)) (by decide +kernel)
theorem wd582 : Cond.instanceMethod ⟨"SalePlaces$Tape", "step", "()V"⟩ ∈ xgood := xgood_in (List.mem_of_getElem? (i := 582) (by decide +kernel)) (by decide +kernel)
theorem wd583 : Cond.selects "SalePlaces$Tape" ⟨"SalePlaces$Tape", "step", "()V"⟩ ⟨"SalePlaces$Tape", "step", "()V"⟩ ∈ xgood := xgood_in (List.mem_of_getElem? (i := 583) (by decide +kernel)) (by decide +kernel)
theorem wd584 : Cond.code ⟨"SalePlaces$Tape", "step", "()V"⟩ cX8_step 1 none ∈ xgood := xgood_in (List.mem_of_getElem? (i := 584) (by decide +kernel)) (by decide +kernel)
theorem wd585 : Cond.methodLink "SalePlaces$Tape" 34 ⟨"SalePlaces$Tape", "takeWord", "()V"⟩ ∈ xgood := xgood_in (List.mem_of_getElem? (i := 585) (by decide +kernel)) (by decide +kernel)
theorem wd587 : Cond.instanceMethod ⟨"SalePlaces$Tape", "takeWord", "()V"⟩ ∈ xgood := xgood_in (List.mem_of_getElem? (i := 587) (by decide +kernel)) (by decide +kernel)
theorem wd588 : Cond.code ⟨"SalePlaces$Tape", "takeWord", "()V"⟩ cX8_takeWord 1 none ∈ xgood := xgood_in (List.mem_of_getElem? (i := 588) (by decide +kernel)) (by decide +kernel)
theorem wd589 : Cond.constantLong "SalePlaces$Tape" 44 32 ∈ xgood := xgood_in (List.mem_of_getElem? (i := 589) (by decide +kernel)) (by decide +kernel)
theorem wd590 : Cond.methodLink "SalePlaces$Tape" 37 ⟨"SalePlaces$Tape", "takeWhole", "()V"⟩ ∈ xgood := xgood_in (List.mem_of_getElem? (i := 590) (by decide +kernel)) (by decide +kernel)
theorem wd592 : Cond.instanceMethod ⟨"SalePlaces$Tape", "takeWhole", "()V"⟩ ∈ xgood := xgood_in (List.mem_of_getElem? (i := 592) (by decide +kernel)) (by decide +kernel)
theorem wd593 : Cond.code ⟨"SalePlaces$Tape", "takeWhole", "()V"⟩ cX8_takeWhole 1 none ∈ xgood := xgood_in (List.mem_of_getElem? (i := 593) (by decide +kernel)) (by decide +kernel)
theorem wd594 : Cond.methodLink "SalePlaces$Reader" 44 ⟨"SalePlaces$Reader", "readLine", "()Z"⟩ ∈ xgood := xgood_in (List.mem_of_getElem? (i := 594) (by decide +kernel)) (by decide +kernel)
theorem wd596 : Cond.instanceMethod ⟨"SalePlaces$Reader", "readLine", "()Z"⟩ ∈ xgood := xgood_in (List.mem_of_getElem? (i := 596) (by decide +kernel)) (by decide +kernel)
theorem wd597 : Cond.code ⟨"SalePlaces$Reader", "readLine", "()Z"⟩ cX7_readLine 2 (some .boolean) ∈ xgood := xgood_in (List.mem_of_getElem? (i := 597) (by decide +kernel)) (by decide +kernel)
theorem wd599 : Cond.methodLink "SalePlaces$Reader" 90 ⟨"SalePlaces$Tape", "says", "(Ljava/lang/String;)Z"⟩ ∈ xgood := xgood_in (List.mem_of_getElem? (i := 599) (by decide +kernel)) (by decide +kernel)
theorem wd600 : Cond.instanceMethod ⟨"SalePlaces$Tape", "says", "(Ljava/lang/String;)Z"⟩ ∈ xgood := xgood_in (List.mem_of_getElem? (i := 600) (by decide +kernel)) (by decide +kernel)
theorem wd601 : Cond.selects "SalePlaces$Tape" ⟨"SalePlaces$Tape", "says", "(Ljava/lang/String;)Z"⟩ ⟨"SalePlaces$Tape", "says", "(Ljava/lang/String;)Z"⟩ ∈ xgood := xgood_in (List.mem_of_getElem? (i := 601) (by decide +kernel)) (by decide +kernel)
theorem wd602 : Cond.code ⟨"SalePlaces$Tape", "says", "(Ljava/lang/String;)Z"⟩ cX8_says 3 (some .boolean) ∈ xgood := xgood_in (List.mem_of_getElem? (i := 602) (by decide +kernel)) (by decide +kernel)
theorem wd603 : Cond.methodLink "SalePlaces$Tape" 49 ⟨"java/lang/String", "length", "()I"⟩ ∈ xgood := xgood_in (List.mem_of_getElem? (i := 603) (by decide +kernel)) (by decide +kernel)
theorem wd613 : Cond.methodLink "SalePlaces$Tape" 55 ⟨"java/lang/String", "charAt", "(I)C"⟩ ∈ xgood := xgood_in (List.mem_of_getElem? (i := 613) (by decide +kernel)) (by decide +kernel)
theorem wd651 : Cond.methodLink "SalePlaces$Reader" 54 ⟨"SalePlaces$Reader", "fails", "(I)Z"⟩ ∈ xgood := xgood_in (List.mem_of_getElem? (i := 651) (by decide +kernel)) (by decide +kernel)
theorem wd653 : Cond.instanceMethod ⟨"SalePlaces$Reader", "fails", "(I)Z"⟩ ∈ xgood := xgood_in (List.mem_of_getElem? (i := 653) (by decide +kernel)) (by decide +kernel)
theorem wd654 : Cond.code ⟨"SalePlaces$Reader", "fails", "(I)Z"⟩ cX7_fails 2 (some .boolean) ∈ xgood := xgood_in (List.mem_of_getElem? (i := 654) (by decide +kernel)) (by decide +kernel)
theorem wd655 : Cond.methodLink "SalePlaces$Reader" 82 ⟨"SalePlaces$Reader", "failsAt", "(II)Z"⟩ ∈ xgood := xgood_in (List.mem_of_getElem? (i := 655) (by decide +kernel)) (by decide +kernel)
theorem wd657 : Cond.instanceMethod ⟨"SalePlaces$Reader", "failsAt", "(II)Z"⟩ ∈ xgood := xgood_in (List.mem_of_getElem? (i := 657) (by decide +kernel)) (by decide +kernel)
theorem wd658 : Cond.code ⟨"SalePlaces$Reader", "failsAt", "(II)Z"⟩ cX7_failsAt 3 (some .boolean) ∈ xgood := xgood_in (List.mem_of_getElem? (i := 658) (by decide +kernel)) (by decide +kernel)
theorem wd659 : Cond.methodLink "SalePlaces$Reader" 94 ⟨"SalePlaces$Reader", "readDesk", "()Z"⟩ ∈ xgood := xgood_in (List.mem_of_getElem? (i := 659) (by decide +kernel)) (by decide +kernel)
theorem wd661 : Cond.instanceMethod ⟨"SalePlaces$Reader", "readDesk", "()Z"⟩ ∈ xgood := xgood_in (List.mem_of_getElem? (i := 661) (by decide +kernel)) (by decide +kernel)
theorem wd662 : Cond.code ⟨"SalePlaces$Reader", "readDesk", "()Z"⟩ cX7_readDesk 3 (some .boolean) ∈ xgood := xgood_in (List.mem_of_getElem? (i := 662) (by decide +kernel)) (by decide +kernel)
theorem wd663 : Cond.methodLink "SalePlaces$Reader" 58 ⟨"SalePlaces$Tape", "step", "()V"⟩ ∈ xgood := xgood_in (List.mem_of_getElem? (i := 663) (by decide +kernel)) (by decide +kernel)
theorem wd665 : Cond.methodLink "SalePlaces$Reader" 154 ⟨"SalePlaces$Reader", "readWord", "(Ljava/lang/String;)Z"⟩ ∈ xgood := xgood_in (List.mem_of_getElem? (i := 665) (by decide +kernel)) (by decide +kernel)
theorem wd667 : Cond.instanceMethod ⟨"SalePlaces$Reader", "readWord", "(Ljava/lang/String;)Z"⟩ ∈ xgood := xgood_in (List.mem_of_getElem? (i := 667) (by decide +kernel)) (by decide +kernel)
theorem wd668 : Cond.code ⟨"SalePlaces$Reader", "readWord", "(Ljava/lang/String;)Z"⟩ cX7_readWord 2 (some .boolean) ∈ xgood := xgood_in (List.mem_of_getElem? (i := 668) (by decide +kernel)) (by decide +kernel)
theorem wd669 : Cond.methodLink "SalePlaces$Reader" 157 ⟨"SalePlaces$Reader", "readWhole", "(II)I"⟩ ∈ xgood := xgood_in (List.mem_of_getElem? (i := 669) (by decide +kernel)) (by decide +kernel)
theorem wd671 : Cond.instanceMethod ⟨"SalePlaces$Reader", "readWhole", "(II)I"⟩ ∈ xgood := xgood_in (List.mem_of_getElem? (i := 671) (by decide +kernel)) (by decide +kernel)
theorem wd672 : Cond.code ⟨"SalePlaces$Reader", "readWhole", "(II)I"⟩ cX7_readWhole 4 (some .int) ∈ xgood := xgood_in (List.mem_of_getElem? (i := 672) (by decide +kernel)) (by decide +kernel)
theorem wd675 : Cond.methodLink "SalePlaces$Reader" 163 ⟨"SalePlaces$Desk", "begin", "(II)V"⟩ ∈ xgood := xgood_in (List.mem_of_getElem? (i := 675) (by decide +kernel)) (by decide +kernel)
theorem wd676 : Cond.instanceMethod ⟨"SalePlaces$Desk", "begin", "(II)V"⟩ ∈ xgood := xgood_in (List.mem_of_getElem? (i := 676) (by decide +kernel)) (by decide +kernel)
theorem wd677 : Cond.selects "SalePlaces$Desk" ⟨"SalePlaces$Desk", "begin", "(II)V"⟩ ⟨"SalePlaces$Desk", "begin", "(II)V"⟩ ∈ xgood := xgood_in (List.mem_of_getElem? (i := 677) (by decide +kernel)) (by decide +kernel)
theorem wd678 : Cond.code ⟨"SalePlaces$Desk", "begin", "(II)V"⟩ cX3_begin 3 none ∈ xgood := xgood_in (List.mem_of_getElem? (i := 678) (by decide +kernel)) (by decide +kernel)
theorem wd679 : Cond.methodLink "SalePlaces$Desk" 29 ⟨"SalePlaces$Ground", "begin", "(II)V"⟩ ∈ xgood := xgood_in (List.mem_of_getElem? (i := 679) (by decide +kernel)) (by decide +kernel)
theorem wd680 : Cond.instanceMethod ⟨"SalePlaces$Ground", "begin", "(II)V"⟩ ∈ xgood := xgood_in (List.mem_of_getElem? (i := 680) (by decide +kernel)) (by decide +kernel)
theorem wd681 : Cond.selects "SalePlaces$Ground" ⟨"SalePlaces$Ground", "begin", "(II)V"⟩ ⟨"SalePlaces$Ground", "begin", "(II)V"⟩ ∈ xgood := xgood_in (List.mem_of_getElem? (i := 681) (by decide +kernel)) (by decide +kernel)
theorem wd682 : Cond.code ⟨"SalePlaces$Ground", "begin", "(II)V"⟩ cX4_begin 3 none ∈ xgood := xgood_in (List.mem_of_getElem? (i := 682) (by decide +kernel)) (by decide +kernel)
theorem wd683 : Cond.methodLink "SalePlaces$Desk" 33 ⟨"SalePlaces$Tariff", "begin", "()V"⟩ ∈ xgood := xgood_in (List.mem_of_getElem? (i := 683) (by decide +kernel)) (by decide +kernel)
theorem wd684 : Cond.instanceMethod ⟨"SalePlaces$Tariff", "begin", "()V"⟩ ∈ xgood := xgood_in (List.mem_of_getElem? (i := 684) (by decide +kernel)) (by decide +kernel)
theorem wd685 : Cond.selects "SalePlaces$Tariff" ⟨"SalePlaces$Tariff", "begin", "()V"⟩ ⟨"SalePlaces$Tariff", "begin", "()V"⟩ ∈ xgood := xgood_in (List.mem_of_getElem? (i := 685) (by decide +kernel)) (by decide +kernel)
theorem wd686 : Cond.code ⟨"SalePlaces$Tariff", "begin", "()V"⟩ cX9_begin 1 none ∈ xgood := xgood_in (List.mem_of_getElem? (i := 686) (by decide +kernel)) (by decide +kernel)
theorem wd688 : Cond.methodLink "SalePlaces$Reader" 99 ⟨"SalePlaces$Reader", "starts", "(II)Z"⟩ ∈ xgood := xgood_in (List.mem_of_getElem? (i := 688) (by decide +kernel)) (by decide +kernel)
theorem wd690 : Cond.instanceMethod ⟨"SalePlaces$Reader", "starts", "(II)Z"⟩ ∈ xgood := xgood_in (List.mem_of_getElem? (i := 690) (by decide +kernel)) (by decide +kernel)
theorem wd691 : Cond.code ⟨"SalePlaces$Reader", "starts", "(II)Z"⟩ cX7_starts 3 (some .boolean) ∈ xgood := xgood_in (List.mem_of_getElem? (i := 691) (by decide +kernel)) (by decide +kernel)
theorem wd692 : Cond.methodLink "SalePlaces$Reader" 102 ⟨"SalePlaces$Reader", "readClass", "()Z"⟩ ∈ xgood := xgood_in (List.mem_of_getElem? (i := 692) (by decide +kernel)) (by decide +kernel)
theorem wd694 : Cond.instanceMethod ⟨"SalePlaces$Reader", "readClass", "()Z"⟩ ∈ xgood := xgood_in (List.mem_of_getElem? (i := 694) (by decide +kernel)) (by decide +kernel)
theorem wd695 : Cond.code ⟨"SalePlaces$Reader", "readClass", "()Z"⟩ cX7_readClass 4 (some .boolean) ∈ xgood := xgood_in (List.mem_of_getElem? (i := 695) (by decide +kernel)) (by decide +kernel)
theorem wd696 : Cond.methodLink "SalePlaces$Reader" 166 ⟨"SalePlaces$Reader", "readNewName", "()J"⟩ ∈ xgood := xgood_in (List.mem_of_getElem? (i := 696) (by decide +kernel)) (by decide +kernel)
theorem wd698 : Cond.instanceMethod ⟨"SalePlaces$Reader", "readNewName", "()J"⟩ ∈ xgood := xgood_in (List.mem_of_getElem? (i := 698) (by decide +kernel)) (by decide +kernel)
theorem wd699 : Cond.code ⟨"SalePlaces$Reader", "readNewName", "()J"⟩ cX7_readNewName 3 (some .long) ∈ xgood := xgood_in (List.mem_of_getElem? (i := 699) (by decide +kernel)) (by decide +kernel)
theorem wd700 : Cond.methodLink "SalePlaces$Reader" 231 ⟨"SalePlaces$Tape", "isName", "()Z"⟩ ∈ xgood := xgood_in (List.mem_of_getElem? (i := 700) (by decide +kernel)) (by decide +kernel)
theorem wd701 : Cond.instanceMethod ⟨"SalePlaces$Tape", "isName", "()Z"⟩ ∈ xgood := xgood_in (List.mem_of_getElem? (i := 701) (by decide +kernel)) (by decide +kernel)
theorem wd702 : Cond.selects "SalePlaces$Tape" ⟨"SalePlaces$Tape", "isName", "()Z"⟩ ⟨"SalePlaces$Tape", "isName", "()Z"⟩ ∈ xgood := xgood_in (List.mem_of_getElem? (i := 702) (by decide +kernel)) (by decide +kernel)
theorem wd703 : Cond.code ⟨"SalePlaces$Tape", "isName", "()Z"⟩ cX8_isName 1 (some .boolean) ∈ xgood := xgood_in (List.mem_of_getElem? (i := 703) (by decide +kernel)) (by decide +kernel)
theorem wd705 : Cond.methodLink "SalePlaces$Tape" 61 ⟨"SalePlaces$Tape", "says", "(Ljava/lang/String;)Z"⟩ ∈ xgood := xgood_in (List.mem_of_getElem? (i := 705) (by decide +kernel)) (by decide +kernel)
theorem wd715 : Cond.constantLong "SalePlaces$Reader" 234 (-1) ∈ xgood := xgood_in (List.mem_of_getElem? (i := 715) (by decide +kernel)) (by decide +kernel)
theorem wd716 : Cond.methodLink "SalePlaces$Reader" 240 ⟨"SalePlaces$Reader", "indexOf", "([JIJ)I"⟩ ∈ xgood := xgood_in (List.mem_of_getElem? (i := 716) (by decide +kernel)) (by decide +kernel)
theorem wd717 : Cond.static ⟨"SalePlaces$Reader", "indexOf", "([JIJ)I"⟩ ∈ xgood := xgood_in (List.mem_of_getElem? (i := 717) (by decide +kernel)) (by decide +kernel)
theorem wd718 : Cond.code ⟨"SalePlaces$Reader", "indexOf", "([JIJ)I"⟩ cX7_indexOf 5 (some .int) ∈ xgood := xgood_in (List.mem_of_getElem? (i := 718) (by decide +kernel)) (by decide +kernel)
theorem wd720 : Cond.methodLink "SalePlaces$Reader" 172 ⟨"SalePlaces$Reader", "readName", "([JI)I"⟩ ∈ xgood := xgood_in (List.mem_of_getElem? (i := 720) (by decide +kernel)) (by decide +kernel)
theorem wd722 : Cond.instanceMethod ⟨"SalePlaces$Reader", "readName", "([JI)I"⟩ ∈ xgood := xgood_in (List.mem_of_getElem? (i := 722) (by decide +kernel)) (by decide +kernel)
theorem wd723 : Cond.code ⟨"SalePlaces$Reader", "readName", "([JI)I"⟩ cX7_readName 4 (some .int) ∈ xgood := xgood_in (List.mem_of_getElem? (i := 723) (by decide +kernel)) (by decide +kernel)
theorem wd724 : Cond.methodLink "SalePlaces$Reader" 176 ⟨"SalePlaces$Tariff", "addClass", "(I)V"⟩ ∈ xgood := xgood_in (List.mem_of_getElem? (i := 724) (by decide +kernel)) (by decide +kernel)
theorem wd725 : Cond.instanceMethod ⟨"SalePlaces$Tariff", "addClass", "(I)V"⟩ ∈ xgood := xgood_in (List.mem_of_getElem? (i := 725) (by decide +kernel)) (by decide +kernel)
theorem wd726 : Cond.selects "SalePlaces$Tariff" ⟨"SalePlaces$Tariff", "addClass", "(I)V"⟩ ⟨"SalePlaces$Tariff", "addClass", "(I)V"⟩ ∈ xgood := xgood_in (List.mem_of_getElem? (i := 726) (by decide +kernel)) (by decide +kernel)
theorem wd727 : Cond.code ⟨"SalePlaces$Tariff", "addClass", "(I)V"⟩ cX9_addClass 2 none ∈ xgood := xgood_in (List.mem_of_getElem? (i := 727) (by decide +kernel)) (by decide +kernel)
theorem wd729 : Cond.methodLink "SalePlaces$Reader" 107 ⟨"SalePlaces$Reader", "readPlace", "()Z"⟩ ∈ xgood := xgood_in (List.mem_of_getElem? (i := 729) (by decide +kernel)) (by decide +kernel)
theorem wd731 : Cond.instanceMethod ⟨"SalePlaces$Reader", "readPlace", "()Z"⟩ ∈ xgood := xgood_in (List.mem_of_getElem? (i := 731) (by decide +kernel)) (by decide +kernel)
theorem wd732 : Cond.code ⟨"SalePlaces$Reader", "readPlace", "()Z"⟩ cX7_readPlace 5 (some .boolean) ∈ xgood := xgood_in (List.mem_of_getElem? (i := 732) (by decide +kernel)) (by decide +kernel)
theorem wd735 : Cond.methodLink "SalePlaces$Reader" 185 ⟨"SalePlaces$Ground", "add", "(IZ)V"⟩ ∈ xgood := xgood_in (List.mem_of_getElem? (i := 735) (by decide +kernel)) (by decide +kernel)
theorem wd736 : Cond.instanceMethod ⟨"SalePlaces$Ground", "add", "(IZ)V"⟩ ∈ xgood := xgood_in (List.mem_of_getElem? (i := 736) (by decide +kernel)) (by decide +kernel)
theorem wd737 : Cond.selects "SalePlaces$Ground" ⟨"SalePlaces$Ground", "add", "(IZ)V"⟩ ⟨"SalePlaces$Ground", "add", "(IZ)V"⟩ ∈ xgood := xgood_in (List.mem_of_getElem? (i := 737) (by decide +kernel)) (by decide +kernel)
theorem wd738 : Cond.code ⟨"SalePlaces$Ground", "add", "(IZ)V"⟩ cX4_add 3 none ∈ xgood := xgood_in (List.mem_of_getElem? (i := 738) (by decide +kernel)) (by decide +kernel)
theorem wd740 : Cond.methodLink "SalePlaces$Reader" 121 ⟨"SalePlaces$Reader", "readBound", "()Z"⟩ ∈ xgood := xgood_in (List.mem_of_getElem? (i := 740) (by decide +kernel)) (by decide +kernel)
theorem wd742 : Cond.instanceMethod ⟨"SalePlaces$Reader", "readBound", "()Z"⟩ ∈ xgood := xgood_in (List.mem_of_getElem? (i := 742) (by decide +kernel)) (by decide +kernel)
theorem wd743 : Cond.code ⟨"SalePlaces$Reader", "readBound", "()Z"⟩ cX7_readBound 5 (some .boolean) ∈ xgood := xgood_in (List.mem_of_getElem? (i := 743) (by decide +kernel)) (by decide +kernel)
theorem wd744 : Cond.methodLink "SalePlaces$Reader" 189 ⟨"SalePlaces$Bounds", "nextFree", "(I)I"⟩ ∈ xgood := xgood_in (List.mem_of_getElem? (i := 744) (by decide +kernel)) (by decide +kernel)
theorem wd745 : Cond.instanceMethod ⟨"SalePlaces$Bounds", "nextFree", "(I)I"⟩ ∈ xgood := xgood_in (List.mem_of_getElem? (i := 745) (by decide +kernel)) (by decide +kernel)
theorem wd746 : Cond.selects "SalePlaces$Bounds" ⟨"SalePlaces$Bounds", "nextFree", "(I)I"⟩ ⟨"SalePlaces$Bounds", "nextFree", "(I)I"⟩ ∈ xgood := xgood_in (List.mem_of_getElem? (i := 746) (by decide +kernel)) (by decide +kernel)
theorem wd747 : Cond.code ⟨"SalePlaces$Bounds", "nextFree", "(I)I"⟩ cX2_nextFree 3 (some .int) ∈ xgood := xgood_in (List.mem_of_getElem? (i := 747) (by decide +kernel)) (by decide +kernel)
theorem wd748 : Cond.methodLink "SalePlaces$Bounds" 31 ⟨"SalePlaces$Bounds", "latest", "(II)I"⟩ ∈ xgood := xgood_in (List.mem_of_getElem? (i := 748) (by decide +kernel)) (by decide +kernel)
theorem wd749 : Cond.instanceMethod ⟨"SalePlaces$Bounds", "latest", "(II)I"⟩ ∈ xgood := xgood_in (List.mem_of_getElem? (i := 749) (by decide +kernel)) (by decide +kernel)
theorem wd750 : Cond.selects "SalePlaces$Bounds" ⟨"SalePlaces$Bounds", "latest", "(II)I"⟩ ⟨"SalePlaces$Bounds", "latest", "(II)I"⟩ ∈ xgood := xgood_in (List.mem_of_getElem? (i := 750) (by decide +kernel)) (by decide +kernel)
theorem wd751 : Cond.code ⟨"SalePlaces$Bounds", "latest", "(II)I"⟩ cX2_latest 4 (some .int) ∈ xgood := xgood_in (List.mem_of_getElem? (i := 751) (by decide +kernel)) (by decide +kernel)
theorem wd753 : Cond.methodLink "SalePlaces$Reader" 195 ⟨"SalePlaces$Reader", "readCorners", "(LSalePlaces$Bounds;)I"⟩ ∈ xgood := xgood_in (List.mem_of_getElem? (i := 753) (by decide +kernel)) (by decide +kernel)
theorem wd755 : Cond.instanceMethod ⟨"SalePlaces$Reader", "readCorners", "(LSalePlaces$Bounds;)I"⟩ ∈ xgood := xgood_in (List.mem_of_getElem? (i := 755) (by decide +kernel)) (by decide +kernel)
theorem wd756 : Cond.code ⟨"SalePlaces$Reader", "readCorners", "(LSalePlaces$Bounds;)I"⟩ cX7_readCorners 5 (some .int) ∈ xgood := xgood_in (List.mem_of_getElem? (i := 756) (by decide +kernel)) (by decide +kernel)
theorem wd757 : Cond.methodLink "SalePlaces$Reader" 204 ⟨"SalePlaces$Bounds", "putCorner", "(III)V"⟩ ∈ xgood := xgood_in (List.mem_of_getElem? (i := 757) (by decide +kernel)) (by decide +kernel)
theorem wd758 : Cond.instanceMethod ⟨"SalePlaces$Bounds", "putCorner", "(III)V"⟩ ∈ xgood := xgood_in (List.mem_of_getElem? (i := 758) (by decide +kernel)) (by decide +kernel)
theorem wd759 : Cond.selects "SalePlaces$Bounds" ⟨"SalePlaces$Bounds", "putCorner", "(III)V"⟩ ⟨"SalePlaces$Bounds", "putCorner", "(III)V"⟩ ∈ xgood := xgood_in (List.mem_of_getElem? (i := 759) (by decide +kernel)) (by decide +kernel)
theorem wd760 : Cond.code ⟨"SalePlaces$Bounds", "putCorner", "(III)V"⟩ cX2_putCorner 4 none ∈ xgood := xgood_in (List.mem_of_getElem? (i := 760) (by decide +kernel)) (by decide +kernel)
theorem wd761 : Cond.methodLink "SalePlaces$Reader" 199 ⟨"SalePlaces$Bounds", "add", "(III)V"⟩ ∈ xgood := xgood_in (List.mem_of_getElem? (i := 761) (by decide +kernel)) (by decide +kernel)
theorem wd762 : Cond.instanceMethod ⟨"SalePlaces$Bounds", "add", "(III)V"⟩ ∈ xgood := xgood_in (List.mem_of_getElem? (i := 762) (by decide +kernel)) (by decide +kernel)
theorem wd763 : Cond.selects "SalePlaces$Bounds" ⟨"SalePlaces$Bounds", "add", "(III)V"⟩ ⟨"SalePlaces$Bounds", "add", "(III)V"⟩ ∈ xgood := xgood_in (List.mem_of_getElem? (i := 763) (by decide +kernel)) (by decide +kernel)
theorem wd764 : Cond.code ⟨"SalePlaces$Bounds", "add", "(III)V"⟩ cX2_add 4 none ∈ xgood := xgood_in (List.mem_of_getElem? (i := 764) (by decide +kernel)) (by decide +kernel)
theorem wd766 : Cond.methodLink "SalePlaces$Reader" 133 ⟨"SalePlaces$Reader", "readRate", "()Z"⟩ ∈ xgood := xgood_in (List.mem_of_getElem? (i := 766) (by decide +kernel)) (by decide +kernel)
theorem wd768 : Cond.instanceMethod ⟨"SalePlaces$Reader", "readRate", "()Z"⟩ ∈ xgood := xgood_in (List.mem_of_getElem? (i := 768) (by decide +kernel)) (by decide +kernel)
theorem wd769 : Cond.code ⟨"SalePlaces$Reader", "readRate", "()Z"⟩ cX7_readRate 6 (some .boolean) ∈ xgood := xgood_in (List.mem_of_getElem? (i := 769) (by decide +kernel)) (by decide +kernel)
theorem wd770 : Cond.methodLink "SalePlaces$Reader" 207 ⟨"SalePlaces$Rates", "nextFree", "(II)I"⟩ ∈ xgood := xgood_in (List.mem_of_getElem? (i := 770) (by decide +kernel)) (by decide +kernel)
theorem wd771 : Cond.instanceMethod ⟨"SalePlaces$Rates", "nextFree", "(II)I"⟩ ∈ xgood := xgood_in (List.mem_of_getElem? (i := 771) (by decide +kernel)) (by decide +kernel)
theorem wd772 : Cond.selects "SalePlaces$Rates" ⟨"SalePlaces$Rates", "nextFree", "(II)I"⟩ ⟨"SalePlaces$Rates", "nextFree", "(II)I"⟩ ∈ xgood := xgood_in (List.mem_of_getElem? (i := 772) (by decide +kernel)) (by decide +kernel)
theorem wd773 : Cond.code ⟨"SalePlaces$Rates", "nextFree", "(II)I"⟩ cX6_nextFree 4 (some .int) ∈ xgood := xgood_in (List.mem_of_getElem? (i := 773) (by decide +kernel)) (by decide +kernel)
theorem wd774 : Cond.methodLink "SalePlaces$Rates" 28 ⟨"SalePlaces$Rates", "latest", "(III)I"⟩ ∈ xgood := xgood_in (List.mem_of_getElem? (i := 774) (by decide +kernel)) (by decide +kernel)
theorem wd775 : Cond.instanceMethod ⟨"SalePlaces$Rates", "latest", "(III)I"⟩ ∈ xgood := xgood_in (List.mem_of_getElem? (i := 775) (by decide +kernel)) (by decide +kernel)
theorem wd776 : Cond.selects "SalePlaces$Rates" ⟨"SalePlaces$Rates", "latest", "(III)I"⟩ ⟨"SalePlaces$Rates", "latest", "(III)I"⟩ ∈ xgood := xgood_in (List.mem_of_getElem? (i := 776) (by decide +kernel)) (by decide +kernel)
theorem wd777 : Cond.code ⟨"SalePlaces$Rates", "latest", "(III)I"⟩ cX6_latest 5 (some .int) ∈ xgood := xgood_in (List.mem_of_getElem? (i := 777) (by decide +kernel)) (by decide +kernel)
theorem wd778 : Cond.methodLink "SalePlaces$Reader" 209 ⟨"SalePlaces$Rates", "add", "(IIII)V"⟩ ∈ xgood := xgood_in (List.mem_of_getElem? (i := 778) (by decide +kernel)) (by decide +kernel)
theorem wd779 : Cond.instanceMethod ⟨"SalePlaces$Rates", "add", "(IIII)V"⟩ ∈ xgood := xgood_in (List.mem_of_getElem? (i := 779) (by decide +kernel)) (by decide +kernel)
theorem wd780 : Cond.selects "SalePlaces$Rates" ⟨"SalePlaces$Rates", "add", "(IIII)V"⟩ ⟨"SalePlaces$Rates", "add", "(IIII)V"⟩ ∈ xgood := xgood_in (List.mem_of_getElem? (i := 780) (by decide +kernel)) (by decide +kernel)
theorem wd781 : Cond.code ⟨"SalePlaces$Rates", "add", "(IIII)V"⟩ cX6_add 5 none ∈ xgood := xgood_in (List.mem_of_getElem? (i := 781) (by decide +kernel)) (by decide +kernel)
theorem wd783 : Cond.methodLink "SalePlaces$Reader" 141 ⟨"SalePlaces$Reader", "readHoliday", "()Z"⟩ ∈ xgood := xgood_in (List.mem_of_getElem? (i := 783) (by decide +kernel)) (by decide +kernel)
theorem wd785 : Cond.instanceMethod ⟨"SalePlaces$Reader", "readHoliday", "()Z"⟩ ∈ xgood := xgood_in (List.mem_of_getElem? (i := 785) (by decide +kernel)) (by decide +kernel)
theorem wd786 : Cond.code ⟨"SalePlaces$Reader", "readHoliday", "()Z"⟩ cX7_readHoliday 6 (some .boolean) ∈ xgood := xgood_in (List.mem_of_getElem? (i := 786) (by decide +kernel)) (by decide +kernel)
theorem wd788 : Cond.methodLink "SalePlaces$Reader" 214 ⟨"SalePlaces$Tariff", "addHoliday", "(IIIII)V"⟩ ∈ xgood := xgood_in (List.mem_of_getElem? (i := 788) (by decide +kernel)) (by decide +kernel)
theorem wd789 : Cond.instanceMethod ⟨"SalePlaces$Tariff", "addHoliday", "(IIIII)V"⟩ ∈ xgood := xgood_in (List.mem_of_getElem? (i := 789) (by decide +kernel)) (by decide +kernel)
theorem wd790 : Cond.selects "SalePlaces$Tariff" ⟨"SalePlaces$Tariff", "addHoliday", "(IIIII)V"⟩ ⟨"SalePlaces$Tariff", "addHoliday", "(IIIII)V"⟩ ∈ xgood := xgood_in (List.mem_of_getElem? (i := 790) (by decide +kernel)) (by decide +kernel)
theorem wd791 : Cond.code ⟨"SalePlaces$Tariff", "addHoliday", "(IIIII)V"⟩ cX9_addHoliday 6 none ∈ xgood := xgood_in (List.mem_of_getElem? (i := 791) (by decide +kernel)) (by decide +kernel)
theorem wd793 : Cond.methodLink "SalePlaces$Reader" 149 ⟨"SalePlaces$Reader", "readCap", "()Z"⟩ ∈ xgood := xgood_in (List.mem_of_getElem? (i := 793) (by decide +kernel)) (by decide +kernel)
theorem wd795 : Cond.instanceMethod ⟨"SalePlaces$Reader", "readCap", "()Z"⟩ ∈ xgood := xgood_in (List.mem_of_getElem? (i := 795) (by decide +kernel)) (by decide +kernel)
theorem wd796 : Cond.code ⟨"SalePlaces$Reader", "readCap", "()Z"⟩ cX7_readCap 5 (some .boolean) ∈ xgood := xgood_in (List.mem_of_getElem? (i := 796) (by decide +kernel)) (by decide +kernel)
theorem wd797 : Cond.methodLink "SalePlaces$Reader" 218 ⟨"SalePlaces$Tariff", "capTold", "(II)I"⟩ ∈ xgood := xgood_in (List.mem_of_getElem? (i := 797) (by decide +kernel)) (by decide +kernel)
theorem wd798 : Cond.instanceMethod ⟨"SalePlaces$Tariff", "capTold", "(II)I"⟩ ∈ xgood := xgood_in (List.mem_of_getElem? (i := 798) (by decide +kernel)) (by decide +kernel)
theorem wd799 : Cond.selects "SalePlaces$Tariff" ⟨"SalePlaces$Tariff", "capTold", "(II)I"⟩ ⟨"SalePlaces$Tariff", "capTold", "(II)I"⟩ ∈ xgood := xgood_in (List.mem_of_getElem? (i := 799) (by decide +kernel)) (by decide +kernel)
theorem wd800 : Cond.code ⟨"SalePlaces$Tariff", "capTold", "(II)I"⟩ cX9_capTold 4 (some .int) ∈ xgood := xgood_in (List.mem_of_getElem? (i := 800) (by decide +kernel)) (by decide +kernel)
theorem wd801 : Cond.methodLink "SalePlaces$Reader" 221 ⟨"SalePlaces$Tariff", "addCap", "(III)V"⟩ ∈ xgood := xgood_in (List.mem_of_getElem? (i := 801) (by decide +kernel)) (by decide +kernel)
theorem wd802 : Cond.instanceMethod ⟨"SalePlaces$Tariff", "addCap", "(III)V"⟩ ∈ xgood := xgood_in (List.mem_of_getElem? (i := 802) (by decide +kernel)) (by decide +kernel)
theorem wd803 : Cond.selects "SalePlaces$Tariff" ⟨"SalePlaces$Tariff", "addCap", "(III)V"⟩ ⟨"SalePlaces$Tariff", "addCap", "(III)V"⟩ ∈ xgood := xgood_in (List.mem_of_getElem? (i := 803) (by decide +kernel)) (by decide +kernel)
theorem wd804 : Cond.code ⟨"SalePlaces$Tariff", "addCap", "(III)V"⟩ cX9_addCap 4 none ∈ xgood := xgood_in (List.mem_of_getElem? (i := 804) (by decide +kernel)) (by decide +kernel)
theorem wd805 : Cond.methodLink "SalePlaces$Reader" 51 ⟨"SalePlaces$Reader", "isWhole", "()Z"⟩ ∈ xgood := xgood_in (List.mem_of_getElem? (i := 805) (by decide +kernel)) (by decide +kernel)
theorem wd807 : Cond.instanceMethod ⟨"SalePlaces$Reader", "isWhole", "()Z"⟩ ∈ xgood := xgood_in (List.mem_of_getElem? (i := 807) (by decide +kernel)) (by decide +kernel)
theorem wd808 : Cond.code ⟨"SalePlaces$Reader", "isWhole", "()Z"⟩ cX7_isWhole 1 (some .boolean) ∈ xgood := xgood_in (List.mem_of_getElem? (i := 808) (by decide +kernel)) (by decide +kernel)
theorem wd809 : Cond.methodLink "SalePlaces" 79 ⟨"SalePlaces$Book", "empty", "()V"⟩ ∈ xgood := xgood_in (List.mem_of_getElem? (i := 809) (by decide +kernel)) (by decide +kernel)
theorem wd810 : Cond.instanceMethod ⟨"SalePlaces$Book", "empty", "()V"⟩ ∈ xgood := xgood_in (List.mem_of_getElem? (i := 810) (by decide +kernel)) (by decide +kernel)
theorem wd811 : Cond.selects "SalePlaces$Book" ⟨"SalePlaces$Book", "empty", "()V"⟩ ⟨"SalePlaces$Book", "empty", "()V"⟩ ∈ xgood := xgood_in (List.mem_of_getElem? (i := 811) (by decide +kernel)) (by decide +kernel)
theorem wd812 : Cond.code ⟨"SalePlaces$Book", "empty", "()V"⟩ cX1_empty 1 none ∈ xgood := xgood_in (List.mem_of_getElem? (i := 812) (by decide +kernel)) (by decide +kernel)
theorem wd813 : Cond.methodLink "SalePlaces" 94 ⟨"SalePlaces", "grant", "(I)I"⟩ ∈ xgood := xgood_in (List.mem_of_getElem? (i := 813) (by decide +kernel)) (by decide +kernel)
theorem wd815 : Cond.instanceMethod ⟨"SalePlaces", "grant", "(I)I"⟩ ∈ xgood := xgood_in (List.mem_of_getElem? (i := 815) (by decide +kernel)) (by decide +kernel)
theorem wd816 : Cond.code ⟨"SalePlaces", "grant", "(I)I"⟩ cX10_grant 2 (some .int) ∈ xgood := xgood_in (List.mem_of_getElem? (i := 816) (by decide +kernel)) (by decide +kernel)
theorem wd817 : Cond.methodLink "SalePlacesLaw" 28 ⟨"SalePlaces", "fault", "()I"⟩ ∈ xgood := xgood_in (List.mem_of_getElem? (i := 817) (by decide +kernel)) (by decide +kernel)
theorem wd818 : Cond.instanceMethod ⟨"SalePlaces", "fault", "()I"⟩ ∈ xgood := xgood_in (List.mem_of_getElem? (i := 818) (by decide +kernel)) (by decide +kernel)
theorem wd819 : Cond.selects "SalePlaces" ⟨"SalePlaces", "fault", "()I"⟩ ⟨"SalePlaces", "fault", "()I"⟩ ∈ xgood := xgood_in (List.mem_of_getElem? (i := 819) (by decide +kernel)) (by decide +kernel)
theorem wd820 : Cond.code ⟨"SalePlaces", "fault", "()I"⟩ cX10_fault 1 (some .int) ∈ xgood := xgood_in (List.mem_of_getElem? (i := 820) (by decide +kernel)) (by decide +kernel)
theorem wd821 : Cond.methodLink "SalePlacesLaw" 33 ⟨"SalePlaces", "where", "()I"⟩ ∈ xgood := xgood_in (List.mem_of_getElem? (i := 821) (by decide +kernel)) (by decide +kernel)
theorem wd822 : Cond.instanceMethod ⟨"SalePlaces", "where", "()I"⟩ ∈ xgood := xgood_in (List.mem_of_getElem? (i := 822) (by decide +kernel)) (by decide +kernel)
theorem wd823 : Cond.selects "SalePlaces" ⟨"SalePlaces", "where", "()I"⟩ ⟨"SalePlaces", "where", "()I"⟩ ∈ xgood := xgood_in (List.mem_of_getElem? (i := 823) (by decide +kernel)) (by decide +kernel)
theorem wd824 : Cond.code ⟨"SalePlaces", "where", "()I"⟩ cX10_where 1 (some .int) ∈ xgood := xgood_in (List.mem_of_getElem? (i := 824) (by decide +kernel)) (by decide +kernel)
theorem wd825 : Cond.methodLink "SalePlacesLaw" 37 ⟨"SalePlaces", "about", "(I)I"⟩ ∈ xgood := xgood_in (List.mem_of_getElem? (i := 825) (by decide +kernel)) (by decide +kernel)
theorem wd826 : Cond.instanceMethod ⟨"SalePlaces", "about", "(I)I"⟩ ∈ xgood := xgood_in (List.mem_of_getElem? (i := 826) (by decide +kernel)) (by decide +kernel)
theorem wd827 : Cond.selects "SalePlaces" ⟨"SalePlaces", "about", "(I)I"⟩ ⟨"SalePlaces", "about", "(I)I"⟩ ∈ xgood := xgood_in (List.mem_of_getElem? (i := 827) (by decide +kernel)) (by decide +kernel)
theorem wd828 : Cond.code ⟨"SalePlaces", "about", "(I)I"⟩ cX10_about 2 (some .int) ∈ xgood := xgood_in (List.mem_of_getElem? (i := 828) (by decide +kernel)) (by decide +kernel)
theorem wd829 : Cond.methodLink "SalePlaces" 107 ⟨"SalePlaces$Desk", "tells", "(I)I"⟩ ∈ xgood := xgood_in (List.mem_of_getElem? (i := 829) (by decide +kernel)) (by decide +kernel)
theorem wd830 : Cond.instanceMethod ⟨"SalePlaces$Desk", "tells", "(I)I"⟩ ∈ xgood := xgood_in (List.mem_of_getElem? (i := 830) (by decide +kernel)) (by decide +kernel)
theorem wd831 : Cond.selects "SalePlaces$Desk" ⟨"SalePlaces$Desk", "tells", "(I)I"⟩ ⟨"SalePlaces$Desk", "tells", "(I)I"⟩ ∈ xgood := xgood_in (List.mem_of_getElem? (i := 831) (by decide +kernel)) (by decide +kernel)
theorem wd832 : Cond.code ⟨"SalePlaces$Desk", "tells", "(I)I"⟩ cX3_tells 2 (some .int) ∈ xgood := xgood_in (List.mem_of_getElem? (i := 832) (by decide +kernel)) (by decide +kernel)
theorem wd833 : Cond.methodLink "SalePlacesLaw" 41 ⟨"SalePlaces", "above", "(I)I"⟩ ∈ xgood := xgood_in (List.mem_of_getElem? (i := 833) (by decide +kernel)) (by decide +kernel)
theorem wd834 : Cond.instanceMethod ⟨"SalePlaces", "above", "(I)I"⟩ ∈ xgood := xgood_in (List.mem_of_getElem? (i := 834) (by decide +kernel)) (by decide +kernel)
theorem wd835 : Cond.selects "SalePlaces" ⟨"SalePlaces", "above", "(I)I"⟩ ⟨"SalePlaces", "above", "(I)I"⟩ ∈ xgood := xgood_in (List.mem_of_getElem? (i := 835) (by decide +kernel)) (by decide +kernel)
theorem wd836 : Cond.code ⟨"SalePlaces", "above", "(I)I"⟩ cX10_above 2 (some .int) ∈ xgood := xgood_in (List.mem_of_getElem? (i := 836) (by decide +kernel)) (by decide +kernel)
theorem wd837 : Cond.methodLink "SalePlaces" 110 ⟨"SalePlaces", "isClass", "(I)Z"⟩ ∈ xgood := xgood_in (List.mem_of_getElem? (i := 837) (by decide +kernel)) (by decide +kernel)
theorem wd839 : Cond.instanceMethod ⟨"SalePlaces", "isClass", "(I)Z"⟩ ∈ xgood := xgood_in (List.mem_of_getElem? (i := 839) (by decide +kernel)) (by decide +kernel)
theorem wd840 : Cond.code ⟨"SalePlaces", "isClass", "(I)Z"⟩ cX10_isClass 2 (some .boolean) ∈ xgood := xgood_in (List.mem_of_getElem? (i := 840) (by decide +kernel)) (by decide +kernel)
theorem wd841 : Cond.methodLink "SalePlacesLaw" 45 ⟨"SalePlaces", "place", "(II)I"⟩ ∈ xgood := xgood_in (List.mem_of_getElem? (i := 841) (by decide +kernel)) (by decide +kernel)
theorem wd842 : Cond.instanceMethod ⟨"SalePlaces", "place", "(II)I"⟩ ∈ xgood := xgood_in (List.mem_of_getElem? (i := 842) (by decide +kernel)) (by decide +kernel)
theorem wd843 : Cond.selects "SalePlaces" ⟨"SalePlaces", "place", "(II)I"⟩ ⟨"SalePlaces", "place", "(II)I"⟩ ∈ xgood := xgood_in (List.mem_of_getElem? (i := 843) (by decide +kernel)) (by decide +kernel)
theorem wd844 : Cond.code ⟨"SalePlaces", "place", "(II)I"⟩ cX10_place 4 (some .int) ∈ xgood := xgood_in (List.mem_of_getElem? (i := 844) (by decide +kernel)) (by decide +kernel)
theorem wd845 : Cond.methodLink "SalePlaces" 123 ⟨"SalePlaces", "isPlace", "(I)Z"⟩ ∈ xgood := xgood_in (List.mem_of_getElem? (i := 845) (by decide +kernel)) (by decide +kernel)
theorem wd847 : Cond.instanceMethod ⟨"SalePlaces", "isPlace", "(I)Z"⟩ ∈ xgood := xgood_in (List.mem_of_getElem? (i := 847) (by decide +kernel)) (by decide +kernel)
theorem wd848 : Cond.code ⟨"SalePlaces", "isPlace", "(I)Z"⟩ cX10_isPlace 2 (some .boolean) ∈ xgood := xgood_in (List.mem_of_getElem? (i := 848) (by decide +kernel)) (by decide +kernel)
theorem wd849 : Cond.methodLink "SalePlaces" 130 ⟨"SalePlaces$Bounds", "countOf", "(I)I"⟩ ∈ xgood := xgood_in (List.mem_of_getElem? (i := 849) (by decide +kernel)) (by decide +kernel)
theorem wd850 : Cond.instanceMethod ⟨"SalePlaces$Bounds", "countOf", "(I)I"⟩ ∈ xgood := xgood_in (List.mem_of_getElem? (i := 850) (by decide +kernel)) (by decide +kernel)
theorem wd851 : Cond.selects "SalePlaces$Bounds" ⟨"SalePlaces$Bounds", "countOf", "(I)I"⟩ ⟨"SalePlaces$Bounds", "countOf", "(I)I"⟩ ∈ xgood := xgood_in (List.mem_of_getElem? (i := 851) (by decide +kernel)) (by decide +kernel)
theorem wd852 : Cond.code ⟨"SalePlaces$Bounds", "countOf", "(I)I"⟩ cX2_countOf 4 (some .int) ∈ xgood := xgood_in (List.mem_of_getElem? (i := 852) (by decide +kernel)) (by decide +kernel)
theorem wd854 : Cond.static ⟨"SalePlaces", "bit", "(Z)I"⟩ ∈ xgood := xgood_in (List.mem_of_getElem? (i := 854) (by decide +kernel)) (by decide +kernel)
theorem wd855 : Cond.code ⟨"SalePlaces", "bit", "(Z)I"⟩ cX10_bit 1 (some .int) ∈ xgood := xgood_in (List.mem_of_getElem? (i := 855) (by decide +kernel)) (by decide +kernel)
theorem wd856 : Cond.methodLink "SalePlaces" 142 ⟨"SalePlaces", "bit", "(Z)I"⟩ ∈ xgood := xgood_in (List.mem_of_getElem? (i := 856) (by decide +kernel)) (by decide +kernel)
theorem wd857 : Cond.methodLink "SalePlacesLaw" 50 ⟨"SalePlaces", "corners", "(II)I"⟩ ∈ xgood := xgood_in (List.mem_of_getElem? (i := 857) (by decide +kernel)) (by decide +kernel)
theorem wd858 : Cond.instanceMethod ⟨"SalePlaces", "corners", "(II)I"⟩ ∈ xgood := xgood_in (List.mem_of_getElem? (i := 858) (by decide +kernel)) (by decide +kernel)
theorem wd859 : Cond.selects "SalePlaces" ⟨"SalePlaces", "corners", "(II)I"⟩ ⟨"SalePlaces", "corners", "(II)I"⟩ ∈ xgood := xgood_in (List.mem_of_getElem? (i := 859) (by decide +kernel)) (by decide +kernel)
theorem wd860 : Cond.code ⟨"SalePlaces", "corners", "(II)I"⟩ cX10_corners 3 (some .int) ∈ xgood := xgood_in (List.mem_of_getElem? (i := 860) (by decide +kernel)) (by decide +kernel)
theorem wd861 : Cond.methodLink "SalePlaces" 146 ⟨"SalePlaces", "isDay", "(I)Z"⟩ ∈ xgood := xgood_in (List.mem_of_getElem? (i := 861) (by decide +kernel)) (by decide +kernel)
theorem wd862 : Cond.static ⟨"SalePlaces", "isDay", "(I)Z"⟩ ∈ xgood := xgood_in (List.mem_of_getElem? (i := 862) (by decide +kernel)) (by decide +kernel)
theorem wd863 : Cond.code ⟨"SalePlaces", "isDay", "(I)Z"⟩ cX10_isDay 1 (some .boolean) ∈ xgood := xgood_in (List.mem_of_getElem? (i := 863) (by decide +kernel)) (by decide +kernel)
theorem wd864 : Cond.methodLink "SalePlaces" 149 ⟨"SalePlaces$Bounds", "cornersOn", "(II)I"⟩ ∈ xgood := xgood_in (List.mem_of_getElem? (i := 864) (by decide +kernel)) (by decide +kernel)
theorem wd865 : Cond.instanceMethod ⟨"SalePlaces$Bounds", "cornersOn", "(II)I"⟩ ∈ xgood := xgood_in (List.mem_of_getElem? (i := 865) (by decide +kernel)) (by decide +kernel)
theorem wd866 : Cond.selects "SalePlaces$Bounds" ⟨"SalePlaces$Bounds", "cornersOn", "(II)I"⟩ ⟨"SalePlaces$Bounds", "cornersOn", "(II)I"⟩ ∈ xgood := xgood_in (List.mem_of_getElem? (i := 866) (by decide +kernel)) (by decide +kernel)
theorem wd867 : Cond.code ⟨"SalePlaces$Bounds", "cornersOn", "(II)I"⟩ cX2_cornersOn 4 (some .int) ∈ xgood := xgood_in (List.mem_of_getElem? (i := 867) (by decide +kernel)) (by decide +kernel)
theorem wd868 : Cond.methodLink "SalePlacesLaw" 54 ⟨"SalePlaces", "corner", "(IIII)I"⟩ ∈ xgood := xgood_in (List.mem_of_getElem? (i := 868) (by decide +kernel)) (by decide +kernel)
theorem wd869 : Cond.instanceMethod ⟨"SalePlaces", "corner", "(IIII)I"⟩ ∈ xgood := xgood_in (List.mem_of_getElem? (i := 869) (by decide +kernel)) (by decide +kernel)
theorem wd870 : Cond.selects "SalePlaces" ⟨"SalePlaces", "corner", "(IIII)I"⟩ ⟨"SalePlaces", "corner", "(IIII)I"⟩ ∈ xgood := xgood_in (List.mem_of_getElem? (i := 870) (by decide +kernel)) (by decide +kernel)
theorem wd871 : Cond.code ⟨"SalePlaces", "corner", "(IIII)I"⟩ cX10_corner 8 (some .int) ∈ xgood := xgood_in (List.mem_of_getElem? (i := 871) (by decide +kernel)) (by decide +kernel)
theorem wd872 : Cond.methodLink "SalePlaces" 153 ⟨"SalePlaces$Bounds", "latest", "(II)I"⟩ ∈ xgood := xgood_in (List.mem_of_getElem? (i := 872) (by decide +kernel)) (by decide +kernel)
theorem wd873 : Cond.methodLink "SalePlacesLaw" 59 ⟨"SalePlaces", "area", "(II)I"⟩ ∈ xgood := xgood_in (List.mem_of_getElem? (i := 873) (by decide +kernel)) (by decide +kernel)
theorem wd874 : Cond.instanceMethod ⟨"SalePlaces", "area", "(II)I"⟩ ∈ xgood := xgood_in (List.mem_of_getElem? (i := 874) (by decide +kernel)) (by decide +kernel)
theorem wd875 : Cond.selects "SalePlaces" ⟨"SalePlaces", "area", "(II)I"⟩ ⟨"SalePlaces", "area", "(II)I"⟩ ∈ xgood := xgood_in (List.mem_of_getElem? (i := 875) (by decide +kernel)) (by decide +kernel)
theorem wd876 : Cond.code ⟨"SalePlaces", "area", "(II)I"⟩ cX10_area 5 (some .int) ∈ xgood := xgood_in (List.mem_of_getElem? (i := 876) (by decide +kernel)) (by decide +kernel)
theorem wd877 : Cond.methodLink "SalePlaces" 165 ⟨"SalePlaces", "refuseFar", "(I)I"⟩ ∈ xgood := xgood_in (List.mem_of_getElem? (i := 877) (by decide +kernel)) (by decide +kernel)
theorem wd879 : Cond.instanceMethod ⟨"SalePlaces", "refuseFar", "(I)I"⟩ ∈ xgood := xgood_in (List.mem_of_getElem? (i := 879) (by decide +kernel)) (by decide +kernel)
theorem wd880 : Cond.code ⟨"SalePlaces", "refuseFar", "(I)I"⟩ cX10_refuseFar 2 (some .int) ∈ xgood := xgood_in (List.mem_of_getElem? (i := 880) (by decide +kernel)) (by decide +kernel)
theorem wd881 : Cond.constant "SalePlaces" 359 (-2147483648) ∈ xgood := xgood_in (List.mem_of_getElem? (i := 881) (by decide +kernel)) (by decide +kernel)
theorem wd882 : Cond.methodLink "SalePlaces" 168 ⟨"SalePlaces$Bounds", "twiceArea", "(I)I"⟩ ∈ xgood := xgood_in (List.mem_of_getElem? (i := 882) (by decide +kernel)) (by decide +kernel)
theorem wd883 : Cond.instanceMethod ⟨"SalePlaces$Bounds", "twiceArea", "(I)I"⟩ ∈ xgood := xgood_in (List.mem_of_getElem? (i := 883) (by decide +kernel)) (by decide +kernel)
theorem wd884 : Cond.selects "SalePlaces$Bounds" ⟨"SalePlaces$Bounds", "twiceArea", "(I)I"⟩ ⟨"SalePlaces$Bounds", "twiceArea", "(I)I"⟩ ∈ xgood := xgood_in (List.mem_of_getElem? (i := 884) (by decide +kernel)) (by decide +kernel)
theorem wd885 : Cond.code ⟨"SalePlaces$Bounds", "twiceArea", "(I)I"⟩ cX2_twiceArea 6 (some .int) ∈ xgood := xgood_in (List.mem_of_getElem? (i := 885) (by decide +kernel)) (by decide +kernel)
theorem wd886 : Cond.methodLink "SalePlacesLaw" 63 ⟨"SalePlaces", "inside", "(IIII)I"⟩ ∈ xgood := xgood_in (List.mem_of_getElem? (i := 886) (by decide +kernel)) (by decide +kernel)
theorem wd887 : Cond.instanceMethod ⟨"SalePlaces", "inside", "(IIII)I"⟩ ∈ xgood := xgood_in (List.mem_of_getElem? (i := 887) (by decide +kernel)) (by decide +kernel)
theorem wd888 : Cond.selects "SalePlaces" ⟨"SalePlaces", "inside", "(IIII)I"⟩ ⟨"SalePlaces", "inside", "(IIII)I"⟩ ∈ xgood := xgood_in (List.mem_of_getElem? (i := 888) (by decide +kernel)) (by decide +kernel)
theorem wd889 : Cond.code ⟨"SalePlaces", "inside", "(IIII)I"⟩ cX10_inside 6 (some .int) ∈ xgood := xgood_in (List.mem_of_getElem? (i := 889) (by decide +kernel)) (by decide +kernel)
theorem wd890 : Cond.methodLink "SalePlaces" 171 ⟨"SalePlaces", "isPoint", "(II)Z"⟩ ∈ xgood := xgood_in (List.mem_of_getElem? (i := 890) (by decide +kernel)) (by decide +kernel)
theorem wd892 : Cond.instanceMethod ⟨"SalePlaces", "isPoint", "(II)Z"⟩ ∈ xgood := xgood_in (List.mem_of_getElem? (i := 892) (by decide +kernel)) (by decide +kernel)
theorem wd893 : Cond.code ⟨"SalePlaces", "isPoint", "(II)Z"⟩ cX10_isPoint 3 (some .boolean) ∈ xgood := xgood_in (List.mem_of_getElem? (i := 893) (by decide +kernel)) (by decide +kernel)
theorem wd894 : Cond.methodLink "SalePlaces" 175 ⟨"SalePlaces$Bounds", "holds", "(III)Z"⟩ ∈ xgood := xgood_in (List.mem_of_getElem? (i := 894) (by decide +kernel)) (by decide +kernel)
theorem wd895 : Cond.instanceMethod ⟨"SalePlaces$Bounds", "holds", "(III)Z"⟩ ∈ xgood := xgood_in (List.mem_of_getElem? (i := 895) (by decide +kernel)) (by decide +kernel)
theorem wd896 : Cond.selects "SalePlaces$Bounds" ⟨"SalePlaces$Bounds", "holds", "(III)Z"⟩ ⟨"SalePlaces$Bounds", "holds", "(III)Z"⟩ ∈ xgood := xgood_in (List.mem_of_getElem? (i := 896) (by decide +kernel)) (by decide +kernel)
theorem wd897 : Cond.code ⟨"SalePlaces$Bounds", "holds", "(III)Z"⟩ cX2_holds 8 (some .boolean) ∈ xgood := xgood_in (List.mem_of_getElem? (i := 897) (by decide +kernel)) (by decide +kernel)
theorem wd898 : Cond.methodLink "SalePlaces$Bounds" 39 ⟨"SalePlaces$Bounds", "isEast", "(IIII)Z"⟩ ∈ xgood := xgood_in (List.mem_of_getElem? (i := 898) (by decide +kernel)) (by decide +kernel)
theorem wd900 : Cond.instanceMethod ⟨"SalePlaces$Bounds", "isEast", "(IIII)Z"⟩ ∈ xgood := xgood_in (List.mem_of_getElem? (i := 900) (by decide +kernel)) (by decide +kernel)
theorem wd901 : Cond.code ⟨"SalePlaces$Bounds", "isEast", "(IIII)Z"⟩ cX2_isEast 7 (some .boolean) ∈ xgood := xgood_in (List.mem_of_getElem? (i := 901) (by decide +kernel)) (by decide +kernel)
theorem wd902 : Cond.methodLink "SalePlacesLaw" 67 ⟨"SalePlaces", "onEdge", "(IIII)I"⟩ ∈ xgood := xgood_in (List.mem_of_getElem? (i := 902) (by decide +kernel)) (by decide +kernel)
theorem wd903 : Cond.instanceMethod ⟨"SalePlaces", "onEdge", "(IIII)I"⟩ ∈ xgood := xgood_in (List.mem_of_getElem? (i := 903) (by decide +kernel)) (by decide +kernel)
theorem wd904 : Cond.selects "SalePlaces" ⟨"SalePlaces", "onEdge", "(IIII)I"⟩ ⟨"SalePlaces", "onEdge", "(IIII)I"⟩ ∈ xgood := xgood_in (List.mem_of_getElem? (i := 904) (by decide +kernel)) (by decide +kernel)
theorem wd905 : Cond.code ⟨"SalePlaces", "onEdge", "(IIII)I"⟩ cX10_onEdge 7 (some .int) ∈ xgood := xgood_in (List.mem_of_getElem? (i := 905) (by decide +kernel)) (by decide +kernel)
theorem wd906 : Cond.methodLink "SalePlaces" 178 ⟨"SalePlaces$Bounds", "touches", "(III)Z"⟩ ∈ xgood := xgood_in (List.mem_of_getElem? (i := 906) (by decide +kernel)) (by decide +kernel)
theorem wd907 : Cond.instanceMethod ⟨"SalePlaces$Bounds", "touches", "(III)Z"⟩ ∈ xgood := xgood_in (List.mem_of_getElem? (i := 907) (by decide +kernel)) (by decide +kernel)
theorem wd908 : Cond.selects "SalePlaces$Bounds" ⟨"SalePlaces$Bounds", "touches", "(III)Z"⟩ ⟨"SalePlaces$Bounds", "touches", "(III)Z"⟩ ∈ xgood := xgood_in (List.mem_of_getElem? (i := 908) (by decide +kernel)) (by decide +kernel)
theorem wd909 : Cond.code ⟨"SalePlaces$Bounds", "touches", "(III)Z"⟩ cX2_touches 7 (some .boolean) ∈ xgood := xgood_in (List.mem_of_getElem? (i := 909) (by decide +kernel)) (by decide +kernel)
theorem wd910 : Cond.methodLink "SalePlaces$Bounds" 43 ⟨"SalePlaces$Bounds", "isOn", "(IIII)Z"⟩ ∈ xgood := xgood_in (List.mem_of_getElem? (i := 910) (by decide +kernel)) (by decide +kernel)
theorem wd912 : Cond.instanceMethod ⟨"SalePlaces$Bounds", "isOn", "(IIII)Z"⟩ ∈ xgood := xgood_in (List.mem_of_getElem? (i := 912) (by decide +kernel)) (by decide +kernel)
theorem wd913 : Cond.code ⟨"SalePlaces$Bounds", "isOn", "(IIII)Z"⟩ cX2_isOn 6 (some .boolean) ∈ xgood := xgood_in (List.mem_of_getElem? (i := 913) (by decide +kernel)) (by decide +kernel)
theorem wd914 : Cond.methodLink "SalePlaces$Bounds" 46 ⟨"java/lang/Math", "min", "(II)I"⟩ ∈ xgood := xgood_in (List.mem_of_getElem? (i := 914) (by decide +kernel)) (by decide +kernel)
theorem wd915 : Cond.static ⟨"java/lang/Math", "min", "(II)I"⟩ ∈ xgood := xgood_in (List.mem_of_getElem? (i := 915) (by decide +kernel)) (by decide +kernel)
theorem wd916 : Cond.code Lib.Math.min.name Lib.Math.min.code 2 (some .int) ∈ xgood := xgood_in (List.mem_of_getElem? (i := 916) (by decide +kernel)) (by decide +kernel)
theorem wd917 : Cond.methodLink "SalePlaces$Bounds" 51 ⟨"java/lang/Math", "max", "(II)I"⟩ ∈ xgood := xgood_in (List.mem_of_getElem? (i := 917) (by decide +kernel)) (by decide +kernel)
theorem wd918 : Cond.static ⟨"java/lang/Math", "max", "(II)I"⟩ ∈ xgood := xgood_in (List.mem_of_getElem? (i := 918) (by decide +kernel)) (by decide +kernel)
theorem wd919 : Cond.code Lib.Math.max.name Lib.Math.max.code 2 (some .int) ∈ xgood := xgood_in (List.mem_of_getElem? (i := 919) (by decide +kernel)) (by decide +kernel)
theorem wd921 : Cond.methodLink "SalePlacesLaw" 71 ⟨"SalePlaces", "nextMove", "(II)I"⟩ ∈ xgood := xgood_in (List.mem_of_getElem? (i := 921) (by decide +kernel)) (by decide +kernel)
theorem wd922 : Cond.instanceMethod ⟨"SalePlaces", "nextMove", "(II)I"⟩ ∈ xgood := xgood_in (List.mem_of_getElem? (i := 922) (by decide +kernel)) (by decide +kernel)
theorem wd923 : Cond.selects "SalePlaces" ⟨"SalePlaces", "nextMove", "(II)I"⟩ ⟨"SalePlaces", "nextMove", "(II)I"⟩ ∈ xgood := xgood_in (List.mem_of_getElem? (i := 923) (by decide +kernel)) (by decide +kernel)
theorem wd924 : Cond.code ⟨"SalePlaces", "nextMove", "(II)I"⟩ cX10_nextMove 3 (some .int) ∈ xgood := xgood_in (List.mem_of_getElem? (i := 924) (by decide +kernel)) (by decide +kernel)
theorem wd925 : Cond.methodLink "SalePlaces" 181 ⟨"SalePlaces$Bounds", "nextOf", "(II)I"⟩ ∈ xgood := xgood_in (List.mem_of_getElem? (i := 925) (by decide +kernel)) (by decide +kernel)
theorem wd926 : Cond.instanceMethod ⟨"SalePlaces$Bounds", "nextOf", "(II)I"⟩ ∈ xgood := xgood_in (List.mem_of_getElem? (i := 926) (by decide +kernel)) (by decide +kernel)
theorem wd927 : Cond.selects "SalePlaces$Bounds" ⟨"SalePlaces$Bounds", "nextOf", "(II)I"⟩ ⟨"SalePlaces$Bounds", "nextOf", "(II)I"⟩ ∈ xgood := xgood_in (List.mem_of_getElem? (i := 927) (by decide +kernel)) (by decide +kernel)
theorem wd928 : Cond.code ⟨"SalePlaces$Bounds", "nextOf", "(II)I"⟩ cX2_nextOf 4 (some .int) ∈ xgood := xgood_in (List.mem_of_getElem? (i := 928) (by decide +kernel)) (by decide +kernel)
theorem wd929 : Cond.methodLink "SalePlacesLaw" 75 ⟨"SalePlaces", "settled", "(IIII)I"⟩ ∈ xgood := xgood_in (List.mem_of_getElem? (i := 929) (by decide +kernel)) (by decide +kernel)
theorem wd930 : Cond.instanceMethod ⟨"SalePlaces", "settled", "(IIII)I"⟩ ∈ xgood := xgood_in (List.mem_of_getElem? (i := 930) (by decide +kernel)) (by decide +kernel)
theorem wd931 : Cond.selects "SalePlaces" ⟨"SalePlaces", "settled", "(IIII)I"⟩ ⟨"SalePlaces", "settled", "(IIII)I"⟩ ∈ xgood := xgood_in (List.mem_of_getElem? (i := 931) (by decide +kernel)) (by decide +kernel)
theorem wd932 : Cond.code ⟨"SalePlaces", "settled", "(IIII)I"⟩ cX10_settled 5 (some .int) ∈ xgood := xgood_in (List.mem_of_getElem? (i := 932) (by decide +kernel)) (by decide +kernel)
theorem wd933 : Cond.methodLink "SalePlaces" 187 ⟨"SalePlaces$Ground", "look", "(I)V"⟩ ∈ xgood := xgood_in (List.mem_of_getElem? (i := 933) (by decide +kernel)) (by decide +kernel)
theorem wd934 : Cond.instanceMethod ⟨"SalePlaces$Ground", "look", "(I)V"⟩ ∈ xgood := xgood_in (List.mem_of_getElem? (i := 934) (by decide +kernel)) (by decide +kernel)
theorem wd935 : Cond.selects "SalePlaces$Ground" ⟨"SalePlaces$Ground", "look", "(I)V"⟩ ⟨"SalePlaces$Ground", "look", "(I)V"⟩ ∈ xgood := xgood_in (List.mem_of_getElem? (i := 935) (by decide +kernel)) (by decide +kernel)
theorem wd936 : Cond.code ⟨"SalePlaces$Ground", "look", "(I)V"⟩ cX4_look 3 none ∈ xgood := xgood_in (List.mem_of_getElem? (i := 936) (by decide +kernel)) (by decide +kernel)
theorem wd937 : Cond.methodLink "SalePlaces$Ground" 45 ⟨"SalePlaces$Bounds", "latest", "(II)I"⟩ ∈ xgood := xgood_in (List.mem_of_getElem? (i := 937) (by decide +kernel)) (by decide +kernel)
theorem wd938 : Cond.methodLink "SalePlaces" 190 ⟨"SalePlaces$Ground", "firstWith", "(III)I"⟩ ∈ xgood := xgood_in (List.mem_of_getElem? (i := 938) (by decide +kernel)) (by decide +kernel)
theorem wd939 : Cond.instanceMethod ⟨"SalePlaces$Ground", "firstWith", "(III)I"⟩ ∈ xgood := xgood_in (List.mem_of_getElem? (i := 939) (by decide +kernel)) (by decide +kernel)
theorem wd940 : Cond.selects "SalePlaces$Ground" ⟨"SalePlaces$Ground", "firstWith", "(III)I"⟩ ⟨"SalePlaces$Ground", "firstWith", "(III)I"⟩ ∈ xgood := xgood_in (List.mem_of_getElem? (i := 940) (by decide +kernel)) (by decide +kernel)
theorem wd941 : Cond.code ⟨"SalePlaces$Ground", "firstWith", "(III)I"⟩ cX4_firstWith 5 (some .int) ∈ xgood := xgood_in (List.mem_of_getElem? (i := 941) (by decide +kernel)) (by decide +kernel)
theorem wd942 : Cond.methodLink "SalePlaces$Ground" 49 ⟨"SalePlaces$Bounds", "holds", "(III)Z"⟩ ∈ xgood := xgood_in (List.mem_of_getElem? (i := 942) (by decide +kernel)) (by decide +kernel)
theorem wd943 : Cond.methodLink "SalePlacesLaw" 79 ⟨"SalePlaces", "stack", "(III)I"⟩ ∈ xgood := xgood_in (List.mem_of_getElem? (i := 943) (by decide +kernel)) (by decide +kernel)
theorem wd944 : Cond.instanceMethod ⟨"SalePlaces", "stack", "(III)I"⟩ ∈ xgood := xgood_in (List.mem_of_getElem? (i := 944) (by decide +kernel)) (by decide +kernel)
theorem wd945 : Cond.selects "SalePlaces" ⟨"SalePlaces", "stack", "(III)I"⟩ ⟨"SalePlaces", "stack", "(III)I"⟩ ∈ xgood := xgood_in (List.mem_of_getElem? (i := 945) (by decide +kernel)) (by decide +kernel)
theorem wd946 : Cond.code ⟨"SalePlaces", "stack", "(III)I"⟩ cX10_stack 4 (some .int) ∈ xgood := xgood_in (List.mem_of_getElem? (i := 946) (by decide +kernel)) (by decide +kernel)
theorem wd947 : Cond.methodLink "SalePlaces" 194 ⟨"SalePlaces$Ground", "pile", "(II)V"⟩ ∈ xgood := xgood_in (List.mem_of_getElem? (i := 947) (by decide +kernel)) (by decide +kernel)
theorem wd948 : Cond.instanceMethod ⟨"SalePlaces$Ground", "pile", "(II)V"⟩ ∈ xgood := xgood_in (List.mem_of_getElem? (i := 948) (by decide +kernel)) (by decide +kernel)
theorem wd949 : Cond.selects "SalePlaces$Ground" ⟨"SalePlaces$Ground", "pile", "(II)V"⟩ ⟨"SalePlaces$Ground", "pile", "(II)V"⟩ ∈ xgood := xgood_in (List.mem_of_getElem? (i := 949) (by decide +kernel)) (by decide +kernel)
theorem wd950 : Cond.code ⟨"SalePlaces$Ground", "pile", "(II)V"⟩ cX4_pile 5 none ∈ xgood := xgood_in (List.mem_of_getElem? (i := 950) (by decide +kernel)) (by decide +kernel)
theorem wd951 : Cond.methodLink "SalePlaces$Ground" 56 ⟨"SalePlaces$Ground", "firstWith", "(III)I"⟩ ∈ xgood := xgood_in (List.mem_of_getElem? (i := 951) (by decide +kernel)) (by decide +kernel)
theorem wd952 : Cond.methodLink "SalePlacesLaw" 84 ⟨"SalePlaces", "stackAt", "(IIII)I"⟩ ∈ xgood := xgood_in (List.mem_of_getElem? (i := 952) (by decide +kernel)) (by decide +kernel)
theorem wd953 : Cond.instanceMethod ⟨"SalePlaces", "stackAt", "(IIII)I"⟩ ∈ xgood := xgood_in (List.mem_of_getElem? (i := 953) (by decide +kernel)) (by decide +kernel)
theorem wd954 : Cond.selects "SalePlaces" ⟨"SalePlaces", "stackAt", "(IIII)I"⟩ ⟨"SalePlaces", "stackAt", "(IIII)I"⟩ ∈ xgood := xgood_in (List.mem_of_getElem? (i := 954) (by decide +kernel)) (by decide +kernel)
theorem wd955 : Cond.code ⟨"SalePlaces", "stackAt", "(IIII)I"⟩ cX10_stackAt 6 (some .int) ∈ xgood := xgood_in (List.mem_of_getElem? (i := 955) (by decide +kernel)) (by decide +kernel)
theorem wd956 : Cond.methodLink "SalePlacesLaw" 88 ⟨"SalePlaces", "nextStack", "(III)I"⟩ ∈ xgood := xgood_in (List.mem_of_getElem? (i := 956) (by decide +kernel)) (by decide +kernel)
theorem wd957 : Cond.instanceMethod ⟨"SalePlaces", "nextStack", "(III)I"⟩ ∈ xgood := xgood_in (List.mem_of_getElem? (i := 957) (by decide +kernel)) (by decide +kernel)
theorem wd958 : Cond.selects "SalePlaces" ⟨"SalePlaces", "nextStack", "(III)I"⟩ ⟨"SalePlaces", "nextStack", "(III)I"⟩ ∈ xgood := xgood_in (List.mem_of_getElem? (i := 958) (by decide +kernel)) (by decide +kernel)
theorem wd959 : Cond.code ⟨"SalePlaces", "nextStack", "(III)I"⟩ cX10_nextStack 4 (some .int) ∈ xgood := xgood_in (List.mem_of_getElem? (i := 959) (by decide +kernel)) (by decide +kernel)
theorem wd960 : Cond.methodLink "SalePlaces" 204 ⟨"SalePlaces$Ground", "nextPile", "(III)I"⟩ ∈ xgood := xgood_in (List.mem_of_getElem? (i := 960) (by decide +kernel)) (by decide +kernel)
theorem wd961 : Cond.instanceMethod ⟨"SalePlaces$Ground", "nextPile", "(III)I"⟩ ∈ xgood := xgood_in (List.mem_of_getElem? (i := 961) (by decide +kernel)) (by decide +kernel)
theorem wd962 : Cond.selects "SalePlaces$Ground" ⟨"SalePlaces$Ground", "nextPile", "(III)I"⟩ ⟨"SalePlaces$Ground", "nextPile", "(III)I"⟩ ∈ xgood := xgood_in (List.mem_of_getElem? (i := 962) (by decide +kernel)) (by decide +kernel)
theorem wd963 : Cond.code ⟨"SalePlaces$Ground", "nextPile", "(III)I"⟩ cX4_nextPile 7 (some .int) ∈ xgood := xgood_in (List.mem_of_getElem? (i := 963) (by decide +kernel)) (by decide +kernel)
theorem wd964 : Cond.methodLink "SalePlaces$Ground" 68 ⟨"SalePlaces$Ground", "pileMask", "(III)I"⟩ ∈ xgood := xgood_in (List.mem_of_getElem? (i := 964) (by decide +kernel)) (by decide +kernel)
theorem wd966 : Cond.instanceMethod ⟨"SalePlaces$Ground", "pileMask", "(III)I"⟩ ∈ xgood := xgood_in (List.mem_of_getElem? (i := 966) (by decide +kernel)) (by decide +kernel)
theorem wd967 : Cond.code ⟨"SalePlaces$Ground", "pileMask", "(III)I"⟩ cX4_pileMask 6 (some .int) ∈ xgood := xgood_in (List.mem_of_getElem? (i := 967) (by decide +kernel)) (by decide +kernel)
theorem wd968 : Cond.methodLink "SalePlaces$Ground" 60 ⟨"SalePlaces$Ground", "look", "(I)V"⟩ ∈ xgood := xgood_in (List.mem_of_getElem? (i := 968) (by decide +kernel)) (by decide +kernel)
theorem wd969 : Cond.methodLink "SalePlaces$Ground" 64 ⟨"SalePlaces$Ground", "pile", "(II)V"⟩ ∈ xgood := xgood_in (List.mem_of_getElem? (i := 969) (by decide +kernel)) (by decide +kernel)
theorem wd970 : Cond.methodLink "SalePlaces$Ground" 71 ⟨"SalePlaces$Bounds", "nextOfAll", "(I)I"⟩ ∈ xgood := xgood_in (List.mem_of_getElem? (i := 970) (by decide +kernel)) (by decide +kernel)
theorem wd971 : Cond.instanceMethod ⟨"SalePlaces$Bounds", "nextOfAll", "(I)I"⟩ ∈ xgood := xgood_in (List.mem_of_getElem? (i := 971) (by decide +kernel)) (by decide +kernel)
theorem wd972 : Cond.selects "SalePlaces$Bounds" ⟨"SalePlaces$Bounds", "nextOfAll", "(I)I"⟩ ⟨"SalePlaces$Bounds", "nextOfAll", "(I)I"⟩ ∈ xgood := xgood_in (List.mem_of_getElem? (i := 972) (by decide +kernel)) (by decide +kernel)
theorem wd973 : Cond.code ⟨"SalePlaces$Bounds", "nextOfAll", "(I)I"⟩ cX2_nextOfAll 4 (some .int) ∈ xgood := xgood_in (List.mem_of_getElem? (i := 973) (by decide +kernel)) (by decide +kernel)
theorem wd974 : Cond.methodLink "SalePlacesLaw" 92 ⟨"SalePlaces", "overlap", "(III)I"⟩ ∈ xgood := xgood_in (List.mem_of_getElem? (i := 974) (by decide +kernel)) (by decide +kernel)
theorem wd975 : Cond.instanceMethod ⟨"SalePlaces", "overlap", "(III)I"⟩ ∈ xgood := xgood_in (List.mem_of_getElem? (i := 975) (by decide +kernel)) (by decide +kernel)
theorem wd976 : Cond.selects "SalePlaces" ⟨"SalePlaces", "overlap", "(III)I"⟩ ⟨"SalePlaces", "overlap", "(III)I"⟩ ∈ xgood := xgood_in (List.mem_of_getElem? (i := 976) (by decide +kernel)) (by decide +kernel)
theorem wd977 : Cond.code ⟨"SalePlaces", "overlap", "(III)I"⟩ cX10_overlap 4 (some .int) ∈ xgood := xgood_in (List.mem_of_getElem? (i := 977) (by decide +kernel)) (by decide +kernel)
theorem wd978 : Cond.methodLink "SalePlaces" 207 ⟨"SalePlaces$Ground", "countShared", "(II)I"⟩ ∈ xgood := xgood_in (List.mem_of_getElem? (i := 978) (by decide +kernel)) (by decide +kernel)
theorem wd979 : Cond.instanceMethod ⟨"SalePlaces$Ground", "countShared", "(II)I"⟩ ∈ xgood := xgood_in (List.mem_of_getElem? (i := 979) (by decide +kernel)) (by decide +kernel)
theorem wd980 : Cond.selects "SalePlaces$Ground" ⟨"SalePlaces$Ground", "countShared", "(II)I"⟩ ⟨"SalePlaces$Ground", "countShared", "(II)I"⟩ ∈ xgood := xgood_in (List.mem_of_getElem? (i := 980) (by decide +kernel)) (by decide +kernel)
theorem wd981 : Cond.code ⟨"SalePlaces$Ground", "countShared", "(II)I"⟩ cX4_countShared 6 (some .int) ∈ xgood := xgood_in (List.mem_of_getElem? (i := 981) (by decide +kernel)) (by decide +kernel)
theorem wd983 : Cond.methodLink "SalePlacesLaw" 96 ⟨"SalePlaces", "points", "(II)I"⟩ ∈ xgood := xgood_in (List.mem_of_getElem? (i := 983) (by decide +kernel)) (by decide +kernel)
theorem wd984 : Cond.instanceMethod ⟨"SalePlaces", "points", "(II)I"⟩ ∈ xgood := xgood_in (List.mem_of_getElem? (i := 984) (by decide +kernel)) (by decide +kernel)
theorem wd985 : Cond.selects "SalePlaces" ⟨"SalePlaces", "points", "(II)I"⟩ ⟨"SalePlaces", "points", "(II)I"⟩ ∈ xgood := xgood_in (List.mem_of_getElem? (i := 985) (by decide +kernel)) (by decide +kernel)
theorem wd986 : Cond.code ⟨"SalePlaces", "points", "(II)I"⟩ cX10_points 3 (some .int) ∈ xgood := xgood_in (List.mem_of_getElem? (i := 986) (by decide +kernel)) (by decide +kernel)
theorem wd987 : Cond.methodLink "SalePlaces" 210 ⟨"SalePlaces$Ground", "countSettled", "(I)I"⟩ ∈ xgood := xgood_in (List.mem_of_getElem? (i := 987) (by decide +kernel)) (by decide +kernel)
theorem wd988 : Cond.instanceMethod ⟨"SalePlaces$Ground", "countSettled", "(I)I"⟩ ∈ xgood := xgood_in (List.mem_of_getElem? (i := 988) (by decide +kernel)) (by decide +kernel)
theorem wd989 : Cond.selects "SalePlaces$Ground" ⟨"SalePlaces$Ground", "countSettled", "(I)I"⟩ ⟨"SalePlaces$Ground", "countSettled", "(I)I"⟩ ∈ xgood := xgood_in (List.mem_of_getElem? (i := 989) (by decide +kernel)) (by decide +kernel)
theorem wd990 : Cond.code ⟨"SalePlaces$Ground", "countSettled", "(I)I"⟩ cX4_countSettled 5 (some .int) ∈ xgood := xgood_in (List.mem_of_getElem? (i := 990) (by decide +kernel)) (by decide +kernel)
theorem wd991 : Cond.methodLink "SalePlacesLaw" 100 ⟨"SalePlaces", "stacked", "(II)I"⟩ ∈ xgood := xgood_in (List.mem_of_getElem? (i := 991) (by decide +kernel)) (by decide +kernel)
theorem wd992 : Cond.instanceMethod ⟨"SalePlaces", "stacked", "(II)I"⟩ ∈ xgood := xgood_in (List.mem_of_getElem? (i := 992) (by decide +kernel)) (by decide +kernel)
theorem wd993 : Cond.selects "SalePlaces" ⟨"SalePlaces", "stacked", "(II)I"⟩ ⟨"SalePlaces", "stacked", "(II)I"⟩ ∈ xgood := xgood_in (List.mem_of_getElem? (i := 993) (by decide +kernel)) (by decide +kernel)
theorem wd994 : Cond.code ⟨"SalePlaces", "stacked", "(II)I"⟩ cX10_stacked 3 (some .int) ∈ xgood := xgood_in (List.mem_of_getElem? (i := 994) (by decide +kernel)) (by decide +kernel)
theorem wd995 : Cond.methodLink "SalePlaces" 213 ⟨"SalePlaces$Ground", "countPiled", "(I)I"⟩ ∈ xgood := xgood_in (List.mem_of_getElem? (i := 995) (by decide +kernel)) (by decide +kernel)
theorem wd996 : Cond.instanceMethod ⟨"SalePlaces$Ground", "countPiled", "(I)I"⟩ ∈ xgood := xgood_in (List.mem_of_getElem? (i := 996) (by decide +kernel)) (by decide +kernel)
theorem wd997 : Cond.selects "SalePlaces$Ground" ⟨"SalePlaces$Ground", "countPiled", "(I)I"⟩ ⟨"SalePlaces$Ground", "countPiled", "(I)I"⟩ ∈ xgood := xgood_in (List.mem_of_getElem? (i := 997) (by decide +kernel)) (by decide +kernel)
theorem wd998 : Cond.code ⟨"SalePlaces$Ground", "countPiled", "(I)I"⟩ cX4_countPiled 5 (some .int) ∈ xgood := xgood_in (List.mem_of_getElem? (i := 998) (by decide +kernel)) (by decide +kernel)
theorem wd999 : Cond.methodLink "SalePlacesLaw" 104 ⟨"SalePlaces", "rate", "(III)I"⟩ ∈ xgood := xgood_in (List.mem_of_getElem? (i := 999) (by decide +kernel)) (by decide +kernel)
theorem wd1000 : Cond.instanceMethod ⟨"SalePlaces", "rate", "(III)I"⟩ ∈ xgood := xgood_in (List.mem_of_getElem? (i := 1000) (by decide +kernel)) (by decide +kernel)
theorem wd1001 : Cond.selects "SalePlaces" ⟨"SalePlaces", "rate", "(III)I"⟩ ⟨"SalePlaces", "rate", "(III)I"⟩ ∈ xgood := xgood_in (List.mem_of_getElem? (i := 1001) (by decide +kernel)) (by decide +kernel)
theorem wd1002 : Cond.code ⟨"SalePlaces", "rate", "(III)I"⟩ cX10_rate 4 (some .int) ∈ xgood := xgood_in (List.mem_of_getElem? (i := 1002) (by decide +kernel)) (by decide +kernel)
theorem wd1003 : Cond.methodLink "SalePlaces" 216 ⟨"SalePlaces$Tariff", "rateFor", "(III)I"⟩ ∈ xgood := xgood_in (List.mem_of_getElem? (i := 1003) (by decide +kernel)) (by decide +kernel)
theorem wd1004 : Cond.instanceMethod ⟨"SalePlaces$Tariff", "rateFor", "(III)I"⟩ ∈ xgood := xgood_in (List.mem_of_getElem? (i := 1004) (by decide +kernel)) (by decide +kernel)
theorem wd1005 : Cond.selects "SalePlaces$Tariff" ⟨"SalePlaces$Tariff", "rateFor", "(III)I"⟩ ⟨"SalePlaces$Tariff", "rateFor", "(III)I"⟩ ∈ xgood := xgood_in (List.mem_of_getElem? (i := 1005) (by decide +kernel)) (by decide +kernel)
theorem wd1006 : Cond.code ⟨"SalePlaces$Tariff", "rateFor", "(III)I"⟩ cX9_rateFor 7 (some .int) ∈ xgood := xgood_in (List.mem_of_getElem? (i := 1006) (by decide +kernel)) (by decide +kernel)
theorem wd1007 : Cond.methodLink "SalePlaces$Tariff" 59 ⟨"SalePlaces$Rates", "latest", "(III)I"⟩ ∈ xgood := xgood_in (List.mem_of_getElem? (i := 1007) (by decide +kernel)) (by decide +kernel)
theorem wd1008 : Cond.methodLink "SalePlacesLaw" 108 ⟨"SalePlaces", "free", "(IIII)I"⟩ ∈ xgood := xgood_in (List.mem_of_getElem? (i := 1008) (by decide +kernel)) (by decide +kernel)
theorem wd1009 : Cond.instanceMethod ⟨"SalePlaces", "free", "(IIII)I"⟩ ∈ xgood := xgood_in (List.mem_of_getElem? (i := 1009) (by decide +kernel)) (by decide +kernel)
theorem wd1010 : Cond.selects "SalePlaces" ⟨"SalePlaces", "free", "(IIII)I"⟩ ⟨"SalePlaces", "free", "(IIII)I"⟩ ∈ xgood := xgood_in (List.mem_of_getElem? (i := 1010) (by decide +kernel)) (by decide +kernel)
theorem wd1011 : Cond.code ⟨"SalePlaces", "free", "(IIII)I"⟩ cX10_free 5 (some .int) ∈ xgood := xgood_in (List.mem_of_getElem? (i := 1011) (by decide +kernel)) (by decide +kernel)
theorem wd1012 : Cond.methodLink "SalePlaces" 219 ⟨"SalePlaces$Tariff", "isFree", "(IIII)Z"⟩ ∈ xgood := xgood_in (List.mem_of_getElem? (i := 1012) (by decide +kernel)) (by decide +kernel)
theorem wd1013 : Cond.instanceMethod ⟨"SalePlaces$Tariff", "isFree", "(IIII)Z"⟩ ∈ xgood := xgood_in (List.mem_of_getElem? (i := 1013) (by decide +kernel)) (by decide +kernel)
theorem wd1014 : Cond.selects "SalePlaces$Tariff" ⟨"SalePlaces$Tariff", "isFree", "(IIII)Z"⟩ ⟨"SalePlaces$Tariff", "isFree", "(IIII)Z"⟩ ∈ xgood := xgood_in (List.mem_of_getElem? (i := 1014) (by decide +kernel)) (by decide +kernel)
theorem wd1015 : Cond.code ⟨"SalePlaces$Tariff", "isFree", "(IIII)Z"⟩ cX9_isFree 6 (some .boolean) ∈ xgood := xgood_in (List.mem_of_getElem? (i := 1015) (by decide +kernel)) (by decide +kernel)
theorem wd1017 : Cond.methodLink "SalePlaces$Tariff" 70 ⟨"SalePlaces$Tariff", "isUnder", "(II)Z"⟩ ∈ xgood := xgood_in (List.mem_of_getElem? (i := 1017) (by decide +kernel)) (by decide +kernel)
theorem wd1019 : Cond.instanceMethod ⟨"SalePlaces$Tariff", "isUnder", "(II)Z"⟩ ∈ xgood := xgood_in (List.mem_of_getElem? (i := 1019) (by decide +kernel)) (by decide +kernel)
theorem wd1020 : Cond.code ⟨"SalePlaces$Tariff", "isUnder", "(II)Z"⟩ cX9_isUnder 5 (some .boolean) ∈ xgood := xgood_in (List.mem_of_getElem? (i := 1020) (by decide +kernel)) (by decide +kernel)
theorem wd1021 : Cond.methodLink "SalePlacesLaw" 112 ⟨"SalePlaces", "cap", "(II)I"⟩ ∈ xgood := xgood_in (List.mem_of_getElem? (i := 1021) (by decide +kernel)) (by decide +kernel)
theorem wd1022 : Cond.instanceMethod ⟨"SalePlaces", "cap", "(II)I"⟩ ∈ xgood := xgood_in (List.mem_of_getElem? (i := 1022) (by decide +kernel)) (by decide +kernel)
theorem wd1023 : Cond.selects "SalePlaces" ⟨"SalePlaces", "cap", "(II)I"⟩ ⟨"SalePlaces", "cap", "(II)I"⟩ ∈ xgood := xgood_in (List.mem_of_getElem? (i := 1023) (by decide +kernel)) (by decide +kernel)
theorem wd1024 : Cond.code ⟨"SalePlaces", "cap", "(II)I"⟩ cX10_cap 3 (some .int) ∈ xgood := xgood_in (List.mem_of_getElem? (i := 1024) (by decide +kernel)) (by decide +kernel)
theorem wd1025 : Cond.methodLink "SalePlaces" 223 ⟨"SalePlaces$Tariff", "capFor", "(II)I"⟩ ∈ xgood := xgood_in (List.mem_of_getElem? (i := 1025) (by decide +kernel)) (by decide +kernel)
theorem wd1026 : Cond.instanceMethod ⟨"SalePlaces$Tariff", "capFor", "(II)I"⟩ ∈ xgood := xgood_in (List.mem_of_getElem? (i := 1026) (by decide +kernel)) (by decide +kernel)
theorem wd1027 : Cond.selects "SalePlaces$Tariff" ⟨"SalePlaces$Tariff", "capFor", "(II)I"⟩ ⟨"SalePlaces$Tariff", "capFor", "(II)I"⟩ ∈ xgood := xgood_in (List.mem_of_getElem? (i := 1027) (by decide +kernel)) (by decide +kernel)
theorem wd1028 : Cond.code ⟨"SalePlaces$Tariff", "capFor", "(II)I"⟩ cX9_capFor 6 (some .int) ∈ xgood := xgood_in (List.mem_of_getElem? (i := 1028) (by decide +kernel)) (by decide +kernel)
theorem wd1029 : Cond.methodLink "SalePlaces$Tariff" 74 ⟨"SalePlaces$Tariff", "capTold", "(II)I"⟩ ∈ xgood := xgood_in (List.mem_of_getElem? (i := 1029) (by decide +kernel)) (by decide +kernel)
theorem wd1030 : Cond.methodLink "SalePlacesLaw" 116 ⟨"SalePlaces", "stackRate", "(IIII)I"⟩ ∈ xgood := xgood_in (List.mem_of_getElem? (i := 1030) (by decide +kernel)) (by decide +kernel)
theorem wd1031 : Cond.instanceMethod ⟨"SalePlaces", "stackRate", "(IIII)I"⟩ ∈ xgood := xgood_in (List.mem_of_getElem? (i := 1031) (by decide +kernel)) (by decide +kernel)
theorem wd1032 : Cond.selects "SalePlaces" ⟨"SalePlaces", "stackRate", "(IIII)I"⟩ ⟨"SalePlaces", "stackRate", "(IIII)I"⟩ ∈ xgood := xgood_in (List.mem_of_getElem? (i := 1032) (by decide +kernel)) (by decide +kernel)
theorem wd1033 : Cond.code ⟨"SalePlaces", "stackRate", "(IIII)I"⟩ cX10_stackRate 5 (some .int) ∈ xgood := xgood_in (List.mem_of_getElem? (i := 1033) (by decide +kernel)) (by decide +kernel)
theorem wd1034 : Cond.methodLink "SalePlaces" 226 ⟨"SalePlaces$Desk", "lookAt", "(II)V"⟩ ∈ xgood := xgood_in (List.mem_of_getElem? (i := 1034) (by decide +kernel)) (by decide +kernel)
theorem wd1035 : Cond.instanceMethod ⟨"SalePlaces$Desk", "lookAt", "(II)V"⟩ ∈ xgood := xgood_in (List.mem_of_getElem? (i := 1035) (by decide +kernel)) (by decide +kernel)
theorem wd1036 : Cond.selects "SalePlaces$Desk" ⟨"SalePlaces$Desk", "lookAt", "(II)V"⟩ ⟨"SalePlaces$Desk", "lookAt", "(II)V"⟩ ∈ xgood := xgood_in (List.mem_of_getElem? (i := 1036) (by decide +kernel)) (by decide +kernel)
theorem wd1037 : Cond.code ⟨"SalePlaces$Desk", "lookAt", "(II)V"⟩ cX3_lookAt 4 none ∈ xgood := xgood_in (List.mem_of_getElem? (i := 1037) (by decide +kernel)) (by decide +kernel)
theorem wd1038 : Cond.methodLink "SalePlaces$Desk" 81 ⟨"SalePlaces$Ground", "look", "(I)V"⟩ ∈ xgood := xgood_in (List.mem_of_getElem? (i := 1038) (by decide +kernel)) (by decide +kernel)
theorem wd1039 : Cond.methodLink "SalePlaces$Desk" 85 ⟨"SalePlaces$Tariff", "rateFor", "(III)I"⟩ ∈ xgood := xgood_in (List.mem_of_getElem? (i := 1039) (by decide +kernel)) (by decide +kernel)
theorem wd1040 : Cond.methodLink "SalePlaces" 229 ⟨"SalePlaces$Desk", "ratesOver", "(II)I"⟩ ∈ xgood := xgood_in (List.mem_of_getElem? (i := 1040) (by decide +kernel)) (by decide +kernel)
theorem wd1041 : Cond.instanceMethod ⟨"SalePlaces$Desk", "ratesOver", "(II)I"⟩ ∈ xgood := xgood_in (List.mem_of_getElem? (i := 1041) (by decide +kernel)) (by decide +kernel)
theorem wd1042 : Cond.selects "SalePlaces$Desk" ⟨"SalePlaces$Desk", "ratesOver", "(II)I"⟩ ⟨"SalePlaces$Desk", "ratesOver", "(II)I"⟩ ∈ xgood := xgood_in (List.mem_of_getElem? (i := 1042) (by decide +kernel)) (by decide +kernel)
theorem wd1043 : Cond.code ⟨"SalePlaces$Desk", "ratesOver", "(II)I"⟩ cX3_ratesOver 5 (some .int) ∈ xgood := xgood_in (List.mem_of_getElem? (i := 1043) (by decide +kernel)) (by decide +kernel)
theorem wd1044 : Cond.methodLink "SalePlaces$Desk" 89 ⟨"SalePlaces$Ground", "pile", "(II)V"⟩ ∈ xgood := xgood_in (List.mem_of_getElem? (i := 1044) (by decide +kernel)) (by decide +kernel)
theorem wd1045 : Cond.methodLink "SalePlacesLaw" 120 ⟨"SalePlaces", "cheapest", "(II)I"⟩ ∈ xgood := xgood_in (List.mem_of_getElem? (i := 1045) (by decide +kernel)) (by decide +kernel)
theorem wd1046 : Cond.instanceMethod ⟨"SalePlaces", "cheapest", "(II)I"⟩ ∈ xgood := xgood_in (List.mem_of_getElem? (i := 1046) (by decide +kernel)) (by decide +kernel)
theorem wd1047 : Cond.selects "SalePlaces" ⟨"SalePlaces", "cheapest", "(II)I"⟩ ⟨"SalePlaces", "cheapest", "(II)I"⟩ ∈ xgood := xgood_in (List.mem_of_getElem? (i := 1047) (by decide +kernel)) (by decide +kernel)
theorem wd1048 : Cond.code ⟨"SalePlaces", "cheapest", "(II)I"⟩ cX10_cheapest 3 (some .int) ∈ xgood := xgood_in (List.mem_of_getElem? (i := 1048) (by decide +kernel)) (by decide +kernel)
theorem wd1049 : Cond.methodLink "SalePlaces" 232 ⟨"SalePlaces$Desk", "cheapestPoint", "()I"⟩ ∈ xgood := xgood_in (List.mem_of_getElem? (i := 1049) (by decide +kernel)) (by decide +kernel)
theorem wd1050 : Cond.instanceMethod ⟨"SalePlaces$Desk", "cheapestPoint", "()I"⟩ ∈ xgood := xgood_in (List.mem_of_getElem? (i := 1050) (by decide +kernel)) (by decide +kernel)
theorem wd1051 : Cond.selects "SalePlaces$Desk" ⟨"SalePlaces$Desk", "cheapestPoint", "()I"⟩ ⟨"SalePlaces$Desk", "cheapestPoint", "()I"⟩ ∈ xgood := xgood_in (List.mem_of_getElem? (i := 1051) (by decide +kernel)) (by decide +kernel)
theorem wd1052 : Cond.code ⟨"SalePlaces$Desk", "cheapestPoint", "()I"⟩ cX3_cheapestPoint 6 (some .int) ∈ xgood := xgood_in (List.mem_of_getElem? (i := 1052) (by decide +kernel)) (by decide +kernel)
theorem wd1053 : Cond.constant "SalePlaces$Desk" 100 2147483647 ∈ xgood := xgood_in (List.mem_of_getElem? (i := 1053) (by decide +kernel)) (by decide +kernel)
theorem wd1054 : Cond.methodLink "SalePlaces$Desk" 101 ⟨"SalePlaces$Desk", "ratesOver", "(II)I"⟩ ∈ xgood := xgood_in (List.mem_of_getElem? (i := 1054) (by decide +kernel)) (by decide +kernel)
theorem wd1055 : Cond.methodLink "SalePlacesLaw" 124 ⟨"SalePlaces", "due", "(IIIIII)I"⟩ ∈ xgood := xgood_in (List.mem_of_getElem? (i := 1055) (by decide +kernel)) (by decide +kernel)
theorem wd1056 : Cond.instanceMethod ⟨"SalePlaces", "due", "(IIIIII)I"⟩ ∈ xgood := xgood_in (List.mem_of_getElem? (i := 1056) (by decide +kernel)) (by decide +kernel)
theorem wd1057 : Cond.selects "SalePlaces" ⟨"SalePlaces", "due", "(IIIIII)I"⟩ ⟨"SalePlaces", "due", "(IIIIII)I"⟩ ∈ xgood := xgood_in (List.mem_of_getElem? (i := 1057) (by decide +kernel)) (by decide +kernel)
theorem wd1058 : Cond.code ⟨"SalePlaces", "due", "(IIIIII)I"⟩ cX10_due 7 (some .int) ∈ xgood := xgood_in (List.mem_of_getElem? (i := 1058) (by decide +kernel)) (by decide +kernel)
theorem wd1059 : Cond.methodLink "SalePlaces" 236 ⟨"SalePlaces", "isSale", "(IIIII)Z"⟩ ∈ xgood := xgood_in (List.mem_of_getElem? (i := 1059) (by decide +kernel)) (by decide +kernel)
theorem wd1061 : Cond.instanceMethod ⟨"SalePlaces", "isSale", "(IIIII)Z"⟩ ∈ xgood := xgood_in (List.mem_of_getElem? (i := 1061) (by decide +kernel)) (by decide +kernel)
theorem wd1062 : Cond.code ⟨"SalePlaces", "isSale", "(IIIII)Z"⟩ cX10_isSale 6 (some .boolean) ∈ xgood := xgood_in (List.mem_of_getElem? (i := 1062) (by decide +kernel)) (by decide +kernel)
theorem wd1063 : Cond.methodLink "SalePlaces" 240 ⟨"SalePlaces$Line", "sell", "(IIIIII)V"⟩ ∈ xgood := xgood_in (List.mem_of_getElem? (i := 1063) (by decide +kernel)) (by decide +kernel)
theorem wd1064 : Cond.instanceMethod ⟨"SalePlaces$Line", "sell", "(IIIIII)V"⟩ ∈ xgood := xgood_in (List.mem_of_getElem? (i := 1064) (by decide +kernel)) (by decide +kernel)
theorem wd1065 : Cond.selects "SalePlaces$Line" ⟨"SalePlaces$Line", "sell", "(IIIIII)V"⟩ ⟨"SalePlaces$Line", "sell", "(IIIIII)V"⟩ ∈ xgood := xgood_in (List.mem_of_getElem? (i := 1065) (by decide +kernel)) (by decide +kernel)
theorem wd1066 : Cond.code ⟨"SalePlaces$Line", "sell", "(IIIIII)V"⟩ cX5_sell 7 none ∈ xgood := xgood_in (List.mem_of_getElem? (i := 1066) (by decide +kernel)) (by decide +kernel)
theorem wd1067 : Cond.methodLink "SalePlaces" 244 ⟨"SalePlaces", "dueOfTrial", "()I"⟩ ∈ xgood := xgood_in (List.mem_of_getElem? (i := 1067) (by decide +kernel)) (by decide +kernel)
theorem wd1069 : Cond.instanceMethod ⟨"SalePlaces", "dueOfTrial", "()I"⟩ ∈ xgood := xgood_in (List.mem_of_getElem? (i := 1069) (by decide +kernel)) (by decide +kernel)
theorem wd1070 : Cond.code ⟨"SalePlaces", "dueOfTrial", "()I"⟩ cX10_dueOfTrial 1 (some .int) ∈ xgood := xgood_in (List.mem_of_getElem? (i := 1070) (by decide +kernel)) (by decide +kernel)
theorem wd1071 : Cond.methodLink "SalePlaces" 311 ⟨"SalePlaces$Desk", "assess", "(LSalePlaces$Line;)V"⟩ ∈ xgood := xgood_in (List.mem_of_getElem? (i := 1071) (by decide +kernel)) (by decide +kernel)
theorem wd1072 : Cond.instanceMethod ⟨"SalePlaces$Desk", "assess", "(LSalePlaces$Line;)V"⟩ ∈ xgood := xgood_in (List.mem_of_getElem? (i := 1072) (by decide +kernel)) (by decide +kernel)
theorem wd1073 : Cond.selects "SalePlaces$Desk" ⟨"SalePlaces$Desk", "assess", "(LSalePlaces$Line;)V"⟩ ⟨"SalePlaces$Desk", "assess", "(LSalePlaces$Line;)V"⟩ ∈ xgood := xgood_in (List.mem_of_getElem? (i := 1073) (by decide +kernel)) (by decide +kernel)
theorem wd1074 : Cond.code ⟨"SalePlaces$Desk", "assess", "(LSalePlaces$Line;)V"⟩ cX3_assess 4 none ∈ xgood := xgood_in (List.mem_of_getElem? (i := 1074) (by decide +kernel)) (by decide +kernel)
theorem wd1075 : Cond.methodLink "SalePlaces$Desk" 121 ⟨"SalePlaces$Tariff", "capFor", "(II)I"⟩ ∈ xgood := xgood_in (List.mem_of_getElem? (i := 1075) (by decide +kernel)) (by decide +kernel)
theorem wd1076 : Cond.methodLink "SalePlaces$Desk" 127 ⟨"SalePlaces$Tariff", "isFree", "(IIII)Z"⟩ ∈ xgood := xgood_in (List.mem_of_getElem? (i := 1076) (by decide +kernel)) (by decide +kernel)
theorem wd1077 : Cond.methodLink "SalePlaces$Desk" 131 ⟨"SalePlaces$Line", "addPart", "(IIIZ)V"⟩ ∈ xgood := xgood_in (List.mem_of_getElem? (i := 1077) (by decide +kernel)) (by decide +kernel)
theorem wd1078 : Cond.instanceMethod ⟨"SalePlaces$Line", "addPart", "(IIIZ)V"⟩ ∈ xgood := xgood_in (List.mem_of_getElem? (i := 1078) (by decide +kernel)) (by decide +kernel)
theorem wd1079 : Cond.selects "SalePlaces$Line" ⟨"SalePlaces$Line", "addPart", "(IIIZ)V"⟩ ⟨"SalePlaces$Line", "addPart", "(IIIZ)V"⟩ ∈ xgood := xgood_in (List.mem_of_getElem? (i := 1079) (by decide +kernel)) (by decide +kernel)
theorem wd1080 : Cond.code ⟨"SalePlaces$Line", "addPart", "(IIIZ)V"⟩ cX5_addPart 5 none ∈ xgood := xgood_in (List.mem_of_getElem? (i := 1080) (by decide +kernel)) (by decide +kernel)
theorem wd1081 : Cond.methodLink "SalePlaces" 318 ⟨"SalePlaces$Line", "taxOf", "(I)I"⟩ ∈ xgood := xgood_in (List.mem_of_getElem? (i := 1081) (by decide +kernel)) (by decide +kernel)
theorem wd1082 : Cond.instanceMethod ⟨"SalePlaces$Line", "taxOf", "(I)I"⟩ ∈ xgood := xgood_in (List.mem_of_getElem? (i := 1082) (by decide +kernel)) (by decide +kernel)
theorem wd1083 : Cond.selects "SalePlaces$Line" ⟨"SalePlaces$Line", "taxOf", "(I)I"⟩ ⟨"SalePlaces$Line", "taxOf", "(I)I"⟩ ∈ xgood := xgood_in (List.mem_of_getElem? (i := 1083) (by decide +kernel)) (by decide +kernel)
theorem wd1084 : Cond.code ⟨"SalePlaces$Line", "taxOf", "(I)I"⟩ cX5_taxOf 4 (some .int) ∈ xgood := xgood_in (List.mem_of_getElem? (i := 1084) (by decide +kernel)) (by decide +kernel)
theorem wd1085 : Cond.methodLink "SalePlaces$Line" 67 ⟨"SalePlaces$Line", "partTax", "(I)I"⟩ ∈ xgood := xgood_in (List.mem_of_getElem? (i := 1085) (by decide +kernel)) (by decide +kernel)
theorem wd1086 : Cond.instanceMethod ⟨"SalePlaces$Line", "partTax", "(I)I"⟩ ∈ xgood := xgood_in (List.mem_of_getElem? (i := 1086) (by decide +kernel)) (by decide +kernel)
theorem wd1087 : Cond.selects "SalePlaces$Line" ⟨"SalePlaces$Line", "partTax", "(I)I"⟩ ⟨"SalePlaces$Line", "partTax", "(I)I"⟩ ∈ xgood := xgood_in (List.mem_of_getElem? (i := 1087) (by decide +kernel)) (by decide +kernel)
theorem wd1088 : Cond.code ⟨"SalePlaces$Line", "partTax", "(I)I"⟩ cX5_partTax 2 (some .int) ∈ xgood := xgood_in (List.mem_of_getElem? (i := 1088) (by decide +kernel)) (by decide +kernel)
theorem wd1089 : Cond.methodLink "SalePlaces$Line" 59 ⟨"SalePlaces$Line", "partBase", "(I)I"⟩ ∈ xgood := xgood_in (List.mem_of_getElem? (i := 1089) (by decide +kernel)) (by decide +kernel)
theorem wd1090 : Cond.instanceMethod ⟨"SalePlaces$Line", "partBase", "(I)I"⟩ ∈ xgood := xgood_in (List.mem_of_getElem? (i := 1090) (by decide +kernel)) (by decide +kernel)
theorem wd1091 : Cond.selects "SalePlaces$Line" ⟨"SalePlaces$Line", "partBase", "(I)I"⟩ ⟨"SalePlaces$Line", "partBase", "(I)I"⟩ ∈ xgood := xgood_in (List.mem_of_getElem? (i := 1091) (by decide +kernel)) (by decide +kernel)
theorem wd1092 : Cond.code ⟨"SalePlaces$Line", "partBase", "(I)I"⟩ cX5_partBase 2 (some .int) ∈ xgood := xgood_in (List.mem_of_getElem? (i := 1092) (by decide +kernel)) (by decide +kernel)
theorem wd1093 : Cond.methodLink "SalePlaces$Line" 53 ⟨"java/lang/Math", "min", "(II)I"⟩ ∈ xgood := xgood_in (List.mem_of_getElem? (i := 1093) (by decide +kernel)) (by decide +kernel)
theorem wd1094 : Cond.constantLong "SalePlaces$Line" 63 5000 ∈ xgood := xgood_in (List.mem_of_getElem? (i := 1094) (by decide +kernel)) (by decide +kernel)
theorem wd1095 : Cond.constantLong "SalePlaces$Line" 65 10000 ∈ xgood := xgood_in (List.mem_of_getElem? (i := 1095) (by decide +kernel)) (by decide +kernel)
theorem wd1096 : Cond.methodLink "SalePlacesLaw" 129 ⟨"SalePlaces", "bestDay", "(IIIIIII)I"⟩ ∈ xgood := xgood_in (List.mem_of_getElem? (i := 1096) (by decide +kernel)) (by decide +kernel)
theorem wd1097 : Cond.instanceMethod ⟨"SalePlaces", "bestDay", "(IIIIIII)I"⟩ ∈ xgood := xgood_in (List.mem_of_getElem? (i := 1097) (by decide +kernel)) (by decide +kernel)
theorem wd1098 : Cond.selects "SalePlaces" ⟨"SalePlaces", "bestDay", "(IIIIIII)I"⟩ ⟨"SalePlaces", "bestDay", "(IIIIIII)I"⟩ ∈ xgood := xgood_in (List.mem_of_getElem? (i := 1098) (by decide +kernel)) (by decide +kernel)
theorem wd1099 : Cond.code ⟨"SalePlaces", "bestDay", "(IIIIIII)I"⟩ cX10_bestDay 8 (some .int) ∈ xgood := xgood_in (List.mem_of_getElem? (i := 1099) (by decide +kernel)) (by decide +kernel)
theorem wd1100 : Cond.methodLink "SalePlaces" 247 ⟨"SalePlaces", "bestDayOfTrial", "(I)I"⟩ ∈ xgood := xgood_in (List.mem_of_getElem? (i := 1100) (by decide +kernel)) (by decide +kernel)
theorem wd1102 : Cond.instanceMethod ⟨"SalePlaces", "bestDayOfTrial", "(I)I"⟩ ∈ xgood := xgood_in (List.mem_of_getElem? (i := 1102) (by decide +kernel)) (by decide +kernel)
theorem wd1103 : Cond.code ⟨"SalePlaces", "bestDayOfTrial", "(I)I"⟩ cX10_bestDayOfTrial 7 (some .int) ∈ xgood := xgood_in (List.mem_of_getElem? (i := 1103) (by decide +kernel)) (by decide +kernel)
theorem wd1104 : Cond.methodLink "SalePlaces" 366 ⟨"SalePlaces$Desk", "nextChange", "(I)I"⟩ ∈ xgood := xgood_in (List.mem_of_getElem? (i := 1104) (by decide +kernel)) (by decide +kernel)
theorem wd1105 : Cond.instanceMethod ⟨"SalePlaces$Desk", "nextChange", "(I)I"⟩ ∈ xgood := xgood_in (List.mem_of_getElem? (i := 1105) (by decide +kernel)) (by decide +kernel)
theorem wd1106 : Cond.selects "SalePlaces$Desk" ⟨"SalePlaces$Desk", "nextChange", "(I)I"⟩ ⟨"SalePlaces$Desk", "nextChange", "(I)I"⟩ ∈ xgood := xgood_in (List.mem_of_getElem? (i := 1106) (by decide +kernel)) (by decide +kernel)
theorem wd1107 : Cond.code ⟨"SalePlaces$Desk", "nextChange", "(I)I"⟩ cX3_nextChange 2 (some .int) ∈ xgood := xgood_in (List.mem_of_getElem? (i := 1107) (by decide +kernel)) (by decide +kernel)
theorem wd1108 : Cond.methodLink "SalePlaces$Desk" 70 ⟨"SalePlaces$Bounds", "nextOfAll", "(I)I"⟩ ∈ xgood := xgood_in (List.mem_of_getElem? (i := 1108) (by decide +kernel)) (by decide +kernel)
theorem wd1109 : Cond.methodLink "SalePlaces$Desk" 74 ⟨"SalePlaces$Tariff", "nextOfAll", "(I)I"⟩ ∈ xgood := xgood_in (List.mem_of_getElem? (i := 1109) (by decide +kernel)) (by decide +kernel)
theorem wd1110 : Cond.instanceMethod ⟨"SalePlaces$Tariff", "nextOfAll", "(I)I"⟩ ∈ xgood := xgood_in (List.mem_of_getElem? (i := 1110) (by decide +kernel)) (by decide +kernel)
theorem wd1111 : Cond.selects "SalePlaces$Tariff" ⟨"SalePlaces$Tariff", "nextOfAll", "(I)I"⟩ ⟨"SalePlaces$Tariff", "nextOfAll", "(I)I"⟩ ∈ xgood := xgood_in (List.mem_of_getElem? (i := 1111) (by decide +kernel)) (by decide +kernel)
theorem wd1112 : Cond.code ⟨"SalePlaces$Tariff", "nextOfAll", "(I)I"⟩ cX9_nextOfAll 4 (some .int) ∈ xgood := xgood_in (List.mem_of_getElem? (i := 1112) (by decide +kernel)) (by decide +kernel)
theorem wd1113 : Cond.methodLink "SalePlaces$Tariff" 81 ⟨"SalePlaces$Tariff", "nearer", "(III)I"⟩ ∈ xgood := xgood_in (List.mem_of_getElem? (i := 1113) (by decide +kernel)) (by decide +kernel)
theorem wd1114 : Cond.static ⟨"SalePlaces$Tariff", "nearer", "(III)I"⟩ ∈ xgood := xgood_in (List.mem_of_getElem? (i := 1114) (by decide +kernel)) (by decide +kernel)
theorem wd1115 : Cond.code ⟨"SalePlaces$Tariff", "nearer", "(III)I"⟩ cX9_nearer 3 (some .int) ∈ xgood := xgood_in (List.mem_of_getElem? (i := 1115) (by decide +kernel)) (by decide +kernel)
theorem wd1116 : Cond.methodLink "SalePlaces$Desk" 75 ⟨"java/lang/Math", "min", "(II)I"⟩ ∈ xgood := xgood_in (List.mem_of_getElem? (i := 1116) (by decide +kernel)) (by decide +kernel)
theorem wd1117 : Cond.methodLink "SalePlacesLaw" 134 ⟨"SalePlaces", "line", "(II)I"⟩ ∈ xgood := xgood_in (List.mem_of_getElem? (i := 1117) (by decide +kernel)) (by decide +kernel)
theorem wd1118 : Cond.instanceMethod ⟨"SalePlaces", "line", "(II)I"⟩ ∈ xgood := xgood_in (List.mem_of_getElem? (i := 1118) (by decide +kernel)) (by decide +kernel)
theorem wd1119 : Cond.selects "SalePlaces" ⟨"SalePlaces", "line", "(II)I"⟩ ⟨"SalePlaces", "line", "(II)I"⟩ ∈ xgood := xgood_in (List.mem_of_getElem? (i := 1119) (by decide +kernel)) (by decide +kernel)
theorem wd1120 : Cond.code ⟨"SalePlaces", "line", "(II)I"⟩ cX10_line 3 (some .int) ∈ xgood := xgood_in (List.mem_of_getElem? (i := 1120) (by decide +kernel)) (by decide +kernel)
theorem wd1121 : Cond.methodLink "SalePlaces" 250 ⟨"SalePlaces", "isLine", "(I)Z"⟩ ∈ xgood := xgood_in (List.mem_of_getElem? (i := 1121) (by decide +kernel)) (by decide +kernel)
theorem wd1123 : Cond.instanceMethod ⟨"SalePlaces", "isLine", "(I)Z"⟩ ∈ xgood := xgood_in (List.mem_of_getElem? (i := 1123) (by decide +kernel)) (by decide +kernel)
theorem wd1124 : Cond.code ⟨"SalePlaces", "isLine", "(I)Z"⟩ cX10_isLine 2 (some .boolean) ∈ xgood := xgood_in (List.mem_of_getElem? (i := 1124) (by decide +kernel)) (by decide +kernel)
theorem wd1125 : Cond.methodLink "SalePlaces" 257 ⟨"SalePlaces$Line", "tells", "(I)I"⟩ ∈ xgood := xgood_in (List.mem_of_getElem? (i := 1125) (by decide +kernel)) (by decide +kernel)
theorem wd1126 : Cond.instanceMethod ⟨"SalePlaces$Line", "tells", "(I)I"⟩ ∈ xgood := xgood_in (List.mem_of_getElem? (i := 1126) (by decide +kernel)) (by decide +kernel)
theorem wd1127 : Cond.selects "SalePlaces$Line" ⟨"SalePlaces$Line", "tells", "(I)I"⟩ ⟨"SalePlaces$Line", "tells", "(I)I"⟩ ∈ xgood := xgood_in (List.mem_of_getElem? (i := 1127) (by decide +kernel)) (by decide +kernel)
theorem wd1128 : Cond.code ⟨"SalePlaces$Line", "tells", "(I)I"⟩ cX5_tells 2 (some .int) ∈ xgood := xgood_in (List.mem_of_getElem? (i := 1128) (by decide +kernel)) (by decide +kernel)
theorem wd1129 : Cond.methodLink "SalePlaces$Line" 70 ⟨"SalePlaces$Line", "taxOf", "(I)I"⟩ ∈ xgood := xgood_in (List.mem_of_getElem? (i := 1129) (by decide +kernel)) (by decide +kernel)
theorem wd1131 : Cond.methodLink "SalePlacesLaw" 138 ⟨"SalePlaces", "part", "(III)I"⟩ ∈ xgood := xgood_in (List.mem_of_getElem? (i := 1131) (by decide +kernel)) (by decide +kernel)
theorem wd1132 : Cond.instanceMethod ⟨"SalePlaces", "part", "(III)I"⟩ ∈ xgood := xgood_in (List.mem_of_getElem? (i := 1132) (by decide +kernel)) (by decide +kernel)
theorem wd1133 : Cond.selects "SalePlaces" ⟨"SalePlaces", "part", "(III)I"⟩ ⟨"SalePlaces", "part", "(III)I"⟩ ∈ xgood := xgood_in (List.mem_of_getElem? (i := 1133) (by decide +kernel)) (by decide +kernel)
theorem wd1134 : Cond.code ⟨"SalePlaces", "part", "(III)I"⟩ cX10_part 4 (some .int) ∈ xgood := xgood_in (List.mem_of_getElem? (i := 1134) (by decide +kernel)) (by decide +kernel)
theorem wd1135 : Cond.methodLink "SalePlaces" 261 ⟨"SalePlaces$Line", "tellsPart", "(II)I"⟩ ∈ xgood := xgood_in (List.mem_of_getElem? (i := 1135) (by decide +kernel)) (by decide +kernel)
theorem wd1136 : Cond.instanceMethod ⟨"SalePlaces$Line", "tellsPart", "(II)I"⟩ ∈ xgood := xgood_in (List.mem_of_getElem? (i := 1136) (by decide +kernel)) (by decide +kernel)
theorem wd1137 : Cond.selects "SalePlaces$Line" ⟨"SalePlaces$Line", "tellsPart", "(II)I"⟩ ⟨"SalePlaces$Line", "tellsPart", "(II)I"⟩ ∈ xgood := xgood_in (List.mem_of_getElem? (i := 1137) (by decide +kernel)) (by decide +kernel)
theorem wd1138 : Cond.code ⟨"SalePlaces$Line", "tellsPart", "(II)I"⟩ cX5_tellsPart 3 (some .int) ∈ xgood := xgood_in (List.mem_of_getElem? (i := 1138) (by decide +kernel)) (by decide +kernel)
theorem wd1139 : Cond.methodLink "SalePlacesLaw" 142 ⟨"SalePlaces", "entries", "()I"⟩ ∈ xgood := xgood_in (List.mem_of_getElem? (i := 1139) (by decide +kernel)) (by decide +kernel)
theorem wd1140 : Cond.instanceMethod ⟨"SalePlaces", "entries", "()I"⟩ ∈ xgood := xgood_in (List.mem_of_getElem? (i := 1140) (by decide +kernel)) (by decide +kernel)
theorem wd1141 : Cond.selects "SalePlaces" ⟨"SalePlaces", "entries", "()I"⟩ ⟨"SalePlaces", "entries", "()I"⟩ ∈ xgood := xgood_in (List.mem_of_getElem? (i := 1141) (by decide +kernel)) (by decide +kernel)
theorem wd1142 : Cond.code ⟨"SalePlaces", "entries", "()I"⟩ cX10_entries 1 (some .int) ∈ xgood := xgood_in (List.mem_of_getElem? (i := 1142) (by decide +kernel)) (by decide +kernel)
theorem wd1143 : Cond.methodLink "SalePlaces" 264 ⟨"SalePlaces$Book", "gatherEntries", "()I"⟩ ∈ xgood := xgood_in (List.mem_of_getElem? (i := 1143) (by decide +kernel)) (by decide +kernel)
theorem wd1144 : Cond.instanceMethod ⟨"SalePlaces$Book", "gatherEntries", "()I"⟩ ∈ xgood := xgood_in (List.mem_of_getElem? (i := 1144) (by decide +kernel)) (by decide +kernel)
theorem wd1145 : Cond.selects "SalePlaces$Book" ⟨"SalePlaces$Book", "gatherEntries", "()I"⟩ ⟨"SalePlaces$Book", "gatherEntries", "()I"⟩ ∈ xgood := xgood_in (List.mem_of_getElem? (i := 1145) (by decide +kernel)) (by decide +kernel)
theorem wd1146 : Cond.code ⟨"SalePlaces$Book", "gatherEntries", "()I"⟩ cX1_gatherEntries 6 (some .int) ∈ xgood := xgood_in (List.mem_of_getElem? (i := 1146) (by decide +kernel)) (by decide +kernel)
theorem wd1147 : Cond.methodLink "SalePlacesLaw" 146 ⟨"SalePlaces", "entry", "(II)I"⟩ ∈ xgood := xgood_in (List.mem_of_getElem? (i := 1147) (by decide +kernel)) (by decide +kernel)
theorem wd1148 : Cond.instanceMethod ⟨"SalePlaces", "entry", "(II)I"⟩ ∈ xgood := xgood_in (List.mem_of_getElem? (i := 1148) (by decide +kernel)) (by decide +kernel)
theorem wd1149 : Cond.selects "SalePlaces" ⟨"SalePlaces", "entry", "(II)I"⟩ ⟨"SalePlaces", "entry", "(II)I"⟩ ∈ xgood := xgood_in (List.mem_of_getElem? (i := 1149) (by decide +kernel)) (by decide +kernel)
theorem wd1150 : Cond.code ⟨"SalePlaces", "entry", "(II)I"⟩ cX10_entry 5 (some .int) ∈ xgood := xgood_in (List.mem_of_getElem? (i := 1150) (by decide +kernel)) (by decide +kernel)
theorem wd1151 : Cond.methodLink "SalePlaces" 273 ⟨"SalePlaces$Book", "taxesOf", "(II)I"⟩ ∈ xgood := xgood_in (List.mem_of_getElem? (i := 1151) (by decide +kernel)) (by decide +kernel)
theorem wd1152 : Cond.instanceMethod ⟨"SalePlaces$Book", "taxesOf", "(II)I"⟩ ∈ xgood := xgood_in (List.mem_of_getElem? (i := 1152) (by decide +kernel)) (by decide +kernel)
theorem wd1153 : Cond.selects "SalePlaces$Book" ⟨"SalePlaces$Book", "taxesOf", "(II)I"⟩ ⟨"SalePlaces$Book", "taxesOf", "(II)I"⟩ ∈ xgood := xgood_in (List.mem_of_getElem? (i := 1153) (by decide +kernel)) (by decide +kernel)
theorem wd1154 : Cond.code ⟨"SalePlaces$Book", "taxesOf", "(II)I"⟩ cX1_taxesOf 5 (some .int) ∈ xgood := xgood_in (List.mem_of_getElem? (i := 1154) (by decide +kernel)) (by decide +kernel)
theorem wd1155 : Cond.methodLink "SalePlaces$Book" 52 ⟨"SalePlaces$Line", "taxOf", "(I)I"⟩ ∈ xgood := xgood_in (List.mem_of_getElem? (i := 1155) (by decide +kernel)) (by decide +kernel)
theorem wd1156 : Cond.methodLink "SalePlacesLaw" 150 ⟨"SalePlaces", "taxes", "(II)I"⟩ ∈ xgood := xgood_in (List.mem_of_getElem? (i := 1156) (by decide +kernel)) (by decide +kernel)
theorem wd1157 : Cond.instanceMethod ⟨"SalePlaces", "taxes", "(II)I"⟩ ∈ xgood := xgood_in (List.mem_of_getElem? (i := 1157) (by decide +kernel)) (by decide +kernel)
theorem wd1158 : Cond.selects "SalePlaces" ⟨"SalePlaces", "taxes", "(II)I"⟩ ⟨"SalePlaces", "taxes", "(II)I"⟩ ∈ xgood := xgood_in (List.mem_of_getElem? (i := 1158) (by decide +kernel)) (by decide +kernel)
theorem wd1159 : Cond.code ⟨"SalePlaces", "taxes", "(II)I"⟩ cX10_taxes 3 (some .int) ∈ xgood := xgood_in (List.mem_of_getElem? (i := 1159) (by decide +kernel)) (by decide +kernel)
theorem wd1160 : Cond.methodLink "SalePlaces" 276 ⟨"SalePlaces", "isPlaceOrAll", "(I)Z"⟩ ∈ xgood := xgood_in (List.mem_of_getElem? (i := 1160) (by decide +kernel)) (by decide +kernel)
theorem wd1162 : Cond.instanceMethod ⟨"SalePlaces", "isPlaceOrAll", "(I)Z"⟩ ∈ xgood := xgood_in (List.mem_of_getElem? (i := 1162) (by decide +kernel)) (by decide +kernel)
theorem wd1163 : Cond.code ⟨"SalePlaces", "isPlaceOrAll", "(I)Z"⟩ cX10_isPlaceOrAll 2 (some .boolean) ∈ xgood := xgood_in (List.mem_of_getElem? (i := 1163) (by decide +kernel)) (by decide +kernel)
theorem wd1164 : Cond.methodLink "SalePlacesLaw" 154 ⟨"SalePlaces", "filings", "()I"⟩ ∈ xgood := xgood_in (List.mem_of_getElem? (i := 1164) (by decide +kernel)) (by decide +kernel)
theorem wd1165 : Cond.instanceMethod ⟨"SalePlaces", "filings", "()I"⟩ ∈ xgood := xgood_in (List.mem_of_getElem? (i := 1165) (by decide +kernel)) (by decide +kernel)
theorem wd1166 : Cond.selects "SalePlaces" ⟨"SalePlaces", "filings", "()I"⟩ ⟨"SalePlaces", "filings", "()I"⟩ ∈ xgood := xgood_in (List.mem_of_getElem? (i := 1166) (by decide +kernel)) (by decide +kernel)
theorem wd1167 : Cond.code ⟨"SalePlaces", "filings", "()I"⟩ cX10_filings 1 (some .int) ∈ xgood := xgood_in (List.mem_of_getElem? (i := 1167) (by decide +kernel)) (by decide +kernel)
theorem wd1168 : Cond.methodLink "SalePlacesLaw" 158 ⟨"SalePlaces", "filing", "(II)I"⟩ ∈ xgood := xgood_in (List.mem_of_getElem? (i := 1168) (by decide +kernel)) (by decide +kernel)
theorem wd1169 : Cond.instanceMethod ⟨"SalePlaces", "filing", "(II)I"⟩ ∈ xgood := xgood_in (List.mem_of_getElem? (i := 1169) (by decide +kernel)) (by decide +kernel)
theorem wd1170 : Cond.selects "SalePlaces" ⟨"SalePlaces", "filing", "(II)I"⟩ ⟨"SalePlaces", "filing", "(II)I"⟩ ∈ xgood := xgood_in (List.mem_of_getElem? (i := 1170) (by decide +kernel)) (by decide +kernel)
theorem wd1171 : Cond.code ⟨"SalePlaces", "filing", "(II)I"⟩ cX10_filing 3 (some .int) ∈ xgood := xgood_in (List.mem_of_getElem? (i := 1171) (by decide +kernel)) (by decide +kernel)
theorem wd1172 : Cond.methodLink "SalePlaces" 282 ⟨"SalePlaces", "isFiling", "(I)Z"⟩ ∈ xgood := xgood_in (List.mem_of_getElem? (i := 1172) (by decide +kernel)) (by decide +kernel)
theorem wd1174 : Cond.instanceMethod ⟨"SalePlaces", "isFiling", "(I)Z"⟩ ∈ xgood := xgood_in (List.mem_of_getElem? (i := 1174) (by decide +kernel)) (by decide +kernel)
theorem wd1175 : Cond.code ⟨"SalePlaces", "isFiling", "(I)Z"⟩ cX10_isFiling 2 (some .boolean) ∈ xgood := xgood_in (List.mem_of_getElem? (i := 1175) (by decide +kernel)) (by decide +kernel)
theorem wd1176 : Cond.methodLink "SalePlaces" 288 ⟨"SalePlaces$Book", "countFiled", "(I)I"⟩ ∈ xgood := xgood_in (List.mem_of_getElem? (i := 1176) (by decide +kernel)) (by decide +kernel)
theorem wd1177 : Cond.instanceMethod ⟨"SalePlaces$Book", "countFiled", "(I)I"⟩ ∈ xgood := xgood_in (List.mem_of_getElem? (i := 1177) (by decide +kernel)) (by decide +kernel)
theorem wd1178 : Cond.selects "SalePlaces$Book" ⟨"SalePlaces$Book", "countFiled", "(I)I"⟩ ⟨"SalePlaces$Book", "countFiled", "(I)I"⟩ ∈ xgood := xgood_in (List.mem_of_getElem? (i := 1178) (by decide +kernel)) (by decide +kernel)
theorem wd1179 : Cond.code ⟨"SalePlaces$Book", "countFiled", "(I)I"⟩ cX1_countFiled 4 (some .int) ∈ xgood := xgood_in (List.mem_of_getElem? (i := 1179) (by decide +kernel)) (by decide +kernel)
theorem wd1181 : Cond.methodLink "SalePlacesLaw" 162 ⟨"SalePlaces", "pays", "(II)I"⟩ ∈ xgood := xgood_in (List.mem_of_getElem? (i := 1181) (by decide +kernel)) (by decide +kernel)
theorem wd1182 : Cond.instanceMethod ⟨"SalePlaces", "pays", "(II)I"⟩ ∈ xgood := xgood_in (List.mem_of_getElem? (i := 1182) (by decide +kernel)) (by decide +kernel)
theorem wd1183 : Cond.selects "SalePlaces" ⟨"SalePlaces", "pays", "(II)I"⟩ ⟨"SalePlaces", "pays", "(II)I"⟩ ∈ xgood := xgood_in (List.mem_of_getElem? (i := 1183) (by decide +kernel)) (by decide +kernel)
theorem wd1184 : Cond.code ⟨"SalePlaces", "pays", "(II)I"⟩ cX10_pays 3 (some .int) ∈ xgood := xgood_in (List.mem_of_getElem? (i := 1184) (by decide +kernel)) (by decide +kernel)
theorem wd1185 : Cond.methodLink "SalePlaces" 291 ⟨"SalePlaces$Book", "paidBy", "(II)I"⟩ ∈ xgood := xgood_in (List.mem_of_getElem? (i := 1185) (by decide +kernel)) (by decide +kernel)
theorem wd1186 : Cond.instanceMethod ⟨"SalePlaces$Book", "paidBy", "(II)I"⟩ ∈ xgood := xgood_in (List.mem_of_getElem? (i := 1186) (by decide +kernel)) (by decide +kernel)
theorem wd1187 : Cond.selects "SalePlaces$Book" ⟨"SalePlaces$Book", "paidBy", "(II)I"⟩ ⟨"SalePlaces$Book", "paidBy", "(II)I"⟩ ∈ xgood := xgood_in (List.mem_of_getElem? (i := 1187) (by decide +kernel)) (by decide +kernel)
theorem wd1188 : Cond.code ⟨"SalePlaces$Book", "paidBy", "(II)I"⟩ cX1_paidBy 5 (some .int) ∈ xgood := xgood_in (List.mem_of_getElem? (i := 1188) (by decide +kernel)) (by decide +kernel)
theorem wd1189 : Cond.methodLink "SalePlacesLaw" 166 ⟨"SalePlaces", "pending", "(II)I"⟩ ∈ xgood := xgood_in (List.mem_of_getElem? (i := 1189) (by decide +kernel)) (by decide +kernel)
theorem wd1190 : Cond.instanceMethod ⟨"SalePlaces", "pending", "(II)I"⟩ ∈ xgood := xgood_in (List.mem_of_getElem? (i := 1190) (by decide +kernel)) (by decide +kernel)
theorem wd1191 : Cond.selects "SalePlaces" ⟨"SalePlaces", "pending", "(II)I"⟩ ⟨"SalePlaces", "pending", "(II)I"⟩ ∈ xgood := xgood_in (List.mem_of_getElem? (i := 1191) (by decide +kernel)) (by decide +kernel)
theorem wd1192 : Cond.code ⟨"SalePlaces", "pending", "(II)I"⟩ cX10_pending 3 (some .int) ∈ xgood := xgood_in (List.mem_of_getElem? (i := 1192) (by decide +kernel)) (by decide +kernel)
theorem wd1193 : Cond.methodLink "SalePlaces" 294 ⟨"SalePlaces$Book", "latestFiling", "()I"⟩ ∈ xgood := xgood_in (List.mem_of_getElem? (i := 1193) (by decide +kernel)) (by decide +kernel)
theorem wd1194 : Cond.instanceMethod ⟨"SalePlaces$Book", "latestFiling", "()I"⟩ ∈ xgood := xgood_in (List.mem_of_getElem? (i := 1194) (by decide +kernel)) (by decide +kernel)
theorem wd1195 : Cond.selects "SalePlaces$Book" ⟨"SalePlaces$Book", "latestFiling", "()I"⟩ ⟨"SalePlaces$Book", "latestFiling", "()I"⟩ ∈ xgood := xgood_in (List.mem_of_getElem? (i := 1195) (by decide +kernel)) (by decide +kernel)
theorem wd1196 : Cond.code ⟨"SalePlaces$Book", "latestFiling", "()I"⟩ cX1_latestFiling 1 (some .int) ∈ xgood := xgood_in (List.mem_of_getElem? (i := 1196) (by decide +kernel)) (by decide +kernel)
theorem wd1197 : Cond.methodLink "SalePlaces" 297 ⟨"SalePlaces$Book", "unpaid", "(II)I"⟩ ∈ xgood := xgood_in (List.mem_of_getElem? (i := 1197) (by decide +kernel)) (by decide +kernel)
theorem wd1198 : Cond.instanceMethod ⟨"SalePlaces$Book", "unpaid", "(II)I"⟩ ∈ xgood := xgood_in (List.mem_of_getElem? (i := 1198) (by decide +kernel)) (by decide +kernel)
theorem wd1199 : Cond.selects "SalePlaces$Book" ⟨"SalePlaces$Book", "unpaid", "(II)I"⟩ ⟨"SalePlaces$Book", "unpaid", "(II)I"⟩ ∈ xgood := xgood_in (List.mem_of_getElem? (i := 1199) (by decide +kernel)) (by decide +kernel)
theorem wd1200 : Cond.code ⟨"SalePlaces$Book", "unpaid", "(II)I"⟩ cX1_unpaid 5 (some .int) ∈ xgood := xgood_in (List.mem_of_getElem? (i := 1200) (by decide +kernel)) (by decide +kernel)
theorem wd1201 : Cond.methodLink "SalePlaces$Book" 72 ⟨"SalePlaces$Book", "paidBy", "(II)I"⟩ ∈ xgood := xgood_in (List.mem_of_getElem? (i := 1201) (by decide +kernel)) (by decide +kernel)
theorem wd1202 : Cond.methodLink "SalePlacesLaw" 170 ⟨"SalePlaces", "wrong", "()I"⟩ ∈ xgood := xgood_in (List.mem_of_getElem? (i := 1202) (by decide +kernel)) (by decide +kernel)
theorem wd1203 : Cond.instanceMethod ⟨"SalePlaces", "wrong", "()I"⟩ ∈ xgood := xgood_in (List.mem_of_getElem? (i := 1203) (by decide +kernel)) (by decide +kernel)
theorem wd1204 : Cond.selects "SalePlaces" ⟨"SalePlaces", "wrong", "()I"⟩ ⟨"SalePlaces", "wrong", "()I"⟩ ∈ xgood := xgood_in (List.mem_of_getElem? (i := 1204) (by decide +kernel)) (by decide +kernel)
theorem wd1205 : Cond.code ⟨"SalePlaces", "wrong", "()I"⟩ cX10_wrong 3 (some .int) ∈ xgood := xgood_in (List.mem_of_getElem? (i := 1205) (by decide +kernel)) (by decide +kernel)
theorem wd1206 : Cond.methodLink "SalePlaces" 300 ⟨"SalePlaces", "shortBy", "(LSalePlaces$Line;)I"⟩ ∈ xgood := xgood_in (List.mem_of_getElem? (i := 1206) (by decide +kernel)) (by decide +kernel)
theorem wd1208 : Cond.instanceMethod ⟨"SalePlaces", "shortBy", "(LSalePlaces$Line;)I"⟩ ∈ xgood := xgood_in (List.mem_of_getElem? (i := 1208) (by decide +kernel)) (by decide +kernel)
theorem wd1209 : Cond.code ⟨"SalePlaces", "shortBy", "(LSalePlaces$Line;)I"⟩ cX10_shortBy 2 (some .int) ∈ xgood := xgood_in (List.mem_of_getElem? (i := 1209) (by decide +kernel)) (by decide +kernel)
theorem wd1210 : Cond.methodLink "SalePlacesLaw" 174 ⟨"SalePlaces", "owed", "(I)I"⟩ ∈ xgood := xgood_in (List.mem_of_getElem? (i := 1210) (by decide +kernel)) (by decide +kernel)
theorem wd1211 : Cond.instanceMethod ⟨"SalePlaces", "owed", "(I)I"⟩ ∈ xgood := xgood_in (List.mem_of_getElem? (i := 1211) (by decide +kernel)) (by decide +kernel)
theorem wd1212 : Cond.selects "SalePlaces" ⟨"SalePlaces", "owed", "(I)I"⟩ ⟨"SalePlaces", "owed", "(I)I"⟩ ∈ xgood := xgood_in (List.mem_of_getElem? (i := 1212) (by decide +kernel)) (by decide +kernel)
theorem wd1213 : Cond.code ⟨"SalePlaces", "owed", "(I)I"⟩ cX10_owed 2 (some .int) ∈ xgood := xgood_in (List.mem_of_getElem? (i := 1213) (by decide +kernel)) (by decide +kernel)
theorem wd1214 : Cond.methodLink "SalePlacesLaw" 178 ⟨"SalePlaces", "file", "(I)I"⟩ ∈ xgood := xgood_in (List.mem_of_getElem? (i := 1214) (by decide +kernel)) (by decide +kernel)
theorem wd1215 : Cond.instanceMethod ⟨"SalePlaces", "file", "(I)I"⟩ ∈ xgood := xgood_in (List.mem_of_getElem? (i := 1215) (by decide +kernel)) (by decide +kernel)
theorem wd1216 : Cond.selects "SalePlaces" ⟨"SalePlaces", "file", "(I)I"⟩ ⟨"SalePlaces", "file", "(I)I"⟩ ∈ xgood := xgood_in (List.mem_of_getElem? (i := 1216) (by decide +kernel)) (by decide +kernel)
theorem wd1217 : Cond.code ⟨"SalePlaces", "file", "(I)I"⟩ cX10_file 2 (some .int) ∈ xgood := xgood_in (List.mem_of_getElem? (i := 1217) (by decide +kernel)) (by decide +kernel)
theorem wd1218 : Cond.methodLink "SalePlaces" 304 ⟨"SalePlaces$Book", "addFiling", "(I)V"⟩ ∈ xgood := xgood_in (List.mem_of_getElem? (i := 1218) (by decide +kernel)) (by decide +kernel)
theorem wd1219 : Cond.instanceMethod ⟨"SalePlaces$Book", "addFiling", "(I)V"⟩ ∈ xgood := xgood_in (List.mem_of_getElem? (i := 1219) (by decide +kernel)) (by decide +kernel)
theorem wd1220 : Cond.selects "SalePlaces$Book" ⟨"SalePlaces$Book", "addFiling", "(I)V"⟩ ⟨"SalePlaces$Book", "addFiling", "(I)V"⟩ ∈ xgood := xgood_in (List.mem_of_getElem? (i := 1220) (by decide +kernel)) (by decide +kernel)
theorem wd1221 : Cond.code ⟨"SalePlaces$Book", "addFiling", "(I)V"⟩ cX1_addFiling 3 none ∈ xgood := xgood_in (List.mem_of_getElem? (i := 1221) (by decide +kernel)) (by decide +kernel)
theorem wd1222 : Cond.methodLink "SalePlaces$Book" 76 ⟨"SalePlaces$Book", "unpaid", "(II)I"⟩ ∈ xgood := xgood_in (List.mem_of_getElem? (i := 1222) (by decide +kernel)) (by decide +kernel)
theorem wd1223 : Cond.methodLink "SalePlaces" 307 ⟨"SalePlaces$Acts", "keep", "(III)V"⟩ ∈ xgood := xgood_in (List.mem_of_getElem? (i := 1223) (by decide +kernel)) (by decide +kernel)
theorem wd1224 : Cond.instanceMethod ⟨"SalePlaces$Acts", "keep", "(III)V"⟩ ∈ xgood := xgood_in (List.mem_of_getElem? (i := 1224) (by decide +kernel)) (by decide +kernel)
theorem wd1225 : Cond.selects "SalePlaces$Acts" ⟨"SalePlaces$Acts", "keep", "(III)V"⟩ ⟨"SalePlaces$Acts", "keep", "(III)V"⟩ ∈ xgood := xgood_in (List.mem_of_getElem? (i := 1225) (by decide +kernel)) (by decide +kernel)
theorem wd1226 : Cond.code ⟨"SalePlaces$Acts", "keep", "(III)V"⟩ cX0_keep 4 none ∈ xgood := xgood_in (List.mem_of_getElem? (i := 1226) (by decide +kernel)) (by decide +kernel)
theorem wd1227 : Cond.methodLink "SalePlaces$Acts" 25 ⟨"SalePlaces$Acts", "forgetFirst", "()V"⟩ ∈ xgood := xgood_in (List.mem_of_getElem? (i := 1227) (by decide +kernel)) (by decide +kernel)
theorem wd1229 : Cond.instanceMethod ⟨"SalePlaces$Acts", "forgetFirst", "()V"⟩ ∈ xgood := xgood_in (List.mem_of_getElem? (i := 1229) (by decide +kernel)) (by decide +kernel)
theorem wd1230 : Cond.code ⟨"SalePlaces$Acts", "forgetFirst", "()V"⟩ cX0_forgetFirst 2 none ∈ xgood := xgood_in (List.mem_of_getElem? (i := 1230) (by decide +kernel)) (by decide +kernel)
theorem wd1231 : Cond.methodLink "SalePlacesLaw" 182 ⟨"SalePlaces", "sale", "(IIIIII)I"⟩ ∈ xgood := xgood_in (List.mem_of_getElem? (i := 1231) (by decide +kernel)) (by decide +kernel)
theorem wd1232 : Cond.instanceMethod ⟨"SalePlaces", "sale", "(IIIIII)I"⟩ ∈ xgood := xgood_in (List.mem_of_getElem? (i := 1232) (by decide +kernel)) (by decide +kernel)
theorem wd1233 : Cond.selects "SalePlaces" ⟨"SalePlaces", "sale", "(IIIIII)I"⟩ ⟨"SalePlaces", "sale", "(IIIIII)I"⟩ ∈ xgood := xgood_in (List.mem_of_getElem? (i := 1233) (by decide +kernel)) (by decide +kernel)
theorem wd1234 : Cond.code ⟨"SalePlaces", "sale", "(IIIIII)I"⟩ cX10_sale 8 (some .int) ∈ xgood := xgood_in (List.mem_of_getElem? (i := 1234) (by decide +kernel)) (by decide +kernel)
theorem wd1235 : Cond.methodLink "SalePlacesLaw" 186 ⟨"SalePlaces", "refund", "(II)I"⟩ ∈ xgood := xgood_in (List.mem_of_getElem? (i := 1235) (by decide +kernel)) (by decide +kernel)
theorem wd1236 : Cond.instanceMethod ⟨"SalePlaces", "refund", "(II)I"⟩ ∈ xgood := xgood_in (List.mem_of_getElem? (i := 1236) (by decide +kernel)) (by decide +kernel)
theorem wd1237 : Cond.selects "SalePlaces" ⟨"SalePlaces", "refund", "(II)I"⟩ ⟨"SalePlaces", "refund", "(II)I"⟩ ∈ xgood := xgood_in (List.mem_of_getElem? (i := 1237) (by decide +kernel)) (by decide +kernel)
theorem wd1238 : Cond.code ⟨"SalePlaces", "refund", "(II)I"⟩ cX10_refund 5 (some .int) ∈ xgood := xgood_in (List.mem_of_getElem? (i := 1238) (by decide +kernel)) (by decide +kernel)
theorem wd1239 : Cond.methodLink "SalePlacesLaw" 190 ⟨"SalePlaces", "move", "(IIII)I"⟩ ∈ xgood := xgood_in (List.mem_of_getElem? (i := 1239) (by decide +kernel)) (by decide +kernel)
theorem wd1240 : Cond.instanceMethod ⟨"SalePlaces", "move", "(IIII)I"⟩ ∈ xgood := xgood_in (List.mem_of_getElem? (i := 1240) (by decide +kernel)) (by decide +kernel)
theorem wd1241 : Cond.selects "SalePlaces" ⟨"SalePlaces", "move", "(IIII)I"⟩ ⟨"SalePlaces", "move", "(IIII)I"⟩ ∈ xgood := xgood_in (List.mem_of_getElem? (i := 1241) (by decide +kernel)) (by decide +kernel)
theorem wd1242 : Cond.code ⟨"SalePlaces", "move", "(IIII)I"⟩ cX10_move 7 (some .int) ∈ xgood := xgood_in (List.mem_of_getElem? (i := 1242) (by decide +kernel)) (by decide +kernel)
theorem wd1243 : Cond.methodLink "SalePlaces" 321 ⟨"SalePlaces$Bounds", "nextFree", "(I)I"⟩ ∈ xgood := xgood_in (List.mem_of_getElem? (i := 1243) (by decide +kernel)) (by decide +kernel)
theorem wd1244 : Cond.methodLink "SalePlaces" 327 ⟨"SalePlaces$Bounds", "staysWithin", "(IIII)Z"⟩ ∈ xgood := xgood_in (List.mem_of_getElem? (i := 1244) (by decide +kernel)) (by decide +kernel)
theorem wd1245 : Cond.instanceMethod ⟨"SalePlaces$Bounds", "staysWithin", "(IIII)Z"⟩ ∈ xgood := xgood_in (List.mem_of_getElem? (i := 1245) (by decide +kernel)) (by decide +kernel)
theorem wd1246 : Cond.selects "SalePlaces$Bounds" ⟨"SalePlaces$Bounds", "staysWithin", "(IIII)Z"⟩ ⟨"SalePlaces$Bounds", "staysWithin", "(IIII)Z"⟩ ∈ xgood := xgood_in (List.mem_of_getElem? (i := 1246) (by decide +kernel)) (by decide +kernel)
theorem wd1247 : Cond.code ⟨"SalePlaces$Bounds", "staysWithin", "(IIII)Z"⟩ cX2_staysWithin 7 (some .boolean) ∈ xgood := xgood_in (List.mem_of_getElem? (i := 1247) (by decide +kernel)) (by decide +kernel)
theorem wd1248 : Cond.methodLink "SalePlaces" 331 ⟨"SalePlaces$Bounds", "addMoved", "(IIII)V"⟩ ∈ xgood := xgood_in (List.mem_of_getElem? (i := 1248) (by decide +kernel)) (by decide +kernel)
theorem wd1249 : Cond.instanceMethod ⟨"SalePlaces$Bounds", "addMoved", "(IIII)V"⟩ ∈ xgood := xgood_in (List.mem_of_getElem? (i := 1249) (by decide +kernel)) (by decide +kernel)
theorem wd1250 : Cond.selects "SalePlaces$Bounds" ⟨"SalePlaces$Bounds", "addMoved", "(IIII)V"⟩ ⟨"SalePlaces$Bounds", "addMoved", "(IIII)V"⟩ ∈ xgood := xgood_in (List.mem_of_getElem? (i := 1250) (by decide +kernel)) (by decide +kernel)
theorem wd1251 : Cond.code ⟨"SalePlaces$Bounds", "addMoved", "(IIII)V"⟩ cX2_addMoved 6 none ∈ xgood := xgood_in (List.mem_of_getElem? (i := 1251) (by decide +kernel)) (by decide +kernel)
theorem wd1252 : Cond.methodLink "SalePlaces$Bounds" 58 ⟨"SalePlaces$Bounds", "putCorner", "(III)V"⟩ ∈ xgood := xgood_in (List.mem_of_getElem? (i := 1252) (by decide +kernel)) (by decide +kernel)
theorem wd1253 : Cond.methodLink "SalePlaces$Bounds" 62 ⟨"SalePlaces$Bounds", "add", "(III)V"⟩ ∈ xgood := xgood_in (List.mem_of_getElem? (i := 1253) (by decide +kernel)) (by decide +kernel)
theorem wd1254 : Cond.methodLink "SalePlacesLaw" 194 ⟨"SalePlaces", "turn", "(IIII)I"⟩ ∈ xgood := xgood_in (List.mem_of_getElem? (i := 1254) (by decide +kernel)) (by decide +kernel)
theorem wd1255 : Cond.instanceMethod ⟨"SalePlaces", "turn", "(IIII)I"⟩ ∈ xgood := xgood_in (List.mem_of_getElem? (i := 1255) (by decide +kernel)) (by decide +kernel)
theorem wd1256 : Cond.selects "SalePlaces" ⟨"SalePlaces", "turn", "(IIII)I"⟩ ⟨"SalePlaces", "turn", "(IIII)I"⟩ ∈ xgood := xgood_in (List.mem_of_getElem? (i := 1256) (by decide +kernel)) (by decide +kernel)
theorem wd1257 : Cond.code ⟨"SalePlaces", "turn", "(IIII)I"⟩ cX10_turn 6 (some .int) ∈ xgood := xgood_in (List.mem_of_getElem? (i := 1257) (by decide +kernel)) (by decide +kernel)
theorem wd1258 : Cond.methodLink "SalePlaces" 339 ⟨"SalePlaces$Rates", "nextFree", "(II)I"⟩ ∈ xgood := xgood_in (List.mem_of_getElem? (i := 1258) (by decide +kernel)) (by decide +kernel)
theorem wd1259 : Cond.methodLink "SalePlaces" 344 ⟨"SalePlaces$Rates", "add", "(IIII)V"⟩ ∈ xgood := xgood_in (List.mem_of_getElem? (i := 1259) (by decide +kernel)) (by decide +kernel)
theorem wd1260 : Cond.methodLink "SalePlacesLaw" 198 ⟨"SalePlaces", "undo", "()Z"⟩ ∈ xgood := xgood_in (List.mem_of_getElem? (i := 1260) (by decide +kernel)) (by decide +kernel)
theorem wd1261 : Cond.instanceMethod ⟨"SalePlaces", "undo", "()Z"⟩ ∈ xgood := xgood_in (List.mem_of_getElem? (i := 1261) (by decide +kernel)) (by decide +kernel)
theorem wd1262 : Cond.selects "SalePlaces" ⟨"SalePlaces", "undo", "()Z"⟩ ⟨"SalePlaces", "undo", "()Z"⟩ ∈ xgood := xgood_in (List.mem_of_getElem? (i := 1262) (by decide +kernel)) (by decide +kernel)
theorem wd1263 : Cond.code ⟨"SalePlaces", "undo", "()Z"⟩ cX10_undo 1 (some .boolean) ∈ xgood := xgood_in (List.mem_of_getElem? (i := 1263) (by decide +kernel)) (by decide +kernel)
theorem wd1264 : Cond.methodLink "SalePlaces" 347 ⟨"SalePlaces", "takeBack", "(I)V"⟩ ∈ xgood := xgood_in (List.mem_of_getElem? (i := 1264) (by decide +kernel)) (by decide +kernel)
theorem wd1266 : Cond.instanceMethod ⟨"SalePlaces", "takeBack", "(I)V"⟩ ∈ xgood := xgood_in (List.mem_of_getElem? (i := 1266) (by decide +kernel)) (by decide +kernel)
theorem wd1267 : Cond.code ⟨"SalePlaces", "takeBack", "(I)V"⟩ cX10_takeBack 2 none ∈ xgood := xgood_in (List.mem_of_getElem? (i := 1267) (by decide +kernel)) (by decide +kernel)
theorem wd1268 : Cond.methodLink "SalePlaces" 384 ⟨"SalePlaces$Book", "dropFiling", "()V"⟩ ∈ xgood := xgood_in (List.mem_of_getElem? (i := 1268) (by decide +kernel)) (by decide +kernel)
theorem wd1269 : Cond.instanceMethod ⟨"SalePlaces$Book", "dropFiling", "()V"⟩ ∈ xgood := xgood_in (List.mem_of_getElem? (i := 1269) (by decide +kernel)) (by decide +kernel)
theorem wd1270 : Cond.selects "SalePlaces$Book" ⟨"SalePlaces$Book", "dropFiling", "()V"⟩ ⟨"SalePlaces$Book", "dropFiling", "()V"⟩ ∈ xgood := xgood_in (List.mem_of_getElem? (i := 1270) (by decide +kernel)) (by decide +kernel)
theorem wd1271 : Cond.code ⟨"SalePlaces$Book", "dropFiling", "()V"⟩ cX1_dropFiling 2 none ∈ xgood := xgood_in (List.mem_of_getElem? (i := 1271) (by decide +kernel)) (by decide +kernel)
theorem wd1272 : Cond.methodLink "SalePlacesLaw" 212 ⟨"SalePlaces", "size", "(I)I"⟩ ∈ xgood := xgood_in (List.mem_of_getElem? (i := 1272) (by decide +kernel)) (by decide +kernel)
theorem wd1273 : Cond.instanceMethod ⟨"SalePlaces", "size", "(I)I"⟩ ∈ xgood := xgood_in (List.mem_of_getElem? (i := 1273) (by decide +kernel)) (by decide +kernel)
theorem wd1274 : Cond.selects "SalePlaces" ⟨"SalePlaces", "size", "(I)I"⟩ ⟨"SalePlaces", "size", "(I)I"⟩ ∈ xgood := xgood_in (List.mem_of_getElem? (i := 1274) (by decide +kernel)) (by decide +kernel)
theorem wd1275 : Cond.code ⟨"SalePlaces", "size", "(I)I"⟩ cX10_size 2 (some .int) ∈ xgood := xgood_in (List.mem_of_getElem? (i := 1275) (by decide +kernel)) (by decide +kernel)
theorem wd1276 : Cond.methodLink "SalePlaces" 356 ⟨"SalePlaces$Book", "unitsLeft", "()I"⟩ ∈ xgood := xgood_in (List.mem_of_getElem? (i := 1276) (by decide +kernel)) (by decide +kernel)
theorem wd1277 : Cond.instanceMethod ⟨"SalePlaces$Book", "unitsLeft", "()I"⟩ ∈ xgood := xgood_in (List.mem_of_getElem? (i := 1277) (by decide +kernel)) (by decide +kernel)
theorem wd1278 : Cond.selects "SalePlaces$Book" ⟨"SalePlaces$Book", "unitsLeft", "()I"⟩ ⟨"SalePlaces$Book", "unitsLeft", "()I"⟩ ∈ xgood := xgood_in (List.mem_of_getElem? (i := 1278) (by decide +kernel)) (by decide +kernel)
theorem wd1279 : Cond.code ⟨"SalePlaces$Book", "unitsLeft", "()I"⟩ cX1_unitsLeft 3 (some .int) ∈ xgood := xgood_in (List.mem_of_getElem? (i := 1279) (by decide +kernel)) (by decide +kernel)
theorem wd1280 : Cond.methodLink "SalePlacesLaw" 216 ⟨"SalePlaces", "trouble", "()I"⟩ ∈ xgood := xgood_in (List.mem_of_getElem? (i := 1280) (by decide +kernel)) (by decide +kernel)
theorem wd1281 : Cond.instanceMethod ⟨"SalePlaces", "trouble", "()I"⟩ ∈ xgood := xgood_in (List.mem_of_getElem? (i := 1281) (by decide +kernel)) (by decide +kernel)
theorem wd1282 : Cond.selects "SalePlaces" ⟨"SalePlaces", "trouble", "()I"⟩ ⟨"SalePlaces", "trouble", "()I"⟩ ∈ xgood := xgood_in (List.mem_of_getElem? (i := 1282) (by decide +kernel)) (by decide +kernel)
theorem wd1283 : Cond.code ⟨"SalePlaces", "trouble", "()I"⟩ cX10_trouble 1 (some .int) ∈ xgood := xgood_in (List.mem_of_getElem? (i := 1283) (by decide +kernel)) (by decide +kernel)
theorem wd1284 : Cond.methodLink "SalePlacesLaw" 203 ⟨"SalePlacesLaw", "idle", "(LSalePlaces;I[J)I"⟩ ∈ xgood := xgood_in (List.mem_of_getElem? (i := 1284) (by decide +kernel)) (by decide +kernel)
theorem wd1285 : Cond.static ⟨"SalePlacesLaw", "idle", "(LSalePlaces;I[J)I"⟩ ∈ xgood := xgood_in (List.mem_of_getElem? (i := 1285) (by decide +kernel)) (by decide +kernel)
theorem wd1292 : Cond.methodLink "SalePlaces" 350 ⟨"SalePlaces$Book", "mentions", "(I)Z"⟩ ∈ xgood := xgood_in (List.mem_of_getElem? (i := 1292) (by decide +kernel)) (by decide +kernel)
theorem wd1293 : Cond.instanceMethod ⟨"SalePlaces$Book", "mentions", "(I)Z"⟩ ∈ xgood := xgood_in (List.mem_of_getElem? (i := 1293) (by decide +kernel)) (by decide +kernel)
theorem wd1294 : Cond.selects "SalePlaces$Book" ⟨"SalePlaces$Book", "mentions", "(I)Z"⟩ ⟨"SalePlaces$Book", "mentions", "(I)Z"⟩ ∈ xgood := xgood_in (List.mem_of_getElem? (i := 1294) (by decide +kernel)) (by decide +kernel)
theorem wd1295 : Cond.code ⟨"SalePlaces$Book", "mentions", "(I)Z"⟩ cX1_mentions 3 (some .boolean) ∈ xgood := xgood_in (List.mem_of_getElem? (i := 1295) (by decide +kernel)) (by decide +kernel)
theorem wd1296 : Cond.methodLink "SalePlaces$Book" 45 ⟨"SalePlaces$Line", "mentions", "(I)Z"⟩ ∈ xgood := xgood_in (List.mem_of_getElem? (i := 1296) (by decide +kernel)) (by decide +kernel)
theorem wd1297 : Cond.instanceMethod ⟨"SalePlaces$Line", "mentions", "(I)Z"⟩ ∈ xgood := xgood_in (List.mem_of_getElem? (i := 1297) (by decide +kernel)) (by decide +kernel)
theorem wd1298 : Cond.selects "SalePlaces$Line" ⟨"SalePlaces$Line", "mentions", "(I)Z"⟩ ⟨"SalePlaces$Line", "mentions", "(I)Z"⟩ ∈ xgood := xgood_in (List.mem_of_getElem? (i := 1298) (by decide +kernel)) (by decide +kernel)
theorem wd1299 : Cond.code ⟨"SalePlaces$Line", "mentions", "(I)Z"⟩ cX5_mentions 3 (some .boolean) ∈ xgood := xgood_in (List.mem_of_getElem? (i := 1299) (by decide +kernel)) (by decide +kernel)
theorem wd1300 : Cond.classLink "SalePlaces" 353 "java/util/NoSuchElementException" ∈ xgood := xgood_in (List.mem_of_getElem? (i := 1300) (by decide +kernel)) (by decide +kernel)
theorem wd1361 : Cond.classLink "SalePlacesLaw" 16 "SalePlacesModel" ∈ xgood := xgood_in (List.mem_of_getElem? (i := 1361) (by decide +kernel)) (by decide +kernel)
theorem wd1362 : Cond.instantiable "SalePlacesModel" 32 ∈ xgood := xgood_in (List.mem_of_getElem? (i := 1362) (by decide +kernel)) (by decide +kernel)
theorem wd1363 : Cond.methodLink "SalePlacesLaw" 18 ⟨"SalePlacesModel", "<init>", "()V"⟩ ∈ xgood := xgood_in (List.mem_of_getElem? (i := 1363) (by decide +kernel)) (by decide +kernel)
theorem wd1364 : Cond.instanceMethod ⟨"SalePlacesModel", "<init>", "()V"⟩ ∈ xgood := xgood_in (List.mem_of_getElem? (i := 1364) (by decide +kernel)) (by decide +kernel)
theorem wd1365 : Cond.code ⟨"SalePlacesModel", "<init>", "()V"⟩ cX11_init 1 none ∈ xgood := xgood_in (List.mem_of_getElem? (i := 1365) (by decide +kernel)) (by decide +kernel)
theorem wd1366 : Cond.methodLink "SalePlacesModel" 3 ⟨"java/lang/Object", "<init>", "()V"⟩ ∈ xgood := xgood_in (List.mem_of_getElem? (i := 1366) (by decide +kernel)) (by decide +kernel)
theorem wd1367 : Cond.fieldLink "SalePlacesModel" 64 "SalePlacesModel" "thrown" "I" ∈ xgood := xgood_in (List.mem_of_getElem? (i := 1367) (by decide +kernel)) (by decide +kernel)
theorem wd1368 : Cond.fieldLink "SalePlacesModel" 67 "SalePlacesModel" "trouble" "I" ∈ xgood := xgood_in (List.mem_of_getElem? (i := 1368) (by decide +kernel)) (by decide +kernel)
theorem wd1369 : Cond.fieldLink "SalePlacesModel" 9 "SalePlacesModel" "wrongAt" "I" ∈ xgood := xgood_in (List.mem_of_getElem? (i := 1369) (by decide +kernel)) (by decide +kernel)
theorem wd1370 : Cond.fieldLink "SalePlacesModel" 13 "SalePlacesModel" "d" "[I" ∈ xgood := xgood_in (List.mem_of_getElem? (i := 1370) (by decide +kernel)) (by decide +kernel)
theorem wd1371 : Cond.fieldLink "SalePlacesModel" 17 "SalePlacesModel" "read" "[I" ∈ xgood := xgood_in (List.mem_of_getElem? (i := 1371) (by decide +kernel)) (by decide +kernel)
theorem wd1372 : Cond.fieldLink "SalePlacesModel" 20 "SalePlacesModel" "classNames" "[J" ∈ xgood := xgood_in (List.mem_of_getElem? (i := 1372) (by decide +kernel)) (by decide +kernel)
theorem wd1373 : Cond.fieldLink "SalePlacesModel" 24 "SalePlacesModel" "placeNames" "[J" ∈ xgood := xgood_in (List.mem_of_getElem? (i := 1373) (by decide +kernel)) (by decide +kernel)
theorem wd1374 : Cond.fieldLink "SalePlacesModel" 251 "SalePlacesModel" "isThere" "Z" ∈ xgood := xgood_in (List.mem_of_getElem? (i := 1374) (by decide +kernel)) (by decide +kernel)
theorem wd1375 : Cond.fieldLink "SalePlacesModel" 27 "SalePlacesModel" "tape" "[B" ∈ xgood := xgood_in (List.mem_of_getElem? (i := 1375) (by decide +kernel)) (by decide +kernel)
theorem wd1376 : Cond.fieldLink "SalePlacesModel" 245 "SalePlacesModel" "taped" "I" ∈ xgood := xgood_in (List.mem_of_getElem? (i := 1376) (by decide +kernel)) (by decide +kernel)
theorem wd1377 : Cond.fieldLink "SalePlacesModel" 77 "SalePlacesModel" "size" "I" ∈ xgood := xgood_in (List.mem_of_getElem? (i := 1377) (by decide +kernel)) (by decide +kernel)
theorem wd1378 : Cond.fieldLink "SalePlacesModel" 83 "SalePlacesModel" "spot" "I" ∈ xgood := xgood_in (List.mem_of_getElem? (i := 1378) (by decide +kernel)) (by decide +kernel)
theorem wd1379 : Cond.fieldLink "SalePlacesModel" 92 "SalePlacesModel" "token" "I" ∈ xgood := xgood_in (List.mem_of_getElem? (i := 1379) (by decide +kernel)) (by decide +kernel)
theorem wd1380 : Cond.fieldLink "SalePlacesModel" 89 "SalePlacesModel" "at" "I" ∈ xgood := xgood_in (List.mem_of_getElem? (i := 1380) (by decide +kernel)) (by decide +kernel)
theorem wd1381 : Cond.fieldLink "SalePlacesModel" 113 "SalePlacesModel" "number" "I" ∈ xgood := xgood_in (List.mem_of_getElem? (i := 1381) (by decide +kernel)) (by decide +kernel)
theorem wd1382 : Cond.fieldLink "SalePlacesModel" 80 "SalePlacesModel" "fault" "I" ∈ xgood := xgood_in (List.mem_of_getElem? (i := 1382) (by decide +kernel)) (by decide +kernel)
theorem wd1383 : Cond.fieldLink "SalePlacesModel" 109 "SalePlacesModel" "word" "J" ∈ xgood := xgood_in (List.mem_of_getElem? (i := 1383) (by decide +kernel)) (by decide +kernel)
theorem wd1384 : Cond.fieldLink "SalePlacesModel" 31 "SalePlacesModel" "stack" "[I" ∈ xgood := xgood_in (List.mem_of_getElem? (i := 1384) (by decide +kernel)) (by decide +kernel)
theorem wd1385 : Cond.fieldLink "SalePlacesModel" 34 "SalePlacesModel" "other" "[I" ∈ xgood := xgood_in (List.mem_of_getElem? (i := 1385) (by decide +kernel)) (by decide +kernel)
theorem wd1386 : Cond.fieldLink "SalePlacesModel" 37 "SalePlacesModel" "book" "[I" ∈ xgood := xgood_in (List.mem_of_getElem? (i := 1386) (by decide +kernel)) (by decide +kernel)
theorem wd1387 : Cond.fieldLink "SalePlacesModel" 255 "SalePlacesModel" "lines" "I" ∈ xgood := xgood_in (List.mem_of_getElem? (i := 1387) (by decide +kernel)) (by decide +kernel)
theorem wd1388 : Cond.fieldLink "SalePlacesModel" 40 "SalePlacesModel" "entryPlace" "[I" ∈ xgood := xgood_in (List.mem_of_getElem? (i := 1388) (by decide +kernel)) (by decide +kernel)
theorem wd1389 : Cond.fieldLink "SalePlacesModel" 43 "SalePlacesModel" "entryClass" "[I" ∈ xgood := xgood_in (List.mem_of_getElem? (i := 1389) (by decide +kernel)) (by decide +kernel)
theorem wd1390 : Cond.fieldLink "SalePlacesModel" 46 "SalePlacesModel" "entryTaxes" "[I" ∈ xgood := xgood_in (List.mem_of_getElem? (i := 1390) (by decide +kernel)) (by decide +kernel)
theorem wd1391 : Cond.fieldLink "SalePlacesModel" 381 "SalePlacesModel" "entryMany" "I" ∈ xgood := xgood_in (List.mem_of_getElem? (i := 1391) (by decide +kernel)) (by decide +kernel)
theorem wd1392 : Cond.fieldLink "SalePlacesModel" 49 "SalePlacesModel" "filedTo" "[I" ∈ xgood := xgood_in (List.mem_of_getElem? (i := 1392) (by decide +kernel)) (by decide +kernel)
theorem wd1393 : Cond.fieldLink "SalePlacesModel" 52 "SalePlacesModel" "paid" "[I" ∈ xgood := xgood_in (List.mem_of_getElem? (i := 1393) (by decide +kernel)) (by decide +kernel)
theorem wd1394 : Cond.fieldLink "SalePlacesModel" 261 "SalePlacesModel" "filings" "I" ∈ xgood := xgood_in (List.mem_of_getElem? (i := 1394) (by decide +kernel)) (by decide +kernel)
theorem wd1395 : Cond.fieldLink "SalePlacesModel" 55 "SalePlacesModel" "actWhat" "[I" ∈ xgood := xgood_in (List.mem_of_getElem? (i := 1395) (by decide +kernel)) (by decide +kernel)
theorem wd1396 : Cond.fieldLink "SalePlacesModel" 58 "SalePlacesModel" "actLine" "[I" ∈ xgood := xgood_in (List.mem_of_getElem? (i := 1396) (by decide +kernel)) (by decide +kernel)
theorem wd1397 : Cond.fieldLink "SalePlacesModel" 61 "SalePlacesModel" "actUnits" "[I" ∈ xgood := xgood_in (List.mem_of_getElem? (i := 1397) (by decide +kernel)) (by decide +kernel)
theorem wd1398 : Cond.fieldLink "SalePlacesModel" 258 "SalePlacesModel" "acts" "I" ∈ xgood := xgood_in (List.mem_of_getElem? (i := 1398) (by decide +kernel)) (by decide +kernel)
theorem wd1464 : Cond.methodLink "SalePlacesLaw" 209 ⟨"SalePlacesModel", "thrown", "()I"⟩ ∈ xgood := xgood_in (List.mem_of_getElem? (i := 1464) (by decide +kernel)) (by decide +kernel)
theorem wd1465 : Cond.instanceMethod ⟨"SalePlacesModel", "thrown", "()I"⟩ ∈ xgood := xgood_in (List.mem_of_getElem? (i := 1465) (by decide +kernel)) (by decide +kernel)
theorem wd1466 : Cond.selects "SalePlacesModel" ⟨"SalePlacesModel", "thrown", "()I"⟩ ⟨"SalePlacesModel", "thrown", "()I"⟩ ∈ xgood := xgood_in (List.mem_of_getElem? (i := 1466) (by decide +kernel)) (by decide +kernel)
theorem wd1467 : Cond.code ⟨"SalePlacesModel", "thrown", "()I"⟩ cX11_thrown 1 (some .int) ∈ xgood := xgood_in (List.mem_of_getElem? (i := 1467) (by decide +kernel)) (by decide +kernel)
theorem wd1468 : Cond.methodLink "SalePlacesLaw" 23 ⟨"SalePlacesModel", "feed", "(IIIII)I"⟩ ∈ xgood := xgood_in (List.mem_of_getElem? (i := 1468) (by decide +kernel)) (by decide +kernel)
theorem wd1469 : Cond.instanceMethod ⟨"SalePlacesModel", "feed", "(IIIII)I"⟩ ∈ xgood := xgood_in (List.mem_of_getElem? (i := 1469) (by decide +kernel)) (by decide +kernel)
theorem wd1470 : Cond.selects "SalePlacesModel" ⟨"SalePlacesModel", "feed", "(IIIII)I"⟩ ⟨"SalePlacesModel", "feed", "(IIIII)I"⟩ ∈ xgood := xgood_in (List.mem_of_getElem? (i := 1470) (by decide +kernel)) (by decide +kernel)
theorem wd1471 : Cond.code ⟨"SalePlacesModel", "feed", "(IIIII)I"⟩ cX11_feed 8 (some .int) ∈ xgood := xgood_in (List.mem_of_getElem? (i := 1471) (by decide +kernel)) (by decide +kernel)
theorem wd1472 : Cond.methodLink "SalePlacesLaw" 27 ⟨"SalePlacesModel", "desk", "(I)I"⟩ ∈ xgood := xgood_in (List.mem_of_getElem? (i := 1472) (by decide +kernel)) (by decide +kernel)
theorem wd1473 : Cond.instanceMethod ⟨"SalePlacesModel", "desk", "(I)I"⟩ ∈ xgood := xgood_in (List.mem_of_getElem? (i := 1473) (by decide +kernel)) (by decide +kernel)
theorem wd1474 : Cond.selects "SalePlacesModel" ⟨"SalePlacesModel", "desk", "(I)I"⟩ ⟨"SalePlacesModel", "desk", "(I)I"⟩ ∈ xgood := xgood_in (List.mem_of_getElem? (i := 1474) (by decide +kernel)) (by decide +kernel)
theorem wd1475 : Cond.code ⟨"SalePlacesModel", "desk", "(I)I"⟩ cX11_desk 3 (some .int) ∈ xgood := xgood_in (List.mem_of_getElem? (i := 1475) (by decide +kernel)) (by decide +kernel)
theorem wd1476 : Cond.methodLink "SalePlacesModel" 70 ⟨"SalePlacesModel", "refused", "(I)I"⟩ ∈ xgood := xgood_in (List.mem_of_getElem? (i := 1476) (by decide +kernel)) (by decide +kernel)
theorem wd1478 : Cond.instanceMethod ⟨"SalePlacesModel", "refused", "(I)I"⟩ ∈ xgood := xgood_in (List.mem_of_getElem? (i := 1478) (by decide +kernel)) (by decide +kernel)
theorem wd1479 : Cond.code ⟨"SalePlacesModel", "refused", "(I)I"⟩ cX11_refused 2 (some .int) ∈ xgood := xgood_in (List.mem_of_getElem? (i := 1479) (by decide +kernel)) (by decide +kernel)
theorem wd1480 : Cond.methodLink "SalePlacesModel" 248 ⟨"SalePlacesModel", "readAll", "()V"⟩ ∈ xgood := xgood_in (List.mem_of_getElem? (i := 1480) (by decide +kernel)) (by decide +kernel)
theorem wd1482 : Cond.instanceMethod ⟨"SalePlacesModel", "readAll", "()V"⟩ ∈ xgood := xgood_in (List.mem_of_getElem? (i := 1482) (by decide +kernel)) (by decide +kernel)
theorem wd1483 : Cond.code ⟨"SalePlacesModel", "readAll", "()V"⟩ cX11_readAll 2 none ∈ xgood := xgood_in (List.mem_of_getElem? (i := 1483) (by decide +kernel)) (by decide +kernel)
theorem wd1484 : Cond.methodLink "SalePlacesModel" 130 ⟨"SalePlacesModel", "next", "()V"⟩ ∈ xgood := xgood_in (List.mem_of_getElem? (i := 1484) (by decide +kernel)) (by decide +kernel)
theorem wd1486 : Cond.instanceMethod ⟨"SalePlacesModel", "next", "()V"⟩ ∈ xgood := xgood_in (List.mem_of_getElem? (i := 1486) (by decide +kernel)) (by decide +kernel)
theorem wd1487 : Cond.code ⟨"SalePlacesModel", "next", "()V"⟩ cX11_next 2 none ∈ xgood := xgood_in (List.mem_of_getElem? (i := 1487) (by decide +kernel)) (by decide +kernel)
theorem wd1488 : Cond.methodLink "SalePlacesModel" 86 ⟨"SalePlacesModel", "byteAt", "(I)I"⟩ ∈ xgood := xgood_in (List.mem_of_getElem? (i := 1488) (by decide +kernel)) (by decide +kernel)
theorem wd1490 : Cond.instanceMethod ⟨"SalePlacesModel", "byteAt", "(I)I"⟩ ∈ xgood := xgood_in (List.mem_of_getElem? (i := 1490) (by decide +kernel)) (by decide +kernel)
theorem wd1491 : Cond.code ⟨"SalePlacesModel", "byteAt", "(I)I"⟩ cX11_byteAt 2 (some .int) ∈ xgood := xgood_in (List.mem_of_getElem? (i := 1491) (by decide +kernel)) (by decide +kernel)
theorem wd1492 : Cond.methodLink "SalePlacesModel" 95 ⟨"SalePlacesModel", "in", "(III)Z"⟩ ∈ xgood := xgood_in (List.mem_of_getElem? (i := 1492) (by decide +kernel)) (by decide +kernel)
theorem wd1493 : Cond.static ⟨"SalePlacesModel", "in", "(III)Z"⟩ ∈ xgood := xgood_in (List.mem_of_getElem? (i := 1493) (by decide +kernel)) (by decide +kernel)
theorem wd1494 : Cond.code ⟨"SalePlacesModel", "in", "(III)Z"⟩ cX11_in 3 (some .boolean) ∈ xgood := xgood_in (List.mem_of_getElem? (i := 1494) (by decide +kernel)) (by decide +kernel)
theorem wd1495 : Cond.methodLink "SalePlacesModel" 99 ⟨"SalePlacesModel", "nextWord", "()V"⟩ ∈ xgood := xgood_in (List.mem_of_getElem? (i := 1495) (by decide +kernel)) (by decide +kernel)
theorem wd1497 : Cond.instanceMethod ⟨"SalePlacesModel", "nextWord", "()V"⟩ ∈ xgood := xgood_in (List.mem_of_getElem? (i := 1497) (by decide +kernel)) (by decide +kernel)
theorem wd1498 : Cond.code ⟨"SalePlacesModel", "nextWord", "()V"⟩ cX11_nextWord 1 none ∈ xgood := xgood_in (List.mem_of_getElem? (i := 1498) (by decide +kernel)) (by decide +kernel)
theorem wd1499 : Cond.methodLink "SalePlacesModel" 102 ⟨"SalePlacesModel", "nextWhole", "()V"⟩ ∈ xgood := xgood_in (List.mem_of_getElem? (i := 1499) (by decide +kernel)) (by decide +kernel)
theorem wd1501 : Cond.instanceMethod ⟨"SalePlacesModel", "nextWhole", "()V"⟩ ∈ xgood := xgood_in (List.mem_of_getElem? (i := 1501) (by decide +kernel)) (by decide +kernel)
theorem wd1502 : Cond.code ⟨"SalePlacesModel", "nextWhole", "()V"⟩ cX11_nextWhole 1 none ∈ xgood := xgood_in (List.mem_of_getElem? (i := 1502) (by decide +kernel)) (by decide +kernel)
theorem wd1503 : Cond.methodLink "SalePlacesModel" 105 ⟨"SalePlacesModel", "nextSign", "(I)V"⟩ ∈ xgood := xgood_in (List.mem_of_getElem? (i := 1503) (by decide +kernel)) (by decide +kernel)
theorem wd1505 : Cond.instanceMethod ⟨"SalePlacesModel", "nextSign", "(I)V"⟩ ∈ xgood := xgood_in (List.mem_of_getElem? (i := 1505) (by decide +kernel)) (by decide +kernel)
theorem wd1506 : Cond.code ⟨"SalePlacesModel", "nextSign", "(I)V"⟩ cX11_nextSign 2 none ∈ xgood := xgood_in (List.mem_of_getElem? (i := 1506) (by decide +kernel)) (by decide +kernel)
theorem wd1507 : Cond.methodLink "SalePlacesModel" 181 ⟨"SalePlacesModel", "readLine", "()V"⟩ ∈ xgood := xgood_in (List.mem_of_getElem? (i := 1507) (by decide +kernel)) (by decide +kernel)
theorem wd1509 : Cond.instanceMethod ⟨"SalePlacesModel", "readLine", "()V"⟩ ∈ xgood := xgood_in (List.mem_of_getElem? (i := 1509) (by decide +kernel)) (by decide +kernel)
theorem wd1510 : Cond.code ⟨"SalePlacesModel", "readLine", "()V"⟩ cX11_readLine 1 none ∈ xgood := xgood_in (List.mem_of_getElem? (i := 1510) (by decide +kernel)) (by decide +kernel)
theorem wd1512 : Cond.methodLink "SalePlacesModel" 126 ⟨"SalePlacesModel", "isWord", "(Ljava/lang/String;)Z"⟩ ∈ xgood := xgood_in (List.mem_of_getElem? (i := 1512) (by decide +kernel)) (by decide +kernel)
theorem wd1514 : Cond.instanceMethod ⟨"SalePlacesModel", "isWord", "(Ljava/lang/String;)Z"⟩ ∈ xgood := xgood_in (List.mem_of_getElem? (i := 1514) (by decide +kernel)) (by decide +kernel)
theorem wd1515 : Cond.code ⟨"SalePlacesModel", "isWord", "(Ljava/lang/String;)Z"⟩ cX11_isWord 5 (some .boolean) ∈ xgood := xgood_in (List.mem_of_getElem? (i := 1515) (by decide +kernel)) (by decide +kernel)
theorem wd1516 : Cond.methodLink "SalePlacesModel" 116 ⟨"java/lang/String", "length", "()I"⟩ ∈ xgood := xgood_in (List.mem_of_getElem? (i := 1516) (by decide +kernel)) (by decide +kernel)
theorem wd1517 : Cond.methodLink "SalePlacesModel" 122 ⟨"java/lang/String", "charAt", "(I)C"⟩ ∈ xgood := xgood_in (List.mem_of_getElem? (i := 1517) (by decide +kernel)) (by decide +kernel)
theorem wd1518 : Cond.methodLink "SalePlacesModel" 184 ⟨"SalePlacesModel", "readDesk", "()V"⟩ ∈ xgood := xgood_in (List.mem_of_getElem? (i := 1518) (by decide +kernel)) (by decide +kernel)
theorem wd1520 : Cond.instanceMethod ⟨"SalePlacesModel", "readDesk", "()V"⟩ ∈ xgood := xgood_in (List.mem_of_getElem? (i := 1520) (by decide +kernel)) (by decide +kernel)
theorem wd1521 : Cond.code ⟨"SalePlacesModel", "readDesk", "()V"⟩ cX11_readDesk 3 none ∈ xgood := xgood_in (List.mem_of_getElem? (i := 1521) (by decide +kernel)) (by decide +kernel)
theorem wd1522 : Cond.methodLink "SalePlacesModel" 133 ⟨"SalePlacesModel", "flaw", "(I)V"⟩ ∈ xgood := xgood_in (List.mem_of_getElem? (i := 1522) (by decide +kernel)) (by decide +kernel)
theorem wd1524 : Cond.instanceMethod ⟨"SalePlacesModel", "flaw", "(I)V"⟩ ∈ xgood := xgood_in (List.mem_of_getElem? (i := 1524) (by decide +kernel)) (by decide +kernel)
theorem wd1525 : Cond.code ⟨"SalePlacesModel", "flaw", "(I)V"⟩ cX11_flaw 2 none ∈ xgood := xgood_in (List.mem_of_getElem? (i := 1525) (by decide +kernel)) (by decide +kernel)
theorem wd1527 : Cond.methodLink "SalePlacesModel" 206 ⟨"SalePlacesModel", "readPart", "(Ljava/lang/String;II)I"⟩ ∈ xgood := xgood_in (List.mem_of_getElem? (i := 1527) (by decide +kernel)) (by decide +kernel)
theorem wd1529 : Cond.instanceMethod ⟨"SalePlacesModel", "readPart", "(Ljava/lang/String;II)I"⟩ ∈ xgood := xgood_in (List.mem_of_getElem? (i := 1529) (by decide +kernel)) (by decide +kernel)
theorem wd1530 : Cond.code ⟨"SalePlacesModel", "readPart", "(Ljava/lang/String;II)I"⟩ cX11_readPart 4 (some .int) ∈ xgood := xgood_in (List.mem_of_getElem? (i := 1530) (by decide +kernel)) (by decide +kernel)
theorem wd1531 : Cond.methodLink "SalePlacesModel" 136 ⟨"SalePlacesModel", "takes", "(Ljava/lang/String;)Z"⟩ ∈ xgood := xgood_in (List.mem_of_getElem? (i := 1531) (by decide +kernel)) (by decide +kernel)
theorem wd1533 : Cond.instanceMethod ⟨"SalePlacesModel", "takes", "(Ljava/lang/String;)Z"⟩ ∈ xgood := xgood_in (List.mem_of_getElem? (i := 1533) (by decide +kernel)) (by decide +kernel)
theorem wd1534 : Cond.code ⟨"SalePlacesModel", "takes", "(Ljava/lang/String;)Z"⟩ cX11_takes 3 (some .boolean) ∈ xgood := xgood_in (List.mem_of_getElem? (i := 1534) (by decide +kernel)) (by decide +kernel)
theorem wd1535 : Cond.methodLink "SalePlacesModel" 139 ⟨"SalePlacesModel", "readWhole", "(II)I"⟩ ∈ xgood := xgood_in (List.mem_of_getElem? (i := 1535) (by decide +kernel)) (by decide +kernel)
theorem wd1537 : Cond.instanceMethod ⟨"SalePlacesModel", "readWhole", "(II)I"⟩ ∈ xgood := xgood_in (List.mem_of_getElem? (i := 1537) (by decide +kernel)) (by decide +kernel)
theorem wd1538 : Cond.code ⟨"SalePlacesModel", "readWhole", "(II)I"⟩ cX11_readWhole 4 (some .int) ∈ xgood := xgood_in (List.mem_of_getElem? (i := 1538) (by decide +kernel)) (by decide +kernel)
theorem wd1541 : Cond.methodLink "SalePlacesModel" 187 ⟨"SalePlacesModel", "readClass", "()V"⟩ ∈ xgood := xgood_in (List.mem_of_getElem? (i := 1541) (by decide +kernel)) (by decide +kernel)
theorem wd1543 : Cond.instanceMethod ⟨"SalePlacesModel", "readClass", "()V"⟩ ∈ xgood := xgood_in (List.mem_of_getElem? (i := 1543) (by decide +kernel)) (by decide +kernel)
theorem wd1544 : Cond.code ⟨"SalePlacesModel", "readClass", "()V"⟩ cX11_readClass 4 none ∈ xgood := xgood_in (List.mem_of_getElem? (i := 1544) (by decide +kernel)) (by decide +kernel)
theorem wd1545 : Cond.methodLink "SalePlacesModel" 212 ⟨"SalePlacesModel", "begins", "(II)V"⟩ ∈ xgood := xgood_in (List.mem_of_getElem? (i := 1545) (by decide +kernel)) (by decide +kernel)
theorem wd1547 : Cond.instanceMethod ⟨"SalePlacesModel", "begins", "(II)V"⟩ ∈ xgood := xgood_in (List.mem_of_getElem? (i := 1547) (by decide +kernel)) (by decide +kernel)
theorem wd1548 : Cond.code ⟨"SalePlacesModel", "begins", "(II)V"⟩ cX11_begins 3 none ∈ xgood := xgood_in (List.mem_of_getElem? (i := 1548) (by decide +kernel)) (by decide +kernel)
theorem wd1549 : Cond.methodLink "SalePlacesModel" 216 ⟨"SalePlacesModel", "readFresh", "()J"⟩ ∈ xgood := xgood_in (List.mem_of_getElem? (i := 1549) (by decide +kernel)) (by decide +kernel)
theorem wd1551 : Cond.instanceMethod ⟨"SalePlacesModel", "readFresh", "()J"⟩ ∈ xgood := xgood_in (List.mem_of_getElem? (i := 1551) (by decide +kernel)) (by decide +kernel)
theorem wd1552 : Cond.code ⟨"SalePlacesModel", "readFresh", "()J"⟩ cX11_readFresh 3 (some .long) ∈ xgood := xgood_in (List.mem_of_getElem? (i := 1552) (by decide +kernel)) (by decide +kernel)
theorem wd1553 : Cond.methodLink "SalePlacesModel" 167 ⟨"SalePlacesModel", "isName", "()Z"⟩ ∈ xgood := xgood_in (List.mem_of_getElem? (i := 1553) (by decide +kernel)) (by decide +kernel)
theorem wd1555 : Cond.instanceMethod ⟨"SalePlacesModel", "isName", "()Z"⟩ ∈ xgood := xgood_in (List.mem_of_getElem? (i := 1555) (by decide +kernel)) (by decide +kernel)
theorem wd1556 : Cond.code ⟨"SalePlacesModel", "isName", "()Z"⟩ cX11_isName 1 (some .boolean) ∈ xgood := xgood_in (List.mem_of_getElem? (i := 1556) (by decide +kernel)) (by decide +kernel)
theorem wd1565 : Cond.methodLink "SalePlacesModel" 171 ⟨"SalePlacesModel", "classHere", "()I"⟩ ∈ xgood := xgood_in (List.mem_of_getElem? (i := 1565) (by decide +kernel)) (by decide +kernel)
theorem wd1567 : Cond.instanceMethod ⟨"SalePlacesModel", "classHere", "()I"⟩ ∈ xgood := xgood_in (List.mem_of_getElem? (i := 1567) (by decide +kernel)) (by decide +kernel)
theorem wd1568 : Cond.code ⟨"SalePlacesModel", "classHere", "()I"⟩ cX11_classHere 1 (some .int) ∈ xgood := xgood_in (List.mem_of_getElem? (i := 1568) (by decide +kernel)) (by decide +kernel)
theorem wd1569 : Cond.methodLink "SalePlacesModel" 163 ⟨"SalePlacesModel", "find", "([JI)I"⟩ ∈ xgood := xgood_in (List.mem_of_getElem? (i := 1569) (by decide +kernel)) (by decide +kernel)
theorem wd1571 : Cond.instanceMethod ⟨"SalePlacesModel", "find", "([JI)I"⟩ ∈ xgood := xgood_in (List.mem_of_getElem? (i := 1571) (by decide +kernel)) (by decide +kernel)
theorem wd1572 : Cond.code ⟨"SalePlacesModel", "find", "([JI)I"⟩ cX11_find 4 (some .int) ∈ xgood := xgood_in (List.mem_of_getElem? (i := 1572) (by decide +kernel)) (by decide +kernel)
theorem wd1573 : Cond.methodLink "SalePlacesModel" 174 ⟨"SalePlacesModel", "placeHere", "()I"⟩ ∈ xgood := xgood_in (List.mem_of_getElem? (i := 1573) (by decide +kernel)) (by decide +kernel)
theorem wd1575 : Cond.instanceMethod ⟨"SalePlacesModel", "placeHere", "()I"⟩ ∈ xgood := xgood_in (List.mem_of_getElem? (i := 1575) (by decide +kernel)) (by decide +kernel)
theorem wd1576 : Cond.code ⟨"SalePlacesModel", "placeHere", "()I"⟩ cX11_placeHere 1 (some .int) ∈ xgood := xgood_in (List.mem_of_getElem? (i := 1576) (by decide +kernel)) (by decide +kernel)
theorem wd1577 : Cond.methodLink "SalePlacesModel" 220 ⟨"SalePlacesModel", "readKnown", "(Z)I"⟩ ∈ xgood := xgood_in (List.mem_of_getElem? (i := 1577) (by decide +kernel)) (by decide +kernel)
theorem wd1579 : Cond.instanceMethod ⟨"SalePlacesModel", "readKnown", "(Z)I"⟩ ∈ xgood := xgood_in (List.mem_of_getElem? (i := 1579) (by decide +kernel)) (by decide +kernel)
theorem wd1580 : Cond.code ⟨"SalePlacesModel", "readKnown", "(Z)I"⟩ cX11_readKnown 3 (some .int) ∈ xgood := xgood_in (List.mem_of_getElem? (i := 1580) (by decide +kernel)) (by decide +kernel)
theorem wd1581 : Cond.methodLink "SalePlacesModel" 177 ⟨"SalePlacesModel", "known", "(Z)I"⟩ ∈ xgood := xgood_in (List.mem_of_getElem? (i := 1581) (by decide +kernel)) (by decide +kernel)
theorem wd1583 : Cond.instanceMethod ⟨"SalePlacesModel", "known", "(Z)I"⟩ ∈ xgood := xgood_in (List.mem_of_getElem? (i := 1583) (by decide +kernel)) (by decide +kernel)
theorem wd1584 : Cond.code ⟨"SalePlacesModel", "known", "(Z)I"⟩ cX11_known 3 (some .int) ∈ xgood := xgood_in (List.mem_of_getElem? (i := 1584) (by decide +kernel)) (by decide +kernel)
theorem wd1585 : Cond.methodLink "SalePlacesModel" 190 ⟨"SalePlacesModel", "readPlace", "()V"⟩ ∈ xgood := xgood_in (List.mem_of_getElem? (i := 1585) (by decide +kernel)) (by decide +kernel)
theorem wd1587 : Cond.instanceMethod ⟨"SalePlacesModel", "readPlace", "()V"⟩ ∈ xgood := xgood_in (List.mem_of_getElem? (i := 1587) (by decide +kernel)) (by decide +kernel)
theorem wd1588 : Cond.code ⟨"SalePlacesModel", "readPlace", "()V"⟩ cX11_readPlace 6 none ∈ xgood := xgood_in (List.mem_of_getElem? (i := 1588) (by decide +kernel)) (by decide +kernel)
theorem wd1590 : Cond.methodLink "SalePlacesModel" 193 ⟨"SalePlacesModel", "readBound", "()V"⟩ ∈ xgood := xgood_in (List.mem_of_getElem? (i := 1590) (by decide +kernel)) (by decide +kernel)
theorem wd1592 : Cond.instanceMethod ⟨"SalePlacesModel", "readBound", "()V"⟩ ∈ xgood := xgood_in (List.mem_of_getElem? (i := 1592) (by decide +kernel)) (by decide +kernel)
theorem wd1593 : Cond.code ⟨"SalePlacesModel", "readBound", "()V"⟩ cX11_readBound 7 none ∈ xgood := xgood_in (List.mem_of_getElem? (i := 1593) (by decide +kernel)) (by decide +kernel)
theorem wd1594 : Cond.methodLink "SalePlacesModel" 228 ⟨"SalePlacesModel", "latestBound", "([II)I"⟩ ∈ xgood := xgood_in (List.mem_of_getElem? (i := 1594) (by decide +kernel)) (by decide +kernel)
theorem wd1595 : Cond.static ⟨"SalePlacesModel", "latestBound", "([II)I"⟩ ∈ xgood := xgood_in (List.mem_of_getElem? (i := 1595) (by decide +kernel)) (by decide +kernel)
theorem wd1596 : Cond.code ⟨"SalePlacesModel", "latestBound", "([II)I"⟩ cX11_latestBound 3 (some .int) ∈ xgood := xgood_in (List.mem_of_getElem? (i := 1596) (by decide +kernel)) (by decide +kernel)
theorem wd1597 : Cond.methodLink "SalePlacesModel" 225 ⟨"SalePlacesModel", "boundAt", "(I)I"⟩ ∈ xgood := xgood_in (List.mem_of_getElem? (i := 1597) (by decide +kernel)) (by decide +kernel)
theorem wd1598 : Cond.static ⟨"SalePlacesModel", "boundAt", "(I)I"⟩ ∈ xgood := xgood_in (List.mem_of_getElem? (i := 1598) (by decide +kernel)) (by decide +kernel)
theorem wd1599 : Cond.code ⟨"SalePlacesModel", "boundAt", "(I)I"⟩ cX11_boundAt 1 (some .int) ∈ xgood := xgood_in (List.mem_of_getElem? (i := 1599) (by decide +kernel)) (by decide +kernel)
theorem wd1600 : Cond.methodLink "SalePlacesModel" 196 ⟨"SalePlacesModel", "readRate", "()V"⟩ ∈ xgood := xgood_in (List.mem_of_getElem? (i := 1600) (by decide +kernel)) (by decide +kernel)
theorem wd1602 : Cond.instanceMethod ⟨"SalePlacesModel", "readRate", "()V"⟩ ∈ xgood := xgood_in (List.mem_of_getElem? (i := 1602) (by decide +kernel)) (by decide +kernel)
theorem wd1603 : Cond.code ⟨"SalePlacesModel", "readRate", "()V"⟩ cX11_readRate 6 none ∈ xgood := xgood_in (List.mem_of_getElem? (i := 1603) (by decide +kernel)) (by decide +kernel)
theorem wd1604 : Cond.methodLink "SalePlacesModel" 232 ⟨"SalePlacesModel", "latestRate", "([III)I"⟩ ∈ xgood := xgood_in (List.mem_of_getElem? (i := 1604) (by decide +kernel)) (by decide +kernel)
theorem wd1605 : Cond.static ⟨"SalePlacesModel", "latestRate", "([III)I"⟩ ∈ xgood := xgood_in (List.mem_of_getElem? (i := 1605) (by decide +kernel)) (by decide +kernel)
theorem wd1606 : Cond.code ⟨"SalePlacesModel", "latestRate", "([III)I"⟩ cX11_latestRate 4 (some .int) ∈ xgood := xgood_in (List.mem_of_getElem? (i := 1606) (by decide +kernel)) (by decide +kernel)
theorem wd1607 : Cond.methodLink "SalePlacesModel" 236 ⟨"SalePlacesModel", "addsRate", "([IIIII)V"⟩ ∈ xgood := xgood_in (List.mem_of_getElem? (i := 1607) (by decide +kernel)) (by decide +kernel)
theorem wd1608 : Cond.static ⟨"SalePlacesModel", "addsRate", "([IIIII)V"⟩ ∈ xgood := xgood_in (List.mem_of_getElem? (i := 1608) (by decide +kernel)) (by decide +kernel)
theorem wd1609 : Cond.code ⟨"SalePlacesModel", "addsRate", "([IIIII)V"⟩ cX11_addsRate 6 none ∈ xgood := xgood_in (List.mem_of_getElem? (i := 1609) (by decide +kernel)) (by decide +kernel)
theorem wd1610 : Cond.methodLink "SalePlacesModel" 199 ⟨"SalePlacesModel", "readHoliday", "()V"⟩ ∈ xgood := xgood_in (List.mem_of_getElem? (i := 1610) (by decide +kernel)) (by decide +kernel)
theorem wd1612 : Cond.instanceMethod ⟨"SalePlacesModel", "readHoliday", "()V"⟩ ∈ xgood := xgood_in (List.mem_of_getElem? (i := 1612) (by decide +kernel)) (by decide +kernel)
theorem wd1613 : Cond.code ⟨"SalePlacesModel", "readHoliday", "()V"⟩ cX11_readHoliday 7 none ∈ xgood := xgood_in (List.mem_of_getElem? (i := 1613) (by decide +kernel)) (by decide +kernel)
theorem wd1615 : Cond.methodLink "SalePlacesModel" 202 ⟨"SalePlacesModel", "readCap", "()V"⟩ ∈ xgood := xgood_in (List.mem_of_getElem? (i := 1615) (by decide +kernel)) (by decide +kernel)
theorem wd1617 : Cond.instanceMethod ⟨"SalePlacesModel", "readCap", "()V"⟩ ∈ xgood := xgood_in (List.mem_of_getElem? (i := 1617) (by decide +kernel)) (by decide +kernel)
theorem wd1618 : Cond.code ⟨"SalePlacesModel", "readCap", "()V"⟩ cX11_readCap 5 none ∈ xgood := xgood_in (List.mem_of_getElem? (i := 1618) (by decide +kernel)) (by decide +kernel)
theorem wd1619 : Cond.methodLink "SalePlacesModel" 242 ⟨"SalePlacesModel", "capIn", "([III)I"⟩ ∈ xgood := xgood_in (List.mem_of_getElem? (i := 1619) (by decide +kernel)) (by decide +kernel)
theorem wd1620 : Cond.static ⟨"SalePlacesModel", "capIn", "([III)I"⟩ ∈ xgood := xgood_in (List.mem_of_getElem? (i := 1620) (by decide +kernel)) (by decide +kernel)
theorem wd1621 : Cond.code ⟨"SalePlacesModel", "capIn", "([III)I"⟩ cX11_capIn 4 (some .int) ∈ xgood := xgood_in (List.mem_of_getElem? (i := 1621) (by decide +kernel)) (by decide +kernel)
theorem wd1622 : Cond.methodLink "SalePlacesModel" 264 ⟨"SalePlacesModel", "good", "(I)I"⟩ ∈ xgood := xgood_in (List.mem_of_getElem? (i := 1622) (by decide +kernel)) (by decide +kernel)
theorem wd1624 : Cond.instanceMethod ⟨"SalePlacesModel", "good", "(I)I"⟩ ∈ xgood := xgood_in (List.mem_of_getElem? (i := 1624) (by decide +kernel)) (by decide +kernel)
theorem wd1625 : Cond.code ⟨"SalePlacesModel", "good", "(I)I"⟩ cX11_good 2 (some .int) ∈ xgood := xgood_in (List.mem_of_getElem? (i := 1625) (by decide +kernel)) (by decide +kernel)
theorem wd1626 : Cond.methodLink "SalePlacesLaw" 32 ⟨"SalePlacesModel", "fault", "()I"⟩ ∈ xgood := xgood_in (List.mem_of_getElem? (i := 1626) (by decide +kernel)) (by decide +kernel)
theorem wd1627 : Cond.instanceMethod ⟨"SalePlacesModel", "fault", "()I"⟩ ∈ xgood := xgood_in (List.mem_of_getElem? (i := 1627) (by decide +kernel)) (by decide +kernel)
theorem wd1628 : Cond.selects "SalePlacesModel" ⟨"SalePlacesModel", "fault", "()I"⟩ ⟨"SalePlacesModel", "fault", "()I"⟩ ∈ xgood := xgood_in (List.mem_of_getElem? (i := 1628) (by decide +kernel)) (by decide +kernel)
theorem wd1629 : Cond.code ⟨"SalePlacesModel", "fault", "()I"⟩ cX11_fault 1 (some .int) ∈ xgood := xgood_in (List.mem_of_getElem? (i := 1629) (by decide +kernel)) (by decide +kernel)
theorem wd1630 : Cond.methodLink "SalePlacesLaw" 36 ⟨"SalePlacesModel", "where", "()I"⟩ ∈ xgood := xgood_in (List.mem_of_getElem? (i := 1630) (by decide +kernel)) (by decide +kernel)
theorem wd1631 : Cond.instanceMethod ⟨"SalePlacesModel", "where", "()I"⟩ ∈ xgood := xgood_in (List.mem_of_getElem? (i := 1631) (by decide +kernel)) (by decide +kernel)
theorem wd1632 : Cond.selects "SalePlacesModel" ⟨"SalePlacesModel", "where", "()I"⟩ ⟨"SalePlacesModel", "where", "()I"⟩ ∈ xgood := xgood_in (List.mem_of_getElem? (i := 1632) (by decide +kernel)) (by decide +kernel)
theorem wd1633 : Cond.code ⟨"SalePlacesModel", "where", "()I"⟩ cX11_where 1 (some .int) ∈ xgood := xgood_in (List.mem_of_getElem? (i := 1633) (by decide +kernel)) (by decide +kernel)
theorem wd1634 : Cond.methodLink "SalePlacesLaw" 40 ⟨"SalePlacesModel", "about", "(I)I"⟩ ∈ xgood := xgood_in (List.mem_of_getElem? (i := 1634) (by decide +kernel)) (by decide +kernel)
theorem wd1635 : Cond.instanceMethod ⟨"SalePlacesModel", "about", "(I)I"⟩ ∈ xgood := xgood_in (List.mem_of_getElem? (i := 1635) (by decide +kernel)) (by decide +kernel)
theorem wd1636 : Cond.selects "SalePlacesModel" ⟨"SalePlacesModel", "about", "(I)I"⟩ ⟨"SalePlacesModel", "about", "(I)I"⟩ ∈ xgood := xgood_in (List.mem_of_getElem? (i := 1636) (by decide +kernel)) (by decide +kernel)
theorem wd1637 : Cond.code ⟨"SalePlacesModel", "about", "(I)I"⟩ cX11_about 2 (some .int) ∈ xgood := xgood_in (List.mem_of_getElem? (i := 1637) (by decide +kernel)) (by decide +kernel)
theorem wd1638 : Cond.methodLink "SalePlacesLaw" 44 ⟨"SalePlacesModel", "above", "(I)I"⟩ ∈ xgood := xgood_in (List.mem_of_getElem? (i := 1638) (by decide +kernel)) (by decide +kernel)
theorem wd1639 : Cond.instanceMethod ⟨"SalePlacesModel", "above", "(I)I"⟩ ∈ xgood := xgood_in (List.mem_of_getElem? (i := 1639) (by decide +kernel)) (by decide +kernel)
theorem wd1640 : Cond.selects "SalePlacesModel" ⟨"SalePlacesModel", "above", "(I)I"⟩ ⟨"SalePlacesModel", "above", "(I)I"⟩ ∈ xgood := xgood_in (List.mem_of_getElem? (i := 1640) (by decide +kernel)) (by decide +kernel)
theorem wd1641 : Cond.code ⟨"SalePlacesModel", "above", "(I)I"⟩ cX11_above 2 (some .int) ∈ xgood := xgood_in (List.mem_of_getElem? (i := 1641) (by decide +kernel)) (by decide +kernel)
theorem wd1642 : Cond.methodLink "SalePlacesModel" 267 ⟨"SalePlacesModel", "isClass", "(I)Z"⟩ ∈ xgood := xgood_in (List.mem_of_getElem? (i := 1642) (by decide +kernel)) (by decide +kernel)
theorem wd1644 : Cond.instanceMethod ⟨"SalePlacesModel", "isClass", "(I)Z"⟩ ∈ xgood := xgood_in (List.mem_of_getElem? (i := 1644) (by decide +kernel)) (by decide +kernel)
theorem wd1645 : Cond.code ⟨"SalePlacesModel", "isClass", "(I)Z"⟩ cX11_isClass 2 (some .boolean) ∈ xgood := xgood_in (List.mem_of_getElem? (i := 1645) (by decide +kernel)) (by decide +kernel)
theorem wd1646 : Cond.methodLink "SalePlacesLaw" 49 ⟨"SalePlacesModel", "place", "(II)I"⟩ ∈ xgood := xgood_in (List.mem_of_getElem? (i := 1646) (by decide +kernel)) (by decide +kernel)
theorem wd1647 : Cond.instanceMethod ⟨"SalePlacesModel", "place", "(II)I"⟩ ∈ xgood := xgood_in (List.mem_of_getElem? (i := 1647) (by decide +kernel)) (by decide +kernel)
theorem wd1648 : Cond.selects "SalePlacesModel" ⟨"SalePlacesModel", "place", "(II)I"⟩ ⟨"SalePlacesModel", "place", "(II)I"⟩ ∈ xgood := xgood_in (List.mem_of_getElem? (i := 1648) (by decide +kernel)) (by decide +kernel)
theorem wd1649 : Cond.code ⟨"SalePlacesModel", "place", "(II)I"⟩ cX11_place 3 (some .int) ∈ xgood := xgood_in (List.mem_of_getElem? (i := 1649) (by decide +kernel)) (by decide +kernel)
theorem wd1650 : Cond.methodLink "SalePlacesModel" 271 ⟨"SalePlacesModel", "isPlace", "(I)Z"⟩ ∈ xgood := xgood_in (List.mem_of_getElem? (i := 1650) (by decide +kernel)) (by decide +kernel)
theorem wd1652 : Cond.instanceMethod ⟨"SalePlacesModel", "isPlace", "(I)Z"⟩ ∈ xgood := xgood_in (List.mem_of_getElem? (i := 1652) (by decide +kernel)) (by decide +kernel)
theorem wd1653 : Cond.code ⟨"SalePlacesModel", "isPlace", "(I)Z"⟩ cX11_isPlace 2 (some .boolean) ∈ xgood := xgood_in (List.mem_of_getElem? (i := 1653) (by decide +kernel)) (by decide +kernel)
theorem wd1654 : Cond.methodLink "SalePlacesModel" 274 ⟨"SalePlacesModel", "boundMany", "(I)I"⟩ ∈ xgood := xgood_in (List.mem_of_getElem? (i := 1654) (by decide +kernel)) (by decide +kernel)
theorem wd1656 : Cond.instanceMethod ⟨"SalePlacesModel", "boundMany", "(I)I"⟩ ∈ xgood := xgood_in (List.mem_of_getElem? (i := 1656) (by decide +kernel)) (by decide +kernel)
theorem wd1657 : Cond.code ⟨"SalePlacesModel", "boundMany", "(I)I"⟩ cX11_boundMany 4 (some .int) ∈ xgood := xgood_in (List.mem_of_getElem? (i := 1657) (by decide +kernel)) (by decide +kernel)
theorem wd1658 : Cond.methodLink "SalePlacesLaw" 53 ⟨"SalePlacesModel", "corners", "(II)I"⟩ ∈ xgood := xgood_in (List.mem_of_getElem? (i := 1658) (by decide +kernel)) (by decide +kernel)
theorem wd1659 : Cond.instanceMethod ⟨"SalePlacesModel", "corners", "(II)I"⟩ ∈ xgood := xgood_in (List.mem_of_getElem? (i := 1659) (by decide +kernel)) (by decide +kernel)
theorem wd1660 : Cond.selects "SalePlacesModel" ⟨"SalePlacesModel", "corners", "(II)I"⟩ ⟨"SalePlacesModel", "corners", "(II)I"⟩ ∈ xgood := xgood_in (List.mem_of_getElem? (i := 1660) (by decide +kernel)) (by decide +kernel)
theorem wd1661 : Cond.code ⟨"SalePlacesModel", "corners", "(II)I"⟩ cX11_corners 4 (some .int) ∈ xgood := xgood_in (List.mem_of_getElem? (i := 1661) (by decide +kernel)) (by decide +kernel)
theorem wd1662 : Cond.methodLink "SalePlacesModel" 283 ⟨"SalePlacesModel", "refuses", "(ZI)I"⟩ ∈ xgood := xgood_in (List.mem_of_getElem? (i := 1662) (by decide +kernel)) (by decide +kernel)
theorem wd1664 : Cond.instanceMethod ⟨"SalePlacesModel", "refuses", "(ZI)I"⟩ ∈ xgood := xgood_in (List.mem_of_getElem? (i := 1664) (by decide +kernel)) (by decide +kernel)
theorem wd1665 : Cond.code ⟨"SalePlacesModel", "refuses", "(ZI)I"⟩ cX11_refuses 3 (some .int) ∈ xgood := xgood_in (List.mem_of_getElem? (i := 1665) (by decide +kernel)) (by decide +kernel)
theorem wd1666 : Cond.methodLink "SalePlacesModel" 280 ⟨"SalePlacesModel", "isDay", "(I)Z"⟩ ∈ xgood := xgood_in (List.mem_of_getElem? (i := 1666) (by decide +kernel)) (by decide +kernel)
theorem wd1667 : Cond.static ⟨"SalePlacesModel", "isDay", "(I)Z"⟩ ∈ xgood := xgood_in (List.mem_of_getElem? (i := 1667) (by decide +kernel)) (by decide +kernel)
theorem wd1668 : Cond.code ⟨"SalePlacesModel", "isDay", "(I)Z"⟩ cX11_isDay 1 (some .boolean) ∈ xgood := xgood_in (List.mem_of_getElem? (i := 1668) (by decide +kernel)) (by decide +kernel)
theorem wd1669 : Cond.methodLink "SalePlacesModel" 291 ⟨"SalePlacesModel", "manyOn", "(II)I"⟩ ∈ xgood := xgood_in (List.mem_of_getElem? (i := 1669) (by decide +kernel)) (by decide +kernel)
theorem wd1671 : Cond.instanceMethod ⟨"SalePlacesModel", "manyOn", "(II)I"⟩ ∈ xgood := xgood_in (List.mem_of_getElem? (i := 1671) (by decide +kernel)) (by decide +kernel)
theorem wd1672 : Cond.code ⟨"SalePlacesModel", "manyOn", "(II)I"⟩ cX11_manyOn 4 (some .int) ∈ xgood := xgood_in (List.mem_of_getElem? (i := 1672) (by decide +kernel)) (by decide +kernel)
theorem wd1673 : Cond.methodLink "SalePlacesModel" 277 ⟨"SalePlacesModel", "boundOn", "(II)I"⟩ ∈ xgood := xgood_in (List.mem_of_getElem? (i := 1673) (by decide +kernel)) (by decide +kernel)
theorem wd1675 : Cond.instanceMethod ⟨"SalePlacesModel", "boundOn", "(II)I"⟩ ∈ xgood := xgood_in (List.mem_of_getElem? (i := 1675) (by decide +kernel)) (by decide +kernel)
theorem wd1676 : Cond.code ⟨"SalePlacesModel", "boundOn", "(II)I"⟩ cX11_boundOn 5 (some .int) ∈ xgood := xgood_in (List.mem_of_getElem? (i := 1676) (by decide +kernel)) (by decide +kernel)
theorem wd1677 : Cond.methodLink "SalePlacesLaw" 58 ⟨"SalePlacesModel", "corner", "(IIII)I"⟩ ∈ xgood := xgood_in (List.mem_of_getElem? (i := 1677) (by decide +kernel)) (by decide +kernel)
theorem wd1678 : Cond.instanceMethod ⟨"SalePlacesModel", "corner", "(IIII)I"⟩ ∈ xgood := xgood_in (List.mem_of_getElem? (i := 1678) (by decide +kernel)) (by decide +kernel)
theorem wd1679 : Cond.selects "SalePlacesModel" ⟨"SalePlacesModel", "corner", "(IIII)I"⟩ ⟨"SalePlacesModel", "corner", "(IIII)I"⟩ ∈ xgood := xgood_in (List.mem_of_getElem? (i := 1679) (by decide +kernel)) (by decide +kernel)
theorem wd1680 : Cond.code ⟨"SalePlacesModel", "corner", "(IIII)I"⟩ cX11_corner 7 (some .int) ∈ xgood := xgood_in (List.mem_of_getElem? (i := 1680) (by decide +kernel)) (by decide +kernel)
theorem wd1681 : Cond.methodLink "SalePlacesModel" 294 ⟨"SalePlacesModel", "xOf", "(II)I"⟩ ∈ xgood := xgood_in (List.mem_of_getElem? (i := 1681) (by decide +kernel)) (by decide +kernel)
theorem wd1683 : Cond.instanceMethod ⟨"SalePlacesModel", "xOf", "(II)I"⟩ ∈ xgood := xgood_in (List.mem_of_getElem? (i := 1683) (by decide +kernel)) (by decide +kernel)
theorem wd1684 : Cond.code ⟨"SalePlacesModel", "xOf", "(II)I"⟩ cX11_xOf 3 (some .int) ∈ xgood := xgood_in (List.mem_of_getElem? (i := 1684) (by decide +kernel)) (by decide +kernel)
theorem wd1685 : Cond.methodLink "SalePlacesModel" 297 ⟨"SalePlacesModel", "yOf", "(II)I"⟩ ∈ xgood := xgood_in (List.mem_of_getElem? (i := 1685) (by decide +kernel)) (by decide +kernel)
theorem wd1687 : Cond.instanceMethod ⟨"SalePlacesModel", "yOf", "(II)I"⟩ ∈ xgood := xgood_in (List.mem_of_getElem? (i := 1687) (by decide +kernel)) (by decide +kernel)
theorem wd1688 : Cond.code ⟨"SalePlacesModel", "yOf", "(II)I"⟩ cX11_yOf 3 (some .int) ∈ xgood := xgood_in (List.mem_of_getElem? (i := 1688) (by decide +kernel)) (by decide +kernel)
theorem wd1689 : Cond.methodLink "SalePlacesLaw" 62 ⟨"SalePlacesModel", "area", "(II)I"⟩ ∈ xgood := xgood_in (List.mem_of_getElem? (i := 1689) (by decide +kernel)) (by decide +kernel)
theorem wd1690 : Cond.instanceMethod ⟨"SalePlacesModel", "area", "(II)I"⟩ ∈ xgood := xgood_in (List.mem_of_getElem? (i := 1690) (by decide +kernel)) (by decide +kernel)
theorem wd1691 : Cond.selects "SalePlacesModel" ⟨"SalePlacesModel", "area", "(II)I"⟩ ⟨"SalePlacesModel", "area", "(II)I"⟩ ∈ xgood := xgood_in (List.mem_of_getElem? (i := 1691) (by decide +kernel)) (by decide +kernel)
theorem wd1692 : Cond.code ⟨"SalePlacesModel", "area", "(II)I"⟩ cX11_area 9 (some .int) ∈ xgood := xgood_in (List.mem_of_getElem? (i := 1692) (by decide +kernel)) (by decide +kernel)
theorem wd1693 : Cond.methodLink "SalePlacesModel" 300 ⟨"SalePlacesModel", "refusedLow", "(I)I"⟩ ∈ xgood := xgood_in (List.mem_of_getElem? (i := 1693) (by decide +kernel)) (by decide +kernel)
theorem wd1695 : Cond.instanceMethod ⟨"SalePlacesModel", "refusedLow", "(I)I"⟩ ∈ xgood := xgood_in (List.mem_of_getElem? (i := 1695) (by decide +kernel)) (by decide +kernel)
theorem wd1696 : Cond.code ⟨"SalePlacesModel", "refusedLow", "(I)I"⟩ cX11_refusedLow 2 (some .int) ∈ xgood := xgood_in (List.mem_of_getElem? (i := 1696) (by decide +kernel)) (by decide +kernel)
theorem wd1697 : Cond.constant "SalePlacesModel" 76 (-2147483648) ∈ xgood := xgood_in (List.mem_of_getElem? (i := 1697) (by decide +kernel)) (by decide +kernel)
theorem wd1698 : Cond.methodLink "SalePlacesLaw" 66 ⟨"SalePlacesModel", "inside", "(IIII)I"⟩ ∈ xgood := xgood_in (List.mem_of_getElem? (i := 1698) (by decide +kernel)) (by decide +kernel)
theorem wd1699 : Cond.instanceMethod ⟨"SalePlacesModel", "inside", "(IIII)I"⟩ ∈ xgood := xgood_in (List.mem_of_getElem? (i := 1699) (by decide +kernel)) (by decide +kernel)
theorem wd1700 : Cond.selects "SalePlacesModel" ⟨"SalePlacesModel", "inside", "(IIII)I"⟩ ⟨"SalePlacesModel", "inside", "(IIII)I"⟩ ∈ xgood := xgood_in (List.mem_of_getElem? (i := 1700) (by decide +kernel)) (by decide +kernel)
theorem wd1701 : Cond.code ⟨"SalePlacesModel", "inside", "(IIII)I"⟩ cX11_inside 6 (some .int) ∈ xgood := xgood_in (List.mem_of_getElem? (i := 1701) (by decide +kernel)) (by decide +kernel)
theorem wd1702 : Cond.methodLink "SalePlacesModel" 307 ⟨"SalePlacesModel", "refusesAt", "(ZIII)I"⟩ ∈ xgood := xgood_in (List.mem_of_getElem? (i := 1702) (by decide +kernel)) (by decide +kernel)
theorem wd1704 : Cond.instanceMethod ⟨"SalePlacesModel", "refusesAt", "(ZIII)I"⟩ ∈ xgood := xgood_in (List.mem_of_getElem? (i := 1704) (by decide +kernel)) (by decide +kernel)
theorem wd1705 : Cond.code ⟨"SalePlacesModel", "refusesAt", "(ZIII)I"⟩ cX11_refusesAt 6 (some .int) ∈ xgood := xgood_in (List.mem_of_getElem? (i := 1705) (by decide +kernel)) (by decide +kernel)
theorem wd1706 : Cond.methodLink "SalePlacesModel" 287 ⟨"SalePlacesModel", "isPoint", "(II)Z"⟩ ∈ xgood := xgood_in (List.mem_of_getElem? (i := 1706) (by decide +kernel)) (by decide +kernel)
theorem wd1708 : Cond.instanceMethod ⟨"SalePlacesModel", "isPoint", "(II)Z"⟩ ∈ xgood := xgood_in (List.mem_of_getElem? (i := 1708) (by decide +kernel)) (by decide +kernel)
theorem wd1709 : Cond.code ⟨"SalePlacesModel", "isPoint", "(II)Z"⟩ cX11_isPoint 3 (some .boolean) ∈ xgood := xgood_in (List.mem_of_getElem? (i := 1709) (by decide +kernel)) (by decide +kernel)
theorem wd1710 : Cond.methodLink "SalePlacesModel" 311 ⟨"SalePlacesModel", "isIn", "(IIII)Z"⟩ ∈ xgood := xgood_in (List.mem_of_getElem? (i := 1710) (by decide +kernel)) (by decide +kernel)
theorem wd1712 : Cond.instanceMethod ⟨"SalePlacesModel", "isIn", "(IIII)Z"⟩ ∈ xgood := xgood_in (List.mem_of_getElem? (i := 1712) (by decide +kernel)) (by decide +kernel)
theorem wd1713 : Cond.code ⟨"SalePlacesModel", "isIn", "(IIII)Z"⟩ cX11_isIn 9 (some .boolean) ∈ xgood := xgood_in (List.mem_of_getElem? (i := 1713) (by decide +kernel)) (by decide +kernel)
theorem wd1714 : Cond.methodLink "SalePlacesModel" 303 ⟨"SalePlacesModel", "isEast", "(IIIII)Z"⟩ ∈ xgood := xgood_in (List.mem_of_getElem? (i := 1714) (by decide +kernel)) (by decide +kernel)
theorem wd1716 : Cond.instanceMethod ⟨"SalePlacesModel", "isEast", "(IIIII)Z"⟩ ∈ xgood := xgood_in (List.mem_of_getElem? (i := 1716) (by decide +kernel)) (by decide +kernel)
theorem wd1717 : Cond.code ⟨"SalePlacesModel", "isEast", "(IIIII)Z"⟩ cX11_isEast 11 (some .boolean) ∈ xgood := xgood_in (List.mem_of_getElem? (i := 1717) (by decide +kernel)) (by decide +kernel)
theorem wd1718 : Cond.methodLink "SalePlacesLaw" 70 ⟨"SalePlacesModel", "onEdge", "(IIII)I"⟩ ∈ xgood := xgood_in (List.mem_of_getElem? (i := 1718) (by decide +kernel)) (by decide +kernel)
theorem wd1719 : Cond.instanceMethod ⟨"SalePlacesModel", "onEdge", "(IIII)I"⟩ ∈ xgood := xgood_in (List.mem_of_getElem? (i := 1719) (by decide +kernel)) (by decide +kernel)
theorem wd1720 : Cond.selects "SalePlacesModel" ⟨"SalePlacesModel", "onEdge", "(IIII)I"⟩ ⟨"SalePlacesModel", "onEdge", "(IIII)I"⟩ ∈ xgood := xgood_in (List.mem_of_getElem? (i := 1720) (by decide +kernel)) (by decide +kernel)
theorem wd1721 : Cond.code ⟨"SalePlacesModel", "onEdge", "(IIII)I"⟩ cX11_onEdge 12 (some .int) ∈ xgood := xgood_in (List.mem_of_getElem? (i := 1721) (by decide +kernel)) (by decide +kernel)
theorem wd1722 : Cond.methodLink "SalePlacesModel" 315 ⟨"SalePlacesModel", "isBetween", "(III)Z"⟩ ∈ xgood := xgood_in (List.mem_of_getElem? (i := 1722) (by decide +kernel)) (by decide +kernel)
theorem wd1723 : Cond.static ⟨"SalePlacesModel", "isBetween", "(III)Z"⟩ ∈ xgood := xgood_in (List.mem_of_getElem? (i := 1723) (by decide +kernel)) (by decide +kernel)
theorem wd1724 : Cond.code ⟨"SalePlacesModel", "isBetween", "(III)Z"⟩ cX11_isBetween 3 (some .boolean) ∈ xgood := xgood_in (List.mem_of_getElem? (i := 1724) (by decide +kernel)) (by decide +kernel)
theorem wd1725 : Cond.methodLink "SalePlacesLaw" 74 ⟨"SalePlacesModel", "nextMove", "(II)I"⟩ ∈ xgood := xgood_in (List.mem_of_getElem? (i := 1725) (by decide +kernel)) (by decide +kernel)
theorem wd1726 : Cond.instanceMethod ⟨"SalePlacesModel", "nextMove", "(II)I"⟩ ∈ xgood := xgood_in (List.mem_of_getElem? (i := 1726) (by decide +kernel)) (by decide +kernel)
theorem wd1727 : Cond.selects "SalePlacesModel" ⟨"SalePlacesModel", "nextMove", "(II)I"⟩ ⟨"SalePlacesModel", "nextMove", "(II)I"⟩ ∈ xgood := xgood_in (List.mem_of_getElem? (i := 1727) (by decide +kernel)) (by decide +kernel)
theorem wd1728 : Cond.code ⟨"SalePlacesModel", "nextMove", "(II)I"⟩ cX11_nextMove 5 (some .int) ∈ xgood := xgood_in (List.mem_of_getElem? (i := 1728) (by decide +kernel)) (by decide +kernel)
theorem wd1729 : Cond.methodLink "SalePlacesLaw" 78 ⟨"SalePlacesModel", "settled", "(IIII)I"⟩ ∈ xgood := xgood_in (List.mem_of_getElem? (i := 1729) (by decide +kernel)) (by decide +kernel)
theorem wd1730 : Cond.instanceMethod ⟨"SalePlacesModel", "settled", "(IIII)I"⟩ ∈ xgood := xgood_in (List.mem_of_getElem? (i := 1730) (by decide +kernel)) (by decide +kernel)
theorem wd1731 : Cond.selects "SalePlacesModel" ⟨"SalePlacesModel", "settled", "(IIII)I"⟩ ⟨"SalePlacesModel", "settled", "(IIII)I"⟩ ∈ xgood := xgood_in (List.mem_of_getElem? (i := 1731) (by decide +kernel)) (by decide +kernel)
theorem wd1732 : Cond.code ⟨"SalePlacesModel", "settled", "(IIII)I"⟩ cX11_settled 6 (some .int) ∈ xgood := xgood_in (List.mem_of_getElem? (i := 1732) (by decide +kernel)) (by decide +kernel)
theorem wd1733 : Cond.methodLink "SalePlacesModel" 318 ⟨"SalePlacesModel", "settledIn", "(IIII)I"⟩ ∈ xgood := xgood_in (List.mem_of_getElem? (i := 1733) (by decide +kernel)) (by decide +kernel)
theorem wd1735 : Cond.instanceMethod ⟨"SalePlacesModel", "settledIn", "(IIII)I"⟩ ∈ xgood := xgood_in (List.mem_of_getElem? (i := 1735) (by decide +kernel)) (by decide +kernel)
theorem wd1736 : Cond.code ⟨"SalePlacesModel", "settledIn", "(IIII)I"⟩ cX11_settledIn 6 (some .int) ∈ xgood := xgood_in (List.mem_of_getElem? (i := 1736) (by decide +kernel)) (by decide +kernel)
theorem wd1737 : Cond.methodLink "SalePlacesLaw" 83 ⟨"SalePlacesModel", "stack", "(III)I"⟩ ∈ xgood := xgood_in (List.mem_of_getElem? (i := 1737) (by decide +kernel)) (by decide +kernel)
theorem wd1738 : Cond.instanceMethod ⟨"SalePlacesModel", "stack", "(III)I"⟩ ∈ xgood := xgood_in (List.mem_of_getElem? (i := 1738) (by decide +kernel)) (by decide +kernel)
theorem wd1739 : Cond.selects "SalePlacesModel" ⟨"SalePlacesModel", "stack", "(III)I"⟩ ⟨"SalePlacesModel", "stack", "(III)I"⟩ ∈ xgood := xgood_in (List.mem_of_getElem? (i := 1739) (by decide +kernel)) (by decide +kernel)
theorem wd1740 : Cond.code ⟨"SalePlacesModel", "stack", "(III)I"⟩ cX11_stack 5 (some .int) ∈ xgood := xgood_in (List.mem_of_getElem? (i := 1740) (by decide +kernel)) (by decide +kernel)
theorem wd1741 : Cond.methodLink "SalePlacesModel" 322 ⟨"SalePlacesModel", "laysStack", "(III[I)I"⟩ ∈ xgood := xgood_in (List.mem_of_getElem? (i := 1741) (by decide +kernel)) (by decide +kernel)
theorem wd1743 : Cond.instanceMethod ⟨"SalePlacesModel", "laysStack", "(III[I)I"⟩ ∈ xgood := xgood_in (List.mem_of_getElem? (i := 1743) (by decide +kernel)) (by decide +kernel)
theorem wd1744 : Cond.code ⟨"SalePlacesModel", "laysStack", "(III[I)I"⟩ cX11_laysStack 8 (some .int) ∈ xgood := xgood_in (List.mem_of_getElem? (i := 1744) (by decide +kernel)) (by decide +kernel)
theorem wd1745 : Cond.methodLink "SalePlacesLaw" 87 ⟨"SalePlacesModel", "stackAt", "(IIII)I"⟩ ∈ xgood := xgood_in (List.mem_of_getElem? (i := 1745) (by decide +kernel)) (by decide +kernel)
theorem wd1746 : Cond.instanceMethod ⟨"SalePlacesModel", "stackAt", "(IIII)I"⟩ ∈ xgood := xgood_in (List.mem_of_getElem? (i := 1746) (by decide +kernel)) (by decide +kernel)
theorem wd1747 : Cond.selects "SalePlacesModel" ⟨"SalePlacesModel", "stackAt", "(IIII)I"⟩ ⟨"SalePlacesModel", "stackAt", "(IIII)I"⟩ ∈ xgood := xgood_in (List.mem_of_getElem? (i := 1747) (by decide +kernel)) (by decide +kernel)
theorem wd1748 : Cond.code ⟨"SalePlacesModel", "stackAt", "(IIII)I"⟩ cX11_stackAt 6 (some .int) ∈ xgood := xgood_in (List.mem_of_getElem? (i := 1748) (by decide +kernel)) (by decide +kernel)
theorem wd1749 : Cond.methodLink "SalePlacesLaw" 91 ⟨"SalePlacesModel", "nextStack", "(III)I"⟩ ∈ xgood := xgood_in (List.mem_of_getElem? (i := 1749) (by decide +kernel)) (by decide +kernel)
theorem wd1750 : Cond.instanceMethod ⟨"SalePlacesModel", "nextStack", "(III)I"⟩ ∈ xgood := xgood_in (List.mem_of_getElem? (i := 1750) (by decide +kernel)) (by decide +kernel)
theorem wd1751 : Cond.selects "SalePlacesModel" ⟨"SalePlacesModel", "nextStack", "(III)I"⟩ ⟨"SalePlacesModel", "nextStack", "(III)I"⟩ ∈ xgood := xgood_in (List.mem_of_getElem? (i := 1751) (by decide +kernel)) (by decide +kernel)
theorem wd1752 : Cond.code ⟨"SalePlacesModel", "nextStack", "(III)I"⟩ cX11_nextStack 9 (some .int) ∈ xgood := xgood_in (List.mem_of_getElem? (i := 1752) (by decide +kernel)) (by decide +kernel)
theorem wd1753 : Cond.methodLink "SalePlacesLaw" 95 ⟨"SalePlacesModel", "overlap", "(III)I"⟩ ∈ xgood := xgood_in (List.mem_of_getElem? (i := 1753) (by decide +kernel)) (by decide +kernel)
theorem wd1754 : Cond.instanceMethod ⟨"SalePlacesModel", "overlap", "(III)I"⟩ ∈ xgood := xgood_in (List.mem_of_getElem? (i := 1754) (by decide +kernel)) (by decide +kernel)
theorem wd1755 : Cond.selects "SalePlacesModel" ⟨"SalePlacesModel", "overlap", "(III)I"⟩ ⟨"SalePlacesModel", "overlap", "(III)I"⟩ ∈ xgood := xgood_in (List.mem_of_getElem? (i := 1755) (by decide +kernel)) (by decide +kernel)
theorem wd1756 : Cond.code ⟨"SalePlacesModel", "overlap", "(III)I"⟩ cX11_overlap 7 (some .int) ∈ xgood := xgood_in (List.mem_of_getElem? (i := 1756) (by decide +kernel)) (by decide +kernel)
theorem wd1757 : Cond.methodLink "SalePlacesLaw" 99 ⟨"SalePlacesModel", "points", "(II)I"⟩ ∈ xgood := xgood_in (List.mem_of_getElem? (i := 1757) (by decide +kernel)) (by decide +kernel)
theorem wd1758 : Cond.instanceMethod ⟨"SalePlacesModel", "points", "(II)I"⟩ ∈ xgood := xgood_in (List.mem_of_getElem? (i := 1758) (by decide +kernel)) (by decide +kernel)
theorem wd1759 : Cond.selects "SalePlacesModel" ⟨"SalePlacesModel", "points", "(II)I"⟩ ⟨"SalePlacesModel", "points", "(II)I"⟩ ∈ xgood := xgood_in (List.mem_of_getElem? (i := 1759) (by decide +kernel)) (by decide +kernel)
theorem wd1760 : Cond.code ⟨"SalePlacesModel", "points", "(II)I"⟩ cX11_points 7 (some .int) ∈ xgood := xgood_in (List.mem_of_getElem? (i := 1760) (by decide +kernel)) (by decide +kernel)
theorem wd1761 : Cond.methodLink "SalePlacesLaw" 103 ⟨"SalePlacesModel", "stacked", "(II)I"⟩ ∈ xgood := xgood_in (List.mem_of_getElem? (i := 1761) (by decide +kernel)) (by decide +kernel)
theorem wd1762 : Cond.instanceMethod ⟨"SalePlacesModel", "stacked", "(II)I"⟩ ∈ xgood := xgood_in (List.mem_of_getElem? (i := 1762) (by decide +kernel)) (by decide +kernel)
theorem wd1763 : Cond.selects "SalePlacesModel" ⟨"SalePlacesModel", "stacked", "(II)I"⟩ ⟨"SalePlacesModel", "stacked", "(II)I"⟩ ∈ xgood := xgood_in (List.mem_of_getElem? (i := 1763) (by decide +kernel)) (by decide +kernel)
theorem wd1764 : Cond.code ⟨"SalePlacesModel", "stacked", "(II)I"⟩ cX11_stacked 6 (some .int) ∈ xgood := xgood_in (List.mem_of_getElem? (i := 1764) (by decide +kernel)) (by decide +kernel)
theorem wd1765 : Cond.methodLink "SalePlacesLaw" 107 ⟨"SalePlacesModel", "rate", "(III)I"⟩ ∈ xgood := xgood_in (List.mem_of_getElem? (i := 1765) (by decide +kernel)) (by decide +kernel)
theorem wd1766 : Cond.instanceMethod ⟨"SalePlacesModel", "rate", "(III)I"⟩ ∈ xgood := xgood_in (List.mem_of_getElem? (i := 1766) (by decide +kernel)) (by decide +kernel)
theorem wd1767 : Cond.selects "SalePlacesModel" ⟨"SalePlacesModel", "rate", "(III)I"⟩ ⟨"SalePlacesModel", "rate", "(III)I"⟩ ∈ xgood := xgood_in (List.mem_of_getElem? (i := 1767) (by decide +kernel)) (by decide +kernel)
theorem wd1768 : Cond.code ⟨"SalePlacesModel", "rate", "(III)I"⟩ cX11_rate 5 (some .int) ∈ xgood := xgood_in (List.mem_of_getElem? (i := 1768) (by decide +kernel)) (by decide +kernel)
theorem wd1769 : Cond.methodLink "SalePlacesModel" 333 ⟨"SalePlacesModel", "rateOf", "(III)I"⟩ ∈ xgood := xgood_in (List.mem_of_getElem? (i := 1769) (by decide +kernel)) (by decide +kernel)
theorem wd1771 : Cond.instanceMethod ⟨"SalePlacesModel", "rateOf", "(III)I"⟩ ∈ xgood := xgood_in (List.mem_of_getElem? (i := 1771) (by decide +kernel)) (by decide +kernel)
theorem wd1772 : Cond.code ⟨"SalePlacesModel", "rateOf", "(III)I"⟩ cX11_rateOf 5 (some .int) ∈ xgood := xgood_in (List.mem_of_getElem? (i := 1772) (by decide +kernel)) (by decide +kernel)
theorem wd1773 : Cond.methodLink "SalePlacesModel" 326 ⟨"SalePlacesModel", "ownRate", "(III)I"⟩ ∈ xgood := xgood_in (List.mem_of_getElem? (i := 1773) (by decide +kernel)) (by decide +kernel)
theorem wd1775 : Cond.instanceMethod ⟨"SalePlacesModel", "ownRate", "(III)I"⟩ ∈ xgood := xgood_in (List.mem_of_getElem? (i := 1775) (by decide +kernel)) (by decide +kernel)
theorem wd1776 : Cond.code ⟨"SalePlacesModel", "ownRate", "(III)I"⟩ cX11_ownRate 7 (some .int) ∈ xgood := xgood_in (List.mem_of_getElem? (i := 1776) (by decide +kernel)) (by decide +kernel)
theorem wd1777 : Cond.methodLink "SalePlacesLaw" 111 ⟨"SalePlacesModel", "free", "(IIII)I"⟩ ∈ xgood := xgood_in (List.mem_of_getElem? (i := 1777) (by decide +kernel)) (by decide +kernel)
theorem wd1778 : Cond.instanceMethod ⟨"SalePlacesModel", "free", "(IIII)I"⟩ ∈ xgood := xgood_in (List.mem_of_getElem? (i := 1778) (by decide +kernel)) (by decide +kernel)
theorem wd1779 : Cond.selects "SalePlacesModel" ⟨"SalePlacesModel", "free", "(IIII)I"⟩ ⟨"SalePlacesModel", "free", "(IIII)I"⟩ ∈ xgood := xgood_in (List.mem_of_getElem? (i := 1779) (by decide +kernel)) (by decide +kernel)
theorem wd1780 : Cond.code ⟨"SalePlacesModel", "free", "(IIII)I"⟩ cX11_free 6 (some .int) ∈ xgood := xgood_in (List.mem_of_getElem? (i := 1780) (by decide +kernel)) (by decide +kernel)
theorem wd1781 : Cond.methodLink "SalePlacesModel" 336 ⟨"SalePlacesModel", "isFree", "(IIII)Z"⟩ ∈ xgood := xgood_in (List.mem_of_getElem? (i := 1781) (by decide +kernel)) (by decide +kernel)
theorem wd1783 : Cond.instanceMethod ⟨"SalePlacesModel", "isFree", "(IIII)Z"⟩ ∈ xgood := xgood_in (List.mem_of_getElem? (i := 1783) (by decide +kernel)) (by decide +kernel)
theorem wd1784 : Cond.code ⟨"SalePlacesModel", "isFree", "(IIII)Z"⟩ cX11_isFree 7 (some .boolean) ∈ xgood := xgood_in (List.mem_of_getElem? (i := 1784) (by decide +kernel)) (by decide +kernel)
theorem wd1785 : Cond.methodLink "SalePlacesModel" 330 ⟨"SalePlacesModel", "isOf", "(II)Z"⟩ ∈ xgood := xgood_in (List.mem_of_getElem? (i := 1785) (by decide +kernel)) (by decide +kernel)
theorem wd1787 : Cond.instanceMethod ⟨"SalePlacesModel", "isOf", "(II)Z"⟩ ∈ xgood := xgood_in (List.mem_of_getElem? (i := 1787) (by decide +kernel)) (by decide +kernel)
theorem wd1788 : Cond.code ⟨"SalePlacesModel", "isOf", "(II)Z"⟩ cX11_isOf 4 (some .boolean) ∈ xgood := xgood_in (List.mem_of_getElem? (i := 1788) (by decide +kernel)) (by decide +kernel)
theorem wd1789 : Cond.methodLink "SalePlacesLaw" 115 ⟨"SalePlacesModel", "cap", "(II)I"⟩ ∈ xgood := xgood_in (List.mem_of_getElem? (i := 1789) (by decide +kernel)) (by decide +kernel)
theorem wd1790 : Cond.instanceMethod ⟨"SalePlacesModel", "cap", "(II)I"⟩ ∈ xgood := xgood_in (List.mem_of_getElem? (i := 1790) (by decide +kernel)) (by decide +kernel)
theorem wd1791 : Cond.selects "SalePlacesModel" ⟨"SalePlacesModel", "cap", "(II)I"⟩ ⟨"SalePlacesModel", "cap", "(II)I"⟩ ∈ xgood := xgood_in (List.mem_of_getElem? (i := 1791) (by decide +kernel)) (by decide +kernel)
theorem wd1792 : Cond.code ⟨"SalePlacesModel", "cap", "(II)I"⟩ cX11_cap 3 (some .int) ∈ xgood := xgood_in (List.mem_of_getElem? (i := 1792) (by decide +kernel)) (by decide +kernel)
theorem wd1793 : Cond.methodLink "SalePlacesModel" 339 ⟨"SalePlacesModel", "capOf", "(II)I"⟩ ∈ xgood := xgood_in (List.mem_of_getElem? (i := 1793) (by decide +kernel)) (by decide +kernel)
theorem wd1795 : Cond.instanceMethod ⟨"SalePlacesModel", "capOf", "(II)I"⟩ ∈ xgood := xgood_in (List.mem_of_getElem? (i := 1795) (by decide +kernel)) (by decide +kernel)
theorem wd1796 : Cond.code ⟨"SalePlacesModel", "capOf", "(II)I"⟩ cX11_capOf 4 (some .int) ∈ xgood := xgood_in (List.mem_of_getElem? (i := 1796) (by decide +kernel)) (by decide +kernel)
theorem wd1797 : Cond.methodLink "SalePlacesLaw" 119 ⟨"SalePlacesModel", "stackRate", "(IIII)I"⟩ ∈ xgood := xgood_in (List.mem_of_getElem? (i := 1797) (by decide +kernel)) (by decide +kernel)
theorem wd1798 : Cond.instanceMethod ⟨"SalePlacesModel", "stackRate", "(IIII)I"⟩ ∈ xgood := xgood_in (List.mem_of_getElem? (i := 1798) (by decide +kernel)) (by decide +kernel)
theorem wd1799 : Cond.selects "SalePlacesModel" ⟨"SalePlacesModel", "stackRate", "(IIII)I"⟩ ⟨"SalePlacesModel", "stackRate", "(IIII)I"⟩ ∈ xgood := xgood_in (List.mem_of_getElem? (i := 1799) (by decide +kernel)) (by decide +kernel)
theorem wd1800 : Cond.code ⟨"SalePlacesModel", "stackRate", "(IIII)I"⟩ cX11_stackRate 6 (some .int) ∈ xgood := xgood_in (List.mem_of_getElem? (i := 1800) (by decide +kernel)) (by decide +kernel)
theorem wd1801 : Cond.methodLink "SalePlacesModel" 342 ⟨"SalePlacesModel", "stackRateOf", "(IIII)I"⟩ ∈ xgood := xgood_in (List.mem_of_getElem? (i := 1801) (by decide +kernel)) (by decide +kernel)
theorem wd1803 : Cond.instanceMethod ⟨"SalePlacesModel", "stackRateOf", "(IIII)I"⟩ ∈ xgood := xgood_in (List.mem_of_getElem? (i := 1803) (by decide +kernel)) (by decide +kernel)
theorem wd1804 : Cond.code ⟨"SalePlacesModel", "stackRateOf", "(IIII)I"⟩ cX11_stackRateOf 8 (some .int) ∈ xgood := xgood_in (List.mem_of_getElem? (i := 1804) (by decide +kernel)) (by decide +kernel)
theorem wd1805 : Cond.methodLink "SalePlacesLaw" 123 ⟨"SalePlacesModel", "cheapest", "(II)I"⟩ ∈ xgood := xgood_in (List.mem_of_getElem? (i := 1805) (by decide +kernel)) (by decide +kernel)
theorem wd1806 : Cond.instanceMethod ⟨"SalePlacesModel", "cheapest", "(II)I"⟩ ∈ xgood := xgood_in (List.mem_of_getElem? (i := 1806) (by decide +kernel)) (by decide +kernel)
theorem wd1807 : Cond.selects "SalePlacesModel" ⟨"SalePlacesModel", "cheapest", "(II)I"⟩ ⟨"SalePlacesModel", "cheapest", "(II)I"⟩ ∈ xgood := xgood_in (List.mem_of_getElem? (i := 1807) (by decide +kernel)) (by decide +kernel)
theorem wd1808 : Cond.code ⟨"SalePlacesModel", "cheapest", "(II)I"⟩ cX11_cheapest 9 (some .int) ∈ xgood := xgood_in (List.mem_of_getElem? (i := 1808) (by decide +kernel)) (by decide +kernel)
theorem wd1809 : Cond.methodLink "SalePlacesLaw" 128 ⟨"SalePlacesModel", "due", "(IIIIII)I"⟩ ∈ xgood := xgood_in (List.mem_of_getElem? (i := 1809) (by decide +kernel)) (by decide +kernel)
theorem wd1810 : Cond.instanceMethod ⟨"SalePlacesModel", "due", "(IIIIII)I"⟩ ∈ xgood := xgood_in (List.mem_of_getElem? (i := 1810) (by decide +kernel)) (by decide +kernel)
theorem wd1811 : Cond.selects "SalePlacesModel" ⟨"SalePlacesModel", "due", "(IIIIII)I"⟩ ⟨"SalePlacesModel", "due", "(IIIIII)I"⟩ ∈ xgood := xgood_in (List.mem_of_getElem? (i := 1811) (by decide +kernel)) (by decide +kernel)
theorem wd1812 : Cond.code ⟨"SalePlacesModel", "due", "(IIIIII)I"⟩ cX11_due 8 (some .int) ∈ xgood := xgood_in (List.mem_of_getElem? (i := 1812) (by decide +kernel)) (by decide +kernel)
theorem wd1813 : Cond.methodLink "SalePlacesModel" 356 ⟨"SalePlacesModel", "refusesSale", "(IIIIII)I"⟩ ∈ xgood := xgood_in (List.mem_of_getElem? (i := 1813) (by decide +kernel)) (by decide +kernel)
theorem wd1815 : Cond.instanceMethod ⟨"SalePlacesModel", "refusesSale", "(IIIIII)I"⟩ ∈ xgood := xgood_in (List.mem_of_getElem? (i := 1815) (by decide +kernel)) (by decide +kernel)
theorem wd1816 : Cond.code ⟨"SalePlacesModel", "refusesSale", "(IIIIII)I"⟩ cX11_refusesSale 8 (some .int) ∈ xgood := xgood_in (List.mem_of_getElem? (i := 1816) (by decide +kernel)) (by decide +kernel)
theorem wd1817 : Cond.methodLink "SalePlacesModel" 360 ⟨"SalePlacesModel", "dueOf", "(IIIIII)I"⟩ ∈ xgood := xgood_in (List.mem_of_getElem? (i := 1817) (by decide +kernel)) (by decide +kernel)
theorem wd1819 : Cond.instanceMethod ⟨"SalePlacesModel", "dueOf", "(IIIIII)I"⟩ ∈ xgood := xgood_in (List.mem_of_getElem? (i := 1819) (by decide +kernel)) (by decide +kernel)
theorem wd1820 : Cond.code ⟨"SalePlacesModel", "dueOf", "(IIIIII)I"⟩ cX11_dueOf 10 (some .int) ∈ xgood := xgood_in (List.mem_of_getElem? (i := 1820) (by decide +kernel)) (by decide +kernel)
theorem wd1821 : Cond.methodLink "SalePlacesModel" 349 ⟨"SalePlacesModel", "baseOf", "(IIIZ)I"⟩ ∈ xgood := xgood_in (List.mem_of_getElem? (i := 1821) (by decide +kernel)) (by decide +kernel)
theorem wd1822 : Cond.static ⟨"SalePlacesModel", "baseOf", "(IIIZ)I"⟩ ∈ xgood := xgood_in (List.mem_of_getElem? (i := 1822) (by decide +kernel)) (by decide +kernel)
theorem wd1823 : Cond.code ⟨"SalePlacesModel", "baseOf", "(IIIZ)I"⟩ cX11_baseOf 4 (some .int) ∈ xgood := xgood_in (List.mem_of_getElem? (i := 1823) (by decide +kernel)) (by decide +kernel)
theorem wd1824 : Cond.methodLink "SalePlacesModel" 353 ⟨"SalePlacesModel", "taxOf", "(II)I"⟩ ∈ xgood := xgood_in (List.mem_of_getElem? (i := 1824) (by decide +kernel)) (by decide +kernel)
theorem wd1825 : Cond.static ⟨"SalePlacesModel", "taxOf", "(II)I"⟩ ∈ xgood := xgood_in (List.mem_of_getElem? (i := 1825) (by decide +kernel)) (by decide +kernel)
theorem wd1826 : Cond.code ⟨"SalePlacesModel", "taxOf", "(II)I"⟩ cX11_taxOf 2 (some .int) ∈ xgood := xgood_in (List.mem_of_getElem? (i := 1826) (by decide +kernel)) (by decide +kernel)
theorem wd1827 : Cond.constantLong "SalePlacesModel" 345 5000 ∈ xgood := xgood_in (List.mem_of_getElem? (i := 1827) (by decide +kernel)) (by decide +kernel)
theorem wd1828 : Cond.constantLong "SalePlacesModel" 347 10000 ∈ xgood := xgood_in (List.mem_of_getElem? (i := 1828) (by decide +kernel)) (by decide +kernel)
theorem wd1829 : Cond.methodLink "SalePlacesLaw" 133 ⟨"SalePlacesModel", "bestDay", "(IIIIIII)I"⟩ ∈ xgood := xgood_in (List.mem_of_getElem? (i := 1829) (by decide +kernel)) (by decide +kernel)
theorem wd1830 : Cond.instanceMethod ⟨"SalePlacesModel", "bestDay", "(IIIIIII)I"⟩ ∈ xgood := xgood_in (List.mem_of_getElem? (i := 1830) (by decide +kernel)) (by decide +kernel)
theorem wd1831 : Cond.selects "SalePlacesModel" ⟨"SalePlacesModel", "bestDay", "(IIIIIII)I"⟩ ⟨"SalePlacesModel", "bestDay", "(IIIIIII)I"⟩ ∈ xgood := xgood_in (List.mem_of_getElem? (i := 1831) (by decide +kernel)) (by decide +kernel)
theorem wd1832 : Cond.code ⟨"SalePlacesModel", "bestDay", "(IIIIIII)I"⟩ cX11_bestDay 13 (some .int) ∈ xgood := xgood_in (List.mem_of_getElem? (i := 1832) (by decide +kernel)) (by decide +kernel)
theorem wd1833 : Cond.methodLink "SalePlacesLaw" 137 ⟨"SalePlacesModel", "line", "(II)I"⟩ ∈ xgood := xgood_in (List.mem_of_getElem? (i := 1833) (by decide +kernel)) (by decide +kernel)
theorem wd1834 : Cond.instanceMethod ⟨"SalePlacesModel", "line", "(II)I"⟩ ∈ xgood := xgood_in (List.mem_of_getElem? (i := 1834) (by decide +kernel)) (by decide +kernel)
theorem wd1835 : Cond.selects "SalePlacesModel" ⟨"SalePlacesModel", "line", "(II)I"⟩ ⟨"SalePlacesModel", "line", "(II)I"⟩ ∈ xgood := xgood_in (List.mem_of_getElem? (i := 1835) (by decide +kernel)) (by decide +kernel)
theorem wd1836 : Cond.code ⟨"SalePlacesModel", "line", "(II)I"⟩ cX11_line 3 (some .int) ∈ xgood := xgood_in (List.mem_of_getElem? (i := 1836) (by decide +kernel)) (by decide +kernel)
theorem wd1837 : Cond.methodLink "SalePlacesModel" 375 ⟨"SalePlacesModel", "isLine", "(I)Z"⟩ ∈ xgood := xgood_in (List.mem_of_getElem? (i := 1837) (by decide +kernel)) (by decide +kernel)
theorem wd1839 : Cond.instanceMethod ⟨"SalePlacesModel", "isLine", "(I)Z"⟩ ∈ xgood := xgood_in (List.mem_of_getElem? (i := 1839) (by decide +kernel)) (by decide +kernel)
theorem wd1840 : Cond.code ⟨"SalePlacesModel", "isLine", "(I)Z"⟩ cX11_isLine 2 (some .boolean) ∈ xgood := xgood_in (List.mem_of_getElem? (i := 1840) (by decide +kernel)) (by decide +kernel)
theorem wd1841 : Cond.methodLink "SalePlacesModel" 378 ⟨"SalePlacesModel", "lineDue", "(I)I"⟩ ∈ xgood := xgood_in (List.mem_of_getElem? (i := 1841) (by decide +kernel)) (by decide +kernel)
theorem wd1843 : Cond.instanceMethod ⟨"SalePlacesModel", "lineDue", "(I)I"⟩ ∈ xgood := xgood_in (List.mem_of_getElem? (i := 1843) (by decide +kernel)) (by decide +kernel)
theorem wd1844 : Cond.code ⟨"SalePlacesModel", "lineDue", "(I)I"⟩ cX11_lineDue 4 (some .int) ∈ xgood := xgood_in (List.mem_of_getElem? (i := 1844) (by decide +kernel)) (by decide +kernel)
theorem wd1845 : Cond.methodLink "SalePlacesModel" 363 ⟨"SalePlacesModel", "told", "(II)I"⟩ ∈ xgood := xgood_in (List.mem_of_getElem? (i := 1845) (by decide +kernel)) (by decide +kernel)
theorem wd1847 : Cond.instanceMethod ⟨"SalePlacesModel", "told", "(II)I"⟩ ∈ xgood := xgood_in (List.mem_of_getElem? (i := 1847) (by decide +kernel)) (by decide +kernel)
theorem wd1848 : Cond.code ⟨"SalePlacesModel", "told", "(II)I"⟩ cX11_told 3 (some .int) ∈ xgood := xgood_in (List.mem_of_getElem? (i := 1848) (by decide +kernel)) (by decide +kernel)
theorem wd1849 : Cond.methodLink "SalePlacesModel" 372 ⟨"SalePlacesModel", "partTax", "(II)I"⟩ ∈ xgood := xgood_in (List.mem_of_getElem? (i := 1849) (by decide +kernel)) (by decide +kernel)
theorem wd1851 : Cond.instanceMethod ⟨"SalePlacesModel", "partTax", "(II)I"⟩ ∈ xgood := xgood_in (List.mem_of_getElem? (i := 1851) (by decide +kernel)) (by decide +kernel)
theorem wd1852 : Cond.code ⟨"SalePlacesModel", "partTax", "(II)I"⟩ cX11_partTax 3 (some .int) ∈ xgood := xgood_in (List.mem_of_getElem? (i := 1852) (by decide +kernel)) (by decide +kernel)
theorem wd1853 : Cond.methodLink "SalePlacesModel" 369 ⟨"SalePlacesModel", "partBase", "(II)I"⟩ ∈ xgood := xgood_in (List.mem_of_getElem? (i := 1853) (by decide +kernel)) (by decide +kernel)
theorem wd1855 : Cond.instanceMethod ⟨"SalePlacesModel", "partBase", "(II)I"⟩ ∈ xgood := xgood_in (List.mem_of_getElem? (i := 1855) (by decide +kernel)) (by decide +kernel)
theorem wd1856 : Cond.code ⟨"SalePlacesModel", "partBase", "(II)I"⟩ cX11_partBase 3 (some .int) ∈ xgood := xgood_in (List.mem_of_getElem? (i := 1856) (by decide +kernel)) (by decide +kernel)
theorem wd1857 : Cond.methodLink "SalePlacesModel" 366 ⟨"SalePlacesModel", "partIs", "(III)I"⟩ ∈ xgood := xgood_in (List.mem_of_getElem? (i := 1857) (by decide +kernel)) (by decide +kernel)
theorem wd1859 : Cond.instanceMethod ⟨"SalePlacesModel", "partIs", "(III)I"⟩ ∈ xgood := xgood_in (List.mem_of_getElem? (i := 1859) (by decide +kernel)) (by decide +kernel)
theorem wd1860 : Cond.code ⟨"SalePlacesModel", "partIs", "(III)I"⟩ cX11_partIs 4 (some .int) ∈ xgood := xgood_in (List.mem_of_getElem? (i := 1860) (by decide +kernel)) (by decide +kernel)
theorem wd1861 : Cond.methodLink "SalePlacesLaw" 141 ⟨"SalePlacesModel", "part", "(III)I"⟩ ∈ xgood := xgood_in (List.mem_of_getElem? (i := 1861) (by decide +kernel)) (by decide +kernel)
theorem wd1862 : Cond.instanceMethod ⟨"SalePlacesModel", "part", "(III)I"⟩ ∈ xgood := xgood_in (List.mem_of_getElem? (i := 1862) (by decide +kernel)) (by decide +kernel)
theorem wd1863 : Cond.selects "SalePlacesModel" ⟨"SalePlacesModel", "part", "(III)I"⟩ ⟨"SalePlacesModel", "part", "(III)I"⟩ ∈ xgood := xgood_in (List.mem_of_getElem? (i := 1863) (by decide +kernel)) (by decide +kernel)
theorem wd1864 : Cond.code ⟨"SalePlacesModel", "part", "(III)I"⟩ cX11_part 4 (some .int) ∈ xgood := xgood_in (List.mem_of_getElem? (i := 1864) (by decide +kernel)) (by decide +kernel)
theorem wd1865 : Cond.methodLink "SalePlacesLaw" 145 ⟨"SalePlacesModel", "entries", "()I"⟩ ∈ xgood := xgood_in (List.mem_of_getElem? (i := 1865) (by decide +kernel)) (by decide +kernel)
theorem wd1866 : Cond.instanceMethod ⟨"SalePlacesModel", "entries", "()I"⟩ ∈ xgood := xgood_in (List.mem_of_getElem? (i := 1866) (by decide +kernel)) (by decide +kernel)
theorem wd1867 : Cond.selects "SalePlacesModel" ⟨"SalePlacesModel", "entries", "()I"⟩ ⟨"SalePlacesModel", "entries", "()I"⟩ ∈ xgood := xgood_in (List.mem_of_getElem? (i := 1867) (by decide +kernel)) (by decide +kernel)
theorem wd1868 : Cond.code ⟨"SalePlacesModel", "entries", "()I"⟩ cX11_entries 1 (some .int) ∈ xgood := xgood_in (List.mem_of_getElem? (i := 1868) (by decide +kernel)) (by decide +kernel)
theorem wd1869 : Cond.methodLink "SalePlacesModel" 387 ⟨"SalePlacesModel", "laysLedger", "()V"⟩ ∈ xgood := xgood_in (List.mem_of_getElem? (i := 1869) (by decide +kernel)) (by decide +kernel)
theorem wd1871 : Cond.instanceMethod ⟨"SalePlacesModel", "laysLedger", "()V"⟩ ∈ xgood := xgood_in (List.mem_of_getElem? (i := 1871) (by decide +kernel)) (by decide +kernel)
theorem wd1872 : Cond.code ⟨"SalePlacesModel", "laysLedger", "()V"⟩ cX11_laysLedger 3 none ∈ xgood := xgood_in (List.mem_of_getElem? (i := 1872) (by decide +kernel)) (by decide +kernel)
theorem wd1873 : Cond.methodLink "SalePlacesModel" 384 ⟨"SalePlacesModel", "entryOf", "(II)I"⟩ ∈ xgood := xgood_in (List.mem_of_getElem? (i := 1873) (by decide +kernel)) (by decide +kernel)
theorem wd1875 : Cond.instanceMethod ⟨"SalePlacesModel", "entryOf", "(II)I"⟩ ∈ xgood := xgood_in (List.mem_of_getElem? (i := 1875) (by decide +kernel)) (by decide +kernel)
theorem wd1876 : Cond.code ⟨"SalePlacesModel", "entryOf", "(II)I"⟩ cX11_entryOf 4 (some .int) ∈ xgood := xgood_in (List.mem_of_getElem? (i := 1876) (by decide +kernel)) (by decide +kernel)
theorem wd1877 : Cond.methodLink "SalePlacesLaw" 149 ⟨"SalePlacesModel", "entry", "(II)I"⟩ ∈ xgood := xgood_in (List.mem_of_getElem? (i := 1877) (by decide +kernel)) (by decide +kernel)
theorem wd1878 : Cond.instanceMethod ⟨"SalePlacesModel", "entry", "(II)I"⟩ ∈ xgood := xgood_in (List.mem_of_getElem? (i := 1878) (by decide +kernel)) (by decide +kernel)
theorem wd1879 : Cond.selects "SalePlacesModel" ⟨"SalePlacesModel", "entry", "(II)I"⟩ ⟨"SalePlacesModel", "entry", "(II)I"⟩ ∈ xgood := xgood_in (List.mem_of_getElem? (i := 1879) (by decide +kernel)) (by decide +kernel)
theorem wd1880 : Cond.code ⟨"SalePlacesModel", "entry", "(II)I"⟩ cX11_entry 3 (some .int) ∈ xgood := xgood_in (List.mem_of_getElem? (i := 1880) (by decide +kernel)) (by decide +kernel)
theorem wd1881 : Cond.methodLink "SalePlacesLaw" 153 ⟨"SalePlacesModel", "taxes", "(II)I"⟩ ∈ xgood := xgood_in (List.mem_of_getElem? (i := 1881) (by decide +kernel)) (by decide +kernel)
theorem wd1882 : Cond.instanceMethod ⟨"SalePlacesModel", "taxes", "(II)I"⟩ ∈ xgood := xgood_in (List.mem_of_getElem? (i := 1882) (by decide +kernel)) (by decide +kernel)
theorem wd1883 : Cond.selects "SalePlacesModel" ⟨"SalePlacesModel", "taxes", "(II)I"⟩ ⟨"SalePlacesModel", "taxes", "(II)I"⟩ ∈ xgood := xgood_in (List.mem_of_getElem? (i := 1883) (by decide +kernel)) (by decide +kernel)
theorem wd1884 : Cond.code ⟨"SalePlacesModel", "taxes", "(II)I"⟩ cX11_taxes 5 (some .int) ∈ xgood := xgood_in (List.mem_of_getElem? (i := 1884) (by decide +kernel)) (by decide +kernel)
theorem wd1885 : Cond.methodLink "SalePlacesLaw" 157 ⟨"SalePlacesModel", "filings", "()I"⟩ ∈ xgood := xgood_in (List.mem_of_getElem? (i := 1885) (by decide +kernel)) (by decide +kernel)
theorem wd1886 : Cond.instanceMethod ⟨"SalePlacesModel", "filings", "()I"⟩ ∈ xgood := xgood_in (List.mem_of_getElem? (i := 1886) (by decide +kernel)) (by decide +kernel)
theorem wd1887 : Cond.selects "SalePlacesModel" ⟨"SalePlacesModel", "filings", "()I"⟩ ⟨"SalePlacesModel", "filings", "()I"⟩ ∈ xgood := xgood_in (List.mem_of_getElem? (i := 1887) (by decide +kernel)) (by decide +kernel)
theorem wd1888 : Cond.code ⟨"SalePlacesModel", "filings", "()I"⟩ cX11_filings 1 (some .int) ∈ xgood := xgood_in (List.mem_of_getElem? (i := 1888) (by decide +kernel)) (by decide +kernel)
theorem wd1889 : Cond.methodLink "SalePlacesLaw" 161 ⟨"SalePlacesModel", "filing", "(II)I"⟩ ∈ xgood := xgood_in (List.mem_of_getElem? (i := 1889) (by decide +kernel)) (by decide +kernel)
theorem wd1890 : Cond.instanceMethod ⟨"SalePlacesModel", "filing", "(II)I"⟩ ∈ xgood := xgood_in (List.mem_of_getElem? (i := 1890) (by decide +kernel)) (by decide +kernel)
theorem wd1891 : Cond.selects "SalePlacesModel" ⟨"SalePlacesModel", "filing", "(II)I"⟩ ⟨"SalePlacesModel", "filing", "(II)I"⟩ ∈ xgood := xgood_in (List.mem_of_getElem? (i := 1891) (by decide +kernel)) (by decide +kernel)
theorem wd1892 : Cond.code ⟨"SalePlacesModel", "filing", "(II)I"⟩ cX11_filing 5 (some .int) ∈ xgood := xgood_in (List.mem_of_getElem? (i := 1892) (by decide +kernel)) (by decide +kernel)
theorem wd1893 : Cond.methodLink "SalePlacesModel" 393 ⟨"SalePlacesModel", "isFiling", "(I)Z"⟩ ∈ xgood := xgood_in (List.mem_of_getElem? (i := 1893) (by decide +kernel)) (by decide +kernel)
theorem wd1895 : Cond.instanceMethod ⟨"SalePlacesModel", "isFiling", "(I)Z"⟩ ∈ xgood := xgood_in (List.mem_of_getElem? (i := 1895) (by decide +kernel)) (by decide +kernel)
theorem wd1896 : Cond.code ⟨"SalePlacesModel", "isFiling", "(I)Z"⟩ cX11_isFiling 2 (some .boolean) ∈ xgood := xgood_in (List.mem_of_getElem? (i := 1896) (by decide +kernel)) (by decide +kernel)
theorem wd1897 : Cond.methodLink "SalePlacesLaw" 165 ⟨"SalePlacesModel", "pays", "(II)I"⟩ ∈ xgood := xgood_in (List.mem_of_getElem? (i := 1897) (by decide +kernel)) (by decide +kernel)
theorem wd1898 : Cond.instanceMethod ⟨"SalePlacesModel", "pays", "(II)I"⟩ ∈ xgood := xgood_in (List.mem_of_getElem? (i := 1898) (by decide +kernel)) (by decide +kernel)
theorem wd1899 : Cond.selects "SalePlacesModel" ⟨"SalePlacesModel", "pays", "(II)I"⟩ ⟨"SalePlacesModel", "pays", "(II)I"⟩ ∈ xgood := xgood_in (List.mem_of_getElem? (i := 1899) (by decide +kernel)) (by decide +kernel)
theorem wd1900 : Cond.code ⟨"SalePlacesModel", "pays", "(II)I"⟩ cX11_pays 5 (some .int) ∈ xgood := xgood_in (List.mem_of_getElem? (i := 1900) (by decide +kernel)) (by decide +kernel)
theorem wd1901 : Cond.methodLink "SalePlacesModel" 396 ⟨"SalePlacesModel", "isPlaceOrAll", "(I)Z"⟩ ∈ xgood := xgood_in (List.mem_of_getElem? (i := 1901) (by decide +kernel)) (by decide +kernel)
theorem wd1903 : Cond.instanceMethod ⟨"SalePlacesModel", "isPlaceOrAll", "(I)Z"⟩ ∈ xgood := xgood_in (List.mem_of_getElem? (i := 1903) (by decide +kernel)) (by decide +kernel)
theorem wd1904 : Cond.code ⟨"SalePlacesModel", "isPlaceOrAll", "(I)Z"⟩ cX11_isPlaceOrAll 2 (some .boolean) ∈ xgood := xgood_in (List.mem_of_getElem? (i := 1904) (by decide +kernel)) (by decide +kernel)
theorem wd1905 : Cond.methodLink "SalePlacesLaw" 169 ⟨"SalePlacesModel", "pending", "(II)I"⟩ ∈ xgood := xgood_in (List.mem_of_getElem? (i := 1905) (by decide +kernel)) (by decide +kernel)
theorem wd1906 : Cond.instanceMethod ⟨"SalePlacesModel", "pending", "(II)I"⟩ ∈ xgood := xgood_in (List.mem_of_getElem? (i := 1906) (by decide +kernel)) (by decide +kernel)
theorem wd1907 : Cond.selects "SalePlacesModel" ⟨"SalePlacesModel", "pending", "(II)I"⟩ ⟨"SalePlacesModel", "pending", "(II)I"⟩ ∈ xgood := xgood_in (List.mem_of_getElem? (i := 1907) (by decide +kernel)) (by decide +kernel)
theorem wd1908 : Cond.code ⟨"SalePlacesModel", "pending", "(II)I"⟩ cX11_pending 5 (some .int) ∈ xgood := xgood_in (List.mem_of_getElem? (i := 1908) (by decide +kernel)) (by decide +kernel)
theorem wd1909 : Cond.methodLink "SalePlacesModel" 402 ⟨"SalePlacesModel", "canFile", "(I)Z"⟩ ∈ xgood := xgood_in (List.mem_of_getElem? (i := 1909) (by decide +kernel)) (by decide +kernel)
theorem wd1911 : Cond.instanceMethod ⟨"SalePlacesModel", "canFile", "(I)Z"⟩ ∈ xgood := xgood_in (List.mem_of_getElem? (i := 1911) (by decide +kernel)) (by decide +kernel)
theorem wd1912 : Cond.code ⟨"SalePlacesModel", "canFile", "(I)Z"⟩ cX11_canFile 2 (some .boolean) ∈ xgood := xgood_in (List.mem_of_getElem? (i := 1912) (by decide +kernel)) (by decide +kernel)
theorem wd1913 : Cond.methodLink "SalePlacesModel" 399 ⟨"SalePlacesModel", "filedDay", "()I"⟩ ∈ xgood := xgood_in (List.mem_of_getElem? (i := 1913) (by decide +kernel)) (by decide +kernel)
theorem wd1915 : Cond.instanceMethod ⟨"SalePlacesModel", "filedDay", "()I"⟩ ∈ xgood := xgood_in (List.mem_of_getElem? (i := 1915) (by decide +kernel)) (by decide +kernel)
theorem wd1916 : Cond.code ⟨"SalePlacesModel", "filedDay", "()I"⟩ cX11_filedDay 1 (some .int) ∈ xgood := xgood_in (List.mem_of_getElem? (i := 1916) (by decide +kernel)) (by decide +kernel)
theorem wd1917 : Cond.methodLink "SalePlacesModel" 405 ⟨"SalePlacesModel", "wouldPay", "(II)I"⟩ ∈ xgood := xgood_in (List.mem_of_getElem? (i := 1917) (by decide +kernel)) (by decide +kernel)
theorem wd1919 : Cond.instanceMethod ⟨"SalePlacesModel", "wouldPay", "(II)I"⟩ ∈ xgood := xgood_in (List.mem_of_getElem? (i := 1919) (by decide +kernel)) (by decide +kernel)
theorem wd1920 : Cond.code ⟨"SalePlacesModel", "wouldPay", "(II)I"⟩ cX11_wouldPay 5 (some .int) ∈ xgood := xgood_in (List.mem_of_getElem? (i := 1920) (by decide +kernel)) (by decide +kernel)
theorem wd1921 : Cond.methodLink "SalePlacesModel" 390 ⟨"SalePlacesModel", "lineTaxes", "(II)I"⟩ ∈ xgood := xgood_in (List.mem_of_getElem? (i := 1921) (by decide +kernel)) (by decide +kernel)
theorem wd1923 : Cond.instanceMethod ⟨"SalePlacesModel", "lineTaxes", "(II)I"⟩ ∈ xgood := xgood_in (List.mem_of_getElem? (i := 1923) (by decide +kernel)) (by decide +kernel)
theorem wd1924 : Cond.code ⟨"SalePlacesModel", "lineTaxes", "(II)I"⟩ cX11_lineTaxes 5 (some .int) ∈ xgood := xgood_in (List.mem_of_getElem? (i := 1924) (by decide +kernel)) (by decide +kernel)
theorem wd1925 : Cond.methodLink "SalePlacesLaw" 181 ⟨"SalePlacesModel", "file", "(I)I"⟩ ∈ xgood := xgood_in (List.mem_of_getElem? (i := 1925) (by decide +kernel)) (by decide +kernel)
theorem wd1926 : Cond.instanceMethod ⟨"SalePlacesModel", "file", "(I)I"⟩ ∈ xgood := xgood_in (List.mem_of_getElem? (i := 1926) (by decide +kernel)) (by decide +kernel)
theorem wd1927 : Cond.selects "SalePlacesModel" ⟨"SalePlacesModel", "file", "(I)I"⟩ ⟨"SalePlacesModel", "file", "(I)I"⟩ ∈ xgood := xgood_in (List.mem_of_getElem? (i := 1927) (by decide +kernel)) (by decide +kernel)
theorem wd1928 : Cond.code ⟨"SalePlacesModel", "file", "(I)I"⟩ cX11_file 5 (some .int) ∈ xgood := xgood_in (List.mem_of_getElem? (i := 1928) (by decide +kernel)) (by decide +kernel)
theorem wd1929 : Cond.methodLink "SalePlacesModel" 408 ⟨"SalePlacesModel", "remembers", "(III)V"⟩ ∈ xgood := xgood_in (List.mem_of_getElem? (i := 1929) (by decide +kernel)) (by decide +kernel)
theorem wd1931 : Cond.instanceMethod ⟨"SalePlacesModel", "remembers", "(III)V"⟩ ∈ xgood := xgood_in (List.mem_of_getElem? (i := 1931) (by decide +kernel)) (by decide +kernel)
theorem wd1932 : Cond.code ⟨"SalePlacesModel", "remembers", "(III)V"⟩ cX11_remembers 5 none ∈ xgood := xgood_in (List.mem_of_getElem? (i := 1932) (by decide +kernel)) (by decide +kernel)
theorem wd1933 : Cond.methodLink "SalePlacesLaw" 173 ⟨"SalePlacesModel", "wrong", "()I"⟩ ∈ xgood := xgood_in (List.mem_of_getElem? (i := 1933) (by decide +kernel)) (by decide +kernel)
theorem wd1934 : Cond.instanceMethod ⟨"SalePlacesModel", "wrong", "()I"⟩ ∈ xgood := xgood_in (List.mem_of_getElem? (i := 1934) (by decide +kernel)) (by decide +kernel)
theorem wd1935 : Cond.selects "SalePlacesModel" ⟨"SalePlacesModel", "wrong", "()I"⟩ ⟨"SalePlacesModel", "wrong", "()I"⟩ ∈ xgood := xgood_in (List.mem_of_getElem? (i := 1935) (by decide +kernel)) (by decide +kernel)
theorem wd1936 : Cond.code ⟨"SalePlacesModel", "wrong", "()I"⟩ cX11_wrong 3 (some .int) ∈ xgood := xgood_in (List.mem_of_getElem? (i := 1936) (by decide +kernel)) (by decide +kernel)
theorem wd1937 : Cond.methodLink "SalePlacesModel" 412 ⟨"SalePlacesModel", "dueNow", "(I)I"⟩ ∈ xgood := xgood_in (List.mem_of_getElem? (i := 1937) (by decide +kernel)) (by decide +kernel)
theorem wd1939 : Cond.instanceMethod ⟨"SalePlacesModel", "dueNow", "(I)I"⟩ ∈ xgood := xgood_in (List.mem_of_getElem? (i := 1939) (by decide +kernel)) (by decide +kernel)
theorem wd1940 : Cond.code ⟨"SalePlacesModel", "dueNow", "(I)I"⟩ cX11_dueNow 2 (some .int) ∈ xgood := xgood_in (List.mem_of_getElem? (i := 1940) (by decide +kernel)) (by decide +kernel)
theorem wd1941 : Cond.methodLink "SalePlacesLaw" 177 ⟨"SalePlacesModel", "owed", "(I)I"⟩ ∈ xgood := xgood_in (List.mem_of_getElem? (i := 1941) (by decide +kernel)) (by decide +kernel)
theorem wd1942 : Cond.instanceMethod ⟨"SalePlacesModel", "owed", "(I)I"⟩ ∈ xgood := xgood_in (List.mem_of_getElem? (i := 1942) (by decide +kernel)) (by decide +kernel)
theorem wd1943 : Cond.selects "SalePlacesModel" ⟨"SalePlacesModel", "owed", "(I)I"⟩ ⟨"SalePlacesModel", "owed", "(I)I"⟩ ∈ xgood := xgood_in (List.mem_of_getElem? (i := 1943) (by decide +kernel)) (by decide +kernel)
theorem wd1944 : Cond.code ⟨"SalePlacesModel", "owed", "(I)I"⟩ cX11_owed 2 (some .int) ∈ xgood := xgood_in (List.mem_of_getElem? (i := 1944) (by decide +kernel)) (by decide +kernel)
theorem wd1945 : Cond.methodLink "SalePlacesLaw" 185 ⟨"SalePlacesModel", "sale", "(IIIIII)I"⟩ ∈ xgood := xgood_in (List.mem_of_getElem? (i := 1945) (by decide +kernel)) (by decide +kernel)
theorem wd1946 : Cond.instanceMethod ⟨"SalePlacesModel", "sale", "(IIIIII)I"⟩ ∈ xgood := xgood_in (List.mem_of_getElem? (i := 1946) (by decide +kernel)) (by decide +kernel)
theorem wd1947 : Cond.selects "SalePlacesModel" ⟨"SalePlacesModel", "sale", "(IIIIII)I"⟩ ⟨"SalePlacesModel", "sale", "(IIIIII)I"⟩ ∈ xgood := xgood_in (List.mem_of_getElem? (i := 1947) (by decide +kernel)) (by decide +kernel)
theorem wd1948 : Cond.code ⟨"SalePlacesModel", "sale", "(IIIIII)I"⟩ cX11_sale 12 (some .int) ∈ xgood := xgood_in (List.mem_of_getElem? (i := 1948) (by decide +kernel)) (by decide +kernel)
theorem wd1949 : Cond.methodLink "SalePlacesLaw" 189 ⟨"SalePlacesModel", "refund", "(II)I"⟩ ∈ xgood := xgood_in (List.mem_of_getElem? (i := 1949) (by decide +kernel)) (by decide +kernel)
theorem wd1950 : Cond.instanceMethod ⟨"SalePlacesModel", "refund", "(II)I"⟩ ∈ xgood := xgood_in (List.mem_of_getElem? (i := 1950) (by decide +kernel)) (by decide +kernel)
theorem wd1951 : Cond.selects "SalePlacesModel" ⟨"SalePlacesModel", "refund", "(II)I"⟩ ⟨"SalePlacesModel", "refund", "(II)I"⟩ ∈ xgood := xgood_in (List.mem_of_getElem? (i := 1951) (by decide +kernel)) (by decide +kernel)
theorem wd1952 : Cond.code ⟨"SalePlacesModel", "refund", "(II)I"⟩ cX11_refund 4 (some .int) ∈ xgood := xgood_in (List.mem_of_getElem? (i := 1952) (by decide +kernel)) (by decide +kernel)
theorem wd1953 : Cond.methodLink "SalePlacesLaw" 193 ⟨"SalePlacesModel", "move", "(IIII)I"⟩ ∈ xgood := xgood_in (List.mem_of_getElem? (i := 1953) (by decide +kernel)) (by decide +kernel)
theorem wd1954 : Cond.instanceMethod ⟨"SalePlacesModel", "move", "(IIII)I"⟩ ∈ xgood := xgood_in (List.mem_of_getElem? (i := 1954) (by decide +kernel)) (by decide +kernel)
theorem wd1955 : Cond.selects "SalePlacesModel" ⟨"SalePlacesModel", "move", "(IIII)I"⟩ ⟨"SalePlacesModel", "move", "(IIII)I"⟩ ∈ xgood := xgood_in (List.mem_of_getElem? (i := 1955) (by decide +kernel)) (by decide +kernel)
theorem wd1956 : Cond.code ⟨"SalePlacesModel", "move", "(IIII)I"⟩ cX11_move 10 (some .int) ∈ xgood := xgood_in (List.mem_of_getElem? (i := 1956) (by decide +kernel)) (by decide +kernel)
theorem wd1957 : Cond.methodLink "SalePlacesModel" 415 ⟨"SalePlacesModel", "canMove", "(III)Z"⟩ ∈ xgood := xgood_in (List.mem_of_getElem? (i := 1957) (by decide +kernel)) (by decide +kernel)
theorem wd1959 : Cond.instanceMethod ⟨"SalePlacesModel", "canMove", "(III)Z"⟩ ∈ xgood := xgood_in (List.mem_of_getElem? (i := 1959) (by decide +kernel)) (by decide +kernel)
theorem wd1960 : Cond.code ⟨"SalePlacesModel", "canMove", "(III)Z"⟩ cX11_canMove 5 (some .boolean) ∈ xgood := xgood_in (List.mem_of_getElem? (i := 1960) (by decide +kernel)) (by decide +kernel)
theorem wd1961 : Cond.methodLink "SalePlacesLaw" 197 ⟨"SalePlacesModel", "turn", "(IIII)I"⟩ ∈ xgood := xgood_in (List.mem_of_getElem? (i := 1961) (by decide +kernel)) (by decide +kernel)
theorem wd1962 : Cond.instanceMethod ⟨"SalePlacesModel", "turn", "(IIII)I"⟩ ∈ xgood := xgood_in (List.mem_of_getElem? (i := 1962) (by decide +kernel)) (by decide +kernel)
theorem wd1963 : Cond.selects "SalePlacesModel" ⟨"SalePlacesModel", "turn", "(IIII)I"⟩ ⟨"SalePlacesModel", "turn", "(IIII)I"⟩ ∈ xgood := xgood_in (List.mem_of_getElem? (i := 1963) (by decide +kernel)) (by decide +kernel)
theorem wd1964 : Cond.code ⟨"SalePlacesModel", "turn", "(IIII)I"⟩ cX11_turn 7 (some .int) ∈ xgood := xgood_in (List.mem_of_getElem? (i := 1964) (by decide +kernel)) (by decide +kernel)
theorem wd1965 : Cond.methodLink "SalePlacesLaw" 202 ⟨"SalePlacesModel", "undo", "()Z"⟩ ∈ xgood := xgood_in (List.mem_of_getElem? (i := 1965) (by decide +kernel)) (by decide +kernel)
theorem wd1966 : Cond.instanceMethod ⟨"SalePlacesModel", "undo", "()Z"⟩ ∈ xgood := xgood_in (List.mem_of_getElem? (i := 1966) (by decide +kernel)) (by decide +kernel)
theorem wd1967 : Cond.selects "SalePlacesModel" ⟨"SalePlacesModel", "undo", "()Z"⟩ ⟨"SalePlacesModel", "undo", "()Z"⟩ ∈ xgood := xgood_in (List.mem_of_getElem? (i := 1967) (by decide +kernel)) (by decide +kernel)
theorem wd1968 : Cond.code ⟨"SalePlacesModel", "undo", "()Z"⟩ cX11_undo 1 (some .boolean) ∈ xgood := xgood_in (List.mem_of_getElem? (i := 1968) (by decide +kernel)) (by decide +kernel)
theorem wd1969 : Cond.methodLink "SalePlacesModel" 418 ⟨"SalePlacesModel", "unfiles", "()V"⟩ ∈ xgood := xgood_in (List.mem_of_getElem? (i := 1969) (by decide +kernel)) (by decide +kernel)
theorem wd1971 : Cond.instanceMethod ⟨"SalePlacesModel", "unfiles", "()V"⟩ ∈ xgood := xgood_in (List.mem_of_getElem? (i := 1971) (by decide +kernel)) (by decide +kernel)
theorem wd1972 : Cond.code ⟨"SalePlacesModel", "unfiles", "()V"⟩ cX11_unfiles 2 none ∈ xgood := xgood_in (List.mem_of_getElem? (i := 1972) (by decide +kernel)) (by decide +kernel)
theorem wd1973 : Cond.methodLink "SalePlacesLaw" 208 ⟨"SalePlacesModel", "idle", "(I)I"⟩ ∈ xgood := xgood_in (List.mem_of_getElem? (i := 1973) (by decide +kernel)) (by decide +kernel)
theorem wd1974 : Cond.instanceMethod ⟨"SalePlacesModel", "idle", "(I)I"⟩ ∈ xgood := xgood_in (List.mem_of_getElem? (i := 1974) (by decide +kernel)) (by decide +kernel)
theorem wd1975 : Cond.selects "SalePlacesModel" ⟨"SalePlacesModel", "idle", "(I)I"⟩ ⟨"SalePlacesModel", "idle", "(I)I"⟩ ∈ xgood := xgood_in (List.mem_of_getElem? (i := 1975) (by decide +kernel)) (by decide +kernel)
theorem wd1976 : Cond.code ⟨"SalePlacesModel", "idle", "(I)I"⟩ cX11_idle 4 (some .int) ∈ xgood := xgood_in (List.mem_of_getElem? (i := 1976) (by decide +kernel)) (by decide +kernel)
theorem wd1977 : Cond.methodLink "SalePlacesModel" 421 ⟨"SalePlacesModel", "isTaxed", "(I)Z"⟩ ∈ xgood := xgood_in (List.mem_of_getElem? (i := 1977) (by decide +kernel)) (by decide +kernel)
theorem wd1979 : Cond.instanceMethod ⟨"SalePlacesModel", "isTaxed", "(I)Z"⟩ ∈ xgood := xgood_in (List.mem_of_getElem? (i := 1979) (by decide +kernel)) (by decide +kernel)
theorem wd1980 : Cond.code ⟨"SalePlacesModel", "isTaxed", "(I)Z"⟩ cX11_isTaxed 4 (some .boolean) ∈ xgood := xgood_in (List.mem_of_getElem? (i := 1980) (by decide +kernel)) (by decide +kernel)
theorem wd1981 : Cond.methodLink "SalePlacesLaw" 215 ⟨"SalePlacesModel", "size", "(I)I"⟩ ∈ xgood := xgood_in (List.mem_of_getElem? (i := 1981) (by decide +kernel)) (by decide +kernel)
theorem wd1982 : Cond.instanceMethod ⟨"SalePlacesModel", "size", "(I)I"⟩ ∈ xgood := xgood_in (List.mem_of_getElem? (i := 1982) (by decide +kernel)) (by decide +kernel)
theorem wd1983 : Cond.selects "SalePlacesModel" ⟨"SalePlacesModel", "size", "(I)I"⟩ ⟨"SalePlacesModel", "size", "(I)I"⟩ ∈ xgood := xgood_in (List.mem_of_getElem? (i := 1983) (by decide +kernel)) (by decide +kernel)
theorem wd1984 : Cond.code ⟨"SalePlacesModel", "size", "(I)I"⟩ cX11_size 2 (some .int) ∈ xgood := xgood_in (List.mem_of_getElem? (i := 1984) (by decide +kernel)) (by decide +kernel)
theorem wd1985 : Cond.methodLink "SalePlacesModel" 424 ⟨"SalePlacesModel", "unitsLeft", "()I"⟩ ∈ xgood := xgood_in (List.mem_of_getElem? (i := 1985) (by decide +kernel)) (by decide +kernel)
theorem wd1987 : Cond.instanceMethod ⟨"SalePlacesModel", "unitsLeft", "()I"⟩ ∈ xgood := xgood_in (List.mem_of_getElem? (i := 1987) (by decide +kernel)) (by decide +kernel)
theorem wd1988 : Cond.code ⟨"SalePlacesModel", "unitsLeft", "()I"⟩ cX11_unitsLeft 3 (some .int) ∈ xgood := xgood_in (List.mem_of_getElem? (i := 1988) (by decide +kernel)) (by decide +kernel)
theorem wd1989 : Cond.methodLink "SalePlacesLaw" 219 ⟨"SalePlacesModel", "trouble", "()I"⟩ ∈ xgood := xgood_in (List.mem_of_getElem? (i := 1989) (by decide +kernel)) (by decide +kernel)
theorem wd1990 : Cond.instanceMethod ⟨"SalePlacesModel", "trouble", "()I"⟩ ∈ xgood := xgood_in (List.mem_of_getElem? (i := 1990) (by decide +kernel)) (by decide +kernel)
theorem wd1991 : Cond.selects "SalePlacesModel" ⟨"SalePlacesModel", "trouble", "()I"⟩ ⟨"SalePlacesModel", "trouble", "()I"⟩ ∈ xgood := xgood_in (List.mem_of_getElem? (i := 1991) (by decide +kernel)) (by decide +kernel)
theorem wd1992 : Cond.code ⟨"SalePlacesModel", "trouble", "()I"⟩ cX11_trouble 1 (some .int) ∈ xgood := xgood_in (List.mem_of_getElem? (i := 1992) (by decide +kernel)) (by decide +kernel)
theorem cn106 : (parseMethodDescriptor (mY (xtb 106)).desc).map (fun d => d.parameters.length) = some 0 := by decide +kernel
theorem cm106 : (mY (xtb 106)).cls ≠ "java/lang/invoke/MethodHandle" ∧ (mY (xtb 106)).cls ≠ "java/lang/invoke/VarHandle" := by decide +kernel
theorem cw106 : ∀ w ∈ [Cond.instanceMethod (mY (xtb 106)), Cond.initialized (mY (xtb 106)).cls, Cond.code (mY (xtb 106)) (mC (xtb 106)) (mN (xtb 106)) (mR (xtb 106))], w ∈ xgood := List.forall_mem_cons.mpr ⟨wd136, List.forall_mem_cons.mpr ⟨wd112, List.forall_mem_cons.mpr ⟨wd137, fun _ h => by cases h⟩⟩⟩
theorem cn170 : (parseMethodDescriptor (mY (xtb 170)).desc).map (fun d => d.parameters.length) = some 0 := by decide +kernel
theorem cm170 : (mY (xtb 170)).cls ≠ "java/lang/invoke/MethodHandle" ∧ (mY (xtb 170)).cls ≠ "java/lang/invoke/VarHandle" := by decide +kernel
theorem cw170 : ∀ w ∈ [Cond.instanceMethod (mY (xtb 170)), Cond.initialized (mY (xtb 170)).cls, Cond.code (mY (xtb 170)) (mC (xtb 170)) (mN (xtb 170)) (mR (xtb 170))], w ∈ xgood := List.forall_mem_cons.mpr ⟨wd1364, List.forall_mem_cons.mpr ⟨wd123, List.forall_mem_cons.mpr ⟨wd1365, fun _ h => by cases h⟩⟩⟩
theorem cn107 : (parseMethodDescriptor (mY (xtb 107)).desc).map (fun d => d.parameters.length) = some 5 := by decide +kernel
theorem cm107 : (mY (xtb 107)).cls ≠ "java/lang/invoke/MethodHandle" ∧ (mY (xtb 107)).cls ≠ "java/lang/invoke/VarHandle" := by decide +kernel
theorem cw107 : ∀ w ∈ [Cond.instanceMethod (mY (xtb 107)), Cond.selects (mY (xtb 107)).cls (mY (xtb 107)) (mY (xtb 107)), Cond.initialized (mY (xtb 107)).cls, Cond.code (mY (xtb 107)) (mC (xtb 107)) (mN (xtb 107)) (mR (xtb 107))], w ∈ xgood := List.forall_mem_cons.mpr ⟨wd555, List.forall_mem_cons.mpr ⟨wd556, List.forall_mem_cons.mpr ⟨wd112, List.forall_mem_cons.mpr ⟨wd557, fun _ h => by cases h⟩⟩⟩⟩
theorem cn208 : (parseMethodDescriptor (mY (xtb 208)).desc).map (fun d => d.parameters.length) = some 5 := by decide +kernel
theorem cm208 : (mY (xtb 208)).cls ≠ "java/lang/invoke/MethodHandle" ∧ (mY (xtb 208)).cls ≠ "java/lang/invoke/VarHandle" := by decide +kernel
theorem cw208 : ∀ w ∈ [Cond.instanceMethod (mY (xtb 208)), Cond.selects (mY (xtb 208)).cls (mY (xtb 208)) (mY (xtb 208)), Cond.initialized (mY (xtb 208)).cls, Cond.code (mY (xtb 208)) (mC (xtb 208)) (mN (xtb 208)) (mR (xtb 208))], w ∈ xgood := List.forall_mem_cons.mpr ⟨wd1469, List.forall_mem_cons.mpr ⟨wd1470, List.forall_mem_cons.mpr ⟨wd123, List.forall_mem_cons.mpr ⟨wd1471, fun _ h => by cases h⟩⟩⟩⟩
theorem cn108 : (parseMethodDescriptor (mY (xtb 108)).desc).map (fun d => d.parameters.length) = some 1 := by decide +kernel
theorem cm108 : (mY (xtb 108)).cls ≠ "java/lang/invoke/MethodHandle" ∧ (mY (xtb 108)).cls ≠ "java/lang/invoke/VarHandle" := by decide +kernel
theorem cw108 : ∀ w ∈ [Cond.instanceMethod (mY (xtb 108)), Cond.selects (mY (xtb 108)).cls (mY (xtb 108)) (mY (xtb 108)), Cond.initialized (mY (xtb 108)).cls, Cond.code (mY (xtb 108)) (mC (xtb 108)) (mN (xtb 108)) (mR (xtb 108))], w ∈ xgood := List.forall_mem_cons.mpr ⟨wd563, List.forall_mem_cons.mpr ⟨wd564, List.forall_mem_cons.mpr ⟨wd112, List.forall_mem_cons.mpr ⟨wd565, fun _ h => by cases h⟩⟩⟩⟩
theorem cn209 : (parseMethodDescriptor (mY (xtb 209)).desc).map (fun d => d.parameters.length) = some 1 := by decide +kernel
theorem cm209 : (mY (xtb 209)).cls ≠ "java/lang/invoke/MethodHandle" ∧ (mY (xtb 209)).cls ≠ "java/lang/invoke/VarHandle" := by decide +kernel
theorem cw209 : ∀ w ∈ [Cond.instanceMethod (mY (xtb 209)), Cond.selects (mY (xtb 209)).cls (mY (xtb 209)) (mY (xtb 209)), Cond.initialized (mY (xtb 209)).cls, Cond.code (mY (xtb 209)) (mC (xtb 209)) (mN (xtb 209)) (mR (xtb 209))], w ∈ xgood := List.forall_mem_cons.mpr ⟨wd1473, List.forall_mem_cons.mpr ⟨wd1474, List.forall_mem_cons.mpr ⟨wd123, List.forall_mem_cons.mpr ⟨wd1475, fun _ h => by cases h⟩⟩⟩⟩
theorem cn109 : (parseMethodDescriptor (mY (xtb 109)).desc).map (fun d => d.parameters.length) = some 0 := by decide +kernel
theorem cm109 : (mY (xtb 109)).cls ≠ "java/lang/invoke/MethodHandle" ∧ (mY (xtb 109)).cls ≠ "java/lang/invoke/VarHandle" := by decide +kernel
theorem cw109 : ∀ w ∈ [Cond.instanceMethod (mY (xtb 109)), Cond.selects (mY (xtb 109)).cls (mY (xtb 109)) (mY (xtb 109)), Cond.initialized (mY (xtb 109)).cls, Cond.code (mY (xtb 109)) (mC (xtb 109)) (mN (xtb 109)) (mR (xtb 109))], w ∈ xgood := List.forall_mem_cons.mpr ⟨wd818, List.forall_mem_cons.mpr ⟨wd819, List.forall_mem_cons.mpr ⟨wd112, List.forall_mem_cons.mpr ⟨wd820, fun _ h => by cases h⟩⟩⟩⟩
theorem cn210 : (parseMethodDescriptor (mY (xtb 210)).desc).map (fun d => d.parameters.length) = some 0 := by decide +kernel
theorem cm210 : (mY (xtb 210)).cls ≠ "java/lang/invoke/MethodHandle" ∧ (mY (xtb 210)).cls ≠ "java/lang/invoke/VarHandle" := by decide +kernel
theorem cw210 : ∀ w ∈ [Cond.instanceMethod (mY (xtb 210)), Cond.selects (mY (xtb 210)).cls (mY (xtb 210)) (mY (xtb 210)), Cond.initialized (mY (xtb 210)).cls, Cond.code (mY (xtb 210)) (mC (xtb 210)) (mN (xtb 210)) (mR (xtb 210))], w ∈ xgood := List.forall_mem_cons.mpr ⟨wd1627, List.forall_mem_cons.mpr ⟨wd1628, List.forall_mem_cons.mpr ⟨wd123, List.forall_mem_cons.mpr ⟨wd1629, fun _ h => by cases h⟩⟩⟩⟩
theorem cn110 : (parseMethodDescriptor (mY (xtb 110)).desc).map (fun d => d.parameters.length) = some 0 := by decide +kernel
theorem cm110 : (mY (xtb 110)).cls ≠ "java/lang/invoke/MethodHandle" ∧ (mY (xtb 110)).cls ≠ "java/lang/invoke/VarHandle" := by decide +kernel
theorem cw110 : ∀ w ∈ [Cond.instanceMethod (mY (xtb 110)), Cond.selects (mY (xtb 110)).cls (mY (xtb 110)) (mY (xtb 110)), Cond.initialized (mY (xtb 110)).cls, Cond.code (mY (xtb 110)) (mC (xtb 110)) (mN (xtb 110)) (mR (xtb 110))], w ∈ xgood := List.forall_mem_cons.mpr ⟨wd822, List.forall_mem_cons.mpr ⟨wd823, List.forall_mem_cons.mpr ⟨wd112, List.forall_mem_cons.mpr ⟨wd824, fun _ h => by cases h⟩⟩⟩⟩
theorem cn211 : (parseMethodDescriptor (mY (xtb 211)).desc).map (fun d => d.parameters.length) = some 0 := by decide +kernel
theorem cm211 : (mY (xtb 211)).cls ≠ "java/lang/invoke/MethodHandle" ∧ (mY (xtb 211)).cls ≠ "java/lang/invoke/VarHandle" := by decide +kernel
theorem cw211 : ∀ w ∈ [Cond.instanceMethod (mY (xtb 211)), Cond.selects (mY (xtb 211)).cls (mY (xtb 211)) (mY (xtb 211)), Cond.initialized (mY (xtb 211)).cls, Cond.code (mY (xtb 211)) (mC (xtb 211)) (mN (xtb 211)) (mR (xtb 211))], w ∈ xgood := List.forall_mem_cons.mpr ⟨wd1631, List.forall_mem_cons.mpr ⟨wd1632, List.forall_mem_cons.mpr ⟨wd123, List.forall_mem_cons.mpr ⟨wd1633, fun _ h => by cases h⟩⟩⟩⟩
theorem cn111 : (parseMethodDescriptor (mY (xtb 111)).desc).map (fun d => d.parameters.length) = some 1 := by decide +kernel
theorem cm111 : (mY (xtb 111)).cls ≠ "java/lang/invoke/MethodHandle" ∧ (mY (xtb 111)).cls ≠ "java/lang/invoke/VarHandle" := by decide +kernel
theorem cw111 : ∀ w ∈ [Cond.instanceMethod (mY (xtb 111)), Cond.selects (mY (xtb 111)).cls (mY (xtb 111)) (mY (xtb 111)), Cond.initialized (mY (xtb 111)).cls, Cond.code (mY (xtb 111)) (mC (xtb 111)) (mN (xtb 111)) (mR (xtb 111))], w ∈ xgood := List.forall_mem_cons.mpr ⟨wd826, List.forall_mem_cons.mpr ⟨wd827, List.forall_mem_cons.mpr ⟨wd112, List.forall_mem_cons.mpr ⟨wd828, fun _ h => by cases h⟩⟩⟩⟩
theorem cn212 : (parseMethodDescriptor (mY (xtb 212)).desc).map (fun d => d.parameters.length) = some 1 := by decide +kernel
theorem cm212 : (mY (xtb 212)).cls ≠ "java/lang/invoke/MethodHandle" ∧ (mY (xtb 212)).cls ≠ "java/lang/invoke/VarHandle" := by decide +kernel
theorem cw212 : ∀ w ∈ [Cond.instanceMethod (mY (xtb 212)), Cond.selects (mY (xtb 212)).cls (mY (xtb 212)) (mY (xtb 212)), Cond.initialized (mY (xtb 212)).cls, Cond.code (mY (xtb 212)) (mC (xtb 212)) (mN (xtb 212)) (mR (xtb 212))], w ∈ xgood := List.forall_mem_cons.mpr ⟨wd1635, List.forall_mem_cons.mpr ⟨wd1636, List.forall_mem_cons.mpr ⟨wd123, List.forall_mem_cons.mpr ⟨wd1637, fun _ h => by cases h⟩⟩⟩⟩
theorem cn112 : (parseMethodDescriptor (mY (xtb 112)).desc).map (fun d => d.parameters.length) = some 1 := by decide +kernel
theorem cm112 : (mY (xtb 112)).cls ≠ "java/lang/invoke/MethodHandle" ∧ (mY (xtb 112)).cls ≠ "java/lang/invoke/VarHandle" := by decide +kernel
theorem cw112 : ∀ w ∈ [Cond.instanceMethod (mY (xtb 112)), Cond.selects (mY (xtb 112)).cls (mY (xtb 112)) (mY (xtb 112)), Cond.initialized (mY (xtb 112)).cls, Cond.code (mY (xtb 112)) (mC (xtb 112)) (mN (xtb 112)) (mR (xtb 112))], w ∈ xgood := List.forall_mem_cons.mpr ⟨wd834, List.forall_mem_cons.mpr ⟨wd835, List.forall_mem_cons.mpr ⟨wd112, List.forall_mem_cons.mpr ⟨wd836, fun _ h => by cases h⟩⟩⟩⟩
theorem cn215 : (parseMethodDescriptor (mY (xtb 215)).desc).map (fun d => d.parameters.length) = some 1 := by decide +kernel
theorem cm215 : (mY (xtb 215)).cls ≠ "java/lang/invoke/MethodHandle" ∧ (mY (xtb 215)).cls ≠ "java/lang/invoke/VarHandle" := by decide +kernel
theorem cw215 : ∀ w ∈ [Cond.instanceMethod (mY (xtb 215)), Cond.selects (mY (xtb 215)).cls (mY (xtb 215)) (mY (xtb 215)), Cond.initialized (mY (xtb 215)).cls, Cond.code (mY (xtb 215)) (mC (xtb 215)) (mN (xtb 215)) (mR (xtb 215))], w ∈ xgood := List.forall_mem_cons.mpr ⟨wd1639, List.forall_mem_cons.mpr ⟨wd1640, List.forall_mem_cons.mpr ⟨wd123, List.forall_mem_cons.mpr ⟨wd1641, fun _ h => by cases h⟩⟩⟩⟩
theorem cn113 : (parseMethodDescriptor (mY (xtb 113)).desc).map (fun d => d.parameters.length) = some 2 := by decide +kernel
theorem cm113 : (mY (xtb 113)).cls ≠ "java/lang/invoke/MethodHandle" ∧ (mY (xtb 113)).cls ≠ "java/lang/invoke/VarHandle" := by decide +kernel
theorem cw113 : ∀ w ∈ [Cond.instanceMethod (mY (xtb 113)), Cond.selects (mY (xtb 113)).cls (mY (xtb 113)) (mY (xtb 113)), Cond.initialized (mY (xtb 113)).cls, Cond.code (mY (xtb 113)) (mC (xtb 113)) (mN (xtb 113)) (mR (xtb 113))], w ∈ xgood := List.forall_mem_cons.mpr ⟨wd842, List.forall_mem_cons.mpr ⟨wd843, List.forall_mem_cons.mpr ⟨wd112, List.forall_mem_cons.mpr ⟨wd844, fun _ h => by cases h⟩⟩⟩⟩
theorem cn216 : (parseMethodDescriptor (mY (xtb 216)).desc).map (fun d => d.parameters.length) = some 2 := by decide +kernel
theorem cm216 : (mY (xtb 216)).cls ≠ "java/lang/invoke/MethodHandle" ∧ (mY (xtb 216)).cls ≠ "java/lang/invoke/VarHandle" := by decide +kernel
theorem cw216 : ∀ w ∈ [Cond.instanceMethod (mY (xtb 216)), Cond.selects (mY (xtb 216)).cls (mY (xtb 216)) (mY (xtb 216)), Cond.initialized (mY (xtb 216)).cls, Cond.code (mY (xtb 216)) (mC (xtb 216)) (mN (xtb 216)) (mR (xtb 216))], w ∈ xgood := List.forall_mem_cons.mpr ⟨wd1647, List.forall_mem_cons.mpr ⟨wd1648, List.forall_mem_cons.mpr ⟨wd123, List.forall_mem_cons.mpr ⟨wd1649, fun _ h => by cases h⟩⟩⟩⟩
theorem cn114 : (parseMethodDescriptor (mY (xtb 114)).desc).map (fun d => d.parameters.length) = some 2 := by decide +kernel
theorem cm114 : (mY (xtb 114)).cls ≠ "java/lang/invoke/MethodHandle" ∧ (mY (xtb 114)).cls ≠ "java/lang/invoke/VarHandle" := by decide +kernel
theorem cw114 : ∀ w ∈ [Cond.instanceMethod (mY (xtb 114)), Cond.selects (mY (xtb 114)).cls (mY (xtb 114)) (mY (xtb 114)), Cond.initialized (mY (xtb 114)).cls, Cond.code (mY (xtb 114)) (mC (xtb 114)) (mN (xtb 114)) (mR (xtb 114))], w ∈ xgood := List.forall_mem_cons.mpr ⟨wd858, List.forall_mem_cons.mpr ⟨wd859, List.forall_mem_cons.mpr ⟨wd112, List.forall_mem_cons.mpr ⟨wd860, fun _ h => by cases h⟩⟩⟩⟩
theorem cn226 : (parseMethodDescriptor (mY (xtb 226)).desc).map (fun d => d.parameters.length) = some 2 := by decide +kernel
theorem cm226 : (mY (xtb 226)).cls ≠ "java/lang/invoke/MethodHandle" ∧ (mY (xtb 226)).cls ≠ "java/lang/invoke/VarHandle" := by decide +kernel
theorem cw226 : ∀ w ∈ [Cond.instanceMethod (mY (xtb 226)), Cond.selects (mY (xtb 226)).cls (mY (xtb 226)) (mY (xtb 226)), Cond.initialized (mY (xtb 226)).cls, Cond.code (mY (xtb 226)) (mC (xtb 226)) (mN (xtb 226)) (mR (xtb 226))], w ∈ xgood := List.forall_mem_cons.mpr ⟨wd1659, List.forall_mem_cons.mpr ⟨wd1660, List.forall_mem_cons.mpr ⟨wd123, List.forall_mem_cons.mpr ⟨wd1661, fun _ h => by cases h⟩⟩⟩⟩
theorem cn115 : (parseMethodDescriptor (mY (xtb 115)).desc).map (fun d => d.parameters.length) = some 4 := by decide +kernel
theorem cm115 : (mY (xtb 115)).cls ≠ "java/lang/invoke/MethodHandle" ∧ (mY (xtb 115)).cls ≠ "java/lang/invoke/VarHandle" := by decide +kernel
theorem cw115 : ∀ w ∈ [Cond.instanceMethod (mY (xtb 115)), Cond.selects (mY (xtb 115)).cls (mY (xtb 115)) (mY (xtb 115)), Cond.initialized (mY (xtb 115)).cls, Cond.code (mY (xtb 115)) (mC (xtb 115)) (mN (xtb 115)) (mR (xtb 115))], w ∈ xgood := List.forall_mem_cons.mpr ⟨wd869, List.forall_mem_cons.mpr ⟨wd870, List.forall_mem_cons.mpr ⟨wd112, List.forall_mem_cons.mpr ⟨wd871, fun _ h => by cases h⟩⟩⟩⟩
theorem cn227 : (parseMethodDescriptor (mY (xtb 227)).desc).map (fun d => d.parameters.length) = some 4 := by decide +kernel
theorem cm227 : (mY (xtb 227)).cls ≠ "java/lang/invoke/MethodHandle" ∧ (mY (xtb 227)).cls ≠ "java/lang/invoke/VarHandle" := by decide +kernel
theorem cw227 : ∀ w ∈ [Cond.instanceMethod (mY (xtb 227)), Cond.selects (mY (xtb 227)).cls (mY (xtb 227)) (mY (xtb 227)), Cond.initialized (mY (xtb 227)).cls, Cond.code (mY (xtb 227)) (mC (xtb 227)) (mN (xtb 227)) (mR (xtb 227))], w ∈ xgood := List.forall_mem_cons.mpr ⟨wd1678, List.forall_mem_cons.mpr ⟨wd1679, List.forall_mem_cons.mpr ⟨wd123, List.forall_mem_cons.mpr ⟨wd1680, fun _ h => by cases h⟩⟩⟩⟩
theorem cn116 : (parseMethodDescriptor (mY (xtb 116)).desc).map (fun d => d.parameters.length) = some 2 := by decide +kernel
theorem cm116 : (mY (xtb 116)).cls ≠ "java/lang/invoke/MethodHandle" ∧ (mY (xtb 116)).cls ≠ "java/lang/invoke/VarHandle" := by decide +kernel
theorem cw116 : ∀ w ∈ [Cond.instanceMethod (mY (xtb 116)), Cond.selects (mY (xtb 116)).cls (mY (xtb 116)) (mY (xtb 116)), Cond.initialized (mY (xtb 116)).cls, Cond.code (mY (xtb 116)) (mC (xtb 116)) (mN (xtb 116)) (mR (xtb 116))], w ∈ xgood := List.forall_mem_cons.mpr ⟨wd874, List.forall_mem_cons.mpr ⟨wd875, List.forall_mem_cons.mpr ⟨wd112, List.forall_mem_cons.mpr ⟨wd876, fun _ h => by cases h⟩⟩⟩⟩
theorem cn228 : (parseMethodDescriptor (mY (xtb 228)).desc).map (fun d => d.parameters.length) = some 2 := by decide +kernel
theorem cm228 : (mY (xtb 228)).cls ≠ "java/lang/invoke/MethodHandle" ∧ (mY (xtb 228)).cls ≠ "java/lang/invoke/VarHandle" := by decide +kernel
theorem cw228 : ∀ w ∈ [Cond.instanceMethod (mY (xtb 228)), Cond.selects (mY (xtb 228)).cls (mY (xtb 228)) (mY (xtb 228)), Cond.initialized (mY (xtb 228)).cls, Cond.code (mY (xtb 228)) (mC (xtb 228)) (mN (xtb 228)) (mR (xtb 228))], w ∈ xgood := List.forall_mem_cons.mpr ⟨wd1690, List.forall_mem_cons.mpr ⟨wd1691, List.forall_mem_cons.mpr ⟨wd123, List.forall_mem_cons.mpr ⟨wd1692, fun _ h => by cases h⟩⟩⟩⟩
theorem cn117 : (parseMethodDescriptor (mY (xtb 117)).desc).map (fun d => d.parameters.length) = some 4 := by decide +kernel
theorem cm117 : (mY (xtb 117)).cls ≠ "java/lang/invoke/MethodHandle" ∧ (mY (xtb 117)).cls ≠ "java/lang/invoke/VarHandle" := by decide +kernel
theorem cw117 : ∀ w ∈ [Cond.instanceMethod (mY (xtb 117)), Cond.selects (mY (xtb 117)).cls (mY (xtb 117)) (mY (xtb 117)), Cond.initialized (mY (xtb 117)).cls, Cond.code (mY (xtb 117)) (mC (xtb 117)) (mN (xtb 117)) (mR (xtb 117))], w ∈ xgood := List.forall_mem_cons.mpr ⟨wd887, List.forall_mem_cons.mpr ⟨wd888, List.forall_mem_cons.mpr ⟨wd112, List.forall_mem_cons.mpr ⟨wd889, fun _ h => by cases h⟩⟩⟩⟩
theorem cn231 : (parseMethodDescriptor (mY (xtb 231)).desc).map (fun d => d.parameters.length) = some 4 := by decide +kernel
theorem cm231 : (mY (xtb 231)).cls ≠ "java/lang/invoke/MethodHandle" ∧ (mY (xtb 231)).cls ≠ "java/lang/invoke/VarHandle" := by decide +kernel
theorem cw231 : ∀ w ∈ [Cond.instanceMethod (mY (xtb 231)), Cond.selects (mY (xtb 231)).cls (mY (xtb 231)) (mY (xtb 231)), Cond.initialized (mY (xtb 231)).cls, Cond.code (mY (xtb 231)) (mC (xtb 231)) (mN (xtb 231)) (mR (xtb 231))], w ∈ xgood := List.forall_mem_cons.mpr ⟨wd1699, List.forall_mem_cons.mpr ⟨wd1700, List.forall_mem_cons.mpr ⟨wd123, List.forall_mem_cons.mpr ⟨wd1701, fun _ h => by cases h⟩⟩⟩⟩
theorem cn118 : (parseMethodDescriptor (mY (xtb 118)).desc).map (fun d => d.parameters.length) = some 4 := by decide +kernel
theorem cm118 : (mY (xtb 118)).cls ≠ "java/lang/invoke/MethodHandle" ∧ (mY (xtb 118)).cls ≠ "java/lang/invoke/VarHandle" := by decide +kernel
theorem cw118 : ∀ w ∈ [Cond.instanceMethod (mY (xtb 118)), Cond.selects (mY (xtb 118)).cls (mY (xtb 118)) (mY (xtb 118)), Cond.initialized (mY (xtb 118)).cls, Cond.code (mY (xtb 118)) (mC (xtb 118)) (mN (xtb 118)) (mR (xtb 118))], w ∈ xgood := List.forall_mem_cons.mpr ⟨wd903, List.forall_mem_cons.mpr ⟨wd904, List.forall_mem_cons.mpr ⟨wd112, List.forall_mem_cons.mpr ⟨wd905, fun _ h => by cases h⟩⟩⟩⟩
theorem cn233 : (parseMethodDescriptor (mY (xtb 233)).desc).map (fun d => d.parameters.length) = some 4 := by decide +kernel
theorem cm233 : (mY (xtb 233)).cls ≠ "java/lang/invoke/MethodHandle" ∧ (mY (xtb 233)).cls ≠ "java/lang/invoke/VarHandle" := by decide +kernel
theorem cw233 : ∀ w ∈ [Cond.instanceMethod (mY (xtb 233)), Cond.selects (mY (xtb 233)).cls (mY (xtb 233)) (mY (xtb 233)), Cond.initialized (mY (xtb 233)).cls, Cond.code (mY (xtb 233)) (mC (xtb 233)) (mN (xtb 233)) (mR (xtb 233))], w ∈ xgood := List.forall_mem_cons.mpr ⟨wd1719, List.forall_mem_cons.mpr ⟨wd1720, List.forall_mem_cons.mpr ⟨wd123, List.forall_mem_cons.mpr ⟨wd1721, fun _ h => by cases h⟩⟩⟩⟩
theorem cn119 : (parseMethodDescriptor (mY (xtb 119)).desc).map (fun d => d.parameters.length) = some 2 := by decide +kernel
theorem cm119 : (mY (xtb 119)).cls ≠ "java/lang/invoke/MethodHandle" ∧ (mY (xtb 119)).cls ≠ "java/lang/invoke/VarHandle" := by decide +kernel
theorem cw119 : ∀ w ∈ [Cond.instanceMethod (mY (xtb 119)), Cond.selects (mY (xtb 119)).cls (mY (xtb 119)) (mY (xtb 119)), Cond.initialized (mY (xtb 119)).cls, Cond.code (mY (xtb 119)) (mC (xtb 119)) (mN (xtb 119)) (mR (xtb 119))], w ∈ xgood := List.forall_mem_cons.mpr ⟨wd922, List.forall_mem_cons.mpr ⟨wd923, List.forall_mem_cons.mpr ⟨wd112, List.forall_mem_cons.mpr ⟨wd924, fun _ h => by cases h⟩⟩⟩⟩
theorem cn234 : (parseMethodDescriptor (mY (xtb 234)).desc).map (fun d => d.parameters.length) = some 2 := by decide +kernel
theorem cm234 : (mY (xtb 234)).cls ≠ "java/lang/invoke/MethodHandle" ∧ (mY (xtb 234)).cls ≠ "java/lang/invoke/VarHandle" := by decide +kernel
theorem cw234 : ∀ w ∈ [Cond.instanceMethod (mY (xtb 234)), Cond.selects (mY (xtb 234)).cls (mY (xtb 234)) (mY (xtb 234)), Cond.initialized (mY (xtb 234)).cls, Cond.code (mY (xtb 234)) (mC (xtb 234)) (mN (xtb 234)) (mR (xtb 234))], w ∈ xgood := List.forall_mem_cons.mpr ⟨wd1726, List.forall_mem_cons.mpr ⟨wd1727, List.forall_mem_cons.mpr ⟨wd123, List.forall_mem_cons.mpr ⟨wd1728, fun _ h => by cases h⟩⟩⟩⟩
theorem cn120 : (parseMethodDescriptor (mY (xtb 120)).desc).map (fun d => d.parameters.length) = some 4 := by decide +kernel
theorem cm120 : (mY (xtb 120)).cls ≠ "java/lang/invoke/MethodHandle" ∧ (mY (xtb 120)).cls ≠ "java/lang/invoke/VarHandle" := by decide +kernel
theorem cw120 : ∀ w ∈ [Cond.instanceMethod (mY (xtb 120)), Cond.selects (mY (xtb 120)).cls (mY (xtb 120)) (mY (xtb 120)), Cond.initialized (mY (xtb 120)).cls, Cond.code (mY (xtb 120)) (mC (xtb 120)) (mN (xtb 120)) (mR (xtb 120))], w ∈ xgood := List.forall_mem_cons.mpr ⟨wd930, List.forall_mem_cons.mpr ⟨wd931, List.forall_mem_cons.mpr ⟨wd112, List.forall_mem_cons.mpr ⟨wd932, fun _ h => by cases h⟩⟩⟩⟩
theorem cn237 : (parseMethodDescriptor (mY (xtb 237)).desc).map (fun d => d.parameters.length) = some 4 := by decide +kernel
theorem cm237 : (mY (xtb 237)).cls ≠ "java/lang/invoke/MethodHandle" ∧ (mY (xtb 237)).cls ≠ "java/lang/invoke/VarHandle" := by decide +kernel
theorem cw237 : ∀ w ∈ [Cond.instanceMethod (mY (xtb 237)), Cond.selects (mY (xtb 237)).cls (mY (xtb 237)) (mY (xtb 237)), Cond.initialized (mY (xtb 237)).cls, Cond.code (mY (xtb 237)) (mC (xtb 237)) (mN (xtb 237)) (mR (xtb 237))], w ∈ xgood := List.forall_mem_cons.mpr ⟨wd1730, List.forall_mem_cons.mpr ⟨wd1731, List.forall_mem_cons.mpr ⟨wd123, List.forall_mem_cons.mpr ⟨wd1732, fun _ h => by cases h⟩⟩⟩⟩
theorem cn121 : (parseMethodDescriptor (mY (xtb 121)).desc).map (fun d => d.parameters.length) = some 3 := by decide +kernel
theorem cm121 : (mY (xtb 121)).cls ≠ "java/lang/invoke/MethodHandle" ∧ (mY (xtb 121)).cls ≠ "java/lang/invoke/VarHandle" := by decide +kernel
theorem cw121 : ∀ w ∈ [Cond.instanceMethod (mY (xtb 121)), Cond.selects (mY (xtb 121)).cls (mY (xtb 121)) (mY (xtb 121)), Cond.initialized (mY (xtb 121)).cls, Cond.code (mY (xtb 121)) (mC (xtb 121)) (mN (xtb 121)) (mR (xtb 121))], w ∈ xgood := List.forall_mem_cons.mpr ⟨wd944, List.forall_mem_cons.mpr ⟨wd945, List.forall_mem_cons.mpr ⟨wd112, List.forall_mem_cons.mpr ⟨wd946, fun _ h => by cases h⟩⟩⟩⟩
theorem cn238 : (parseMethodDescriptor (mY (xtb 238)).desc).map (fun d => d.parameters.length) = some 3 := by decide +kernel
theorem cm238 : (mY (xtb 238)).cls ≠ "java/lang/invoke/MethodHandle" ∧ (mY (xtb 238)).cls ≠ "java/lang/invoke/VarHandle" := by decide +kernel
theorem cw238 : ∀ w ∈ [Cond.instanceMethod (mY (xtb 238)), Cond.selects (mY (xtb 238)).cls (mY (xtb 238)) (mY (xtb 238)), Cond.initialized (mY (xtb 238)).cls, Cond.code (mY (xtb 238)) (mC (xtb 238)) (mN (xtb 238)) (mR (xtb 238))], w ∈ xgood := List.forall_mem_cons.mpr ⟨wd1738, List.forall_mem_cons.mpr ⟨wd1739, List.forall_mem_cons.mpr ⟨wd123, List.forall_mem_cons.mpr ⟨wd1740, fun _ h => by cases h⟩⟩⟩⟩
theorem cn122 : (parseMethodDescriptor (mY (xtb 122)).desc).map (fun d => d.parameters.length) = some 4 := by decide +kernel
theorem cm122 : (mY (xtb 122)).cls ≠ "java/lang/invoke/MethodHandle" ∧ (mY (xtb 122)).cls ≠ "java/lang/invoke/VarHandle" := by decide +kernel
theorem cw122 : ∀ w ∈ [Cond.instanceMethod (mY (xtb 122)), Cond.selects (mY (xtb 122)).cls (mY (xtb 122)) (mY (xtb 122)), Cond.initialized (mY (xtb 122)).cls, Cond.code (mY (xtb 122)) (mC (xtb 122)) (mN (xtb 122)) (mR (xtb 122))], w ∈ xgood := List.forall_mem_cons.mpr ⟨wd953, List.forall_mem_cons.mpr ⟨wd954, List.forall_mem_cons.mpr ⟨wd112, List.forall_mem_cons.mpr ⟨wd955, fun _ h => by cases h⟩⟩⟩⟩
theorem cn239 : (parseMethodDescriptor (mY (xtb 239)).desc).map (fun d => d.parameters.length) = some 4 := by decide +kernel
theorem cm239 : (mY (xtb 239)).cls ≠ "java/lang/invoke/MethodHandle" ∧ (mY (xtb 239)).cls ≠ "java/lang/invoke/VarHandle" := by decide +kernel
theorem cw239 : ∀ w ∈ [Cond.instanceMethod (mY (xtb 239)), Cond.selects (mY (xtb 239)).cls (mY (xtb 239)) (mY (xtb 239)), Cond.initialized (mY (xtb 239)).cls, Cond.code (mY (xtb 239)) (mC (xtb 239)) (mN (xtb 239)) (mR (xtb 239))], w ∈ xgood := List.forall_mem_cons.mpr ⟨wd1746, List.forall_mem_cons.mpr ⟨wd1747, List.forall_mem_cons.mpr ⟨wd123, List.forall_mem_cons.mpr ⟨wd1748, fun _ h => by cases h⟩⟩⟩⟩
theorem cn123 : (parseMethodDescriptor (mY (xtb 123)).desc).map (fun d => d.parameters.length) = some 3 := by decide +kernel
theorem cm123 : (mY (xtb 123)).cls ≠ "java/lang/invoke/MethodHandle" ∧ (mY (xtb 123)).cls ≠ "java/lang/invoke/VarHandle" := by decide +kernel
theorem cw123 : ∀ w ∈ [Cond.instanceMethod (mY (xtb 123)), Cond.selects (mY (xtb 123)).cls (mY (xtb 123)) (mY (xtb 123)), Cond.initialized (mY (xtb 123)).cls, Cond.code (mY (xtb 123)) (mC (xtb 123)) (mN (xtb 123)) (mR (xtb 123))], w ∈ xgood := List.forall_mem_cons.mpr ⟨wd957, List.forall_mem_cons.mpr ⟨wd958, List.forall_mem_cons.mpr ⟨wd112, List.forall_mem_cons.mpr ⟨wd959, fun _ h => by cases h⟩⟩⟩⟩
theorem cn240 : (parseMethodDescriptor (mY (xtb 240)).desc).map (fun d => d.parameters.length) = some 3 := by decide +kernel
theorem cm240 : (mY (xtb 240)).cls ≠ "java/lang/invoke/MethodHandle" ∧ (mY (xtb 240)).cls ≠ "java/lang/invoke/VarHandle" := by decide +kernel
theorem cw240 : ∀ w ∈ [Cond.instanceMethod (mY (xtb 240)), Cond.selects (mY (xtb 240)).cls (mY (xtb 240)) (mY (xtb 240)), Cond.initialized (mY (xtb 240)).cls, Cond.code (mY (xtb 240)) (mC (xtb 240)) (mN (xtb 240)) (mR (xtb 240))], w ∈ xgood := List.forall_mem_cons.mpr ⟨wd1750, List.forall_mem_cons.mpr ⟨wd1751, List.forall_mem_cons.mpr ⟨wd123, List.forall_mem_cons.mpr ⟨wd1752, fun _ h => by cases h⟩⟩⟩⟩
theorem cn124 : (parseMethodDescriptor (mY (xtb 124)).desc).map (fun d => d.parameters.length) = some 3 := by decide +kernel
theorem cm124 : (mY (xtb 124)).cls ≠ "java/lang/invoke/MethodHandle" ∧ (mY (xtb 124)).cls ≠ "java/lang/invoke/VarHandle" := by decide +kernel
theorem cw124 : ∀ w ∈ [Cond.instanceMethod (mY (xtb 124)), Cond.selects (mY (xtb 124)).cls (mY (xtb 124)) (mY (xtb 124)), Cond.initialized (mY (xtb 124)).cls, Cond.code (mY (xtb 124)) (mC (xtb 124)) (mN (xtb 124)) (mR (xtb 124))], w ∈ xgood := List.forall_mem_cons.mpr ⟨wd975, List.forall_mem_cons.mpr ⟨wd976, List.forall_mem_cons.mpr ⟨wd112, List.forall_mem_cons.mpr ⟨wd977, fun _ h => by cases h⟩⟩⟩⟩
theorem cn241 : (parseMethodDescriptor (mY (xtb 241)).desc).map (fun d => d.parameters.length) = some 3 := by decide +kernel
theorem cm241 : (mY (xtb 241)).cls ≠ "java/lang/invoke/MethodHandle" ∧ (mY (xtb 241)).cls ≠ "java/lang/invoke/VarHandle" := by decide +kernel
theorem cw241 : ∀ w ∈ [Cond.instanceMethod (mY (xtb 241)), Cond.selects (mY (xtb 241)).cls (mY (xtb 241)) (mY (xtb 241)), Cond.initialized (mY (xtb 241)).cls, Cond.code (mY (xtb 241)) (mC (xtb 241)) (mN (xtb 241)) (mR (xtb 241))], w ∈ xgood := List.forall_mem_cons.mpr ⟨wd1754, List.forall_mem_cons.mpr ⟨wd1755, List.forall_mem_cons.mpr ⟨wd123, List.forall_mem_cons.mpr ⟨wd1756, fun _ h => by cases h⟩⟩⟩⟩
theorem cn125 : (parseMethodDescriptor (mY (xtb 125)).desc).map (fun d => d.parameters.length) = some 2 := by decide +kernel
theorem cm125 : (mY (xtb 125)).cls ≠ "java/lang/invoke/MethodHandle" ∧ (mY (xtb 125)).cls ≠ "java/lang/invoke/VarHandle" := by decide +kernel
theorem cw125 : ∀ w ∈ [Cond.instanceMethod (mY (xtb 125)), Cond.selects (mY (xtb 125)).cls (mY (xtb 125)) (mY (xtb 125)), Cond.initialized (mY (xtb 125)).cls, Cond.code (mY (xtb 125)) (mC (xtb 125)) (mN (xtb 125)) (mR (xtb 125))], w ∈ xgood := List.forall_mem_cons.mpr ⟨wd984, List.forall_mem_cons.mpr ⟨wd985, List.forall_mem_cons.mpr ⟨wd112, List.forall_mem_cons.mpr ⟨wd986, fun _ h => by cases h⟩⟩⟩⟩
theorem cn242 : (parseMethodDescriptor (mY (xtb 242)).desc).map (fun d => d.parameters.length) = some 2 := by decide +kernel
theorem cm242 : (mY (xtb 242)).cls ≠ "java/lang/invoke/MethodHandle" ∧ (mY (xtb 242)).cls ≠ "java/lang/invoke/VarHandle" := by decide +kernel
theorem cw242 : ∀ w ∈ [Cond.instanceMethod (mY (xtb 242)), Cond.selects (mY (xtb 242)).cls (mY (xtb 242)) (mY (xtb 242)), Cond.initialized (mY (xtb 242)).cls, Cond.code (mY (xtb 242)) (mC (xtb 242)) (mN (xtb 242)) (mR (xtb 242))], w ∈ xgood := List.forall_mem_cons.mpr ⟨wd1758, List.forall_mem_cons.mpr ⟨wd1759, List.forall_mem_cons.mpr ⟨wd123, List.forall_mem_cons.mpr ⟨wd1760, fun _ h => by cases h⟩⟩⟩⟩
theorem cn126 : (parseMethodDescriptor (mY (xtb 126)).desc).map (fun d => d.parameters.length) = some 2 := by decide +kernel
theorem cm126 : (mY (xtb 126)).cls ≠ "java/lang/invoke/MethodHandle" ∧ (mY (xtb 126)).cls ≠ "java/lang/invoke/VarHandle" := by decide +kernel
theorem cw126 : ∀ w ∈ [Cond.instanceMethod (mY (xtb 126)), Cond.selects (mY (xtb 126)).cls (mY (xtb 126)) (mY (xtb 126)), Cond.initialized (mY (xtb 126)).cls, Cond.code (mY (xtb 126)) (mC (xtb 126)) (mN (xtb 126)) (mR (xtb 126))], w ∈ xgood := List.forall_mem_cons.mpr ⟨wd992, List.forall_mem_cons.mpr ⟨wd993, List.forall_mem_cons.mpr ⟨wd112, List.forall_mem_cons.mpr ⟨wd994, fun _ h => by cases h⟩⟩⟩⟩
theorem cn243 : (parseMethodDescriptor (mY (xtb 243)).desc).map (fun d => d.parameters.length) = some 2 := by decide +kernel
theorem cm243 : (mY (xtb 243)).cls ≠ "java/lang/invoke/MethodHandle" ∧ (mY (xtb 243)).cls ≠ "java/lang/invoke/VarHandle" := by decide +kernel
theorem cw243 : ∀ w ∈ [Cond.instanceMethod (mY (xtb 243)), Cond.selects (mY (xtb 243)).cls (mY (xtb 243)) (mY (xtb 243)), Cond.initialized (mY (xtb 243)).cls, Cond.code (mY (xtb 243)) (mC (xtb 243)) (mN (xtb 243)) (mR (xtb 243))], w ∈ xgood := List.forall_mem_cons.mpr ⟨wd1762, List.forall_mem_cons.mpr ⟨wd1763, List.forall_mem_cons.mpr ⟨wd123, List.forall_mem_cons.mpr ⟨wd1764, fun _ h => by cases h⟩⟩⟩⟩
theorem cn127 : (parseMethodDescriptor (mY (xtb 127)).desc).map (fun d => d.parameters.length) = some 3 := by decide +kernel
theorem cm127 : (mY (xtb 127)).cls ≠ "java/lang/invoke/MethodHandle" ∧ (mY (xtb 127)).cls ≠ "java/lang/invoke/VarHandle" := by decide +kernel
theorem cw127 : ∀ w ∈ [Cond.instanceMethod (mY (xtb 127)), Cond.selects (mY (xtb 127)).cls (mY (xtb 127)) (mY (xtb 127)), Cond.initialized (mY (xtb 127)).cls, Cond.code (mY (xtb 127)) (mC (xtb 127)) (mN (xtb 127)) (mR (xtb 127))], w ∈ xgood := List.forall_mem_cons.mpr ⟨wd1000, List.forall_mem_cons.mpr ⟨wd1001, List.forall_mem_cons.mpr ⟨wd112, List.forall_mem_cons.mpr ⟨wd1002, fun _ h => by cases h⟩⟩⟩⟩
theorem cn249 : (parseMethodDescriptor (mY (xtb 249)).desc).map (fun d => d.parameters.length) = some 3 := by decide +kernel
theorem cm249 : (mY (xtb 249)).cls ≠ "java/lang/invoke/MethodHandle" ∧ (mY (xtb 249)).cls ≠ "java/lang/invoke/VarHandle" := by decide +kernel
theorem cw249 : ∀ w ∈ [Cond.instanceMethod (mY (xtb 249)), Cond.selects (mY (xtb 249)).cls (mY (xtb 249)) (mY (xtb 249)), Cond.initialized (mY (xtb 249)).cls, Cond.code (mY (xtb 249)) (mC (xtb 249)) (mN (xtb 249)) (mR (xtb 249))], w ∈ xgood := List.forall_mem_cons.mpr ⟨wd1766, List.forall_mem_cons.mpr ⟨wd1767, List.forall_mem_cons.mpr ⟨wd123, List.forall_mem_cons.mpr ⟨wd1768, fun _ h => by cases h⟩⟩⟩⟩
theorem cn128 : (parseMethodDescriptor (mY (xtb 128)).desc).map (fun d => d.parameters.length) = some 4 := by decide +kernel
theorem cm128 : (mY (xtb 128)).cls ≠ "java/lang/invoke/MethodHandle" ∧ (mY (xtb 128)).cls ≠ "java/lang/invoke/VarHandle" := by decide +kernel
theorem cw128 : ∀ w ∈ [Cond.instanceMethod (mY (xtb 128)), Cond.selects (mY (xtb 128)).cls (mY (xtb 128)) (mY (xtb 128)), Cond.initialized (mY (xtb 128)).cls, Cond.code (mY (xtb 128)) (mC (xtb 128)) (mN (xtb 128)) (mR (xtb 128))], w ∈ xgood := List.forall_mem_cons.mpr ⟨wd1009, List.forall_mem_cons.mpr ⟨wd1010, List.forall_mem_cons.mpr ⟨wd112, List.forall_mem_cons.mpr ⟨wd1011, fun _ h => by cases h⟩⟩⟩⟩
theorem cn250 : (parseMethodDescriptor (mY (xtb 250)).desc).map (fun d => d.parameters.length) = some 4 := by decide +kernel
theorem cm250 : (mY (xtb 250)).cls ≠ "java/lang/invoke/MethodHandle" ∧ (mY (xtb 250)).cls ≠ "java/lang/invoke/VarHandle" := by decide +kernel
theorem cw250 : ∀ w ∈ [Cond.instanceMethod (mY (xtb 250)), Cond.selects (mY (xtb 250)).cls (mY (xtb 250)) (mY (xtb 250)), Cond.initialized (mY (xtb 250)).cls, Cond.code (mY (xtb 250)) (mC (xtb 250)) (mN (xtb 250)) (mR (xtb 250))], w ∈ xgood := List.forall_mem_cons.mpr ⟨wd1778, List.forall_mem_cons.mpr ⟨wd1779, List.forall_mem_cons.mpr ⟨wd123, List.forall_mem_cons.mpr ⟨wd1780, fun _ h => by cases h⟩⟩⟩⟩
theorem cn129 : (parseMethodDescriptor (mY (xtb 129)).desc).map (fun d => d.parameters.length) = some 2 := by decide +kernel
theorem cm129 : (mY (xtb 129)).cls ≠ "java/lang/invoke/MethodHandle" ∧ (mY (xtb 129)).cls ≠ "java/lang/invoke/VarHandle" := by decide +kernel
theorem cw129 : ∀ w ∈ [Cond.instanceMethod (mY (xtb 129)), Cond.selects (mY (xtb 129)).cls (mY (xtb 129)) (mY (xtb 129)), Cond.initialized (mY (xtb 129)).cls, Cond.code (mY (xtb 129)) (mC (xtb 129)) (mN (xtb 129)) (mR (xtb 129))], w ∈ xgood := List.forall_mem_cons.mpr ⟨wd1022, List.forall_mem_cons.mpr ⟨wd1023, List.forall_mem_cons.mpr ⟨wd112, List.forall_mem_cons.mpr ⟨wd1024, fun _ h => by cases h⟩⟩⟩⟩
theorem cn251 : (parseMethodDescriptor (mY (xtb 251)).desc).map (fun d => d.parameters.length) = some 2 := by decide +kernel
theorem cm251 : (mY (xtb 251)).cls ≠ "java/lang/invoke/MethodHandle" ∧ (mY (xtb 251)).cls ≠ "java/lang/invoke/VarHandle" := by decide +kernel
theorem cw251 : ∀ w ∈ [Cond.instanceMethod (mY (xtb 251)), Cond.selects (mY (xtb 251)).cls (mY (xtb 251)) (mY (xtb 251)), Cond.initialized (mY (xtb 251)).cls, Cond.code (mY (xtb 251)) (mC (xtb 251)) (mN (xtb 251)) (mR (xtb 251))], w ∈ xgood := List.forall_mem_cons.mpr ⟨wd1790, List.forall_mem_cons.mpr ⟨wd1791, List.forall_mem_cons.mpr ⟨wd123, List.forall_mem_cons.mpr ⟨wd1792, fun _ h => by cases h⟩⟩⟩⟩
theorem cn130 : (parseMethodDescriptor (mY (xtb 130)).desc).map (fun d => d.parameters.length) = some 4 := by decide +kernel
theorem cm130 : (mY (xtb 130)).cls ≠ "java/lang/invoke/MethodHandle" ∧ (mY (xtb 130)).cls ≠ "java/lang/invoke/VarHandle" := by decide +kernel
theorem cw130 : ∀ w ∈ [Cond.instanceMethod (mY (xtb 130)), Cond.selects (mY (xtb 130)).cls (mY (xtb 130)) (mY (xtb 130)), Cond.initialized (mY (xtb 130)).cls, Cond.code (mY (xtb 130)) (mC (xtb 130)) (mN (xtb 130)) (mR (xtb 130))], w ∈ xgood := List.forall_mem_cons.mpr ⟨wd1031, List.forall_mem_cons.mpr ⟨wd1032, List.forall_mem_cons.mpr ⟨wd112, List.forall_mem_cons.mpr ⟨wd1033, fun _ h => by cases h⟩⟩⟩⟩
theorem cn253 : (parseMethodDescriptor (mY (xtb 253)).desc).map (fun d => d.parameters.length) = some 4 := by decide +kernel
theorem cm253 : (mY (xtb 253)).cls ≠ "java/lang/invoke/MethodHandle" ∧ (mY (xtb 253)).cls ≠ "java/lang/invoke/VarHandle" := by decide +kernel
theorem cw253 : ∀ w ∈ [Cond.instanceMethod (mY (xtb 253)), Cond.selects (mY (xtb 253)).cls (mY (xtb 253)) (mY (xtb 253)), Cond.initialized (mY (xtb 253)).cls, Cond.code (mY (xtb 253)) (mC (xtb 253)) (mN (xtb 253)) (mR (xtb 253))], w ∈ xgood := List.forall_mem_cons.mpr ⟨wd1798, List.forall_mem_cons.mpr ⟨wd1799, List.forall_mem_cons.mpr ⟨wd123, List.forall_mem_cons.mpr ⟨wd1800, fun _ h => by cases h⟩⟩⟩⟩
theorem cn131 : (parseMethodDescriptor (mY (xtb 131)).desc).map (fun d => d.parameters.length) = some 2 := by decide +kernel
theorem cm131 : (mY (xtb 131)).cls ≠ "java/lang/invoke/MethodHandle" ∧ (mY (xtb 131)).cls ≠ "java/lang/invoke/VarHandle" := by decide +kernel
theorem cw131 : ∀ w ∈ [Cond.instanceMethod (mY (xtb 131)), Cond.selects (mY (xtb 131)).cls (mY (xtb 131)) (mY (xtb 131)), Cond.initialized (mY (xtb 131)).cls, Cond.code (mY (xtb 131)) (mC (xtb 131)) (mN (xtb 131)) (mR (xtb 131))], w ∈ xgood := List.forall_mem_cons.mpr ⟨wd1046, List.forall_mem_cons.mpr ⟨wd1047, List.forall_mem_cons.mpr ⟨wd112, List.forall_mem_cons.mpr ⟨wd1048, fun _ h => by cases h⟩⟩⟩⟩
theorem cn254 : (parseMethodDescriptor (mY (xtb 254)).desc).map (fun d => d.parameters.length) = some 2 := by decide +kernel
theorem cm254 : (mY (xtb 254)).cls ≠ "java/lang/invoke/MethodHandle" ∧ (mY (xtb 254)).cls ≠ "java/lang/invoke/VarHandle" := by decide +kernel
theorem cw254 : ∀ w ∈ [Cond.instanceMethod (mY (xtb 254)), Cond.selects (mY (xtb 254)).cls (mY (xtb 254)) (mY (xtb 254)), Cond.initialized (mY (xtb 254)).cls, Cond.code (mY (xtb 254)) (mC (xtb 254)) (mN (xtb 254)) (mR (xtb 254))], w ∈ xgood := List.forall_mem_cons.mpr ⟨wd1806, List.forall_mem_cons.mpr ⟨wd1807, List.forall_mem_cons.mpr ⟨wd123, List.forall_mem_cons.mpr ⟨wd1808, fun _ h => by cases h⟩⟩⟩⟩
theorem cn132 : (parseMethodDescriptor (mY (xtb 132)).desc).map (fun d => d.parameters.length) = some 6 := by decide +kernel
theorem cm132 : (mY (xtb 132)).cls ≠ "java/lang/invoke/MethodHandle" ∧ (mY (xtb 132)).cls ≠ "java/lang/invoke/VarHandle" := by decide +kernel
theorem cw132 : ∀ w ∈ [Cond.instanceMethod (mY (xtb 132)), Cond.selects (mY (xtb 132)).cls (mY (xtb 132)) (mY (xtb 132)), Cond.initialized (mY (xtb 132)).cls, Cond.code (mY (xtb 132)) (mC (xtb 132)) (mN (xtb 132)) (mR (xtb 132))], w ∈ xgood := List.forall_mem_cons.mpr ⟨wd1056, List.forall_mem_cons.mpr ⟨wd1057, List.forall_mem_cons.mpr ⟨wd112, List.forall_mem_cons.mpr ⟨wd1058, fun _ h => by cases h⟩⟩⟩⟩
theorem cn259 : (parseMethodDescriptor (mY (xtb 259)).desc).map (fun d => d.parameters.length) = some 6 := by decide +kernel
theorem cm259 : (mY (xtb 259)).cls ≠ "java/lang/invoke/MethodHandle" ∧ (mY (xtb 259)).cls ≠ "java/lang/invoke/VarHandle" := by decide +kernel
theorem cw259 : ∀ w ∈ [Cond.instanceMethod (mY (xtb 259)), Cond.selects (mY (xtb 259)).cls (mY (xtb 259)) (mY (xtb 259)), Cond.initialized (mY (xtb 259)).cls, Cond.code (mY (xtb 259)) (mC (xtb 259)) (mN (xtb 259)) (mR (xtb 259))], w ∈ xgood := List.forall_mem_cons.mpr ⟨wd1810, List.forall_mem_cons.mpr ⟨wd1811, List.forall_mem_cons.mpr ⟨wd123, List.forall_mem_cons.mpr ⟨wd1812, fun _ h => by cases h⟩⟩⟩⟩
theorem cn133 : (parseMethodDescriptor (mY (xtb 133)).desc).map (fun d => d.parameters.length) = some 7 := by decide +kernel
theorem cm133 : (mY (xtb 133)).cls ≠ "java/lang/invoke/MethodHandle" ∧ (mY (xtb 133)).cls ≠ "java/lang/invoke/VarHandle" := by decide +kernel
theorem cw133 : ∀ w ∈ [Cond.instanceMethod (mY (xtb 133)), Cond.selects (mY (xtb 133)).cls (mY (xtb 133)) (mY (xtb 133)), Cond.initialized (mY (xtb 133)).cls, Cond.code (mY (xtb 133)) (mC (xtb 133)) (mN (xtb 133)) (mR (xtb 133))], w ∈ xgood := List.forall_mem_cons.mpr ⟨wd1097, List.forall_mem_cons.mpr ⟨wd1098, List.forall_mem_cons.mpr ⟨wd112, List.forall_mem_cons.mpr ⟨wd1099, fun _ h => by cases h⟩⟩⟩⟩
theorem cn260 : (parseMethodDescriptor (mY (xtb 260)).desc).map (fun d => d.parameters.length) = some 7 := by decide +kernel
theorem cm260 : (mY (xtb 260)).cls ≠ "java/lang/invoke/MethodHandle" ∧ (mY (xtb 260)).cls ≠ "java/lang/invoke/VarHandle" := by decide +kernel
theorem cw260 : ∀ w ∈ [Cond.instanceMethod (mY (xtb 260)), Cond.selects (mY (xtb 260)).cls (mY (xtb 260)) (mY (xtb 260)), Cond.initialized (mY (xtb 260)).cls, Cond.code (mY (xtb 260)) (mC (xtb 260)) (mN (xtb 260)) (mR (xtb 260))], w ∈ xgood := List.forall_mem_cons.mpr ⟨wd1830, List.forall_mem_cons.mpr ⟨wd1831, List.forall_mem_cons.mpr ⟨wd123, List.forall_mem_cons.mpr ⟨wd1832, fun _ h => by cases h⟩⟩⟩⟩
theorem cn134 : (parseMethodDescriptor (mY (xtb 134)).desc).map (fun d => d.parameters.length) = some 2 := by decide +kernel
theorem cm134 : (mY (xtb 134)).cls ≠ "java/lang/invoke/MethodHandle" ∧ (mY (xtb 134)).cls ≠ "java/lang/invoke/VarHandle" := by decide +kernel
theorem cw134 : ∀ w ∈ [Cond.instanceMethod (mY (xtb 134)), Cond.selects (mY (xtb 134)).cls (mY (xtb 134)) (mY (xtb 134)), Cond.initialized (mY (xtb 134)).cls, Cond.code (mY (xtb 134)) (mC (xtb 134)) (mN (xtb 134)) (mR (xtb 134))], w ∈ xgood := List.forall_mem_cons.mpr ⟨wd1118, List.forall_mem_cons.mpr ⟨wd1119, List.forall_mem_cons.mpr ⟨wd112, List.forall_mem_cons.mpr ⟨wd1120, fun _ h => by cases h⟩⟩⟩⟩
theorem cn267 : (parseMethodDescriptor (mY (xtb 267)).desc).map (fun d => d.parameters.length) = some 2 := by decide +kernel
theorem cm267 : (mY (xtb 267)).cls ≠ "java/lang/invoke/MethodHandle" ∧ (mY (xtb 267)).cls ≠ "java/lang/invoke/VarHandle" := by decide +kernel
theorem cw267 : ∀ w ∈ [Cond.instanceMethod (mY (xtb 267)), Cond.selects (mY (xtb 267)).cls (mY (xtb 267)) (mY (xtb 267)), Cond.initialized (mY (xtb 267)).cls, Cond.code (mY (xtb 267)) (mC (xtb 267)) (mN (xtb 267)) (mR (xtb 267))], w ∈ xgood := List.forall_mem_cons.mpr ⟨wd1834, List.forall_mem_cons.mpr ⟨wd1835, List.forall_mem_cons.mpr ⟨wd123, List.forall_mem_cons.mpr ⟨wd1836, fun _ h => by cases h⟩⟩⟩⟩
theorem cn135 : (parseMethodDescriptor (mY (xtb 135)).desc).map (fun d => d.parameters.length) = some 3 := by decide +kernel
theorem cm135 : (mY (xtb 135)).cls ≠ "java/lang/invoke/MethodHandle" ∧ (mY (xtb 135)).cls ≠ "java/lang/invoke/VarHandle" := by decide +kernel
theorem cw135 : ∀ w ∈ [Cond.instanceMethod (mY (xtb 135)), Cond.selects (mY (xtb 135)).cls (mY (xtb 135)) (mY (xtb 135)), Cond.initialized (mY (xtb 135)).cls, Cond.code (mY (xtb 135)) (mC (xtb 135)) (mN (xtb 135)) (mR (xtb 135))], w ∈ xgood := List.forall_mem_cons.mpr ⟨wd1132, List.forall_mem_cons.mpr ⟨wd1133, List.forall_mem_cons.mpr ⟨wd112, List.forall_mem_cons.mpr ⟨wd1134, fun _ h => by cases h⟩⟩⟩⟩
theorem cn268 : (parseMethodDescriptor (mY (xtb 268)).desc).map (fun d => d.parameters.length) = some 3 := by decide +kernel
theorem cm268 : (mY (xtb 268)).cls ≠ "java/lang/invoke/MethodHandle" ∧ (mY (xtb 268)).cls ≠ "java/lang/invoke/VarHandle" := by decide +kernel
theorem cw268 : ∀ w ∈ [Cond.instanceMethod (mY (xtb 268)), Cond.selects (mY (xtb 268)).cls (mY (xtb 268)) (mY (xtb 268)), Cond.initialized (mY (xtb 268)).cls, Cond.code (mY (xtb 268)) (mC (xtb 268)) (mN (xtb 268)) (mR (xtb 268))], w ∈ xgood := List.forall_mem_cons.mpr ⟨wd1862, List.forall_mem_cons.mpr ⟨wd1863, List.forall_mem_cons.mpr ⟨wd123, List.forall_mem_cons.mpr ⟨wd1864, fun _ h => by cases h⟩⟩⟩⟩
theorem cn136 : (parseMethodDescriptor (mY (xtb 136)).desc).map (fun d => d.parameters.length) = some 0 := by decide +kernel
theorem cm136 : (mY (xtb 136)).cls ≠ "java/lang/invoke/MethodHandle" ∧ (mY (xtb 136)).cls ≠ "java/lang/invoke/VarHandle" := by decide +kernel
theorem cw136 : ∀ w ∈ [Cond.instanceMethod (mY (xtb 136)), Cond.selects (mY (xtb 136)).cls (mY (xtb 136)) (mY (xtb 136)), Cond.initialized (mY (xtb 136)).cls, Cond.code (mY (xtb 136)) (mC (xtb 136)) (mN (xtb 136)) (mR (xtb 136))], w ∈ xgood := List.forall_mem_cons.mpr ⟨wd1140, List.forall_mem_cons.mpr ⟨wd1141, List.forall_mem_cons.mpr ⟨wd112, List.forall_mem_cons.mpr ⟨wd1142, fun _ h => by cases h⟩⟩⟩⟩
theorem cn271 : (parseMethodDescriptor (mY (xtb 271)).desc).map (fun d => d.parameters.length) = some 0 := by decide +kernel
theorem cm271 : (mY (xtb 271)).cls ≠ "java/lang/invoke/MethodHandle" ∧ (mY (xtb 271)).cls ≠ "java/lang/invoke/VarHandle" := by decide +kernel
theorem cw271 : ∀ w ∈ [Cond.instanceMethod (mY (xtb 271)), Cond.selects (mY (xtb 271)).cls (mY (xtb 271)) (mY (xtb 271)), Cond.initialized (mY (xtb 271)).cls, Cond.code (mY (xtb 271)) (mC (xtb 271)) (mN (xtb 271)) (mR (xtb 271))], w ∈ xgood := List.forall_mem_cons.mpr ⟨wd1866, List.forall_mem_cons.mpr ⟨wd1867, List.forall_mem_cons.mpr ⟨wd123, List.forall_mem_cons.mpr ⟨wd1868, fun _ h => by cases h⟩⟩⟩⟩
theorem cn137 : (parseMethodDescriptor (mY (xtb 137)).desc).map (fun d => d.parameters.length) = some 2 := by decide +kernel
theorem cm137 : (mY (xtb 137)).cls ≠ "java/lang/invoke/MethodHandle" ∧ (mY (xtb 137)).cls ≠ "java/lang/invoke/VarHandle" := by decide +kernel
theorem cw137 : ∀ w ∈ [Cond.instanceMethod (mY (xtb 137)), Cond.selects (mY (xtb 137)).cls (mY (xtb 137)) (mY (xtb 137)), Cond.initialized (mY (xtb 137)).cls, Cond.code (mY (xtb 137)) (mC (xtb 137)) (mN (xtb 137)) (mR (xtb 137))], w ∈ xgood := List.forall_mem_cons.mpr ⟨wd1148, List.forall_mem_cons.mpr ⟨wd1149, List.forall_mem_cons.mpr ⟨wd112, List.forall_mem_cons.mpr ⟨wd1150, fun _ h => by cases h⟩⟩⟩⟩
theorem cn272 : (parseMethodDescriptor (mY (xtb 272)).desc).map (fun d => d.parameters.length) = some 2 := by decide +kernel
theorem cm272 : (mY (xtb 272)).cls ≠ "java/lang/invoke/MethodHandle" ∧ (mY (xtb 272)).cls ≠ "java/lang/invoke/VarHandle" := by decide +kernel
theorem cw272 : ∀ w ∈ [Cond.instanceMethod (mY (xtb 272)), Cond.selects (mY (xtb 272)).cls (mY (xtb 272)) (mY (xtb 272)), Cond.initialized (mY (xtb 272)).cls, Cond.code (mY (xtb 272)) (mC (xtb 272)) (mN (xtb 272)) (mR (xtb 272))], w ∈ xgood := List.forall_mem_cons.mpr ⟨wd1878, List.forall_mem_cons.mpr ⟨wd1879, List.forall_mem_cons.mpr ⟨wd123, List.forall_mem_cons.mpr ⟨wd1880, fun _ h => by cases h⟩⟩⟩⟩
theorem cn138 : (parseMethodDescriptor (mY (xtb 138)).desc).map (fun d => d.parameters.length) = some 2 := by decide +kernel
theorem cm138 : (mY (xtb 138)).cls ≠ "java/lang/invoke/MethodHandle" ∧ (mY (xtb 138)).cls ≠ "java/lang/invoke/VarHandle" := by decide +kernel
theorem cw138 : ∀ w ∈ [Cond.instanceMethod (mY (xtb 138)), Cond.selects (mY (xtb 138)).cls (mY (xtb 138)) (mY (xtb 138)), Cond.initialized (mY (xtb 138)).cls, Cond.code (mY (xtb 138)) (mC (xtb 138)) (mN (xtb 138)) (mR (xtb 138))], w ∈ xgood := List.forall_mem_cons.mpr ⟨wd1157, List.forall_mem_cons.mpr ⟨wd1158, List.forall_mem_cons.mpr ⟨wd112, List.forall_mem_cons.mpr ⟨wd1159, fun _ h => by cases h⟩⟩⟩⟩
theorem cn273 : (parseMethodDescriptor (mY (xtb 273)).desc).map (fun d => d.parameters.length) = some 2 := by decide +kernel
theorem cm273 : (mY (xtb 273)).cls ≠ "java/lang/invoke/MethodHandle" ∧ (mY (xtb 273)).cls ≠ "java/lang/invoke/VarHandle" := by decide +kernel
theorem cw273 : ∀ w ∈ [Cond.instanceMethod (mY (xtb 273)), Cond.selects (mY (xtb 273)).cls (mY (xtb 273)) (mY (xtb 273)), Cond.initialized (mY (xtb 273)).cls, Cond.code (mY (xtb 273)) (mC (xtb 273)) (mN (xtb 273)) (mR (xtb 273))], w ∈ xgood := List.forall_mem_cons.mpr ⟨wd1882, List.forall_mem_cons.mpr ⟨wd1883, List.forall_mem_cons.mpr ⟨wd123, List.forall_mem_cons.mpr ⟨wd1884, fun _ h => by cases h⟩⟩⟩⟩
theorem cn139 : (parseMethodDescriptor (mY (xtb 139)).desc).map (fun d => d.parameters.length) = some 0 := by decide +kernel
theorem cm139 : (mY (xtb 139)).cls ≠ "java/lang/invoke/MethodHandle" ∧ (mY (xtb 139)).cls ≠ "java/lang/invoke/VarHandle" := by decide +kernel
theorem cw139 : ∀ w ∈ [Cond.instanceMethod (mY (xtb 139)), Cond.selects (mY (xtb 139)).cls (mY (xtb 139)) (mY (xtb 139)), Cond.initialized (mY (xtb 139)).cls, Cond.code (mY (xtb 139)) (mC (xtb 139)) (mN (xtb 139)) (mR (xtb 139))], w ∈ xgood := List.forall_mem_cons.mpr ⟨wd1165, List.forall_mem_cons.mpr ⟨wd1166, List.forall_mem_cons.mpr ⟨wd112, List.forall_mem_cons.mpr ⟨wd1167, fun _ h => by cases h⟩⟩⟩⟩
theorem cn279 : (parseMethodDescriptor (mY (xtb 279)).desc).map (fun d => d.parameters.length) = some 0 := by decide +kernel
theorem cm279 : (mY (xtb 279)).cls ≠ "java/lang/invoke/MethodHandle" ∧ (mY (xtb 279)).cls ≠ "java/lang/invoke/VarHandle" := by decide +kernel
theorem cw279 : ∀ w ∈ [Cond.instanceMethod (mY (xtb 279)), Cond.selects (mY (xtb 279)).cls (mY (xtb 279)) (mY (xtb 279)), Cond.initialized (mY (xtb 279)).cls, Cond.code (mY (xtb 279)) (mC (xtb 279)) (mN (xtb 279)) (mR (xtb 279))], w ∈ xgood := List.forall_mem_cons.mpr ⟨wd1886, List.forall_mem_cons.mpr ⟨wd1887, List.forall_mem_cons.mpr ⟨wd123, List.forall_mem_cons.mpr ⟨wd1888, fun _ h => by cases h⟩⟩⟩⟩
theorem cn140 : (parseMethodDescriptor (mY (xtb 140)).desc).map (fun d => d.parameters.length) = some 2 := by decide +kernel
theorem cm140 : (mY (xtb 140)).cls ≠ "java/lang/invoke/MethodHandle" ∧ (mY (xtb 140)).cls ≠ "java/lang/invoke/VarHandle" := by decide +kernel
theorem cw140 : ∀ w ∈ [Cond.instanceMethod (mY (xtb 140)), Cond.selects (mY (xtb 140)).cls (mY (xtb 140)) (mY (xtb 140)), Cond.initialized (mY (xtb 140)).cls, Cond.code (mY (xtb 140)) (mC (xtb 140)) (mN (xtb 140)) (mR (xtb 140))], w ∈ xgood := List.forall_mem_cons.mpr ⟨wd1169, List.forall_mem_cons.mpr ⟨wd1170, List.forall_mem_cons.mpr ⟨wd112, List.forall_mem_cons.mpr ⟨wd1171, fun _ h => by cases h⟩⟩⟩⟩
theorem cn280 : (parseMethodDescriptor (mY (xtb 280)).desc).map (fun d => d.parameters.length) = some 2 := by decide +kernel
theorem cm280 : (mY (xtb 280)).cls ≠ "java/lang/invoke/MethodHandle" ∧ (mY (xtb 280)).cls ≠ "java/lang/invoke/VarHandle" := by decide +kernel
theorem cw280 : ∀ w ∈ [Cond.instanceMethod (mY (xtb 280)), Cond.selects (mY (xtb 280)).cls (mY (xtb 280)) (mY (xtb 280)), Cond.initialized (mY (xtb 280)).cls, Cond.code (mY (xtb 280)) (mC (xtb 280)) (mN (xtb 280)) (mR (xtb 280))], w ∈ xgood := List.forall_mem_cons.mpr ⟨wd1890, List.forall_mem_cons.mpr ⟨wd1891, List.forall_mem_cons.mpr ⟨wd123, List.forall_mem_cons.mpr ⟨wd1892, fun _ h => by cases h⟩⟩⟩⟩
theorem cn141 : (parseMethodDescriptor (mY (xtb 141)).desc).map (fun d => d.parameters.length) = some 2 := by decide +kernel
theorem cm141 : (mY (xtb 141)).cls ≠ "java/lang/invoke/MethodHandle" ∧ (mY (xtb 141)).cls ≠ "java/lang/invoke/VarHandle" := by decide +kernel
theorem cw141 : ∀ w ∈ [Cond.instanceMethod (mY (xtb 141)), Cond.selects (mY (xtb 141)).cls (mY (xtb 141)) (mY (xtb 141)), Cond.initialized (mY (xtb 141)).cls, Cond.code (mY (xtb 141)) (mC (xtb 141)) (mN (xtb 141)) (mR (xtb 141))], w ∈ xgood := List.forall_mem_cons.mpr ⟨wd1182, List.forall_mem_cons.mpr ⟨wd1183, List.forall_mem_cons.mpr ⟨wd112, List.forall_mem_cons.mpr ⟨wd1184, fun _ h => by cases h⟩⟩⟩⟩
theorem cn281 : (parseMethodDescriptor (mY (xtb 281)).desc).map (fun d => d.parameters.length) = some 2 := by decide +kernel
theorem cm281 : (mY (xtb 281)).cls ≠ "java/lang/invoke/MethodHandle" ∧ (mY (xtb 281)).cls ≠ "java/lang/invoke/VarHandle" := by decide +kernel
theorem cw281 : ∀ w ∈ [Cond.instanceMethod (mY (xtb 281)), Cond.selects (mY (xtb 281)).cls (mY (xtb 281)) (mY (xtb 281)), Cond.initialized (mY (xtb 281)).cls, Cond.code (mY (xtb 281)) (mC (xtb 281)) (mN (xtb 281)) (mR (xtb 281))], w ∈ xgood := List.forall_mem_cons.mpr ⟨wd1898, List.forall_mem_cons.mpr ⟨wd1899, List.forall_mem_cons.mpr ⟨wd123, List.forall_mem_cons.mpr ⟨wd1900, fun _ h => by cases h⟩⟩⟩⟩
theorem cn142 : (parseMethodDescriptor (mY (xtb 142)).desc).map (fun d => d.parameters.length) = some 2 := by decide +kernel
theorem cm142 : (mY (xtb 142)).cls ≠ "java/lang/invoke/MethodHandle" ∧ (mY (xtb 142)).cls ≠ "java/lang/invoke/VarHandle" := by decide +kernel
theorem cw142 : ∀ w ∈ [Cond.instanceMethod (mY (xtb 142)), Cond.selects (mY (xtb 142)).cls (mY (xtb 142)) (mY (xtb 142)), Cond.initialized (mY (xtb 142)).cls, Cond.code (mY (xtb 142)) (mC (xtb 142)) (mN (xtb 142)) (mR (xtb 142))], w ∈ xgood := List.forall_mem_cons.mpr ⟨wd1190, List.forall_mem_cons.mpr ⟨wd1191, List.forall_mem_cons.mpr ⟨wd112, List.forall_mem_cons.mpr ⟨wd1192, fun _ h => by cases h⟩⟩⟩⟩
theorem cn283 : (parseMethodDescriptor (mY (xtb 283)).desc).map (fun d => d.parameters.length) = some 2 := by decide +kernel
theorem cm283 : (mY (xtb 283)).cls ≠ "java/lang/invoke/MethodHandle" ∧ (mY (xtb 283)).cls ≠ "java/lang/invoke/VarHandle" := by decide +kernel
theorem cw283 : ∀ w ∈ [Cond.instanceMethod (mY (xtb 283)), Cond.selects (mY (xtb 283)).cls (mY (xtb 283)) (mY (xtb 283)), Cond.initialized (mY (xtb 283)).cls, Cond.code (mY (xtb 283)) (mC (xtb 283)) (mN (xtb 283)) (mR (xtb 283))], w ∈ xgood := List.forall_mem_cons.mpr ⟨wd1906, List.forall_mem_cons.mpr ⟨wd1907, List.forall_mem_cons.mpr ⟨wd123, List.forall_mem_cons.mpr ⟨wd1908, fun _ h => by cases h⟩⟩⟩⟩
theorem cn143 : (parseMethodDescriptor (mY (xtb 143)).desc).map (fun d => d.parameters.length) = some 0 := by decide +kernel
theorem cm143 : (mY (xtb 143)).cls ≠ "java/lang/invoke/MethodHandle" ∧ (mY (xtb 143)).cls ≠ "java/lang/invoke/VarHandle" := by decide +kernel
theorem cw143 : ∀ w ∈ [Cond.instanceMethod (mY (xtb 143)), Cond.selects (mY (xtb 143)).cls (mY (xtb 143)) (mY (xtb 143)), Cond.initialized (mY (xtb 143)).cls, Cond.code (mY (xtb 143)) (mC (xtb 143)) (mN (xtb 143)) (mR (xtb 143))], w ∈ xgood := List.forall_mem_cons.mpr ⟨wd1203, List.forall_mem_cons.mpr ⟨wd1204, List.forall_mem_cons.mpr ⟨wd112, List.forall_mem_cons.mpr ⟨wd1205, fun _ h => by cases h⟩⟩⟩⟩
theorem cn287 : (parseMethodDescriptor (mY (xtb 287)).desc).map (fun d => d.parameters.length) = some 0 := by decide +kernel
theorem cm287 : (mY (xtb 287)).cls ≠ "java/lang/invoke/MethodHandle" ∧ (mY (xtb 287)).cls ≠ "java/lang/invoke/VarHandle" := by decide +kernel
theorem cw287 : ∀ w ∈ [Cond.instanceMethod (mY (xtb 287)), Cond.selects (mY (xtb 287)).cls (mY (xtb 287)) (mY (xtb 287)), Cond.initialized (mY (xtb 287)).cls, Cond.code (mY (xtb 287)) (mC (xtb 287)) (mN (xtb 287)) (mR (xtb 287))], w ∈ xgood := List.forall_mem_cons.mpr ⟨wd1934, List.forall_mem_cons.mpr ⟨wd1935, List.forall_mem_cons.mpr ⟨wd123, List.forall_mem_cons.mpr ⟨wd1936, fun _ h => by cases h⟩⟩⟩⟩
theorem cn144 : (parseMethodDescriptor (mY (xtb 144)).desc).map (fun d => d.parameters.length) = some 1 := by decide +kernel
theorem cm144 : (mY (xtb 144)).cls ≠ "java/lang/invoke/MethodHandle" ∧ (mY (xtb 144)).cls ≠ "java/lang/invoke/VarHandle" := by decide +kernel
theorem cw144 : ∀ w ∈ [Cond.instanceMethod (mY (xtb 144)), Cond.selects (mY (xtb 144)).cls (mY (xtb 144)) (mY (xtb 144)), Cond.initialized (mY (xtb 144)).cls, Cond.code (mY (xtb 144)) (mC (xtb 144)) (mN (xtb 144)) (mR (xtb 144))], w ∈ xgood := List.forall_mem_cons.mpr ⟨wd1211, List.forall_mem_cons.mpr ⟨wd1212, List.forall_mem_cons.mpr ⟨wd112, List.forall_mem_cons.mpr ⟨wd1213, fun _ h => by cases h⟩⟩⟩⟩
theorem cn288 : (parseMethodDescriptor (mY (xtb 288)).desc).map (fun d => d.parameters.length) = some 1 := by decide +kernel
theorem cm288 : (mY (xtb 288)).cls ≠ "java/lang/invoke/MethodHandle" ∧ (mY (xtb 288)).cls ≠ "java/lang/invoke/VarHandle" := by decide +kernel
theorem cw288 : ∀ w ∈ [Cond.instanceMethod (mY (xtb 288)), Cond.selects (mY (xtb 288)).cls (mY (xtb 288)) (mY (xtb 288)), Cond.initialized (mY (xtb 288)).cls, Cond.code (mY (xtb 288)) (mC (xtb 288)) (mN (xtb 288)) (mR (xtb 288))], w ∈ xgood := List.forall_mem_cons.mpr ⟨wd1942, List.forall_mem_cons.mpr ⟨wd1943, List.forall_mem_cons.mpr ⟨wd123, List.forall_mem_cons.mpr ⟨wd1944, fun _ h => by cases h⟩⟩⟩⟩
theorem cn145 : (parseMethodDescriptor (mY (xtb 145)).desc).map (fun d => d.parameters.length) = some 1 := by decide +kernel
theorem cm145 : (mY (xtb 145)).cls ≠ "java/lang/invoke/MethodHandle" ∧ (mY (xtb 145)).cls ≠ "java/lang/invoke/VarHandle" := by decide +kernel
theorem cw145 : ∀ w ∈ [Cond.instanceMethod (mY (xtb 145)), Cond.selects (mY (xtb 145)).cls (mY (xtb 145)) (mY (xtb 145)), Cond.initialized (mY (xtb 145)).cls, Cond.code (mY (xtb 145)) (mC (xtb 145)) (mN (xtb 145)) (mR (xtb 145))], w ∈ xgood := List.forall_mem_cons.mpr ⟨wd1215, List.forall_mem_cons.mpr ⟨wd1216, List.forall_mem_cons.mpr ⟨wd112, List.forall_mem_cons.mpr ⟨wd1217, fun _ h => by cases h⟩⟩⟩⟩
theorem cn284 : (parseMethodDescriptor (mY (xtb 284)).desc).map (fun d => d.parameters.length) = some 1 := by decide +kernel
theorem cm284 : (mY (xtb 284)).cls ≠ "java/lang/invoke/MethodHandle" ∧ (mY (xtb 284)).cls ≠ "java/lang/invoke/VarHandle" := by decide +kernel
theorem cw284 : ∀ w ∈ [Cond.instanceMethod (mY (xtb 284)), Cond.selects (mY (xtb 284)).cls (mY (xtb 284)) (mY (xtb 284)), Cond.initialized (mY (xtb 284)).cls, Cond.code (mY (xtb 284)) (mC (xtb 284)) (mN (xtb 284)) (mR (xtb 284))], w ∈ xgood := List.forall_mem_cons.mpr ⟨wd1926, List.forall_mem_cons.mpr ⟨wd1927, List.forall_mem_cons.mpr ⟨wd123, List.forall_mem_cons.mpr ⟨wd1928, fun _ h => by cases h⟩⟩⟩⟩
theorem cn146 : (parseMethodDescriptor (mY (xtb 146)).desc).map (fun d => d.parameters.length) = some 6 := by decide +kernel
theorem cm146 : (mY (xtb 146)).cls ≠ "java/lang/invoke/MethodHandle" ∧ (mY (xtb 146)).cls ≠ "java/lang/invoke/VarHandle" := by decide +kernel
theorem cw146 : ∀ w ∈ [Cond.instanceMethod (mY (xtb 146)), Cond.selects (mY (xtb 146)).cls (mY (xtb 146)) (mY (xtb 146)), Cond.initialized (mY (xtb 146)).cls, Cond.code (mY (xtb 146)) (mC (xtb 146)) (mN (xtb 146)) (mR (xtb 146))], w ∈ xgood := List.forall_mem_cons.mpr ⟨wd1232, List.forall_mem_cons.mpr ⟨wd1233, List.forall_mem_cons.mpr ⟨wd112, List.forall_mem_cons.mpr ⟨wd1234, fun _ h => by cases h⟩⟩⟩⟩
theorem cn290 : (parseMethodDescriptor (mY (xtb 290)).desc).map (fun d => d.parameters.length) = some 6 := by decide +kernel
theorem cm290 : (mY (xtb 290)).cls ≠ "java/lang/invoke/MethodHandle" ∧ (mY (xtb 290)).cls ≠ "java/lang/invoke/VarHandle" := by decide +kernel
theorem cw290 : ∀ w ∈ [Cond.instanceMethod (mY (xtb 290)), Cond.selects (mY (xtb 290)).cls (mY (xtb 290)) (mY (xtb 290)), Cond.initialized (mY (xtb 290)).cls, Cond.code (mY (xtb 290)) (mC (xtb 290)) (mN (xtb 290)) (mR (xtb 290))], w ∈ xgood := List.forall_mem_cons.mpr ⟨wd1946, List.forall_mem_cons.mpr ⟨wd1947, List.forall_mem_cons.mpr ⟨wd123, List.forall_mem_cons.mpr ⟨wd1948, fun _ h => by cases h⟩⟩⟩⟩
theorem cn147 : (parseMethodDescriptor (mY (xtb 147)).desc).map (fun d => d.parameters.length) = some 2 := by decide +kernel
theorem cm147 : (mY (xtb 147)).cls ≠ "java/lang/invoke/MethodHandle" ∧ (mY (xtb 147)).cls ≠ "java/lang/invoke/VarHandle" := by decide +kernel
theorem cw147 : ∀ w ∈ [Cond.instanceMethod (mY (xtb 147)), Cond.selects (mY (xtb 147)).cls (mY (xtb 147)) (mY (xtb 147)), Cond.initialized (mY (xtb 147)).cls, Cond.code (mY (xtb 147)) (mC (xtb 147)) (mN (xtb 147)) (mR (xtb 147))], w ∈ xgood := List.forall_mem_cons.mpr ⟨wd1236, List.forall_mem_cons.mpr ⟨wd1237, List.forall_mem_cons.mpr ⟨wd112, List.forall_mem_cons.mpr ⟨wd1238, fun _ h => by cases h⟩⟩⟩⟩
theorem cn291 : (parseMethodDescriptor (mY (xtb 291)).desc).map (fun d => d.parameters.length) = some 2 := by decide +kernel
theorem cm291 : (mY (xtb 291)).cls ≠ "java/lang/invoke/MethodHandle" ∧ (mY (xtb 291)).cls ≠ "java/lang/invoke/VarHandle" := by decide +kernel
theorem cw291 : ∀ w ∈ [Cond.instanceMethod (mY (xtb 291)), Cond.selects (mY (xtb 291)).cls (mY (xtb 291)) (mY (xtb 291)), Cond.initialized (mY (xtb 291)).cls, Cond.code (mY (xtb 291)) (mC (xtb 291)) (mN (xtb 291)) (mR (xtb 291))], w ∈ xgood := List.forall_mem_cons.mpr ⟨wd1950, List.forall_mem_cons.mpr ⟨wd1951, List.forall_mem_cons.mpr ⟨wd123, List.forall_mem_cons.mpr ⟨wd1952, fun _ h => by cases h⟩⟩⟩⟩
theorem cn148 : (parseMethodDescriptor (mY (xtb 148)).desc).map (fun d => d.parameters.length) = some 4 := by decide +kernel
theorem cm148 : (mY (xtb 148)).cls ≠ "java/lang/invoke/MethodHandle" ∧ (mY (xtb 148)).cls ≠ "java/lang/invoke/VarHandle" := by decide +kernel
theorem cw148 : ∀ w ∈ [Cond.instanceMethod (mY (xtb 148)), Cond.selects (mY (xtb 148)).cls (mY (xtb 148)) (mY (xtb 148)), Cond.initialized (mY (xtb 148)).cls, Cond.code (mY (xtb 148)) (mC (xtb 148)) (mN (xtb 148)) (mR (xtb 148))], w ∈ xgood := List.forall_mem_cons.mpr ⟨wd1240, List.forall_mem_cons.mpr ⟨wd1241, List.forall_mem_cons.mpr ⟨wd112, List.forall_mem_cons.mpr ⟨wd1242, fun _ h => by cases h⟩⟩⟩⟩
theorem cn293 : (parseMethodDescriptor (mY (xtb 293)).desc).map (fun d => d.parameters.length) = some 4 := by decide +kernel
theorem cm293 : (mY (xtb 293)).cls ≠ "java/lang/invoke/MethodHandle" ∧ (mY (xtb 293)).cls ≠ "java/lang/invoke/VarHandle" := by decide +kernel
theorem cw293 : ∀ w ∈ [Cond.instanceMethod (mY (xtb 293)), Cond.selects (mY (xtb 293)).cls (mY (xtb 293)) (mY (xtb 293)), Cond.initialized (mY (xtb 293)).cls, Cond.code (mY (xtb 293)) (mC (xtb 293)) (mN (xtb 293)) (mR (xtb 293))], w ∈ xgood := List.forall_mem_cons.mpr ⟨wd1954, List.forall_mem_cons.mpr ⟨wd1955, List.forall_mem_cons.mpr ⟨wd123, List.forall_mem_cons.mpr ⟨wd1956, fun _ h => by cases h⟩⟩⟩⟩
theorem cn149 : (parseMethodDescriptor (mY (xtb 149)).desc).map (fun d => d.parameters.length) = some 4 := by decide +kernel
theorem cm149 : (mY (xtb 149)).cls ≠ "java/lang/invoke/MethodHandle" ∧ (mY (xtb 149)).cls ≠ "java/lang/invoke/VarHandle" := by decide +kernel
theorem cw149 : ∀ w ∈ [Cond.instanceMethod (mY (xtb 149)), Cond.selects (mY (xtb 149)).cls (mY (xtb 149)) (mY (xtb 149)), Cond.initialized (mY (xtb 149)).cls, Cond.code (mY (xtb 149)) (mC (xtb 149)) (mN (xtb 149)) (mR (xtb 149))], w ∈ xgood := List.forall_mem_cons.mpr ⟨wd1255, List.forall_mem_cons.mpr ⟨wd1256, List.forall_mem_cons.mpr ⟨wd112, List.forall_mem_cons.mpr ⟨wd1257, fun _ h => by cases h⟩⟩⟩⟩
theorem cn294 : (parseMethodDescriptor (mY (xtb 294)).desc).map (fun d => d.parameters.length) = some 4 := by decide +kernel
theorem cm294 : (mY (xtb 294)).cls ≠ "java/lang/invoke/MethodHandle" ∧ (mY (xtb 294)).cls ≠ "java/lang/invoke/VarHandle" := by decide +kernel
theorem cw294 : ∀ w ∈ [Cond.instanceMethod (mY (xtb 294)), Cond.selects (mY (xtb 294)).cls (mY (xtb 294)) (mY (xtb 294)), Cond.initialized (mY (xtb 294)).cls, Cond.code (mY (xtb 294)) (mC (xtb 294)) (mN (xtb 294)) (mR (xtb 294))], w ∈ xgood := List.forall_mem_cons.mpr ⟨wd1962, List.forall_mem_cons.mpr ⟨wd1963, List.forall_mem_cons.mpr ⟨wd123, List.forall_mem_cons.mpr ⟨wd1964, fun _ h => by cases h⟩⟩⟩⟩
theorem cn150 : (parseMethodDescriptor (mY (xtb 150)).desc).map (fun d => d.parameters.length) = some 0 := by decide +kernel
theorem cm150 : (mY (xtb 150)).cls ≠ "java/lang/invoke/MethodHandle" ∧ (mY (xtb 150)).cls ≠ "java/lang/invoke/VarHandle" := by decide +kernel
theorem cw150 : ∀ w ∈ [Cond.instanceMethod (mY (xtb 150)), Cond.selects (mY (xtb 150)).cls (mY (xtb 150)) (mY (xtb 150)), Cond.initialized (mY (xtb 150)).cls, Cond.code (mY (xtb 150)) (mC (xtb 150)) (mN (xtb 150)) (mR (xtb 150))], w ∈ xgood := List.forall_mem_cons.mpr ⟨wd1261, List.forall_mem_cons.mpr ⟨wd1262, List.forall_mem_cons.mpr ⟨wd112, List.forall_mem_cons.mpr ⟨wd1263, fun _ h => by cases h⟩⟩⟩⟩
theorem cn295 : (parseMethodDescriptor (mY (xtb 295)).desc).map (fun d => d.parameters.length) = some 0 := by decide +kernel
theorem cm295 : (mY (xtb 295)).cls ≠ "java/lang/invoke/MethodHandle" ∧ (mY (xtb 295)).cls ≠ "java/lang/invoke/VarHandle" := by decide +kernel
theorem cw295 : ∀ w ∈ [Cond.instanceMethod (mY (xtb 295)), Cond.selects (mY (xtb 295)).cls (mY (xtb 295)) (mY (xtb 295)), Cond.initialized (mY (xtb 295)).cls, Cond.code (mY (xtb 295)) (mC (xtb 295)) (mN (xtb 295)) (mR (xtb 295))], w ∈ xgood := List.forall_mem_cons.mpr ⟨wd1966, List.forall_mem_cons.mpr ⟨wd1967, List.forall_mem_cons.mpr ⟨wd123, List.forall_mem_cons.mpr ⟨wd1968, fun _ h => by cases h⟩⟩⟩⟩
theorem cn1 : (parseMethodDescriptor (mY (xtb 1)).desc).map (fun d => d.parameters.length) = some 3 := by decide +kernel
theorem cm1 : (mY (xtb 1)).cls ≠ "java/lang/invoke/MethodHandle" ∧ (mY (xtb 1)).cls ≠ "java/lang/invoke/VarHandle" := by decide +kernel
theorem cn297 : (parseMethodDescriptor (mY (xtb 297)).desc).map (fun d => d.parameters.length) = some 1 := by decide +kernel
theorem cm297 : (mY (xtb 297)).cls ≠ "java/lang/invoke/MethodHandle" ∧ (mY (xtb 297)).cls ≠ "java/lang/invoke/VarHandle" := by decide +kernel
theorem cw297 : ∀ w ∈ [Cond.instanceMethod (mY (xtb 297)), Cond.selects (mY (xtb 297)).cls (mY (xtb 297)) (mY (xtb 297)), Cond.initialized (mY (xtb 297)).cls, Cond.code (mY (xtb 297)) (mC (xtb 297)) (mN (xtb 297)) (mR (xtb 297))], w ∈ xgood := List.forall_mem_cons.mpr ⟨wd1974, List.forall_mem_cons.mpr ⟨wd1975, List.forall_mem_cons.mpr ⟨wd123, List.forall_mem_cons.mpr ⟨wd1976, fun _ h => by cases h⟩⟩⟩⟩
theorem cn171 : (parseMethodDescriptor (mY (xtb 171)).desc).map (fun d => d.parameters.length) = some 0 := by decide +kernel
theorem cm171 : (mY (xtb 171)).cls ≠ "java/lang/invoke/MethodHandle" ∧ (mY (xtb 171)).cls ≠ "java/lang/invoke/VarHandle" := by decide +kernel
theorem cw171 : ∀ w ∈ [Cond.instanceMethod (mY (xtb 171)), Cond.selects (mY (xtb 171)).cls (mY (xtb 171)) (mY (xtb 171)), Cond.initialized (mY (xtb 171)).cls, Cond.code (mY (xtb 171)) (mC (xtb 171)) (mN (xtb 171)) (mR (xtb 171))], w ∈ xgood := List.forall_mem_cons.mpr ⟨wd1465, List.forall_mem_cons.mpr ⟨wd1466, List.forall_mem_cons.mpr ⟨wd123, List.forall_mem_cons.mpr ⟨wd1467, fun _ h => by cases h⟩⟩⟩⟩
theorem cn151 : (parseMethodDescriptor (mY (xtb 151)).desc).map (fun d => d.parameters.length) = some 1 := by decide +kernel
theorem cm151 : (mY (xtb 151)).cls ≠ "java/lang/invoke/MethodHandle" ∧ (mY (xtb 151)).cls ≠ "java/lang/invoke/VarHandle" := by decide +kernel
theorem cw151 : ∀ w ∈ [Cond.instanceMethod (mY (xtb 151)), Cond.selects (mY (xtb 151)).cls (mY (xtb 151)) (mY (xtb 151)), Cond.initialized (mY (xtb 151)).cls, Cond.code (mY (xtb 151)) (mC (xtb 151)) (mN (xtb 151)) (mR (xtb 151))], w ∈ xgood := List.forall_mem_cons.mpr ⟨wd1273, List.forall_mem_cons.mpr ⟨wd1274, List.forall_mem_cons.mpr ⟨wd112, List.forall_mem_cons.mpr ⟨wd1275, fun _ h => by cases h⟩⟩⟩⟩
theorem cn299 : (parseMethodDescriptor (mY (xtb 299)).desc).map (fun d => d.parameters.length) = some 1 := by decide +kernel
theorem cm299 : (mY (xtb 299)).cls ≠ "java/lang/invoke/MethodHandle" ∧ (mY (xtb 299)).cls ≠ "java/lang/invoke/VarHandle" := by decide +kernel
theorem cw299 : ∀ w ∈ [Cond.instanceMethod (mY (xtb 299)), Cond.selects (mY (xtb 299)).cls (mY (xtb 299)) (mY (xtb 299)), Cond.initialized (mY (xtb 299)).cls, Cond.code (mY (xtb 299)) (mC (xtb 299)) (mN (xtb 299)) (mR (xtb 299))], w ∈ xgood := List.forall_mem_cons.mpr ⟨wd1982, List.forall_mem_cons.mpr ⟨wd1983, List.forall_mem_cons.mpr ⟨wd123, List.forall_mem_cons.mpr ⟨wd1984, fun _ h => by cases h⟩⟩⟩⟩
theorem cn152 : (parseMethodDescriptor (mY (xtb 152)).desc).map (fun d => d.parameters.length) = some 0 := by decide +kernel
theorem cm152 : (mY (xtb 152)).cls ≠ "java/lang/invoke/MethodHandle" ∧ (mY (xtb 152)).cls ≠ "java/lang/invoke/VarHandle" := by decide +kernel
theorem cw152 : ∀ w ∈ [Cond.instanceMethod (mY (xtb 152)), Cond.selects (mY (xtb 152)).cls (mY (xtb 152)) (mY (xtb 152)), Cond.initialized (mY (xtb 152)).cls, Cond.code (mY (xtb 152)) (mC (xtb 152)) (mN (xtb 152)) (mR (xtb 152))], w ∈ xgood := List.forall_mem_cons.mpr ⟨wd1281, List.forall_mem_cons.mpr ⟨wd1282, List.forall_mem_cons.mpr ⟨wd112, List.forall_mem_cons.mpr ⟨wd1283, fun _ h => by cases h⟩⟩⟩⟩
theorem cn300 : (parseMethodDescriptor (mY (xtb 300)).desc).map (fun d => d.parameters.length) = some 0 := by decide +kernel
theorem cm300 : (mY (xtb 300)).cls ≠ "java/lang/invoke/MethodHandle" ∧ (mY (xtb 300)).cls ≠ "java/lang/invoke/VarHandle" := by decide +kernel
theorem cw300 : ∀ w ∈ [Cond.instanceMethod (mY (xtb 300)), Cond.selects (mY (xtb 300)).cls (mY (xtb 300)) (mY (xtb 300)), Cond.initialized (mY (xtb 300)).cls, Cond.code (mY (xtb 300)) (mC (xtb 300)) (mN (xtb 300)) (mR (xtb 300))], w ∈ xgood := List.forall_mem_cons.mpr ⟨wd1990, List.forall_mem_cons.mpr ⟨wd1991, List.forall_mem_cons.mpr ⟨wd123, List.forall_mem_cons.mpr ⟨wd1992, fun _ h => by cases h⟩⟩⟩⟩
theorem cn9 : (parseMethodDescriptor (mY (xtb 9)).desc).map (fun d => d.parameters.length) = some 1 := by decide +kernel
theorem cm9 : (mY (xtb 9)).cls ≠ "java/lang/invoke/MethodHandle" ∧ (mY (xtb 9)).cls ≠ "java/lang/invoke/VarHandle" := by decide +kernel
theorem cw9 : ∀ w ∈ [Cond.instanceMethod (mY (xtb 9)), Cond.selects (mY (xtb 9)).cls (mY (xtb 9)) (mY (xtb 9)), Cond.initialized (mY (xtb 9)).cls, Cond.code (mY (xtb 9)) (mC (xtb 9)) (mN (xtb 9)) (mR (xtb 9))], w ∈ xgood := List.forall_mem_cons.mpr ⟨wd1293, List.forall_mem_cons.mpr ⟨wd1294, List.forall_mem_cons.mpr ⟨wd120, List.forall_mem_cons.mpr ⟨wd1295, fun _ h => by cases h⟩⟩⟩⟩
theorem cn5 : (parseMethodDescriptor (mY (xtb 5)).desc).map (fun d => d.parameters.length) = some 0 := by decide +kernel
theorem cm5 : (mY (xtb 5)).cls ≠ "java/lang/invoke/MethodHandle" ∧ (mY (xtb 5)).cls ≠ "java/lang/invoke/VarHandle" := by decide +kernel
theorem cw5 : ∀ w ∈ [Cond.instanceMethod (mY (xtb 5)), Cond.selects (mY (xtb 5)).cls (mY (xtb 5)) (mY (xtb 5)), Cond.initialized (mY (xtb 5)).cls, Cond.code (mY (xtb 5)) (mC (xtb 5)) (mN (xtb 5)) (mR (xtb 5))], w ∈ xgood := List.forall_mem_cons.mpr ⟨wd1229, List.forall_mem_cons.mpr ⟨wd36, List.forall_mem_cons.mpr ⟨wd122, List.forall_mem_cons.mpr ⟨wd1230, fun _ h => by cases h⟩⟩⟩⟩
theorem cn53 : (parseMethodDescriptor (mY (xtb 53)).desc).map (fun d => d.parameters.length) = some 0 := by decide +kernel
theorem cm53 : (mY (xtb 53)).cls ≠ "java/lang/invoke/MethodHandle" ∧ (mY (xtb 53)).cls ≠ "java/lang/invoke/VarHandle" := by decide +kernel
theorem cw53 : ∀ w ∈ [Cond.instanceMethod (mY (xtb 53)), Cond.initialized (mY (xtb 53)).cls, Cond.code (mY (xtb 53)) (mC (xtb 53)) (mN (xtb 53)) (mR (xtb 53))], w ∈ xgood := List.forall_mem_cons.mpr ⟨wd414, List.forall_mem_cons.mpr ⟨wd121, List.forall_mem_cons.mpr ⟨wd415, fun _ h => by cases h⟩⟩⟩
theorem cn59 : (parseMethodDescriptor (mY (xtb 59)).desc).map (fun d => d.parameters.length) = some 1 := by decide +kernel
theorem cm59 : (mY (xtb 59)).cls ≠ "java/lang/invoke/MethodHandle" ∧ (mY (xtb 59)).cls ≠ "java/lang/invoke/VarHandle" := by decide +kernel
theorem cw59 : ∀ w ∈ [Cond.instanceMethod (mY (xtb 59)), Cond.selects (mY (xtb 59)).cls (mY (xtb 59)) (mY (xtb 59)), Cond.initialized (mY (xtb 59)).cls, Cond.code (mY (xtb 59)) (mC (xtb 59)) (mN (xtb 59)) (mR (xtb 59))], w ∈ xgood := List.forall_mem_cons.mpr ⟨wd1297, List.forall_mem_cons.mpr ⟨wd1298, List.forall_mem_cons.mpr ⟨wd121, List.forall_mem_cons.mpr ⟨wd1299, fun _ h => by cases h⟩⟩⟩⟩
theorem cn58 : (parseMethodDescriptor (mY (xtb 58)).desc).map (fun d => d.parameters.length) = some 1 := by decide +kernel
theorem cm58 : (mY (xtb 58)).cls ≠ "java/lang/invoke/MethodHandle" ∧ (mY (xtb 58)).cls ≠ "java/lang/invoke/VarHandle" := by decide +kernel
theorem cw58 : ∀ w ∈ [Cond.instanceMethod (mY (xtb 58)), Cond.selects (mY (xtb 58)).cls (mY (xtb 58)) (mY (xtb 58)), Cond.initialized (mY (xtb 58)).cls, Cond.code (mY (xtb 58)) (mC (xtb 58)) (mN (xtb 58)) (mR (xtb 58))], w ∈ xgood := List.forall_mem_cons.mpr ⟨wd1082, List.forall_mem_cons.mpr ⟨wd1083, List.forall_mem_cons.mpr ⟨wd121, List.forall_mem_cons.mpr ⟨wd1084, fun _ h => by cases h⟩⟩⟩⟩
theorem cn165 : (parseMethodDescriptor (mY (xtb 165)).desc).map (fun d => d.parameters.length) = some 1 := by decide +kernel
theorem cm165 : (mY (xtb 165)).cls ≠ "java/lang/invoke/MethodHandle" ∧ (mY (xtb 165)).cls ≠ "java/lang/invoke/VarHandle" := by decide +kernel
theorem cw165 : ∀ w ∈ [Cond.static (mY (xtb 165)), Cond.initialized (mY (xtb 165)).cls, Cond.code (mY (xtb 165)) (mC (xtb 165)) (mN (xtb 165)) (mR (xtb 165))], w ∈ xgood := List.forall_mem_cons.mpr ⟨wd854, List.forall_mem_cons.mpr ⟨wd112, List.forall_mem_cons.mpr ⟨wd855, fun _ h => by cases h⟩⟩⟩
theorem cn14 : (parseMethodDescriptor (mY (xtb 14)).desc).map (fun d => d.parameters.length) = some 2 := by decide +kernel
theorem cm14 : (mY (xtb 14)).cls ≠ "java/lang/invoke/MethodHandle" ∧ (mY (xtb 14)).cls ≠ "java/lang/invoke/VarHandle" := by decide +kernel
theorem cw14 : ∀ w ∈ [Cond.instanceMethod (mY (xtb 14)), Cond.selects (mY (xtb 14)).cls (mY (xtb 14)) (mY (xtb 14)), Cond.initialized (mY (xtb 14)).cls, Cond.code (mY (xtb 14)) (mC (xtb 14)) (mN (xtb 14)) (mR (xtb 14))], w ∈ xgood := List.forall_mem_cons.mpr ⟨wd1186, List.forall_mem_cons.mpr ⟨wd1187, List.forall_mem_cons.mpr ⟨wd120, List.forall_mem_cons.mpr ⟨wd1188, fun _ h => by cases h⟩⟩⟩⟩
theorem cn15 : (parseMethodDescriptor (mY (xtb 15)).desc).map (fun d => d.parameters.length) = some 2 := by decide +kernel
theorem cm15 : (mY (xtb 15)).cls ≠ "java/lang/invoke/MethodHandle" ∧ (mY (xtb 15)).cls ≠ "java/lang/invoke/VarHandle" := by decide +kernel
theorem cw15 : ∀ w ∈ [Cond.instanceMethod (mY (xtb 15)), Cond.selects (mY (xtb 15)).cls (mY (xtb 15)) (mY (xtb 15)), Cond.initialized (mY (xtb 15)).cls, Cond.code (mY (xtb 15)) (mC (xtb 15)) (mN (xtb 15)) (mR (xtb 15))], w ∈ xgood := List.forall_mem_cons.mpr ⟨wd1198, List.forall_mem_cons.mpr ⟨wd1199, List.forall_mem_cons.mpr ⟨wd120, List.forall_mem_cons.mpr ⟨wd1200, fun _ h => by cases h⟩⟩⟩⟩
theorem cn19 : (parseMethodDescriptor (mY (xtb 19)).desc).map (fun d => d.parameters.length) = some 2 := by decide +kernel
theorem cm19 : (mY (xtb 19)).cls ≠ "java/lang/invoke/MethodHandle" ∧ (mY (xtb 19)).cls ≠ "java/lang/invoke/VarHandle" := by decide +kernel
theorem cw19 : ∀ w ∈ [Cond.instanceMethod (mY (xtb 19)), Cond.selects (mY (xtb 19)).cls (mY (xtb 19)) (mY (xtb 19)), Cond.initialized (mY (xtb 19)).cls, Cond.code (mY (xtb 19)) (mC (xtb 19)) (mN (xtb 19)) (mR (xtb 19))], w ∈ xgood := List.forall_mem_cons.mpr ⟨wd749, List.forall_mem_cons.mpr ⟨wd750, List.forall_mem_cons.mpr ⟨wd117, List.forall_mem_cons.mpr ⟨wd751, fun _ h => by cases h⟩⟩⟩⟩
theorem cn27 : (parseMethodDescriptor (mY (xtb 27)).desc).map (fun d => d.parameters.length) = some 4 := by decide +kernel
theorem cm27 : (mY (xtb 27)).cls ≠ "java/lang/invoke/MethodHandle" ∧ (mY (xtb 27)).cls ≠ "java/lang/invoke/VarHandle" := by decide +kernel
theorem cw27 : ∀ w ∈ [Cond.instanceMethod (mY (xtb 27)), Cond.selects (mY (xtb 27)).cls (mY (xtb 27)) (mY (xtb 27)), Cond.initialized (mY (xtb 27)).cls, Cond.code (mY (xtb 27)) (mC (xtb 27)) (mN (xtb 27)) (mR (xtb 27))], w ∈ xgood := List.forall_mem_cons.mpr ⟨wd900, List.forall_mem_cons.mpr ⟨wd25, List.forall_mem_cons.mpr ⟨wd117, List.forall_mem_cons.mpr ⟨wd901, fun _ h => by cases h⟩⟩⟩⟩
theorem cn29 : (parseMethodDescriptor (mY (xtb 29)).desc).map (fun d => d.parameters.length) = some 4 := by decide +kernel
theorem cm29 : (mY (xtb 29)).cls ≠ "java/lang/invoke/MethodHandle" ∧ (mY (xtb 29)).cls ≠ "java/lang/invoke/VarHandle" := by decide +kernel
theorem cw29 : ∀ w ∈ [Cond.instanceMethod (mY (xtb 29)), Cond.selects (mY (xtb 29)).cls (mY (xtb 29)) (mY (xtb 29)), Cond.initialized (mY (xtb 29)).cls, Cond.code (mY (xtb 29)) (mC (xtb 29)) (mN (xtb 29)) (mR (xtb 29))], w ∈ xgood := List.forall_mem_cons.mpr ⟨wd912, List.forall_mem_cons.mpr ⟨wd26, List.forall_mem_cons.mpr ⟨wd117, List.forall_mem_cons.mpr ⟨wd913, fun _ h => by cases h⟩⟩⟩⟩
theorem cn164 : (parseMethodDescriptor (mY (xtb 164)).desc).map (fun d => d.parameters.length) = some 3 := by decide +kernel
theorem cm164 : (mY (xtb 164)).cls ≠ "java/lang/invoke/MethodHandle" ∧ (mY (xtb 164)).cls ≠ "java/lang/invoke/VarHandle" := by decide +kernel
theorem cw164 : ∀ w ∈ [Cond.static (mY (xtb 164)), Cond.initialized (mY (xtb 164)).cls, Cond.code (mY (xtb 164)) (mC (xtb 164)) (mN (xtb 164)) (mR (xtb 164))], w ∈ xgood := List.forall_mem_cons.mpr ⟨wd567, List.forall_mem_cons.mpr ⟨wd112, List.forall_mem_cons.mpr ⟨wd568, fun _ h => by cases h⟩⟩⟩
theorem cn31 : (parseMethodDescriptor (mY (xtb 31)).desc).map (fun d => d.parameters.length) = some 3 := by decide +kernel
theorem cm31 : (mY (xtb 31)).cls ≠ "java/lang/invoke/MethodHandle" ∧ (mY (xtb 31)).cls ≠ "java/lang/invoke/VarHandle" := by decide +kernel
theorem cw31 : ∀ w ∈ [Cond.instanceMethod (mY (xtb 31)), Cond.selects (mY (xtb 31)).cls (mY (xtb 31)) (mY (xtb 31)), Cond.initialized (mY (xtb 31)).cls, Cond.code (mY (xtb 31)) (mC (xtb 31)) (mN (xtb 31)) (mR (xtb 31))], w ∈ xgood := List.forall_mem_cons.mpr ⟨wd758, List.forall_mem_cons.mpr ⟨wd759, List.forall_mem_cons.mpr ⟨wd117, List.forall_mem_cons.mpr ⟨wd760, fun _ h => by cases h⟩⟩⟩⟩
theorem cn32 : (parseMethodDescriptor (mY (xtb 32)).desc).map (fun d => d.parameters.length) = some 3 := by decide +kernel
theorem cm32 : (mY (xtb 32)).cls ≠ "java/lang/invoke/MethodHandle" ∧ (mY (xtb 32)).cls ≠ "java/lang/invoke/VarHandle" := by decide +kernel
theorem cw32 : ∀ w ∈ [Cond.instanceMethod (mY (xtb 32)), Cond.selects (mY (xtb 32)).cls (mY (xtb 32)) (mY (xtb 32)), Cond.initialized (mY (xtb 32)).cls, Cond.code (mY (xtb 32)) (mC (xtb 32)) (mN (xtb 32)) (mR (xtb 32))], w ∈ xgood := List.forall_mem_cons.mpr ⟨wd762, List.forall_mem_cons.mpr ⟨wd763, List.forall_mem_cons.mpr ⟨wd117, List.forall_mem_cons.mpr ⟨wd764, fun _ h => by cases h⟩⟩⟩⟩
theorem cn42 : (parseMethodDescriptor (mY (xtb 42)).desc).map (fun d => d.parameters.length) = some 0 := by decide +kernel
theorem cm42 : (mY (xtb 42)).cls ≠ "java/lang/invoke/MethodHandle" ∧ (mY (xtb 42)).cls ≠ "java/lang/invoke/VarHandle" := by decide +kernel
theorem cw42 : ∀ w ∈ [Cond.instanceMethod (mY (xtb 42)), Cond.initialized (mY (xtb 42)).cls, Cond.code (mY (xtb 42)) (mC (xtb 42)) (mN (xtb 42)) (mR (xtb 42))], w ∈ xgood := List.forall_mem_cons.mpr ⟨wd193, List.forall_mem_cons.mpr ⟨wd116, List.forall_mem_cons.mpr ⟨wd194, fun _ h => by cases h⟩⟩⟩
theorem cn94 : (parseMethodDescriptor (mY (xtb 94)).desc).map (fun d => d.parameters.length) = some 0 := by decide +kernel
theorem cm94 : (mY (xtb 94)).cls ≠ "java/lang/invoke/MethodHandle" ∧ (mY (xtb 94)).cls ≠ "java/lang/invoke/VarHandle" := by decide +kernel
theorem cw94 : ∀ w ∈ [Cond.instanceMethod (mY (xtb 94)), Cond.initialized (mY (xtb 94)).cls, Cond.code (mY (xtb 94)) (mC (xtb 94)) (mN (xtb 94)) (mR (xtb 94))], w ∈ xgood := List.forall_mem_cons.mpr ⟨wd280, List.forall_mem_cons.mpr ⟨wd118, List.forall_mem_cons.mpr ⟨wd281, fun _ h => by cases h⟩⟩⟩
theorem cn43 : (parseMethodDescriptor (mY (xtb 43)).desc).map (fun d => d.parameters.length) = some 2 := by decide +kernel
theorem cm43 : (mY (xtb 43)).cls ≠ "java/lang/invoke/MethodHandle" ∧ (mY (xtb 43)).cls ≠ "java/lang/invoke/VarHandle" := by decide +kernel
theorem cw43 : ∀ w ∈ [Cond.instanceMethod (mY (xtb 43)), Cond.selects (mY (xtb 43)).cls (mY (xtb 43)) (mY (xtb 43)), Cond.initialized (mY (xtb 43)).cls, Cond.code (mY (xtb 43)) (mC (xtb 43)) (mN (xtb 43)) (mR (xtb 43))], w ∈ xgood := List.forall_mem_cons.mpr ⟨wd680, List.forall_mem_cons.mpr ⟨wd681, List.forall_mem_cons.mpr ⟨wd116, List.forall_mem_cons.mpr ⟨wd682, fun _ h => by cases h⟩⟩⟩⟩
theorem cn95 : (parseMethodDescriptor (mY (xtb 95)).desc).map (fun d => d.parameters.length) = some 0 := by decide +kernel
theorem cm95 : (mY (xtb 95)).cls ≠ "java/lang/invoke/MethodHandle" ∧ (mY (xtb 95)).cls ≠ "java/lang/invoke/VarHandle" := by decide +kernel
theorem cw95 : ∀ w ∈ [Cond.instanceMethod (mY (xtb 95)), Cond.selects (mY (xtb 95)).cls (mY (xtb 95)) (mY (xtb 95)), Cond.initialized (mY (xtb 95)).cls, Cond.code (mY (xtb 95)) (mC (xtb 95)) (mN (xtb 95)) (mR (xtb 95))], w ∈ xgood := List.forall_mem_cons.mpr ⟨wd684, List.forall_mem_cons.mpr ⟨wd685, List.forall_mem_cons.mpr ⟨wd118, List.forall_mem_cons.mpr ⟨wd686, fun _ h => by cases h⟩⟩⟩⟩
theorem cn24 : (parseMethodDescriptor (mY (xtb 24)).desc).map (fun d => d.parameters.length) = some 1 := by decide +kernel
theorem cm24 : (mY (xtb 24)).cls ≠ "java/lang/invoke/MethodHandle" ∧ (mY (xtb 24)).cls ≠ "java/lang/invoke/VarHandle" := by decide +kernel
theorem cw24 : ∀ w ∈ [Cond.instanceMethod (mY (xtb 24)), Cond.selects (mY (xtb 24)).cls (mY (xtb 24)) (mY (xtb 24)), Cond.initialized (mY (xtb 24)).cls, Cond.code (mY (xtb 24)) (mC (xtb 24)) (mN (xtb 24)) (mR (xtb 24))], w ∈ xgood := List.forall_mem_cons.mpr ⟨wd971, List.forall_mem_cons.mpr ⟨wd972, List.forall_mem_cons.mpr ⟨wd117, List.forall_mem_cons.mpr ⟨wd973, fun _ h => by cases h⟩⟩⟩⟩
theorem cn104 : (parseMethodDescriptor (mY (xtb 104)).desc).map (fun d => d.parameters.length) = some 1 := by decide +kernel
theorem cm104 : (mY (xtb 104)).cls ≠ "java/lang/invoke/MethodHandle" ∧ (mY (xtb 104)).cls ≠ "java/lang/invoke/VarHandle" := by decide +kernel
theorem cw104 : ∀ w ∈ [Cond.instanceMethod (mY (xtb 104)), Cond.selects (mY (xtb 104)).cls (mY (xtb 104)) (mY (xtb 104)), Cond.initialized (mY (xtb 104)).cls, Cond.code (mY (xtb 104)) (mC (xtb 104)) (mN (xtb 104)) (mR (xtb 104))], w ∈ xgood := List.forall_mem_cons.mpr ⟨wd1110, List.forall_mem_cons.mpr ⟨wd1111, List.forall_mem_cons.mpr ⟨wd118, List.forall_mem_cons.mpr ⟨wd1112, fun _ h => by cases h⟩⟩⟩⟩
theorem cn45 : (parseMethodDescriptor (mY (xtb 45)).desc).map (fun d => d.parameters.length) = some 1 := by decide +kernel
theorem cm45 : (mY (xtb 45)).cls ≠ "java/lang/invoke/MethodHandle" ∧ (mY (xtb 45)).cls ≠ "java/lang/invoke/VarHandle" := by decide +kernel
theorem cw45 : ∀ w ∈ [Cond.instanceMethod (mY (xtb 45)), Cond.selects (mY (xtb 45)).cls (mY (xtb 45)) (mY (xtb 45)), Cond.initialized (mY (xtb 45)).cls, Cond.code (mY (xtb 45)) (mC (xtb 45)) (mN (xtb 45)) (mR (xtb 45))], w ∈ xgood := List.forall_mem_cons.mpr ⟨wd934, List.forall_mem_cons.mpr ⟨wd935, List.forall_mem_cons.mpr ⟨wd116, List.forall_mem_cons.mpr ⟨wd936, fun _ h => by cases h⟩⟩⟩⟩
theorem cn99 : (parseMethodDescriptor (mY (xtb 99)).desc).map (fun d => d.parameters.length) = some 3 := by decide +kernel
theorem cm99 : (mY (xtb 99)).cls ≠ "java/lang/invoke/MethodHandle" ∧ (mY (xtb 99)).cls ≠ "java/lang/invoke/VarHandle" := by decide +kernel
theorem cw99 : ∀ w ∈ [Cond.instanceMethod (mY (xtb 99)), Cond.selects (mY (xtb 99)).cls (mY (xtb 99)) (mY (xtb 99)), Cond.initialized (mY (xtb 99)).cls, Cond.code (mY (xtb 99)) (mC (xtb 99)) (mN (xtb 99)) (mR (xtb 99))], w ∈ xgood := List.forall_mem_cons.mpr ⟨wd1004, List.forall_mem_cons.mpr ⟨wd1005, List.forall_mem_cons.mpr ⟨wd118, List.forall_mem_cons.mpr ⟨wd1006, fun _ h => by cases h⟩⟩⟩⟩
theorem cn47 : (parseMethodDescriptor (mY (xtb 47)).desc).map (fun d => d.parameters.length) = some 2 := by decide +kernel
theorem cm47 : (mY (xtb 47)).cls ≠ "java/lang/invoke/MethodHandle" ∧ (mY (xtb 47)).cls ≠ "java/lang/invoke/VarHandle" := by decide +kernel
theorem cw47 : ∀ w ∈ [Cond.instanceMethod (mY (xtb 47)), Cond.selects (mY (xtb 47)).cls (mY (xtb 47)) (mY (xtb 47)), Cond.initialized (mY (xtb 47)).cls, Cond.code (mY (xtb 47)) (mC (xtb 47)) (mN (xtb 47)) (mR (xtb 47))], w ∈ xgood := List.forall_mem_cons.mpr ⟨wd948, List.forall_mem_cons.mpr ⟨wd949, List.forall_mem_cons.mpr ⟨wd116, List.forall_mem_cons.mpr ⟨wd950, fun _ h => by cases h⟩⟩⟩⟩
theorem cn39 : (parseMethodDescriptor (mY (xtb 39)).desc).map (fun d => d.parameters.length) = some 2 := by decide +kernel
theorem cm39 : (mY (xtb 39)).cls ≠ "java/lang/invoke/MethodHandle" ∧ (mY (xtb 39)).cls ≠ "java/lang/invoke/VarHandle" := by decide +kernel
theorem cw39 : ∀ w ∈ [Cond.instanceMethod (mY (xtb 39)), Cond.selects (mY (xtb 39)).cls (mY (xtb 39)) (mY (xtb 39)), Cond.initialized (mY (xtb 39)).cls, Cond.code (mY (xtb 39)) (mC (xtb 39)) (mN (xtb 39)) (mR (xtb 39))], w ∈ xgood := List.forall_mem_cons.mpr ⟨wd1041, List.forall_mem_cons.mpr ⟨wd1042, List.forall_mem_cons.mpr ⟨wd115, List.forall_mem_cons.mpr ⟨wd1043, fun _ h => by cases h⟩⟩⟩⟩
theorem cn102 : (parseMethodDescriptor (mY (xtb 102)).desc).map (fun d => d.parameters.length) = some 2 := by decide +kernel
theorem cm102 : (mY (xtb 102)).cls ≠ "java/lang/invoke/MethodHandle" ∧ (mY (xtb 102)).cls ≠ "java/lang/invoke/VarHandle" := by decide +kernel
theorem cw102 : ∀ w ∈ [Cond.instanceMethod (mY (xtb 102)), Cond.selects (mY (xtb 102)).cls (mY (xtb 102)) (mY (xtb 102)), Cond.initialized (mY (xtb 102)).cls, Cond.code (mY (xtb 102)) (mC (xtb 102)) (mN (xtb 102)) (mR (xtb 102))], w ∈ xgood := List.forall_mem_cons.mpr ⟨wd1026, List.forall_mem_cons.mpr ⟨wd1027, List.forall_mem_cons.mpr ⟨wd118, List.forall_mem_cons.mpr ⟨wd1028, fun _ h => by cases h⟩⟩⟩⟩
theorem cn100 : (parseMethodDescriptor (mY (xtb 100)).desc).map (fun d => d.parameters.length) = some 4 := by decide +kernel
theorem cm100 : (mY (xtb 100)).cls ≠ "java/lang/invoke/MethodHandle" ∧ (mY (xtb 100)).cls ≠ "java/lang/invoke/VarHandle" := by decide +kernel
theorem cw100 : ∀ w ∈ [Cond.instanceMethod (mY (xtb 100)), Cond.selects (mY (xtb 100)).cls (mY (xtb 100)) (mY (xtb 100)), Cond.initialized (mY (xtb 100)).cls, Cond.code (mY (xtb 100)) (mC (xtb 100)) (mN (xtb 100)) (mR (xtb 100))], w ∈ xgood := List.forall_mem_cons.mpr ⟨wd1013, List.forall_mem_cons.mpr ⟨wd1014, List.forall_mem_cons.mpr ⟨wd118, List.forall_mem_cons.mpr ⟨wd1015, fun _ h => by cases h⟩⟩⟩⟩
theorem cn55 : (parseMethodDescriptor (mY (xtb 55)).desc).map (fun d => d.parameters.length) = some 4 := by decide +kernel
theorem cm55 : (mY (xtb 55)).cls ≠ "java/lang/invoke/MethodHandle" ∧ (mY (xtb 55)).cls ≠ "java/lang/invoke/VarHandle" := by decide +kernel
theorem cw55 : ∀ w ∈ [Cond.instanceMethod (mY (xtb 55)), Cond.selects (mY (xtb 55)).cls (mY (xtb 55)) (mY (xtb 55)), Cond.initialized (mY (xtb 55)).cls, Cond.code (mY (xtb 55)) (mC (xtb 55)) (mN (xtb 55)) (mR (xtb 55))], w ∈ xgood := List.forall_mem_cons.mpr ⟨wd1078, List.forall_mem_cons.mpr ⟨wd1079, List.forall_mem_cons.mpr ⟨wd121, List.forall_mem_cons.mpr ⟨wd1080, fun _ h => by cases h⟩⟩⟩⟩
theorem cn18 : (parseMethodDescriptor (mY (xtb 18)).desc).map (fun d => d.parameters.length) = some 0 := by decide +kernel
theorem cm18 : (mY (xtb 18)).cls ≠ "java/lang/invoke/MethodHandle" ∧ (mY (xtb 18)).cls ≠ "java/lang/invoke/VarHandle" := by decide +kernel
theorem cw18 : ∀ w ∈ [Cond.instanceMethod (mY (xtb 18)), Cond.initialized (mY (xtb 18)).cls, Cond.code (mY (xtb 18)) (mC (xtb 18)) (mN (xtb 18)) (mR (xtb 18))], w ∈ xgood := List.forall_mem_cons.mpr ⟨wd199, List.forall_mem_cons.mpr ⟨wd117, List.forall_mem_cons.mpr ⟨wd200, fun _ h => by cases h⟩⟩⟩
theorem cn26 : (parseMethodDescriptor (mY (xtb 26)).desc).map (fun d => d.parameters.length) = some 3 := by decide +kernel
theorem cm26 : (mY (xtb 26)).cls ≠ "java/lang/invoke/MethodHandle" ∧ (mY (xtb 26)).cls ≠ "java/lang/invoke/VarHandle" := by decide +kernel
theorem cw26 : ∀ w ∈ [Cond.instanceMethod (mY (xtb 26)), Cond.selects (mY (xtb 26)).cls (mY (xtb 26)) (mY (xtb 26)), Cond.initialized (mY (xtb 26)).cls, Cond.code (mY (xtb 26)) (mC (xtb 26)) (mN (xtb 26)) (mR (xtb 26))], w ∈ xgood := List.forall_mem_cons.mpr ⟨wd895, List.forall_mem_cons.mpr ⟨wd896, List.forall_mem_cons.mpr ⟨wd117, List.forall_mem_cons.mpr ⟨wd897, fun _ h => by cases h⟩⟩⟩⟩
theorem cn46 : (parseMethodDescriptor (mY (xtb 46)).desc).map (fun d => d.parameters.length) = some 3 := by decide +kernel
theorem cm46 : (mY (xtb 46)).cls ≠ "java/lang/invoke/MethodHandle" ∧ (mY (xtb 46)).cls ≠ "java/lang/invoke/VarHandle" := by decide +kernel
theorem cw46 : ∀ w ∈ [Cond.instanceMethod (mY (xtb 46)), Cond.selects (mY (xtb 46)).cls (mY (xtb 46)) (mY (xtb 46)), Cond.initialized (mY (xtb 46)).cls, Cond.code (mY (xtb 46)) (mC (xtb 46)) (mN (xtb 46)) (mR (xtb 46))], w ∈ xgood := List.forall_mem_cons.mpr ⟨wd939, List.forall_mem_cons.mpr ⟨wd940, List.forall_mem_cons.mpr ⟨wd116, List.forall_mem_cons.mpr ⟨wd941, fun _ h => by cases h⟩⟩⟩⟩
theorem cn48 : (parseMethodDescriptor (mY (xtb 48)).desc).map (fun d => d.parameters.length) = some 3 := by decide +kernel
theorem cm48 : (mY (xtb 48)).cls ≠ "java/lang/invoke/MethodHandle" ∧ (mY (xtb 48)).cls ≠ "java/lang/invoke/VarHandle" := by decide +kernel
theorem cw48 : ∀ w ∈ [Cond.instanceMethod (mY (xtb 48)), Cond.selects (mY (xtb 48)).cls (mY (xtb 48)) (mY (xtb 48)), Cond.initialized (mY (xtb 48)).cls, Cond.code (mY (xtb 48)) (mC (xtb 48)) (mN (xtb 48)) (mR (xtb 48))], w ∈ xgood := List.forall_mem_cons.mpr ⟨wd966, List.forall_mem_cons.mpr ⟨wd27, List.forall_mem_cons.mpr ⟨wd116, List.forall_mem_cons.mpr ⟨wd967, fun _ h => by cases h⟩⟩⟩⟩
theorem cn56 : (parseMethodDescriptor (mY (xtb 56)).desc).map (fun d => d.parameters.length) = some 1 := by decide +kernel
theorem cm56 : (mY (xtb 56)).cls ≠ "java/lang/invoke/MethodHandle" ∧ (mY (xtb 56)).cls ≠ "java/lang/invoke/VarHandle" := by decide +kernel
theorem cw56 : ∀ w ∈ [Cond.instanceMethod (mY (xtb 56)), Cond.selects (mY (xtb 56)).cls (mY (xtb 56)) (mY (xtb 56)), Cond.initialized (mY (xtb 56)).cls, Cond.code (mY (xtb 56)) (mC (xtb 56)) (mN (xtb 56)) (mR (xtb 56))], w ∈ xgood := List.forall_mem_cons.mpr ⟨wd1090, List.forall_mem_cons.mpr ⟨wd1091, List.forall_mem_cons.mpr ⟨wd121, List.forall_mem_cons.mpr ⟨wd1092, fun _ h => by cases h⟩⟩⟩⟩
theorem cn57 : (parseMethodDescriptor (mY (xtb 57)).desc).map (fun d => d.parameters.length) = some 1 := by decide +kernel
theorem cm57 : (mY (xtb 57)).cls ≠ "java/lang/invoke/MethodHandle" ∧ (mY (xtb 57)).cls ≠ "java/lang/invoke/VarHandle" := by decide +kernel
theorem cw57 : ∀ w ∈ [Cond.instanceMethod (mY (xtb 57)), Cond.selects (mY (xtb 57)).cls (mY (xtb 57)) (mY (xtb 57)), Cond.initialized (mY (xtb 57)).cls, Cond.code (mY (xtb 57)) (mC (xtb 57)) (mN (xtb 57)) (mR (xtb 57))], w ∈ xgood := List.forall_mem_cons.mpr ⟨wd1086, List.forall_mem_cons.mpr ⟨wd1087, List.forall_mem_cons.mpr ⟨wd121, List.forall_mem_cons.mpr ⟨wd1088, fun _ h => by cases h⟩⟩⟩⟩
theorem cn63 : (parseMethodDescriptor (mY (xtb 63)).desc).map (fun d => d.parameters.length) = some 3 := by decide +kernel
theorem cm63 : (mY (xtb 63)).cls ≠ "java/lang/invoke/MethodHandle" ∧ (mY (xtb 63)).cls ≠ "java/lang/invoke/VarHandle" := by decide +kernel
theorem cw63 : ∀ w ∈ [Cond.instanceMethod (mY (xtb 63)), Cond.selects (mY (xtb 63)).cls (mY (xtb 63)) (mY (xtb 63)), Cond.initialized (mY (xtb 63)).cls, Cond.code (mY (xtb 63)) (mC (xtb 63)) (mN (xtb 63)) (mR (xtb 63))], w ∈ xgood := List.forall_mem_cons.mpr ⟨wd775, List.forall_mem_cons.mpr ⟨wd776, List.forall_mem_cons.mpr ⟨wd119, List.forall_mem_cons.mpr ⟨wd777, fun _ h => by cases h⟩⟩⟩⟩
theorem cn86 : (parseMethodDescriptor (mY (xtb 86)).desc).map (fun d => d.parameters.length) = some 0 := by decide +kernel
theorem cm86 : (mY (xtb 86)).cls ≠ "java/lang/invoke/MethodHandle" ∧ (mY (xtb 86)).cls ≠ "java/lang/invoke/VarHandle" := by decide +kernel
theorem cw86 : ∀ w ∈ [Cond.instanceMethod (mY (xtb 86)), Cond.initialized (mY (xtb 86)).cls, Cond.code (mY (xtb 86)) (mC (xtb 86)) (mN (xtb 86)) (mR (xtb 86))], w ∈ xgood := List.forall_mem_cons.mpr ⟨wd150, List.forall_mem_cons.mpr ⟨wd114, List.forall_mem_cons.mpr ⟨wd151, fun _ h => by cases h⟩⟩⟩
theorem cn34 : (parseMethodDescriptor (mY (xtb 34)).desc).map (fun d => d.parameters.length) = some 0 := by decide +kernel
theorem cm34 : (mY (xtb 34)).cls ≠ "java/lang/invoke/MethodHandle" ∧ (mY (xtb 34)).cls ≠ "java/lang/invoke/VarHandle" := by decide +kernel
theorem cw34 : ∀ w ∈ [Cond.instanceMethod (mY (xtb 34)), Cond.initialized (mY (xtb 34)).cls, Cond.code (mY (xtb 34)) (mC (xtb 34)) (mN (xtb 34)) (mR (xtb 34))], w ∈ xgood := List.forall_mem_cons.mpr ⟨wd187, List.forall_mem_cons.mpr ⟨wd115, List.forall_mem_cons.mpr ⟨wd188, fun _ h => by cases h⟩⟩⟩
theorem cn88 : (parseMethodDescriptor (mY (xtb 88)).desc).map (fun d => d.parameters.length) = some 1 := by decide +kernel
theorem cm88 : (mY (xtb 88)).cls ≠ "java/lang/invoke/MethodHandle" ∧ (mY (xtb 88)).cls ≠ "java/lang/invoke/VarHandle" := by decide +kernel
theorem cw88 : ∀ w ∈ [Cond.instanceMethod (mY (xtb 88)), Cond.selects (mY (xtb 88)).cls (mY (xtb 88)) (mY (xtb 88)), Cond.initialized (mY (xtb 88)).cls, Cond.code (mY (xtb 88)) (mC (xtb 88)) (mN (xtb 88)) (mR (xtb 88))], w ∈ xgood := List.forall_mem_cons.mpr ⟨wd578, List.forall_mem_cons.mpr ⟨wd579, List.forall_mem_cons.mpr ⟨wd114, List.forall_mem_cons.mpr ⟨wd580, fun _ h => by cases h⟩⟩⟩⟩
theorem cn71 : (parseMethodDescriptor (mY (xtb 71)).desc).map (fun d => d.parameters.length) = some 0 := by decide +kernel
theorem cm71 : (mY (xtb 71)).cls ≠ "java/lang/invoke/MethodHandle" ∧ (mY (xtb 71)).cls ≠ "java/lang/invoke/VarHandle" := by decide +kernel
theorem cw71 : ∀ w ∈ [Cond.instanceMethod (mY (xtb 71)), Cond.selects (mY (xtb 71)).cls (mY (xtb 71)) (mY (xtb 71)), Cond.initialized (mY (xtb 71)).cls, Cond.code (mY (xtb 71)) (mC (xtb 71)) (mN (xtb 71)) (mR (xtb 71))], w ∈ xgood := List.forall_mem_cons.mpr ⟨wd596, List.forall_mem_cons.mpr ⟨wd3, List.forall_mem_cons.mpr ⟨wd113, List.forall_mem_cons.mpr ⟨wd597, fun _ h => by cases h⟩⟩⟩⟩
theorem cn68 : (parseMethodDescriptor (mY (xtb 68)).desc).map (fun d => d.parameters.length) = some 0 := by decide +kernel
theorem cm68 : (mY (xtb 68)).cls ≠ "java/lang/invoke/MethodHandle" ∧ (mY (xtb 68)).cls ≠ "java/lang/invoke/VarHandle" := by decide +kernel
theorem cw68 : ∀ w ∈ [Cond.instanceMethod (mY (xtb 68)), Cond.selects (mY (xtb 68)).cls (mY (xtb 68)) (mY (xtb 68)), Cond.initialized (mY (xtb 68)).cls, Cond.code (mY (xtb 68)) (mC (xtb 68)) (mN (xtb 68)) (mR (xtb 68))], w ∈ xgood := List.forall_mem_cons.mpr ⟨wd807, List.forall_mem_cons.mpr ⟨wd19, List.forall_mem_cons.mpr ⟨wd113, List.forall_mem_cons.mpr ⟨wd808, fun _ h => by cases h⟩⟩⟩⟩
theorem cn69 : (parseMethodDescriptor (mY (xtb 69)).desc).map (fun d => d.parameters.length) = some 1 := by decide +kernel
theorem cm69 : (mY (xtb 69)).cls ≠ "java/lang/invoke/MethodHandle" ∧ (mY (xtb 69)).cls ≠ "java/lang/invoke/VarHandle" := by decide +kernel
theorem cw69 : ∀ w ∈ [Cond.instanceMethod (mY (xtb 69)), Cond.selects (mY (xtb 69)).cls (mY (xtb 69)) (mY (xtb 69)), Cond.initialized (mY (xtb 69)).cls, Cond.code (mY (xtb 69)) (mC (xtb 69)) (mN (xtb 69)) (mR (xtb 69))], w ∈ xgood := List.forall_mem_cons.mpr ⟨wd653, List.forall_mem_cons.mpr ⟨wd4, List.forall_mem_cons.mpr ⟨wd113, List.forall_mem_cons.mpr ⟨wd654, fun _ h => by cases h⟩⟩⟩⟩
theorem cn89 : (parseMethodDescriptor (mY (xtb 89)).desc).map (fun d => d.parameters.length) = some 0 := by decide +kernel
theorem cm89 : (mY (xtb 89)).cls ≠ "java/lang/invoke/MethodHandle" ∧ (mY (xtb 89)).cls ≠ "java/lang/invoke/VarHandle" := by decide +kernel
theorem cw89 : ∀ w ∈ [Cond.instanceMethod (mY (xtb 89)), Cond.selects (mY (xtb 89)).cls (mY (xtb 89)) (mY (xtb 89)), Cond.initialized (mY (xtb 89)).cls, Cond.code (mY (xtb 89)) (mC (xtb 89)) (mN (xtb 89)) (mR (xtb 89))], w ∈ xgood := List.forall_mem_cons.mpr ⟨wd582, List.forall_mem_cons.mpr ⟨wd583, List.forall_mem_cons.mpr ⟨wd114, List.forall_mem_cons.mpr ⟨wd584, fun _ h => by cases h⟩⟩⟩⟩
theorem cn70 : (parseMethodDescriptor (mY (xtb 70)).desc).map (fun d => d.parameters.length) = some 2 := by decide +kernel
theorem cm70 : (mY (xtb 70)).cls ≠ "java/lang/invoke/MethodHandle" ∧ (mY (xtb 70)).cls ≠ "java/lang/invoke/VarHandle" := by decide +kernel
theorem cw70 : ∀ w ∈ [Cond.instanceMethod (mY (xtb 70)), Cond.selects (mY (xtb 70)).cls (mY (xtb 70)) (mY (xtb 70)), Cond.initialized (mY (xtb 70)).cls, Cond.code (mY (xtb 70)) (mC (xtb 70)) (mN (xtb 70)) (mR (xtb 70))], w ∈ xgood := List.forall_mem_cons.mpr ⟨wd657, List.forall_mem_cons.mpr ⟨wd5, List.forall_mem_cons.mpr ⟨wd113, List.forall_mem_cons.mpr ⟨wd658, fun _ h => by cases h⟩⟩⟩⟩
theorem cn92 : (parseMethodDescriptor (mY (xtb 92)).desc).map (fun d => d.parameters.length) = some 1 := by decide +kernel
theorem cm92 : (mY (xtb 92)).cls ≠ "java/lang/invoke/MethodHandle" ∧ (mY (xtb 92)).cls ≠ "java/lang/invoke/VarHandle" := by decide +kernel
theorem cw92 : ∀ w ∈ [Cond.instanceMethod (mY (xtb 92)), Cond.selects (mY (xtb 92)).cls (mY (xtb 92)) (mY (xtb 92)), Cond.initialized (mY (xtb 92)).cls, Cond.code (mY (xtb 92)) (mC (xtb 92)) (mN (xtb 92)) (mR (xtb 92))], w ∈ xgood := List.forall_mem_cons.mpr ⟨wd600, List.forall_mem_cons.mpr ⟨wd601, List.forall_mem_cons.mpr ⟨wd114, List.forall_mem_cons.mpr ⟨wd602, fun _ h => by cases h⟩⟩⟩⟩
theorem cn73 : (parseMethodDescriptor (mY (xtb 73)).desc).map (fun d => d.parameters.length) = some 0 := by decide +kernel
theorem cm73 : (mY (xtb 73)).cls ≠ "java/lang/invoke/MethodHandle" ∧ (mY (xtb 73)).cls ≠ "java/lang/invoke/VarHandle" := by decide +kernel
theorem cw73 : ∀ w ∈ [Cond.instanceMethod (mY (xtb 73)), Cond.selects (mY (xtb 73)).cls (mY (xtb 73)) (mY (xtb 73)), Cond.initialized (mY (xtb 73)).cls, Cond.code (mY (xtb 73)) (mC (xtb 73)) (mN (xtb 73)) (mR (xtb 73))], w ∈ xgood := List.forall_mem_cons.mpr ⟨wd661, List.forall_mem_cons.mpr ⟨wd6, List.forall_mem_cons.mpr ⟨wd113, List.forall_mem_cons.mpr ⟨wd662, fun _ h => by cases h⟩⟩⟩⟩
theorem cn72 : (parseMethodDescriptor (mY (xtb 72)).desc).map (fun d => d.parameters.length) = some 2 := by decide +kernel
theorem cm72 : (mY (xtb 72)).cls ≠ "java/lang/invoke/MethodHandle" ∧ (mY (xtb 72)).cls ≠ "java/lang/invoke/VarHandle" := by decide +kernel
theorem cw72 : ∀ w ∈ [Cond.instanceMethod (mY (xtb 72)), Cond.selects (mY (xtb 72)).cls (mY (xtb 72)) (mY (xtb 72)), Cond.initialized (mY (xtb 72)).cls, Cond.code (mY (xtb 72)) (mC (xtb 72)) (mN (xtb 72)) (mR (xtb 72))], w ∈ xgood := List.forall_mem_cons.mpr ⟨wd690, List.forall_mem_cons.mpr ⟨wd9, List.forall_mem_cons.mpr ⟨wd113, List.forall_mem_cons.mpr ⟨wd691, fun _ h => by cases h⟩⟩⟩⟩
theorem cn74 : (parseMethodDescriptor (mY (xtb 74)).desc).map (fun d => d.parameters.length) = some 0 := by decide +kernel
theorem cm74 : (mY (xtb 74)).cls ≠ "java/lang/invoke/MethodHandle" ∧ (mY (xtb 74)).cls ≠ "java/lang/invoke/VarHandle" := by decide +kernel
theorem cw74 : ∀ w ∈ [Cond.instanceMethod (mY (xtb 74)), Cond.selects (mY (xtb 74)).cls (mY (xtb 74)) (mY (xtb 74)), Cond.initialized (mY (xtb 74)).cls, Cond.code (mY (xtb 74)) (mC (xtb 74)) (mN (xtb 74)) (mR (xtb 74))], w ∈ xgood := List.forall_mem_cons.mpr ⟨wd694, List.forall_mem_cons.mpr ⟨wd10, List.forall_mem_cons.mpr ⟨wd113, List.forall_mem_cons.mpr ⟨wd695, fun _ h => by cases h⟩⟩⟩⟩
theorem cn75 : (parseMethodDescriptor (mY (xtb 75)).desc).map (fun d => d.parameters.length) = some 0 := by decide +kernel
theorem cm75 : (mY (xtb 75)).cls ≠ "java/lang/invoke/MethodHandle" ∧ (mY (xtb 75)).cls ≠ "java/lang/invoke/VarHandle" := by decide +kernel
theorem cw75 : ∀ w ∈ [Cond.instanceMethod (mY (xtb 75)), Cond.selects (mY (xtb 75)).cls (mY (xtb 75)) (mY (xtb 75)), Cond.initialized (mY (xtb 75)).cls, Cond.code (mY (xtb 75)) (mC (xtb 75)) (mN (xtb 75)) (mR (xtb 75))], w ∈ xgood := List.forall_mem_cons.mpr ⟨wd731, List.forall_mem_cons.mpr ⟨wd13, List.forall_mem_cons.mpr ⟨wd113, List.forall_mem_cons.mpr ⟨wd732, fun _ h => by cases h⟩⟩⟩⟩
theorem cn76 : (parseMethodDescriptor (mY (xtb 76)).desc).map (fun d => d.parameters.length) = some 0 := by decide +kernel
theorem cm76 : (mY (xtb 76)).cls ≠ "java/lang/invoke/MethodHandle" ∧ (mY (xtb 76)).cls ≠ "java/lang/invoke/VarHandle" := by decide +kernel
theorem cw76 : ∀ w ∈ [Cond.instanceMethod (mY (xtb 76)), Cond.selects (mY (xtb 76)).cls (mY (xtb 76)) (mY (xtb 76)), Cond.initialized (mY (xtb 76)).cls, Cond.code (mY (xtb 76)) (mC (xtb 76)) (mN (xtb 76)) (mR (xtb 76))], w ∈ xgood := List.forall_mem_cons.mpr ⟨wd742, List.forall_mem_cons.mpr ⟨wd14, List.forall_mem_cons.mpr ⟨wd113, List.forall_mem_cons.mpr ⟨wd743, fun _ h => by cases h⟩⟩⟩⟩
theorem cn78 : (parseMethodDescriptor (mY (xtb 78)).desc).map (fun d => d.parameters.length) = some 0 := by decide +kernel
theorem cm78 : (mY (xtb 78)).cls ≠ "java/lang/invoke/MethodHandle" ∧ (mY (xtb 78)).cls ≠ "java/lang/invoke/VarHandle" := by decide +kernel
theorem cw78 : ∀ w ∈ [Cond.instanceMethod (mY (xtb 78)), Cond.selects (mY (xtb 78)).cls (mY (xtb 78)) (mY (xtb 78)), Cond.initialized (mY (xtb 78)).cls, Cond.code (mY (xtb 78)) (mC (xtb 78)) (mN (xtb 78)) (mR (xtb 78))], w ∈ xgood := List.forall_mem_cons.mpr ⟨wd768, List.forall_mem_cons.mpr ⟨wd16, List.forall_mem_cons.mpr ⟨wd113, List.forall_mem_cons.mpr ⟨wd769, fun _ h => by cases h⟩⟩⟩⟩
theorem cn79 : (parseMethodDescriptor (mY (xtb 79)).desc).map (fun d => d.parameters.length) = some 0 := by decide +kernel
theorem cm79 : (mY (xtb 79)).cls ≠ "java/lang/invoke/MethodHandle" ∧ (mY (xtb 79)).cls ≠ "java/lang/invoke/VarHandle" := by decide +kernel
theorem cw79 : ∀ w ∈ [Cond.instanceMethod (mY (xtb 79)), Cond.selects (mY (xtb 79)).cls (mY (xtb 79)) (mY (xtb 79)), Cond.initialized (mY (xtb 79)).cls, Cond.code (mY (xtb 79)) (mC (xtb 79)) (mN (xtb 79)) (mR (xtb 79))], w ∈ xgood := List.forall_mem_cons.mpr ⟨wd785, List.forall_mem_cons.mpr ⟨wd17, List.forall_mem_cons.mpr ⟨wd113, List.forall_mem_cons.mpr ⟨wd786, fun _ h => by cases h⟩⟩⟩⟩
theorem cn80 : (parseMethodDescriptor (mY (xtb 80)).desc).map (fun d => d.parameters.length) = some 0 := by decide +kernel
theorem cm80 : (mY (xtb 80)).cls ≠ "java/lang/invoke/MethodHandle" ∧ (mY (xtb 80)).cls ≠ "java/lang/invoke/VarHandle" := by decide +kernel
theorem cw80 : ∀ w ∈ [Cond.instanceMethod (mY (xtb 80)), Cond.selects (mY (xtb 80)).cls (mY (xtb 80)) (mY (xtb 80)), Cond.initialized (mY (xtb 80)).cls, Cond.code (mY (xtb 80)) (mC (xtb 80)) (mN (xtb 80)) (mR (xtb 80))], w ∈ xgood := List.forall_mem_cons.mpr ⟨wd795, List.forall_mem_cons.mpr ⟨wd18, List.forall_mem_cons.mpr ⟨wd113, List.forall_mem_cons.mpr ⟨wd796, fun _ h => by cases h⟩⟩⟩⟩
theorem cn81 : (parseMethodDescriptor (mY (xtb 81)).desc).map (fun d => d.parameters.length) = some 1 := by decide +kernel
theorem cm81 : (mY (xtb 81)).cls ≠ "java/lang/invoke/MethodHandle" ∧ (mY (xtb 81)).cls ≠ "java/lang/invoke/VarHandle" := by decide +kernel
theorem cw81 : ∀ w ∈ [Cond.instanceMethod (mY (xtb 81)), Cond.selects (mY (xtb 81)).cls (mY (xtb 81)) (mY (xtb 81)), Cond.initialized (mY (xtb 81)).cls, Cond.code (mY (xtb 81)) (mC (xtb 81)) (mN (xtb 81)) (mR (xtb 81))], w ∈ xgood := List.forall_mem_cons.mpr ⟨wd667, List.forall_mem_cons.mpr ⟨wd7, List.forall_mem_cons.mpr ⟨wd113, List.forall_mem_cons.mpr ⟨wd668, fun _ h => by cases h⟩⟩⟩⟩
theorem cn82 : (parseMethodDescriptor (mY (xtb 82)).desc).map (fun d => d.parameters.length) = some 2 := by decide +kernel
theorem cm82 : (mY (xtb 82)).cls ≠ "java/lang/invoke/MethodHandle" ∧ (mY (xtb 82)).cls ≠ "java/lang/invoke/VarHandle" := by decide +kernel
theorem cw82 : ∀ w ∈ [Cond.instanceMethod (mY (xtb 82)), Cond.selects (mY (xtb 82)).cls (mY (xtb 82)) (mY (xtb 82)), Cond.initialized (mY (xtb 82)).cls, Cond.code (mY (xtb 82)) (mC (xtb 82)) (mN (xtb 82)) (mR (xtb 82))], w ∈ xgood := List.forall_mem_cons.mpr ⟨wd671, List.forall_mem_cons.mpr ⟨wd8, List.forall_mem_cons.mpr ⟨wd113, List.forall_mem_cons.mpr ⟨wd672, fun _ h => by cases h⟩⟩⟩⟩
theorem cn35 : (parseMethodDescriptor (mY (xtb 35)).desc).map (fun d => d.parameters.length) = some 2 := by decide +kernel
theorem cm35 : (mY (xtb 35)).cls ≠ "java/lang/invoke/MethodHandle" ∧ (mY (xtb 35)).cls ≠ "java/lang/invoke/VarHandle" := by decide +kernel
theorem cw35 : ∀ w ∈ [Cond.instanceMethod (mY (xtb 35)), Cond.selects (mY (xtb 35)).cls (mY (xtb 35)) (mY (xtb 35)), Cond.initialized (mY (xtb 35)).cls, Cond.code (mY (xtb 35)) (mC (xtb 35)) (mN (xtb 35)) (mR (xtb 35))], w ∈ xgood := List.forall_mem_cons.mpr ⟨wd676, List.forall_mem_cons.mpr ⟨wd677, List.forall_mem_cons.mpr ⟨wd115, List.forall_mem_cons.mpr ⟨wd678, fun _ h => by cases h⟩⟩⟩⟩
theorem cn83 : (parseMethodDescriptor (mY (xtb 83)).desc).map (fun d => d.parameters.length) = some 0 := by decide +kernel
theorem cm83 : (mY (xtb 83)).cls ≠ "java/lang/invoke/MethodHandle" ∧ (mY (xtb 83)).cls ≠ "java/lang/invoke/VarHandle" := by decide +kernel
theorem cw83 : ∀ w ∈ [Cond.instanceMethod (mY (xtb 83)), Cond.selects (mY (xtb 83)).cls (mY (xtb 83)) (mY (xtb 83)), Cond.initialized (mY (xtb 83)).cls, Cond.code (mY (xtb 83)) (mC (xtb 83)) (mN (xtb 83)) (mR (xtb 83))], w ∈ xgood := List.forall_mem_cons.mpr ⟨wd698, List.forall_mem_cons.mpr ⟨wd11, List.forall_mem_cons.mpr ⟨wd113, List.forall_mem_cons.mpr ⟨wd699, fun _ h => by cases h⟩⟩⟩⟩
theorem cn84 : (parseMethodDescriptor (mY (xtb 84)).desc).map (fun d => d.parameters.length) = some 2 := by decide +kernel
theorem cm84 : (mY (xtb 84)).cls ≠ "java/lang/invoke/MethodHandle" ∧ (mY (xtb 84)).cls ≠ "java/lang/invoke/VarHandle" := by decide +kernel
theorem cw84 : ∀ w ∈ [Cond.instanceMethod (mY (xtb 84)), Cond.selects (mY (xtb 84)).cls (mY (xtb 84)) (mY (xtb 84)), Cond.initialized (mY (xtb 84)).cls, Cond.code (mY (xtb 84)) (mC (xtb 84)) (mN (xtb 84)) (mR (xtb 84))], w ∈ xgood := List.forall_mem_cons.mpr ⟨wd722, List.forall_mem_cons.mpr ⟨wd12, List.forall_mem_cons.mpr ⟨wd113, List.forall_mem_cons.mpr ⟨wd723, fun _ h => by cases h⟩⟩⟩⟩
theorem cn96 : (parseMethodDescriptor (mY (xtb 96)).desc).map (fun d => d.parameters.length) = some 1 := by decide +kernel
theorem cm96 : (mY (xtb 96)).cls ≠ "java/lang/invoke/MethodHandle" ∧ (mY (xtb 96)).cls ≠ "java/lang/invoke/VarHandle" := by decide +kernel
theorem cw96 : ∀ w ∈ [Cond.instanceMethod (mY (xtb 96)), Cond.selects (mY (xtb 96)).cls (mY (xtb 96)) (mY (xtb 96)), Cond.initialized (mY (xtb 96)).cls, Cond.code (mY (xtb 96)) (mC (xtb 96)) (mN (xtb 96)) (mR (xtb 96))], w ∈ xgood := List.forall_mem_cons.mpr ⟨wd725, List.forall_mem_cons.mpr ⟨wd726, List.forall_mem_cons.mpr ⟨wd118, List.forall_mem_cons.mpr ⟨wd727, fun _ h => by cases h⟩⟩⟩⟩
theorem cn44 : (parseMethodDescriptor (mY (xtb 44)).desc).map (fun d => d.parameters.length) = some 2 := by decide +kernel
theorem cm44 : (mY (xtb 44)).cls ≠ "java/lang/invoke/MethodHandle" ∧ (mY (xtb 44)).cls ≠ "java/lang/invoke/VarHandle" := by decide +kernel
theorem cw44 : ∀ w ∈ [Cond.instanceMethod (mY (xtb 44)), Cond.selects (mY (xtb 44)).cls (mY (xtb 44)) (mY (xtb 44)), Cond.initialized (mY (xtb 44)).cls, Cond.code (mY (xtb 44)) (mC (xtb 44)) (mN (xtb 44)) (mR (xtb 44))], w ∈ xgood := List.forall_mem_cons.mpr ⟨wd736, List.forall_mem_cons.mpr ⟨wd737, List.forall_mem_cons.mpr ⟨wd116, List.forall_mem_cons.mpr ⟨wd738, fun _ h => by cases h⟩⟩⟩⟩
theorem cn20 : (parseMethodDescriptor (mY (xtb 20)).desc).map (fun d => d.parameters.length) = some 1 := by decide +kernel
theorem cm20 : (mY (xtb 20)).cls ≠ "java/lang/invoke/MethodHandle" ∧ (mY (xtb 20)).cls ≠ "java/lang/invoke/VarHandle" := by decide +kernel
theorem cw20 : ∀ w ∈ [Cond.instanceMethod (mY (xtb 20)), Cond.selects (mY (xtb 20)).cls (mY (xtb 20)) (mY (xtb 20)), Cond.initialized (mY (xtb 20)).cls, Cond.code (mY (xtb 20)) (mC (xtb 20)) (mN (xtb 20)) (mR (xtb 20))], w ∈ xgood := List.forall_mem_cons.mpr ⟨wd745, List.forall_mem_cons.mpr ⟨wd746, List.forall_mem_cons.mpr ⟨wd117, List.forall_mem_cons.mpr ⟨wd747, fun _ h => by cases h⟩⟩⟩⟩
theorem cn77 : (parseMethodDescriptor (mY (xtb 77)).desc).map (fun d => d.parameters.length) = some 1 := by decide +kernel
theorem cm77 : (mY (xtb 77)).cls ≠ "java/lang/invoke/MethodHandle" ∧ (mY (xtb 77)).cls ≠ "java/lang/invoke/VarHandle" := by decide +kernel
theorem cw77 : ∀ w ∈ [Cond.instanceMethod (mY (xtb 77)), Cond.selects (mY (xtb 77)).cls (mY (xtb 77)) (mY (xtb 77)), Cond.initialized (mY (xtb 77)).cls, Cond.code (mY (xtb 77)) (mC (xtb 77)) (mN (xtb 77)) (mR (xtb 77))], w ∈ xgood := List.forall_mem_cons.mpr ⟨wd755, List.forall_mem_cons.mpr ⟨wd15, List.forall_mem_cons.mpr ⟨wd113, List.forall_mem_cons.mpr ⟨wd756, fun _ h => by cases h⟩⟩⟩⟩
theorem cn64 : (parseMethodDescriptor (mY (xtb 64)).desc).map (fun d => d.parameters.length) = some 2 := by decide +kernel
theorem cm64 : (mY (xtb 64)).cls ≠ "java/lang/invoke/MethodHandle" ∧ (mY (xtb 64)).cls ≠ "java/lang/invoke/VarHandle" := by decide +kernel
theorem cw64 : ∀ w ∈ [Cond.instanceMethod (mY (xtb 64)), Cond.selects (mY (xtb 64)).cls (mY (xtb 64)) (mY (xtb 64)), Cond.initialized (mY (xtb 64)).cls, Cond.code (mY (xtb 64)) (mC (xtb 64)) (mN (xtb 64)) (mR (xtb 64))], w ∈ xgood := List.forall_mem_cons.mpr ⟨wd771, List.forall_mem_cons.mpr ⟨wd772, List.forall_mem_cons.mpr ⟨wd119, List.forall_mem_cons.mpr ⟨wd773, fun _ h => by cases h⟩⟩⟩⟩
theorem cn65 : (parseMethodDescriptor (mY (xtb 65)).desc).map (fun d => d.parameters.length) = some 4 := by decide +kernel
theorem cm65 : (mY (xtb 65)).cls ≠ "java/lang/invoke/MethodHandle" ∧ (mY (xtb 65)).cls ≠ "java/lang/invoke/VarHandle" := by decide +kernel
theorem cw65 : ∀ w ∈ [Cond.instanceMethod (mY (xtb 65)), Cond.selects (mY (xtb 65)).cls (mY (xtb 65)) (mY (xtb 65)), Cond.initialized (mY (xtb 65)).cls, Cond.code (mY (xtb 65)) (mC (xtb 65)) (mN (xtb 65)) (mR (xtb 65))], w ∈ xgood := List.forall_mem_cons.mpr ⟨wd779, List.forall_mem_cons.mpr ⟨wd780, List.forall_mem_cons.mpr ⟨wd119, List.forall_mem_cons.mpr ⟨wd781, fun _ h => by cases h⟩⟩⟩⟩
theorem cn97 : (parseMethodDescriptor (mY (xtb 97)).desc).map (fun d => d.parameters.length) = some 5 := by decide +kernel
theorem cm97 : (mY (xtb 97)).cls ≠ "java/lang/invoke/MethodHandle" ∧ (mY (xtb 97)).cls ≠ "java/lang/invoke/VarHandle" := by decide +kernel
theorem cw97 : ∀ w ∈ [Cond.instanceMethod (mY (xtb 97)), Cond.selects (mY (xtb 97)).cls (mY (xtb 97)) (mY (xtb 97)), Cond.initialized (mY (xtb 97)).cls, Cond.code (mY (xtb 97)) (mC (xtb 97)) (mN (xtb 97)) (mR (xtb 97))], w ∈ xgood := List.forall_mem_cons.mpr ⟨wd789, List.forall_mem_cons.mpr ⟨wd790, List.forall_mem_cons.mpr ⟨wd118, List.forall_mem_cons.mpr ⟨wd791, fun _ h => by cases h⟩⟩⟩⟩
theorem cn103 : (parseMethodDescriptor (mY (xtb 103)).desc).map (fun d => d.parameters.length) = some 2 := by decide +kernel
theorem cm103 : (mY (xtb 103)).cls ≠ "java/lang/invoke/MethodHandle" ∧ (mY (xtb 103)).cls ≠ "java/lang/invoke/VarHandle" := by decide +kernel
theorem cw103 : ∀ w ∈ [Cond.instanceMethod (mY (xtb 103)), Cond.selects (mY (xtb 103)).cls (mY (xtb 103)) (mY (xtb 103)), Cond.initialized (mY (xtb 103)).cls, Cond.code (mY (xtb 103)) (mC (xtb 103)) (mN (xtb 103)) (mR (xtb 103))], w ∈ xgood := List.forall_mem_cons.mpr ⟨wd798, List.forall_mem_cons.mpr ⟨wd799, List.forall_mem_cons.mpr ⟨wd118, List.forall_mem_cons.mpr ⟨wd800, fun _ h => by cases h⟩⟩⟩⟩
theorem cn98 : (parseMethodDescriptor (mY (xtb 98)).desc).map (fun d => d.parameters.length) = some 3 := by decide +kernel
theorem cm98 : (mY (xtb 98)).cls ≠ "java/lang/invoke/MethodHandle" ∧ (mY (xtb 98)).cls ≠ "java/lang/invoke/VarHandle" := by decide +kernel
theorem cw98 : ∀ w ∈ [Cond.instanceMethod (mY (xtb 98)), Cond.selects (mY (xtb 98)).cls (mY (xtb 98)) (mY (xtb 98)), Cond.initialized (mY (xtb 98)).cls, Cond.code (mY (xtb 98)) (mC (xtb 98)) (mN (xtb 98)) (mR (xtb 98))], w ∈ xgood := List.forall_mem_cons.mpr ⟨wd802, List.forall_mem_cons.mpr ⟨wd803, List.forall_mem_cons.mpr ⟨wd118, List.forall_mem_cons.mpr ⟨wd804, fun _ h => by cases h⟩⟩⟩⟩
theorem cn93 : (parseMethodDescriptor (mY (xtb 93)).desc).map (fun d => d.parameters.length) = some 0 := by decide +kernel
theorem cm93 : (mY (xtb 93)).cls ≠ "java/lang/invoke/MethodHandle" ∧ (mY (xtb 93)).cls ≠ "java/lang/invoke/VarHandle" := by decide +kernel
theorem cw93 : ∀ w ∈ [Cond.instanceMethod (mY (xtb 93)), Cond.selects (mY (xtb 93)).cls (mY (xtb 93)) (mY (xtb 93)), Cond.initialized (mY (xtb 93)).cls, Cond.code (mY (xtb 93)) (mC (xtb 93)) (mN (xtb 93)) (mR (xtb 93))], w ∈ xgood := List.forall_mem_cons.mpr ⟨wd701, List.forall_mem_cons.mpr ⟨wd702, List.forall_mem_cons.mpr ⟨wd114, List.forall_mem_cons.mpr ⟨wd703, fun _ h => by cases h⟩⟩⟩⟩
theorem cn85 : (parseMethodDescriptor (mY (xtb 85)).desc).map (fun d => d.parameters.length) = some 3 := by decide +kernel
theorem cm85 : (mY (xtb 85)).cls ≠ "java/lang/invoke/MethodHandle" ∧ (mY (xtb 85)).cls ≠ "java/lang/invoke/VarHandle" := by decide +kernel
theorem cw85 : ∀ w ∈ [Cond.static (mY (xtb 85)), Cond.initialized (mY (xtb 85)).cls, Cond.code (mY (xtb 85)) (mC (xtb 85)) (mN (xtb 85)) (mR (xtb 85))], w ∈ xgood := List.forall_mem_cons.mpr ⟨wd717, List.forall_mem_cons.mpr ⟨wd113, List.forall_mem_cons.mpr ⟨wd718, fun _ h => by cases h⟩⟩⟩
theorem cn90 : (parseMethodDescriptor (mY (xtb 90)).desc).map (fun d => d.parameters.length) = some 0 := by decide +kernel
theorem cm90 : (mY (xtb 90)).cls ≠ "java/lang/invoke/MethodHandle" ∧ (mY (xtb 90)).cls ≠ "java/lang/invoke/VarHandle" := by decide +kernel
theorem cw90 : ∀ w ∈ [Cond.instanceMethod (mY (xtb 90)), Cond.selects (mY (xtb 90)).cls (mY (xtb 90)) (mY (xtb 90)), Cond.initialized (mY (xtb 90)).cls, Cond.code (mY (xtb 90)) (mC (xtb 90)) (mN (xtb 90)) (mR (xtb 90))], w ∈ xgood := List.forall_mem_cons.mpr ⟨wd587, List.forall_mem_cons.mpr ⟨wd1, List.forall_mem_cons.mpr ⟨wd114, List.forall_mem_cons.mpr ⟨wd588, fun _ h => by cases h⟩⟩⟩⟩
theorem cn91 : (parseMethodDescriptor (mY (xtb 91)).desc).map (fun d => d.parameters.length) = some 0 := by decide +kernel
theorem cm91 : (mY (xtb 91)).cls ≠ "java/lang/invoke/MethodHandle" ∧ (mY (xtb 91)).cls ≠ "java/lang/invoke/VarHandle" := by decide +kernel
theorem cw91 : ∀ w ∈ [Cond.instanceMethod (mY (xtb 91)), Cond.selects (mY (xtb 91)).cls (mY (xtb 91)) (mY (xtb 91)), Cond.initialized (mY (xtb 91)).cls, Cond.code (mY (xtb 91)) (mC (xtb 91)) (mN (xtb 91)) (mR (xtb 91))], w ∈ xgood := List.forall_mem_cons.mpr ⟨wd592, List.forall_mem_cons.mpr ⟨wd2, List.forall_mem_cons.mpr ⟨wd114, List.forall_mem_cons.mpr ⟨wd593, fun _ h => by cases h⟩⟩⟩⟩
theorem cn62 : (parseMethodDescriptor (mY (xtb 62)).desc).map (fun d => d.parameters.length) = some 0 := by decide +kernel
theorem cm62 : (mY (xtb 62)).cls ≠ "java/lang/invoke/MethodHandle" ∧ (mY (xtb 62)).cls ≠ "java/lang/invoke/VarHandle" := by decide +kernel
theorem cw62 : ∀ w ∈ [Cond.instanceMethod (mY (xtb 62)), Cond.initialized (mY (xtb 62)).cls, Cond.code (mY (xtb 62)) (mC (xtb 62)) (mN (xtb 62)) (mR (xtb 62))], w ∈ xgood := List.forall_mem_cons.mpr ⟨wd286, List.forall_mem_cons.mpr ⟨wd119, List.forall_mem_cons.mpr ⟨wd287, fun _ h => by cases h⟩⟩⟩
theorem cn101 : (parseMethodDescriptor (mY (xtb 101)).desc).map (fun d => d.parameters.length) = some 2 := by decide +kernel
theorem cm101 : (mY (xtb 101)).cls ≠ "java/lang/invoke/MethodHandle" ∧ (mY (xtb 101)).cls ≠ "java/lang/invoke/VarHandle" := by decide +kernel
theorem cw101 : ∀ w ∈ [Cond.instanceMethod (mY (xtb 101)), Cond.selects (mY (xtb 101)).cls (mY (xtb 101)) (mY (xtb 101)), Cond.initialized (mY (xtb 101)).cls, Cond.code (mY (xtb 101)) (mC (xtb 101)) (mN (xtb 101)) (mR (xtb 101))], w ∈ xgood := List.forall_mem_cons.mpr ⟨wd1019, List.forall_mem_cons.mpr ⟨wd28, List.forall_mem_cons.mpr ⟨wd118, List.forall_mem_cons.mpr ⟨wd1020, fun _ h => by cases h⟩⟩⟩⟩
theorem cn105 : (parseMethodDescriptor (mY (xtb 105)).desc).map (fun d => d.parameters.length) = some 3 := by decide +kernel
theorem cm105 : (mY (xtb 105)).cls ≠ "java/lang/invoke/MethodHandle" ∧ (mY (xtb 105)).cls ≠ "java/lang/invoke/VarHandle" := by decide +kernel
theorem cw105 : ∀ w ∈ [Cond.static (mY (xtb 105)), Cond.initialized (mY (xtb 105)).cls, Cond.code (mY (xtb 105)) (mC (xtb 105)) (mN (xtb 105)) (mR (xtb 105))], w ∈ xgood := List.forall_mem_cons.mpr ⟨wd1114, List.forall_mem_cons.mpr ⟨wd118, List.forall_mem_cons.mpr ⟨wd1115, fun _ h => by cases h⟩⟩⟩
theorem cn66 : (parseMethodDescriptor (mY (xtb 66)).desc).map (fun d => d.parameters.length) = some 0 := by decide +kernel
theorem cm66 : (mY (xtb 66)).cls ≠ "java/lang/invoke/MethodHandle" ∧ (mY (xtb 66)).cls ≠ "java/lang/invoke/VarHandle" := by decide +kernel
theorem cw66 : ∀ w ∈ [Cond.instanceMethod (mY (xtb 66)), Cond.initialized (mY (xtb 66)).cls, Cond.code (mY (xtb 66)) (mC (xtb 66)) (mN (xtb 66)) (mR (xtb 66))], w ∈ xgood := List.forall_mem_cons.mpr ⟨wd144, List.forall_mem_cons.mpr ⟨wd113, List.forall_mem_cons.mpr ⟨wd145, fun _ h => by cases h⟩⟩⟩
theorem cn6 : (parseMethodDescriptor (mY (xtb 6)).desc).map (fun d => d.parameters.length) = some 0 := by decide +kernel
theorem cm6 : (mY (xtb 6)).cls ≠ "java/lang/invoke/MethodHandle" ∧ (mY (xtb 6)).cls ≠ "java/lang/invoke/VarHandle" := by decide +kernel
theorem cw6 : ∀ w ∈ [Cond.instanceMethod (mY (xtb 6)), Cond.initialized (mY (xtb 6)).cls, Cond.code (mY (xtb 6)) (mC (xtb 6)) (mN (xtb 6)) (mR (xtb 6))], w ∈ xgood := List.forall_mem_cons.mpr ⟨wd407, List.forall_mem_cons.mpr ⟨wd120, List.forall_mem_cons.mpr ⟨wd408, fun _ h => by cases h⟩⟩⟩
theorem cn3 : (parseMethodDescriptor (mY (xtb 3)).desc).map (fun d => d.parameters.length) = some 0 := by decide +kernel
theorem cm3 : (mY (xtb 3)).cls ≠ "java/lang/invoke/MethodHandle" ∧ (mY (xtb 3)).cls ≠ "java/lang/invoke/VarHandle" := by decide +kernel
theorem cw3 : ∀ w ∈ [Cond.instanceMethod (mY (xtb 3)), Cond.initialized (mY (xtb 3)).cls, Cond.code (mY (xtb 3)) (mC (xtb 3)) (mN (xtb 3)) (mR (xtb 3))], w ∈ xgood := List.forall_mem_cons.mpr ⟨wd510, List.forall_mem_cons.mpr ⟨wd122, List.forall_mem_cons.mpr ⟨wd511, fun _ h => by cases h⟩⟩⟩
theorem cn87 : (parseMethodDescriptor (mY (xtb 87)).desc).map (fun d => d.parameters.length) = some 1 := by decide +kernel
theorem cm87 : (mY (xtb 87)).cls ≠ "java/lang/invoke/MethodHandle" ∧ (mY (xtb 87)).cls ≠ "java/lang/invoke/VarHandle" := by decide +kernel
theorem cw87 : ∀ w ∈ [Cond.instanceMethod (mY (xtb 87)), Cond.selects (mY (xtb 87)).cls (mY (xtb 87)) (mY (xtb 87)), Cond.initialized (mY (xtb 87)).cls, Cond.code (mY (xtb 87)) (mC (xtb 87)) (mN (xtb 87)) (mR (xtb 87))], w ∈ xgood := List.forall_mem_cons.mpr ⟨wd559, List.forall_mem_cons.mpr ⟨wd560, List.forall_mem_cons.mpr ⟨wd114, List.forall_mem_cons.mpr ⟨wd561, fun _ h => by cases h⟩⟩⟩⟩
theorem cn154 : (parseMethodDescriptor (mY (xtb 154)).desc).map (fun d => d.parameters.length) = some 1 := by decide +kernel
theorem cm154 : (mY (xtb 154)).cls ≠ "java/lang/invoke/MethodHandle" ∧ (mY (xtb 154)).cls ≠ "java/lang/invoke/VarHandle" := by decide +kernel
theorem cw154 : ∀ w ∈ [Cond.instanceMethod (mY (xtb 154)), Cond.selects (mY (xtb 154)).cls (mY (xtb 154)) (mY (xtb 154)), Cond.initialized (mY (xtb 154)).cls, Cond.code (mY (xtb 154)) (mC (xtb 154)) (mN (xtb 154)) (mR (xtb 154))], w ∈ xgood := List.forall_mem_cons.mpr ⟨wd571, List.forall_mem_cons.mpr ⟨wd0, List.forall_mem_cons.mpr ⟨wd112, List.forall_mem_cons.mpr ⟨wd572, fun _ h => by cases h⟩⟩⟩⟩
theorem cn67 : (parseMethodDescriptor (mY (xtb 67)).desc).map (fun d => d.parameters.length) = some 1 := by decide +kernel
theorem cm67 : (mY (xtb 67)).cls ≠ "java/lang/invoke/MethodHandle" ∧ (mY (xtb 67)).cls ≠ "java/lang/invoke/VarHandle" := by decide +kernel
theorem cw67 : ∀ w ∈ [Cond.instanceMethod (mY (xtb 67)), Cond.selects (mY (xtb 67)).cls (mY (xtb 67)) (mY (xtb 67)), Cond.initialized (mY (xtb 67)).cls, Cond.code (mY (xtb 67)) (mC (xtb 67)) (mN (xtb 67)) (mR (xtb 67))], w ∈ xgood := List.forall_mem_cons.mpr ⟨wd574, List.forall_mem_cons.mpr ⟨wd575, List.forall_mem_cons.mpr ⟨wd113, List.forall_mem_cons.mpr ⟨wd576, fun _ h => by cases h⟩⟩⟩⟩
theorem cn7 : (parseMethodDescriptor (mY (xtb 7)).desc).map (fun d => d.parameters.length) = some 0 := by decide +kernel
theorem cm7 : (mY (xtb 7)).cls ≠ "java/lang/invoke/MethodHandle" ∧ (mY (xtb 7)).cls ≠ "java/lang/invoke/VarHandle" := by decide +kernel
theorem cw7 : ∀ w ∈ [Cond.instanceMethod (mY (xtb 7)), Cond.selects (mY (xtb 7)).cls (mY (xtb 7)) (mY (xtb 7)), Cond.initialized (mY (xtb 7)).cls, Cond.code (mY (xtb 7)) (mC (xtb 7)) (mN (xtb 7)) (mR (xtb 7))], w ∈ xgood := List.forall_mem_cons.mpr ⟨wd810, List.forall_mem_cons.mpr ⟨wd811, List.forall_mem_cons.mpr ⟨wd120, List.forall_mem_cons.mpr ⟨wd812, fun _ h => by cases h⟩⟩⟩⟩
theorem cn153 : (parseMethodDescriptor (mY (xtb 153)).desc).map (fun d => d.parameters.length) = some 1 := by decide +kernel
theorem cm153 : (mY (xtb 153)).cls ≠ "java/lang/invoke/MethodHandle" ∧ (mY (xtb 153)).cls ≠ "java/lang/invoke/VarHandle" := by decide +kernel
theorem cw153 : ∀ w ∈ [Cond.instanceMethod (mY (xtb 153)), Cond.selects (mY (xtb 153)).cls (mY (xtb 153)) (mY (xtb 153)), Cond.initialized (mY (xtb 153)).cls, Cond.code (mY (xtb 153)) (mC (xtb 153)) (mN (xtb 153)) (mR (xtb 153))], w ∈ xgood := List.forall_mem_cons.mpr ⟨wd815, List.forall_mem_cons.mpr ⟨wd20, List.forall_mem_cons.mpr ⟨wd112, List.forall_mem_cons.mpr ⟨wd816, fun _ h => by cases h⟩⟩⟩⟩
theorem cn36 : (parseMethodDescriptor (mY (xtb 36)).desc).map (fun d => d.parameters.length) = some 1 := by decide +kernel
theorem cm36 : (mY (xtb 36)).cls ≠ "java/lang/invoke/MethodHandle" ∧ (mY (xtb 36)).cls ≠ "java/lang/invoke/VarHandle" := by decide +kernel
theorem cw36 : ∀ w ∈ [Cond.instanceMethod (mY (xtb 36)), Cond.selects (mY (xtb 36)).cls (mY (xtb 36)) (mY (xtb 36)), Cond.initialized (mY (xtb 36)).cls, Cond.code (mY (xtb 36)) (mC (xtb 36)) (mN (xtb 36)) (mR (xtb 36))], w ∈ xgood := List.forall_mem_cons.mpr ⟨wd830, List.forall_mem_cons.mpr ⟨wd831, List.forall_mem_cons.mpr ⟨wd115, List.forall_mem_cons.mpr ⟨wd832, fun _ h => by cases h⟩⟩⟩⟩
theorem cn158 : (parseMethodDescriptor (mY (xtb 158)).desc).map (fun d => d.parameters.length) = some 1 := by decide +kernel
theorem cm158 : (mY (xtb 158)).cls ≠ "java/lang/invoke/MethodHandle" ∧ (mY (xtb 158)).cls ≠ "java/lang/invoke/VarHandle" := by decide +kernel
theorem cw158 : ∀ w ∈ [Cond.instanceMethod (mY (xtb 158)), Cond.selects (mY (xtb 158)).cls (mY (xtb 158)) (mY (xtb 158)), Cond.initialized (mY (xtb 158)).cls, Cond.code (mY (xtb 158)) (mC (xtb 158)) (mN (xtb 158)) (mR (xtb 158))], w ∈ xgood := List.forall_mem_cons.mpr ⟨wd839, List.forall_mem_cons.mpr ⟨wd21, List.forall_mem_cons.mpr ⟨wd112, List.forall_mem_cons.mpr ⟨wd840, fun _ h => by cases h⟩⟩⟩⟩
theorem cn156 : (parseMethodDescriptor (mY (xtb 156)).desc).map (fun d => d.parameters.length) = some 1 := by decide +kernel
theorem cm156 : (mY (xtb 156)).cls ≠ "java/lang/invoke/MethodHandle" ∧ (mY (xtb 156)).cls ≠ "java/lang/invoke/VarHandle" := by decide +kernel
theorem cw156 : ∀ w ∈ [Cond.instanceMethod (mY (xtb 156)), Cond.selects (mY (xtb 156)).cls (mY (xtb 156)) (mY (xtb 156)), Cond.initialized (mY (xtb 156)).cls, Cond.code (mY (xtb 156)) (mC (xtb 156)) (mN (xtb 156)) (mR (xtb 156))], w ∈ xgood := List.forall_mem_cons.mpr ⟨wd847, List.forall_mem_cons.mpr ⟨wd22, List.forall_mem_cons.mpr ⟨wd112, List.forall_mem_cons.mpr ⟨wd848, fun _ h => by cases h⟩⟩⟩⟩
theorem cn21 : (parseMethodDescriptor (mY (xtb 21)).desc).map (fun d => d.parameters.length) = some 1 := by decide +kernel
theorem cm21 : (mY (xtb 21)).cls ≠ "java/lang/invoke/MethodHandle" ∧ (mY (xtb 21)).cls ≠ "java/lang/invoke/VarHandle" := by decide +kernel
theorem cw21 : ∀ w ∈ [Cond.instanceMethod (mY (xtb 21)), Cond.selects (mY (xtb 21)).cls (mY (xtb 21)) (mY (xtb 21)), Cond.initialized (mY (xtb 21)).cls, Cond.code (mY (xtb 21)) (mC (xtb 21)) (mN (xtb 21)) (mR (xtb 21))], w ∈ xgood := List.forall_mem_cons.mpr ⟨wd850, List.forall_mem_cons.mpr ⟨wd851, List.forall_mem_cons.mpr ⟨wd117, List.forall_mem_cons.mpr ⟨wd852, fun _ h => by cases h⟩⟩⟩⟩
theorem cn163 : (parseMethodDescriptor (mY (xtb 163)).desc).map (fun d => d.parameters.length) = some 1 := by decide +kernel
theorem cm163 : (mY (xtb 163)).cls ≠ "java/lang/invoke/MethodHandle" ∧ (mY (xtb 163)).cls ≠ "java/lang/invoke/VarHandle" := by decide +kernel
theorem cw163 : ∀ w ∈ [Cond.static (mY (xtb 163)), Cond.initialized (mY (xtb 163)).cls, Cond.code (mY (xtb 163)) (mC (xtb 163)) (mN (xtb 163)) (mR (xtb 163))], w ∈ xgood := List.forall_mem_cons.mpr ⟨wd862, List.forall_mem_cons.mpr ⟨wd112, List.forall_mem_cons.mpr ⟨wd863, fun _ h => by cases h⟩⟩⟩
theorem cn22 : (parseMethodDescriptor (mY (xtb 22)).desc).map (fun d => d.parameters.length) = some 2 := by decide +kernel
theorem cm22 : (mY (xtb 22)).cls ≠ "java/lang/invoke/MethodHandle" ∧ (mY (xtb 22)).cls ≠ "java/lang/invoke/VarHandle" := by decide +kernel
theorem cw22 : ∀ w ∈ [Cond.instanceMethod (mY (xtb 22)), Cond.selects (mY (xtb 22)).cls (mY (xtb 22)) (mY (xtb 22)), Cond.initialized (mY (xtb 22)).cls, Cond.code (mY (xtb 22)) (mC (xtb 22)) (mN (xtb 22)) (mR (xtb 22))], w ∈ xgood := List.forall_mem_cons.mpr ⟨wd865, List.forall_mem_cons.mpr ⟨wd866, List.forall_mem_cons.mpr ⟨wd117, List.forall_mem_cons.mpr ⟨wd867, fun _ h => by cases h⟩⟩⟩⟩
theorem cn155 : (parseMethodDescriptor (mY (xtb 155)).desc).map (fun d => d.parameters.length) = some 1 := by decide +kernel
theorem cm155 : (mY (xtb 155)).cls ≠ "java/lang/invoke/MethodHandle" ∧ (mY (xtb 155)).cls ≠ "java/lang/invoke/VarHandle" := by decide +kernel
theorem cw155 : ∀ w ∈ [Cond.instanceMethod (mY (xtb 155)), Cond.selects (mY (xtb 155)).cls (mY (xtb 155)) (mY (xtb 155)), Cond.initialized (mY (xtb 155)).cls, Cond.code (mY (xtb 155)) (mC (xtb 155)) (mN (xtb 155)) (mR (xtb 155))], w ∈ xgood := List.forall_mem_cons.mpr ⟨wd879, List.forall_mem_cons.mpr ⟨wd23, List.forall_mem_cons.mpr ⟨wd112, List.forall_mem_cons.mpr ⟨wd880, fun _ h => by cases h⟩⟩⟩⟩
theorem cn25 : (parseMethodDescriptor (mY (xtb 25)).desc).map (fun d => d.parameters.length) = some 1 := by decide +kernel
theorem cm25 : (mY (xtb 25)).cls ≠ "java/lang/invoke/MethodHandle" ∧ (mY (xtb 25)).cls ≠ "java/lang/invoke/VarHandle" := by decide +kernel
theorem cw25 : ∀ w ∈ [Cond.instanceMethod (mY (xtb 25)), Cond.selects (mY (xtb 25)).cls (mY (xtb 25)) (mY (xtb 25)), Cond.initialized (mY (xtb 25)).cls, Cond.code (mY (xtb 25)) (mC (xtb 25)) (mN (xtb 25)) (mR (xtb 25))], w ∈ xgood := List.forall_mem_cons.mpr ⟨wd883, List.forall_mem_cons.mpr ⟨wd884, List.forall_mem_cons.mpr ⟨wd117, List.forall_mem_cons.mpr ⟨wd885, fun _ h => by cases h⟩⟩⟩⟩
theorem cn161 : (parseMethodDescriptor (mY (xtb 161)).desc).map (fun d => d.parameters.length) = some 2 := by decide +kernel
theorem cm161 : (mY (xtb 161)).cls ≠ "java/lang/invoke/MethodHandle" ∧ (mY (xtb 161)).cls ≠ "java/lang/invoke/VarHandle" := by decide +kernel
theorem cw161 : ∀ w ∈ [Cond.instanceMethod (mY (xtb 161)), Cond.selects (mY (xtb 161)).cls (mY (xtb 161)) (mY (xtb 161)), Cond.initialized (mY (xtb 161)).cls, Cond.code (mY (xtb 161)) (mC (xtb 161)) (mN (xtb 161)) (mR (xtb 161))], w ∈ xgood := List.forall_mem_cons.mpr ⟨wd892, List.forall_mem_cons.mpr ⟨wd24, List.forall_mem_cons.mpr ⟨wd112, List.forall_mem_cons.mpr ⟨wd893, fun _ h => by cases h⟩⟩⟩⟩
theorem cn28 : (parseMethodDescriptor (mY (xtb 28)).desc).map (fun d => d.parameters.length) = some 3 := by decide +kernel
theorem cm28 : (mY (xtb 28)).cls ≠ "java/lang/invoke/MethodHandle" ∧ (mY (xtb 28)).cls ≠ "java/lang/invoke/VarHandle" := by decide +kernel
theorem cw28 : ∀ w ∈ [Cond.instanceMethod (mY (xtb 28)), Cond.selects (mY (xtb 28)).cls (mY (xtb 28)) (mY (xtb 28)), Cond.initialized (mY (xtb 28)).cls, Cond.code (mY (xtb 28)) (mC (xtb 28)) (mN (xtb 28)) (mR (xtb 28))], w ∈ xgood := List.forall_mem_cons.mpr ⟨wd907, List.forall_mem_cons.mpr ⟨wd908, List.forall_mem_cons.mpr ⟨wd117, List.forall_mem_cons.mpr ⟨wd909, fun _ h => by cases h⟩⟩⟩⟩
theorem cn23 : (parseMethodDescriptor (mY (xtb 23)).desc).map (fun d => d.parameters.length) = some 2 := by decide +kernel
theorem cm23 : (mY (xtb 23)).cls ≠ "java/lang/invoke/MethodHandle" ∧ (mY (xtb 23)).cls ≠ "java/lang/invoke/VarHandle" := by decide +kernel
theorem cw23 : ∀ w ∈ [Cond.instanceMethod (mY (xtb 23)), Cond.selects (mY (xtb 23)).cls (mY (xtb 23)) (mY (xtb 23)), Cond.initialized (mY (xtb 23)).cls, Cond.code (mY (xtb 23)) (mC (xtb 23)) (mN (xtb 23)) (mR (xtb 23))], w ∈ xgood := List.forall_mem_cons.mpr ⟨wd926, List.forall_mem_cons.mpr ⟨wd927, List.forall_mem_cons.mpr ⟨wd117, List.forall_mem_cons.mpr ⟨wd928, fun _ h => by cases h⟩⟩⟩⟩
theorem cn49 : (parseMethodDescriptor (mY (xtb 49)).desc).map (fun d => d.parameters.length) = some 3 := by decide +kernel
theorem cm49 : (mY (xtb 49)).cls ≠ "java/lang/invoke/MethodHandle" ∧ (mY (xtb 49)).cls ≠ "java/lang/invoke/VarHandle" := by decide +kernel
theorem cw49 : ∀ w ∈ [Cond.instanceMethod (mY (xtb 49)), Cond.selects (mY (xtb 49)).cls (mY (xtb 49)) (mY (xtb 49)), Cond.initialized (mY (xtb 49)).cls, Cond.code (mY (xtb 49)) (mC (xtb 49)) (mN (xtb 49)) (mR (xtb 49))], w ∈ xgood := List.forall_mem_cons.mpr ⟨wd961, List.forall_mem_cons.mpr ⟨wd962, List.forall_mem_cons.mpr ⟨wd116, List.forall_mem_cons.mpr ⟨wd963, fun _ h => by cases h⟩⟩⟩⟩
theorem cn50 : (parseMethodDescriptor (mY (xtb 50)).desc).map (fun d => d.parameters.length) = some 2 := by decide +kernel
theorem cm50 : (mY (xtb 50)).cls ≠ "java/lang/invoke/MethodHandle" ∧ (mY (xtb 50)).cls ≠ "java/lang/invoke/VarHandle" := by decide +kernel
theorem cw50 : ∀ w ∈ [Cond.instanceMethod (mY (xtb 50)), Cond.selects (mY (xtb 50)).cls (mY (xtb 50)) (mY (xtb 50)), Cond.initialized (mY (xtb 50)).cls, Cond.code (mY (xtb 50)) (mC (xtb 50)) (mN (xtb 50)) (mR (xtb 50))], w ∈ xgood := List.forall_mem_cons.mpr ⟨wd979, List.forall_mem_cons.mpr ⟨wd980, List.forall_mem_cons.mpr ⟨wd116, List.forall_mem_cons.mpr ⟨wd981, fun _ h => by cases h⟩⟩⟩⟩
theorem cn51 : (parseMethodDescriptor (mY (xtb 51)).desc).map (fun d => d.parameters.length) = some 1 := by decide +kernel
theorem cm51 : (mY (xtb 51)).cls ≠ "java/lang/invoke/MethodHandle" ∧ (mY (xtb 51)).cls ≠ "java/lang/invoke/VarHandle" := by decide +kernel
theorem cw51 : ∀ w ∈ [Cond.instanceMethod (mY (xtb 51)), Cond.selects (mY (xtb 51)).cls (mY (xtb 51)) (mY (xtb 51)), Cond.initialized (mY (xtb 51)).cls, Cond.code (mY (xtb 51)) (mC (xtb 51)) (mN (xtb 51)) (mR (xtb 51))], w ∈ xgood := List.forall_mem_cons.mpr ⟨wd988, List.forall_mem_cons.mpr ⟨wd989, List.forall_mem_cons.mpr ⟨wd116, List.forall_mem_cons.mpr ⟨wd990, fun _ h => by cases h⟩⟩⟩⟩
theorem cn52 : (parseMethodDescriptor (mY (xtb 52)).desc).map (fun d => d.parameters.length) = some 1 := by decide +kernel
theorem cm52 : (mY (xtb 52)).cls ≠ "java/lang/invoke/MethodHandle" ∧ (mY (xtb 52)).cls ≠ "java/lang/invoke/VarHandle" := by decide +kernel
theorem cw52 : ∀ w ∈ [Cond.instanceMethod (mY (xtb 52)), Cond.selects (mY (xtb 52)).cls (mY (xtb 52)) (mY (xtb 52)), Cond.initialized (mY (xtb 52)).cls, Cond.code (mY (xtb 52)) (mC (xtb 52)) (mN (xtb 52)) (mR (xtb 52))], w ∈ xgood := List.forall_mem_cons.mpr ⟨wd996, List.forall_mem_cons.mpr ⟨wd997, List.forall_mem_cons.mpr ⟨wd116, List.forall_mem_cons.mpr ⟨wd998, fun _ h => by cases h⟩⟩⟩⟩
theorem cn38 : (parseMethodDescriptor (mY (xtb 38)).desc).map (fun d => d.parameters.length) = some 2 := by decide +kernel
theorem cm38 : (mY (xtb 38)).cls ≠ "java/lang/invoke/MethodHandle" ∧ (mY (xtb 38)).cls ≠ "java/lang/invoke/VarHandle" := by decide +kernel
theorem cw38 : ∀ w ∈ [Cond.instanceMethod (mY (xtb 38)), Cond.selects (mY (xtb 38)).cls (mY (xtb 38)) (mY (xtb 38)), Cond.initialized (mY (xtb 38)).cls, Cond.code (mY (xtb 38)) (mC (xtb 38)) (mN (xtb 38)) (mR (xtb 38))], w ∈ xgood := List.forall_mem_cons.mpr ⟨wd1035, List.forall_mem_cons.mpr ⟨wd1036, List.forall_mem_cons.mpr ⟨wd115, List.forall_mem_cons.mpr ⟨wd1037, fun _ h => by cases h⟩⟩⟩⟩
theorem cn40 : (parseMethodDescriptor (mY (xtb 40)).desc).map (fun d => d.parameters.length) = some 0 := by decide +kernel
theorem cm40 : (mY (xtb 40)).cls ≠ "java/lang/invoke/MethodHandle" ∧ (mY (xtb 40)).cls ≠ "java/lang/invoke/VarHandle" := by decide +kernel
theorem cw40 : ∀ w ∈ [Cond.instanceMethod (mY (xtb 40)), Cond.selects (mY (xtb 40)).cls (mY (xtb 40)) (mY (xtb 40)), Cond.initialized (mY (xtb 40)).cls, Cond.code (mY (xtb 40)) (mC (xtb 40)) (mN (xtb 40)) (mR (xtb 40))], w ∈ xgood := List.forall_mem_cons.mpr ⟨wd1050, List.forall_mem_cons.mpr ⟨wd1051, List.forall_mem_cons.mpr ⟨wd115, List.forall_mem_cons.mpr ⟨wd1052, fun _ h => by cases h⟩⟩⟩⟩
theorem cn162 : (parseMethodDescriptor (mY (xtb 162)).desc).map (fun d => d.parameters.length) = some 5 := by decide +kernel
theorem cm162 : (mY (xtb 162)).cls ≠ "java/lang/invoke/MethodHandle" ∧ (mY (xtb 162)).cls ≠ "java/lang/invoke/VarHandle" := by decide +kernel
theorem cw162 : ∀ w ∈ [Cond.instanceMethod (mY (xtb 162)), Cond.selects (mY (xtb 162)).cls (mY (xtb 162)) (mY (xtb 162)), Cond.initialized (mY (xtb 162)).cls, Cond.code (mY (xtb 162)) (mC (xtb 162)) (mN (xtb 162)) (mR (xtb 162))], w ∈ xgood := List.forall_mem_cons.mpr ⟨wd1061, List.forall_mem_cons.mpr ⟨wd29, List.forall_mem_cons.mpr ⟨wd112, List.forall_mem_cons.mpr ⟨wd1062, fun _ h => by cases h⟩⟩⟩⟩
theorem cn54 : (parseMethodDescriptor (mY (xtb 54)).desc).map (fun d => d.parameters.length) = some 6 := by decide +kernel
theorem cm54 : (mY (xtb 54)).cls ≠ "java/lang/invoke/MethodHandle" ∧ (mY (xtb 54)).cls ≠ "java/lang/invoke/VarHandle" := by decide +kernel
theorem cw54 : ∀ w ∈ [Cond.instanceMethod (mY (xtb 54)), Cond.selects (mY (xtb 54)).cls (mY (xtb 54)) (mY (xtb 54)), Cond.initialized (mY (xtb 54)).cls, Cond.code (mY (xtb 54)) (mC (xtb 54)) (mN (xtb 54)) (mR (xtb 54))], w ∈ xgood := List.forall_mem_cons.mpr ⟨wd1064, List.forall_mem_cons.mpr ⟨wd1065, List.forall_mem_cons.mpr ⟨wd121, List.forall_mem_cons.mpr ⟨wd1066, fun _ h => by cases h⟩⟩⟩⟩
theorem cn166 : (parseMethodDescriptor (mY (xtb 166)).desc).map (fun d => d.parameters.length) = some 0 := by decide +kernel
theorem cm166 : (mY (xtb 166)).cls ≠ "java/lang/invoke/MethodHandle" ∧ (mY (xtb 166)).cls ≠ "java/lang/invoke/VarHandle" := by decide +kernel
theorem cw166 : ∀ w ∈ [Cond.instanceMethod (mY (xtb 166)), Cond.selects (mY (xtb 166)).cls (mY (xtb 166)) (mY (xtb 166)), Cond.initialized (mY (xtb 166)).cls, Cond.code (mY (xtb 166)) (mC (xtb 166)) (mN (xtb 166)) (mR (xtb 166))], w ∈ xgood := List.forall_mem_cons.mpr ⟨wd1069, List.forall_mem_cons.mpr ⟨wd30, List.forall_mem_cons.mpr ⟨wd112, List.forall_mem_cons.mpr ⟨wd1070, fun _ h => by cases h⟩⟩⟩⟩
theorem cn167 : (parseMethodDescriptor (mY (xtb 167)).desc).map (fun d => d.parameters.length) = some 1 := by decide +kernel
theorem cm167 : (mY (xtb 167)).cls ≠ "java/lang/invoke/MethodHandle" ∧ (mY (xtb 167)).cls ≠ "java/lang/invoke/VarHandle" := by decide +kernel
theorem cw167 : ∀ w ∈ [Cond.instanceMethod (mY (xtb 167)), Cond.selects (mY (xtb 167)).cls (mY (xtb 167)) (mY (xtb 167)), Cond.initialized (mY (xtb 167)).cls, Cond.code (mY (xtb 167)) (mC (xtb 167)) (mN (xtb 167)) (mR (xtb 167))], w ∈ xgood := List.forall_mem_cons.mpr ⟨wd1102, List.forall_mem_cons.mpr ⟨wd31, List.forall_mem_cons.mpr ⟨wd112, List.forall_mem_cons.mpr ⟨wd1103, fun _ h => by cases h⟩⟩⟩⟩
theorem cn159 : (parseMethodDescriptor (mY (xtb 159)).desc).map (fun d => d.parameters.length) = some 1 := by decide +kernel
theorem cm159 : (mY (xtb 159)).cls ≠ "java/lang/invoke/MethodHandle" ∧ (mY (xtb 159)).cls ≠ "java/lang/invoke/VarHandle" := by decide +kernel
theorem cw159 : ∀ w ∈ [Cond.instanceMethod (mY (xtb 159)), Cond.selects (mY (xtb 159)).cls (mY (xtb 159)) (mY (xtb 159)), Cond.initialized (mY (xtb 159)).cls, Cond.code (mY (xtb 159)) (mC (xtb 159)) (mN (xtb 159)) (mR (xtb 159))], w ∈ xgood := List.forall_mem_cons.mpr ⟨wd1123, List.forall_mem_cons.mpr ⟨wd32, List.forall_mem_cons.mpr ⟨wd112, List.forall_mem_cons.mpr ⟨wd1124, fun _ h => by cases h⟩⟩⟩⟩
theorem cn60 : (parseMethodDescriptor (mY (xtb 60)).desc).map (fun d => d.parameters.length) = some 1 := by decide +kernel
theorem cm60 : (mY (xtb 60)).cls ≠ "java/lang/invoke/MethodHandle" ∧ (mY (xtb 60)).cls ≠ "java/lang/invoke/VarHandle" := by decide +kernel
theorem cw60 : ∀ w ∈ [Cond.instanceMethod (mY (xtb 60)), Cond.selects (mY (xtb 60)).cls (mY (xtb 60)) (mY (xtb 60)), Cond.initialized (mY (xtb 60)).cls, Cond.code (mY (xtb 60)) (mC (xtb 60)) (mN (xtb 60)) (mR (xtb 60))], w ∈ xgood := List.forall_mem_cons.mpr ⟨wd1126, List.forall_mem_cons.mpr ⟨wd1127, List.forall_mem_cons.mpr ⟨wd121, List.forall_mem_cons.mpr ⟨wd1128, fun _ h => by cases h⟩⟩⟩⟩
theorem cn61 : (parseMethodDescriptor (mY (xtb 61)).desc).map (fun d => d.parameters.length) = some 2 := by decide +kernel
theorem cm61 : (mY (xtb 61)).cls ≠ "java/lang/invoke/MethodHandle" ∧ (mY (xtb 61)).cls ≠ "java/lang/invoke/VarHandle" := by decide +kernel
theorem cw61 : ∀ w ∈ [Cond.instanceMethod (mY (xtb 61)), Cond.selects (mY (xtb 61)).cls (mY (xtb 61)) (mY (xtb 61)), Cond.initialized (mY (xtb 61)).cls, Cond.code (mY (xtb 61)) (mC (xtb 61)) (mN (xtb 61)) (mR (xtb 61))], w ∈ xgood := List.forall_mem_cons.mpr ⟨wd1136, List.forall_mem_cons.mpr ⟨wd1137, List.forall_mem_cons.mpr ⟨wd121, List.forall_mem_cons.mpr ⟨wd1138, fun _ h => by cases h⟩⟩⟩⟩
theorem cn11 : (parseMethodDescriptor (mY (xtb 11)).desc).map (fun d => d.parameters.length) = some 0 := by decide +kernel
theorem cm11 : (mY (xtb 11)).cls ≠ "java/lang/invoke/MethodHandle" ∧ (mY (xtb 11)).cls ≠ "java/lang/invoke/VarHandle" := by decide +kernel
theorem cw11 : ∀ w ∈ [Cond.instanceMethod (mY (xtb 11)), Cond.selects (mY (xtb 11)).cls (mY (xtb 11)) (mY (xtb 11)), Cond.initialized (mY (xtb 11)).cls, Cond.code (mY (xtb 11)) (mC (xtb 11)) (mN (xtb 11)) (mR (xtb 11))], w ∈ xgood := List.forall_mem_cons.mpr ⟨wd1144, List.forall_mem_cons.mpr ⟨wd1145, List.forall_mem_cons.mpr ⟨wd120, List.forall_mem_cons.mpr ⟨wd1146, fun _ h => by cases h⟩⟩⟩⟩
theorem cn10 : (parseMethodDescriptor (mY (xtb 10)).desc).map (fun d => d.parameters.length) = some 2 := by decide +kernel
theorem cm10 : (mY (xtb 10)).cls ≠ "java/lang/invoke/MethodHandle" ∧ (mY (xtb 10)).cls ≠ "java/lang/invoke/VarHandle" := by decide +kernel
theorem cw10 : ∀ w ∈ [Cond.instanceMethod (mY (xtb 10)), Cond.selects (mY (xtb 10)).cls (mY (xtb 10)) (mY (xtb 10)), Cond.initialized (mY (xtb 10)).cls, Cond.code (mY (xtb 10)) (mC (xtb 10)) (mN (xtb 10)) (mR (xtb 10))], w ∈ xgood := List.forall_mem_cons.mpr ⟨wd1152, List.forall_mem_cons.mpr ⟨wd1153, List.forall_mem_cons.mpr ⟨wd120, List.forall_mem_cons.mpr ⟨wd1154, fun _ h => by cases h⟩⟩⟩⟩
theorem cn157 : (parseMethodDescriptor (mY (xtb 157)).desc).map (fun d => d.parameters.length) = some 1 := by decide +kernel
theorem cm157 : (mY (xtb 157)).cls ≠ "java/lang/invoke/MethodHandle" ∧ (mY (xtb 157)).cls ≠ "java/lang/invoke/VarHandle" := by decide +kernel
theorem cw157 : ∀ w ∈ [Cond.instanceMethod (mY (xtb 157)), Cond.selects (mY (xtb 157)).cls (mY (xtb 157)) (mY (xtb 157)), Cond.initialized (mY (xtb 157)).cls, Cond.code (mY (xtb 157)) (mC (xtb 157)) (mN (xtb 157)) (mR (xtb 157))], w ∈ xgood := List.forall_mem_cons.mpr ⟨wd1162, List.forall_mem_cons.mpr ⟨wd33, List.forall_mem_cons.mpr ⟨wd112, List.forall_mem_cons.mpr ⟨wd1163, fun _ h => by cases h⟩⟩⟩⟩
theorem cn160 : (parseMethodDescriptor (mY (xtb 160)).desc).map (fun d => d.parameters.length) = some 1 := by decide +kernel
theorem cm160 : (mY (xtb 160)).cls ≠ "java/lang/invoke/MethodHandle" ∧ (mY (xtb 160)).cls ≠ "java/lang/invoke/VarHandle" := by decide +kernel
theorem cw160 : ∀ w ∈ [Cond.instanceMethod (mY (xtb 160)), Cond.selects (mY (xtb 160)).cls (mY (xtb 160)) (mY (xtb 160)), Cond.initialized (mY (xtb 160)).cls, Cond.code (mY (xtb 160)) (mC (xtb 160)) (mN (xtb 160)) (mR (xtb 160))], w ∈ xgood := List.forall_mem_cons.mpr ⟨wd1174, List.forall_mem_cons.mpr ⟨wd34, List.forall_mem_cons.mpr ⟨wd112, List.forall_mem_cons.mpr ⟨wd1175, fun _ h => by cases h⟩⟩⟩⟩
theorem cn13 : (parseMethodDescriptor (mY (xtb 13)).desc).map (fun d => d.parameters.length) = some 1 := by decide +kernel
theorem cm13 : (mY (xtb 13)).cls ≠ "java/lang/invoke/MethodHandle" ∧ (mY (xtb 13)).cls ≠ "java/lang/invoke/VarHandle" := by decide +kernel
theorem cw13 : ∀ w ∈ [Cond.instanceMethod (mY (xtb 13)), Cond.selects (mY (xtb 13)).cls (mY (xtb 13)) (mY (xtb 13)), Cond.initialized (mY (xtb 13)).cls, Cond.code (mY (xtb 13)) (mC (xtb 13)) (mN (xtb 13)) (mR (xtb 13))], w ∈ xgood := List.forall_mem_cons.mpr ⟨wd1177, List.forall_mem_cons.mpr ⟨wd1178, List.forall_mem_cons.mpr ⟨wd120, List.forall_mem_cons.mpr ⟨wd1179, fun _ h => by cases h⟩⟩⟩⟩
theorem cn12 : (parseMethodDescriptor (mY (xtb 12)).desc).map (fun d => d.parameters.length) = some 0 := by decide +kernel
theorem cm12 : (mY (xtb 12)).cls ≠ "java/lang/invoke/MethodHandle" ∧ (mY (xtb 12)).cls ≠ "java/lang/invoke/VarHandle" := by decide +kernel
theorem cw12 : ∀ w ∈ [Cond.instanceMethod (mY (xtb 12)), Cond.selects (mY (xtb 12)).cls (mY (xtb 12)) (mY (xtb 12)), Cond.initialized (mY (xtb 12)).cls, Cond.code (mY (xtb 12)) (mC (xtb 12)) (mN (xtb 12)) (mR (xtb 12))], w ∈ xgood := List.forall_mem_cons.mpr ⟨wd1194, List.forall_mem_cons.mpr ⟨wd1195, List.forall_mem_cons.mpr ⟨wd120, List.forall_mem_cons.mpr ⟨wd1196, fun _ h => by cases h⟩⟩⟩⟩
theorem cn168 : (parseMethodDescriptor (mY (xtb 168)).desc).map (fun d => d.parameters.length) = some 1 := by decide +kernel
theorem cm168 : (mY (xtb 168)).cls ≠ "java/lang/invoke/MethodHandle" ∧ (mY (xtb 168)).cls ≠ "java/lang/invoke/VarHandle" := by decide +kernel
theorem cw168 : ∀ w ∈ [Cond.instanceMethod (mY (xtb 168)), Cond.selects (mY (xtb 168)).cls (mY (xtb 168)) (mY (xtb 168)), Cond.initialized (mY (xtb 168)).cls, Cond.code (mY (xtb 168)) (mC (xtb 168)) (mN (xtb 168)) (mR (xtb 168))], w ∈ xgood := List.forall_mem_cons.mpr ⟨wd1208, List.forall_mem_cons.mpr ⟨wd35, List.forall_mem_cons.mpr ⟨wd112, List.forall_mem_cons.mpr ⟨wd1209, fun _ h => by cases h⟩⟩⟩⟩
theorem cn16 : (parseMethodDescriptor (mY (xtb 16)).desc).map (fun d => d.parameters.length) = some 1 := by decide +kernel
theorem cm16 : (mY (xtb 16)).cls ≠ "java/lang/invoke/MethodHandle" ∧ (mY (xtb 16)).cls ≠ "java/lang/invoke/VarHandle" := by decide +kernel
theorem cw16 : ∀ w ∈ [Cond.instanceMethod (mY (xtb 16)), Cond.selects (mY (xtb 16)).cls (mY (xtb 16)) (mY (xtb 16)), Cond.initialized (mY (xtb 16)).cls, Cond.code (mY (xtb 16)) (mC (xtb 16)) (mN (xtb 16)) (mR (xtb 16))], w ∈ xgood := List.forall_mem_cons.mpr ⟨wd1219, List.forall_mem_cons.mpr ⟨wd1220, List.forall_mem_cons.mpr ⟨wd120, List.forall_mem_cons.mpr ⟨wd1221, fun _ h => by cases h⟩⟩⟩⟩
theorem cn4 : (parseMethodDescriptor (mY (xtb 4)).desc).map (fun d => d.parameters.length) = some 3 := by decide +kernel
theorem cm4 : (mY (xtb 4)).cls ≠ "java/lang/invoke/MethodHandle" ∧ (mY (xtb 4)).cls ≠ "java/lang/invoke/VarHandle" := by decide +kernel
theorem cw4 : ∀ w ∈ [Cond.instanceMethod (mY (xtb 4)), Cond.selects (mY (xtb 4)).cls (mY (xtb 4)) (mY (xtb 4)), Cond.initialized (mY (xtb 4)).cls, Cond.code (mY (xtb 4)) (mC (xtb 4)) (mN (xtb 4)) (mR (xtb 4))], w ∈ xgood := List.forall_mem_cons.mpr ⟨wd1224, List.forall_mem_cons.mpr ⟨wd1225, List.forall_mem_cons.mpr ⟨wd122, List.forall_mem_cons.mpr ⟨wd1226, fun _ h => by cases h⟩⟩⟩⟩
theorem cn41 : (parseMethodDescriptor (mY (xtb 41)).desc).map (fun d => d.parameters.length) = some 1 := by decide +kernel
theorem cm41 : (mY (xtb 41)).cls ≠ "java/lang/invoke/MethodHandle" ∧ (mY (xtb 41)).cls ≠ "java/lang/invoke/VarHandle" := by decide +kernel
theorem cw41 : ∀ w ∈ [Cond.instanceMethod (mY (xtb 41)), Cond.selects (mY (xtb 41)).cls (mY (xtb 41)) (mY (xtb 41)), Cond.initialized (mY (xtb 41)).cls, Cond.code (mY (xtb 41)) (mC (xtb 41)) (mN (xtb 41)) (mR (xtb 41))], w ∈ xgood := List.forall_mem_cons.mpr ⟨wd1072, List.forall_mem_cons.mpr ⟨wd1073, List.forall_mem_cons.mpr ⟨wd115, List.forall_mem_cons.mpr ⟨wd1074, fun _ h => by cases h⟩⟩⟩⟩
theorem cn30 : (parseMethodDescriptor (mY (xtb 30)).desc).map (fun d => d.parameters.length) = some 4 := by decide +kernel
theorem cm30 : (mY (xtb 30)).cls ≠ "java/lang/invoke/MethodHandle" ∧ (mY (xtb 30)).cls ≠ "java/lang/invoke/VarHandle" := by decide +kernel
theorem cw30 : ∀ w ∈ [Cond.instanceMethod (mY (xtb 30)), Cond.selects (mY (xtb 30)).cls (mY (xtb 30)) (mY (xtb 30)), Cond.initialized (mY (xtb 30)).cls, Cond.code (mY (xtb 30)) (mC (xtb 30)) (mN (xtb 30)) (mR (xtb 30))], w ∈ xgood := List.forall_mem_cons.mpr ⟨wd1245, List.forall_mem_cons.mpr ⟨wd1246, List.forall_mem_cons.mpr ⟨wd117, List.forall_mem_cons.mpr ⟨wd1247, fun _ h => by cases h⟩⟩⟩⟩
theorem cn33 : (parseMethodDescriptor (mY (xtb 33)).desc).map (fun d => d.parameters.length) = some 4 := by decide +kernel
theorem cm33 : (mY (xtb 33)).cls ≠ "java/lang/invoke/MethodHandle" ∧ (mY (xtb 33)).cls ≠ "java/lang/invoke/VarHandle" := by decide +kernel
theorem cw33 : ∀ w ∈ [Cond.instanceMethod (mY (xtb 33)), Cond.selects (mY (xtb 33)).cls (mY (xtb 33)) (mY (xtb 33)), Cond.initialized (mY (xtb 33)).cls, Cond.code (mY (xtb 33)) (mC (xtb 33)) (mN (xtb 33)) (mR (xtb 33))], w ∈ xgood := List.forall_mem_cons.mpr ⟨wd1249, List.forall_mem_cons.mpr ⟨wd1250, List.forall_mem_cons.mpr ⟨wd117, List.forall_mem_cons.mpr ⟨wd1251, fun _ h => by cases h⟩⟩⟩⟩
theorem cn169 : (parseMethodDescriptor (mY (xtb 169)).desc).map (fun d => d.parameters.length) = some 1 := by decide +kernel
theorem cm169 : (mY (xtb 169)).cls ≠ "java/lang/invoke/MethodHandle" ∧ (mY (xtb 169)).cls ≠ "java/lang/invoke/VarHandle" := by decide +kernel
theorem cw169 : ∀ w ∈ [Cond.instanceMethod (mY (xtb 169)), Cond.selects (mY (xtb 169)).cls (mY (xtb 169)) (mY (xtb 169)), Cond.initialized (mY (xtb 169)).cls, Cond.code (mY (xtb 169)) (mC (xtb 169)) (mN (xtb 169)) (mR (xtb 169))], w ∈ xgood := List.forall_mem_cons.mpr ⟨wd1266, List.forall_mem_cons.mpr ⟨wd37, List.forall_mem_cons.mpr ⟨wd112, List.forall_mem_cons.mpr ⟨wd1267, fun _ h => by cases h⟩⟩⟩⟩
theorem cn8 : (parseMethodDescriptor (mY (xtb 8)).desc).map (fun d => d.parameters.length) = some 0 := by decide +kernel
theorem cm8 : (mY (xtb 8)).cls ≠ "java/lang/invoke/MethodHandle" ∧ (mY (xtb 8)).cls ≠ "java/lang/invoke/VarHandle" := by decide +kernel
theorem cw8 : ∀ w ∈ [Cond.instanceMethod (mY (xtb 8)), Cond.selects (mY (xtb 8)).cls (mY (xtb 8)) (mY (xtb 8)), Cond.initialized (mY (xtb 8)).cls, Cond.code (mY (xtb 8)) (mC (xtb 8)) (mN (xtb 8)) (mR (xtb 8))], w ∈ xgood := List.forall_mem_cons.mpr ⟨wd1277, List.forall_mem_cons.mpr ⟨wd1278, List.forall_mem_cons.mpr ⟨wd120, List.forall_mem_cons.mpr ⟨wd1279, fun _ h => by cases h⟩⟩⟩⟩
theorem cn37 : (parseMethodDescriptor (mY (xtb 37)).desc).map (fun d => d.parameters.length) = some 1 := by decide +kernel
theorem cm37 : (mY (xtb 37)).cls ≠ "java/lang/invoke/MethodHandle" ∧ (mY (xtb 37)).cls ≠ "java/lang/invoke/VarHandle" := by decide +kernel
theorem cw37 : ∀ w ∈ [Cond.instanceMethod (mY (xtb 37)), Cond.selects (mY (xtb 37)).cls (mY (xtb 37)) (mY (xtb 37)), Cond.initialized (mY (xtb 37)).cls, Cond.code (mY (xtb 37)) (mC (xtb 37)) (mN (xtb 37)) (mR (xtb 37))], w ∈ xgood := List.forall_mem_cons.mpr ⟨wd1105, List.forall_mem_cons.mpr ⟨wd1106, List.forall_mem_cons.mpr ⟨wd115, List.forall_mem_cons.mpr ⟨wd1107, fun _ h => by cases h⟩⟩⟩⟩
theorem cn17 : (parseMethodDescriptor (mY (xtb 17)).desc).map (fun d => d.parameters.length) = some 0 := by decide +kernel
theorem cm17 : (mY (xtb 17)).cls ≠ "java/lang/invoke/MethodHandle" ∧ (mY (xtb 17)).cls ≠ "java/lang/invoke/VarHandle" := by decide +kernel
theorem cw17 : ∀ w ∈ [Cond.instanceMethod (mY (xtb 17)), Cond.selects (mY (xtb 17)).cls (mY (xtb 17)) (mY (xtb 17)), Cond.initialized (mY (xtb 17)).cls, Cond.code (mY (xtb 17)) (mC (xtb 17)) (mN (xtb 17)) (mR (xtb 17))], w ∈ xgood := List.forall_mem_cons.mpr ⟨wd1269, List.forall_mem_cons.mpr ⟨wd1270, List.forall_mem_cons.mpr ⟨wd120, List.forall_mem_cons.mpr ⟨wd1271, fun _ h => by cases h⟩⟩⟩⟩
theorem cn172 : (parseMethodDescriptor (mY (xtb 172)).desc).map (fun d => d.parameters.length) = some 1 := by decide +kernel
theorem cm172 : (mY (xtb 172)).cls ≠ "java/lang/invoke/MethodHandle" ∧ (mY (xtb 172)).cls ≠ "java/lang/invoke/VarHandle" := by decide +kernel
theorem cw172 : ∀ w ∈ [Cond.instanceMethod (mY (xtb 172)), Cond.selects (mY (xtb 172)).cls (mY (xtb 172)) (mY (xtb 172)), Cond.initialized (mY (xtb 172)).cls, Cond.code (mY (xtb 172)) (mC (xtb 172)) (mN (xtb 172)) (mR (xtb 172))], w ∈ xgood := List.forall_mem_cons.mpr ⟨wd1478, List.forall_mem_cons.mpr ⟨wd39, List.forall_mem_cons.mpr ⟨wd123, List.forall_mem_cons.mpr ⟨wd1479, fun _ h => by cases h⟩⟩⟩⟩
theorem cn176 : (parseMethodDescriptor (mY (xtb 176)).desc).map (fun d => d.parameters.length) = some 1 := by decide +kernel
theorem cm176 : (mY (xtb 176)).cls ≠ "java/lang/invoke/MethodHandle" ∧ (mY (xtb 176)).cls ≠ "java/lang/invoke/VarHandle" := by decide +kernel
theorem cw176 : ∀ w ∈ [Cond.instanceMethod (mY (xtb 176)), Cond.selects (mY (xtb 176)).cls (mY (xtb 176)) (mY (xtb 176)), Cond.initialized (mY (xtb 176)).cls, Cond.code (mY (xtb 176)) (mC (xtb 176)) (mN (xtb 176)) (mR (xtb 176))], w ∈ xgood := List.forall_mem_cons.mpr ⟨wd1490, List.forall_mem_cons.mpr ⟨wd42, List.forall_mem_cons.mpr ⟨wd123, List.forall_mem_cons.mpr ⟨wd1491, fun _ h => by cases h⟩⟩⟩⟩
theorem cn175 : (parseMethodDescriptor (mY (xtb 175)).desc).map (fun d => d.parameters.length) = some 3 := by decide +kernel
theorem cm175 : (mY (xtb 175)).cls ≠ "java/lang/invoke/MethodHandle" ∧ (mY (xtb 175)).cls ≠ "java/lang/invoke/VarHandle" := by decide +kernel
theorem cw175 : ∀ w ∈ [Cond.static (mY (xtb 175)), Cond.initialized (mY (xtb 175)).cls, Cond.code (mY (xtb 175)) (mC (xtb 175)) (mN (xtb 175)) (mR (xtb 175))], w ∈ xgood := List.forall_mem_cons.mpr ⟨wd1493, List.forall_mem_cons.mpr ⟨wd123, List.forall_mem_cons.mpr ⟨wd1494, fun _ h => by cases h⟩⟩⟩
theorem cn178 : (parseMethodDescriptor (mY (xtb 178)).desc).map (fun d => d.parameters.length) = some 0 := by decide +kernel
theorem cm178 : (mY (xtb 178)).cls ≠ "java/lang/invoke/MethodHandle" ∧ (mY (xtb 178)).cls ≠ "java/lang/invoke/VarHandle" := by decide +kernel
theorem cw178 : ∀ w ∈ [Cond.instanceMethod (mY (xtb 178)), Cond.selects (mY (xtb 178)).cls (mY (xtb 178)) (mY (xtb 178)), Cond.initialized (mY (xtb 178)).cls, Cond.code (mY (xtb 178)) (mC (xtb 178)) (mN (xtb 178)) (mR (xtb 178))], w ∈ xgood := List.forall_mem_cons.mpr ⟨wd1497, List.forall_mem_cons.mpr ⟨wd43, List.forall_mem_cons.mpr ⟨wd123, List.forall_mem_cons.mpr ⟨wd1498, fun _ h => by cases h⟩⟩⟩⟩
theorem cn179 : (parseMethodDescriptor (mY (xtb 179)).desc).map (fun d => d.parameters.length) = some 0 := by decide +kernel
theorem cm179 : (mY (xtb 179)).cls ≠ "java/lang/invoke/MethodHandle" ∧ (mY (xtb 179)).cls ≠ "java/lang/invoke/VarHandle" := by decide +kernel
theorem cw179 : ∀ w ∈ [Cond.instanceMethod (mY (xtb 179)), Cond.selects (mY (xtb 179)).cls (mY (xtb 179)) (mY (xtb 179)), Cond.initialized (mY (xtb 179)).cls, Cond.code (mY (xtb 179)) (mC (xtb 179)) (mN (xtb 179)) (mR (xtb 179))], w ∈ xgood := List.forall_mem_cons.mpr ⟨wd1501, List.forall_mem_cons.mpr ⟨wd44, List.forall_mem_cons.mpr ⟨wd123, List.forall_mem_cons.mpr ⟨wd1502, fun _ h => by cases h⟩⟩⟩⟩
theorem cn180 : (parseMethodDescriptor (mY (xtb 180)).desc).map (fun d => d.parameters.length) = some 1 := by decide +kernel
theorem cm180 : (mY (xtb 180)).cls ≠ "java/lang/invoke/MethodHandle" ∧ (mY (xtb 180)).cls ≠ "java/lang/invoke/VarHandle" := by decide +kernel
theorem cw180 : ∀ w ∈ [Cond.instanceMethod (mY (xtb 180)), Cond.selects (mY (xtb 180)).cls (mY (xtb 180)) (mY (xtb 180)), Cond.initialized (mY (xtb 180)).cls, Cond.code (mY (xtb 180)) (mC (xtb 180)) (mN (xtb 180)) (mR (xtb 180))], w ∈ xgood := List.forall_mem_cons.mpr ⟨wd1505, List.forall_mem_cons.mpr ⟨wd45, List.forall_mem_cons.mpr ⟨wd123, List.forall_mem_cons.mpr ⟨wd1506, fun _ h => by cases h⟩⟩⟩⟩
theorem cn182 : (parseMethodDescriptor (mY (xtb 182)).desc).map (fun d => d.parameters.length) = some 1 := by decide +kernel
theorem cm182 : (mY (xtb 182)).cls ≠ "java/lang/invoke/MethodHandle" ∧ (mY (xtb 182)).cls ≠ "java/lang/invoke/VarHandle" := by decide +kernel
theorem cw182 : ∀ w ∈ [Cond.instanceMethod (mY (xtb 182)), Cond.selects (mY (xtb 182)).cls (mY (xtb 182)) (mY (xtb 182)), Cond.initialized (mY (xtb 182)).cls, Cond.code (mY (xtb 182)) (mC (xtb 182)) (mN (xtb 182)) (mR (xtb 182))], w ∈ xgood := List.forall_mem_cons.mpr ⟨wd1514, List.forall_mem_cons.mpr ⟨wd47, List.forall_mem_cons.mpr ⟨wd123, List.forall_mem_cons.mpr ⟨wd1515, fun _ h => by cases h⟩⟩⟩⟩
theorem cn177 : (parseMethodDescriptor (mY (xtb 177)).desc).map (fun d => d.parameters.length) = some 0 := by decide +kernel
theorem cm177 : (mY (xtb 177)).cls ≠ "java/lang/invoke/MethodHandle" ∧ (mY (xtb 177)).cls ≠ "java/lang/invoke/VarHandle" := by decide +kernel
theorem cw177 : ∀ w ∈ [Cond.instanceMethod (mY (xtb 177)), Cond.selects (mY (xtb 177)).cls (mY (xtb 177)) (mY (xtb 177)), Cond.initialized (mY (xtb 177)).cls, Cond.code (mY (xtb 177)) (mC (xtb 177)) (mN (xtb 177)) (mR (xtb 177))], w ∈ xgood := List.forall_mem_cons.mpr ⟨wd1486, List.forall_mem_cons.mpr ⟨wd41, List.forall_mem_cons.mpr ⟨wd123, List.forall_mem_cons.mpr ⟨wd1487, fun _ h => by cases h⟩⟩⟩⟩
theorem cn181 : (parseMethodDescriptor (mY (xtb 181)).desc).map (fun d => d.parameters.length) = some 1 := by decide +kernel
theorem cm181 : (mY (xtb 181)).cls ≠ "java/lang/invoke/MethodHandle" ∧ (mY (xtb 181)).cls ≠ "java/lang/invoke/VarHandle" := by decide +kernel
theorem cw181 : ∀ w ∈ [Cond.instanceMethod (mY (xtb 181)), Cond.selects (mY (xtb 181)).cls (mY (xtb 181)) (mY (xtb 181)), Cond.initialized (mY (xtb 181)).cls, Cond.code (mY (xtb 181)) (mC (xtb 181)) (mN (xtb 181)) (mR (xtb 181))], w ∈ xgood := List.forall_mem_cons.mpr ⟨wd1524, List.forall_mem_cons.mpr ⟨wd49, List.forall_mem_cons.mpr ⟨wd123, List.forall_mem_cons.mpr ⟨wd1525, fun _ h => by cases h⟩⟩⟩⟩
theorem cn183 : (parseMethodDescriptor (mY (xtb 183)).desc).map (fun d => d.parameters.length) = some 1 := by decide +kernel
theorem cm183 : (mY (xtb 183)).cls ≠ "java/lang/invoke/MethodHandle" ∧ (mY (xtb 183)).cls ≠ "java/lang/invoke/VarHandle" := by decide +kernel
theorem cw183 : ∀ w ∈ [Cond.instanceMethod (mY (xtb 183)), Cond.selects (mY (xtb 183)).cls (mY (xtb 183)) (mY (xtb 183)), Cond.initialized (mY (xtb 183)).cls, Cond.code (mY (xtb 183)) (mC (xtb 183)) (mN (xtb 183)) (mR (xtb 183))], w ∈ xgood := List.forall_mem_cons.mpr ⟨wd1533, List.forall_mem_cons.mpr ⟨wd51, List.forall_mem_cons.mpr ⟨wd123, List.forall_mem_cons.mpr ⟨wd1534, fun _ h => by cases h⟩⟩⟩⟩
theorem cn184 : (parseMethodDescriptor (mY (xtb 184)).desc).map (fun d => d.parameters.length) = some 2 := by decide +kernel
theorem cm184 : (mY (xtb 184)).cls ≠ "java/lang/invoke/MethodHandle" ∧ (mY (xtb 184)).cls ≠ "java/lang/invoke/VarHandle" := by decide +kernel
theorem cw184 : ∀ w ∈ [Cond.instanceMethod (mY (xtb 184)), Cond.selects (mY (xtb 184)).cls (mY (xtb 184)) (mY (xtb 184)), Cond.initialized (mY (xtb 184)).cls, Cond.code (mY (xtb 184)) (mC (xtb 184)) (mN (xtb 184)) (mR (xtb 184))], w ∈ xgood := List.forall_mem_cons.mpr ⟨wd1537, List.forall_mem_cons.mpr ⟨wd52, List.forall_mem_cons.mpr ⟨wd123, List.forall_mem_cons.mpr ⟨wd1538, fun _ h => by cases h⟩⟩⟩⟩
theorem cn187 : (parseMethodDescriptor (mY (xtb 187)).desc).map (fun d => d.parameters.length) = some 2 := by decide +kernel
theorem cm187 : (mY (xtb 187)).cls ≠ "java/lang/invoke/MethodHandle" ∧ (mY (xtb 187)).cls ≠ "java/lang/invoke/VarHandle" := by decide +kernel
theorem cw187 : ∀ w ∈ [Cond.instanceMethod (mY (xtb 187)), Cond.selects (mY (xtb 187)).cls (mY (xtb 187)) (mY (xtb 187)), Cond.initialized (mY (xtb 187)).cls, Cond.code (mY (xtb 187)) (mC (xtb 187)) (mN (xtb 187)) (mR (xtb 187))], w ∈ xgood := List.forall_mem_cons.mpr ⟨wd1571, List.forall_mem_cons.mpr ⟨wd58, List.forall_mem_cons.mpr ⟨wd123, List.forall_mem_cons.mpr ⟨wd1572, fun _ h => by cases h⟩⟩⟩⟩
theorem cn186 : (parseMethodDescriptor (mY (xtb 186)).desc).map (fun d => d.parameters.length) = some 0 := by decide +kernel
theorem cm186 : (mY (xtb 186)).cls ≠ "java/lang/invoke/MethodHandle" ∧ (mY (xtb 186)).cls ≠ "java/lang/invoke/VarHandle" := by decide +kernel
theorem cw186 : ∀ w ∈ [Cond.instanceMethod (mY (xtb 186)), Cond.selects (mY (xtb 186)).cls (mY (xtb 186)) (mY (xtb 186)), Cond.initialized (mY (xtb 186)).cls, Cond.code (mY (xtb 186)) (mC (xtb 186)) (mN (xtb 186)) (mR (xtb 186))], w ∈ xgood := List.forall_mem_cons.mpr ⟨wd1555, List.forall_mem_cons.mpr ⟨wd56, List.forall_mem_cons.mpr ⟨wd123, List.forall_mem_cons.mpr ⟨wd1556, fun _ h => by cases h⟩⟩⟩⟩
theorem cn188 : (parseMethodDescriptor (mY (xtb 188)).desc).map (fun d => d.parameters.length) = some 0 := by decide +kernel
theorem cm188 : (mY (xtb 188)).cls ≠ "java/lang/invoke/MethodHandle" ∧ (mY (xtb 188)).cls ≠ "java/lang/invoke/VarHandle" := by decide +kernel
theorem cw188 : ∀ w ∈ [Cond.instanceMethod (mY (xtb 188)), Cond.selects (mY (xtb 188)).cls (mY (xtb 188)) (mY (xtb 188)), Cond.initialized (mY (xtb 188)).cls, Cond.code (mY (xtb 188)) (mC (xtb 188)) (mN (xtb 188)) (mR (xtb 188))], w ∈ xgood := List.forall_mem_cons.mpr ⟨wd1567, List.forall_mem_cons.mpr ⟨wd57, List.forall_mem_cons.mpr ⟨wd123, List.forall_mem_cons.mpr ⟨wd1568, fun _ h => by cases h⟩⟩⟩⟩
theorem cn189 : (parseMethodDescriptor (mY (xtb 189)).desc).map (fun d => d.parameters.length) = some 0 := by decide +kernel
theorem cm189 : (mY (xtb 189)).cls ≠ "java/lang/invoke/MethodHandle" ∧ (mY (xtb 189)).cls ≠ "java/lang/invoke/VarHandle" := by decide +kernel
theorem cw189 : ∀ w ∈ [Cond.instanceMethod (mY (xtb 189)), Cond.selects (mY (xtb 189)).cls (mY (xtb 189)) (mY (xtb 189)), Cond.initialized (mY (xtb 189)).cls, Cond.code (mY (xtb 189)) (mC (xtb 189)) (mN (xtb 189)) (mR (xtb 189))], w ∈ xgood := List.forall_mem_cons.mpr ⟨wd1575, List.forall_mem_cons.mpr ⟨wd59, List.forall_mem_cons.mpr ⟨wd123, List.forall_mem_cons.mpr ⟨wd1576, fun _ h => by cases h⟩⟩⟩⟩
theorem cn191 : (parseMethodDescriptor (mY (xtb 191)).desc).map (fun d => d.parameters.length) = some 1 := by decide +kernel
theorem cm191 : (mY (xtb 191)).cls ≠ "java/lang/invoke/MethodHandle" ∧ (mY (xtb 191)).cls ≠ "java/lang/invoke/VarHandle" := by decide +kernel
theorem cw191 : ∀ w ∈ [Cond.instanceMethod (mY (xtb 191)), Cond.selects (mY (xtb 191)).cls (mY (xtb 191)) (mY (xtb 191)), Cond.initialized (mY (xtb 191)).cls, Cond.code (mY (xtb 191)) (mC (xtb 191)) (mN (xtb 191)) (mR (xtb 191))], w ∈ xgood := List.forall_mem_cons.mpr ⟨wd1583, List.forall_mem_cons.mpr ⟨wd61, List.forall_mem_cons.mpr ⟨wd123, List.forall_mem_cons.mpr ⟨wd1584, fun _ h => by cases h⟩⟩⟩⟩
theorem cn194 : (parseMethodDescriptor (mY (xtb 194)).desc).map (fun d => d.parameters.length) = some 0 := by decide +kernel
theorem cm194 : (mY (xtb 194)).cls ≠ "java/lang/invoke/MethodHandle" ∧ (mY (xtb 194)).cls ≠ "java/lang/invoke/VarHandle" := by decide +kernel
theorem cw194 : ∀ w ∈ [Cond.instanceMethod (mY (xtb 194)), Cond.selects (mY (xtb 194)).cls (mY (xtb 194)) (mY (xtb 194)), Cond.initialized (mY (xtb 194)).cls, Cond.code (mY (xtb 194)) (mC (xtb 194)) (mN (xtb 194)) (mR (xtb 194))], w ∈ xgood := List.forall_mem_cons.mpr ⟨wd1509, List.forall_mem_cons.mpr ⟨wd46, List.forall_mem_cons.mpr ⟨wd123, List.forall_mem_cons.mpr ⟨wd1510, fun _ h => by cases h⟩⟩⟩⟩
theorem cn195 : (parseMethodDescriptor (mY (xtb 195)).desc).map (fun d => d.parameters.length) = some 0 := by decide +kernel
theorem cm195 : (mY (xtb 195)).cls ≠ "java/lang/invoke/MethodHandle" ∧ (mY (xtb 195)).cls ≠ "java/lang/invoke/VarHandle" := by decide +kernel
theorem cw195 : ∀ w ∈ [Cond.instanceMethod (mY (xtb 195)), Cond.selects (mY (xtb 195)).cls (mY (xtb 195)) (mY (xtb 195)), Cond.initialized (mY (xtb 195)).cls, Cond.code (mY (xtb 195)) (mC (xtb 195)) (mN (xtb 195)) (mR (xtb 195))], w ∈ xgood := List.forall_mem_cons.mpr ⟨wd1520, List.forall_mem_cons.mpr ⟨wd48, List.forall_mem_cons.mpr ⟨wd123, List.forall_mem_cons.mpr ⟨wd1521, fun _ h => by cases h⟩⟩⟩⟩
theorem cn197 : (parseMethodDescriptor (mY (xtb 197)).desc).map (fun d => d.parameters.length) = some 0 := by decide +kernel
theorem cm197 : (mY (xtb 197)).cls ≠ "java/lang/invoke/MethodHandle" ∧ (mY (xtb 197)).cls ≠ "java/lang/invoke/VarHandle" := by decide +kernel
theorem cw197 : ∀ w ∈ [Cond.instanceMethod (mY (xtb 197)), Cond.selects (mY (xtb 197)).cls (mY (xtb 197)) (mY (xtb 197)), Cond.initialized (mY (xtb 197)).cls, Cond.code (mY (xtb 197)) (mC (xtb 197)) (mN (xtb 197)) (mR (xtb 197))], w ∈ xgood := List.forall_mem_cons.mpr ⟨wd1543, List.forall_mem_cons.mpr ⟨wd53, List.forall_mem_cons.mpr ⟨wd123, List.forall_mem_cons.mpr ⟨wd1544, fun _ h => by cases h⟩⟩⟩⟩
theorem cn198 : (parseMethodDescriptor (mY (xtb 198)).desc).map (fun d => d.parameters.length) = some 0 := by decide +kernel
theorem cm198 : (mY (xtb 198)).cls ≠ "java/lang/invoke/MethodHandle" ∧ (mY (xtb 198)).cls ≠ "java/lang/invoke/VarHandle" := by decide +kernel
theorem cw198 : ∀ w ∈ [Cond.instanceMethod (mY (xtb 198)), Cond.selects (mY (xtb 198)).cls (mY (xtb 198)) (mY (xtb 198)), Cond.initialized (mY (xtb 198)).cls, Cond.code (mY (xtb 198)) (mC (xtb 198)) (mN (xtb 198)) (mR (xtb 198))], w ∈ xgood := List.forall_mem_cons.mpr ⟨wd1587, List.forall_mem_cons.mpr ⟨wd62, List.forall_mem_cons.mpr ⟨wd123, List.forall_mem_cons.mpr ⟨wd1588, fun _ h => by cases h⟩⟩⟩⟩
theorem cn201 : (parseMethodDescriptor (mY (xtb 201)).desc).map (fun d => d.parameters.length) = some 0 := by decide +kernel
theorem cm201 : (mY (xtb 201)).cls ≠ "java/lang/invoke/MethodHandle" ∧ (mY (xtb 201)).cls ≠ "java/lang/invoke/VarHandle" := by decide +kernel
theorem cw201 : ∀ w ∈ [Cond.instanceMethod (mY (xtb 201)), Cond.selects (mY (xtb 201)).cls (mY (xtb 201)) (mY (xtb 201)), Cond.initialized (mY (xtb 201)).cls, Cond.code (mY (xtb 201)) (mC (xtb 201)) (mN (xtb 201)) (mR (xtb 201))], w ∈ xgood := List.forall_mem_cons.mpr ⟨wd1592, List.forall_mem_cons.mpr ⟨wd63, List.forall_mem_cons.mpr ⟨wd123, List.forall_mem_cons.mpr ⟨wd1593, fun _ h => by cases h⟩⟩⟩⟩
theorem cn203 : (parseMethodDescriptor (mY (xtb 203)).desc).map (fun d => d.parameters.length) = some 0 := by decide +kernel
theorem cm203 : (mY (xtb 203)).cls ≠ "java/lang/invoke/MethodHandle" ∧ (mY (xtb 203)).cls ≠ "java/lang/invoke/VarHandle" := by decide +kernel
theorem cw203 : ∀ w ∈ [Cond.instanceMethod (mY (xtb 203)), Cond.selects (mY (xtb 203)).cls (mY (xtb 203)) (mY (xtb 203)), Cond.initialized (mY (xtb 203)).cls, Cond.code (mY (xtb 203)) (mC (xtb 203)) (mN (xtb 203)) (mR (xtb 203))], w ∈ xgood := List.forall_mem_cons.mpr ⟨wd1602, List.forall_mem_cons.mpr ⟨wd64, List.forall_mem_cons.mpr ⟨wd123, List.forall_mem_cons.mpr ⟨wd1603, fun _ h => by cases h⟩⟩⟩⟩
theorem cn205 : (parseMethodDescriptor (mY (xtb 205)).desc).map (fun d => d.parameters.length) = some 0 := by decide +kernel
theorem cm205 : (mY (xtb 205)).cls ≠ "java/lang/invoke/MethodHandle" ∧ (mY (xtb 205)).cls ≠ "java/lang/invoke/VarHandle" := by decide +kernel
theorem cw205 : ∀ w ∈ [Cond.instanceMethod (mY (xtb 205)), Cond.selects (mY (xtb 205)).cls (mY (xtb 205)) (mY (xtb 205)), Cond.initialized (mY (xtb 205)).cls, Cond.code (mY (xtb 205)) (mC (xtb 205)) (mN (xtb 205)) (mR (xtb 205))], w ∈ xgood := List.forall_mem_cons.mpr ⟨wd1612, List.forall_mem_cons.mpr ⟨wd65, List.forall_mem_cons.mpr ⟨wd123, List.forall_mem_cons.mpr ⟨wd1613, fun _ h => by cases h⟩⟩⟩⟩
theorem cn207 : (parseMethodDescriptor (mY (xtb 207)).desc).map (fun d => d.parameters.length) = some 0 := by decide +kernel
theorem cm207 : (mY (xtb 207)).cls ≠ "java/lang/invoke/MethodHandle" ∧ (mY (xtb 207)).cls ≠ "java/lang/invoke/VarHandle" := by decide +kernel
theorem cw207 : ∀ w ∈ [Cond.instanceMethod (mY (xtb 207)), Cond.selects (mY (xtb 207)).cls (mY (xtb 207)) (mY (xtb 207)), Cond.initialized (mY (xtb 207)).cls, Cond.code (mY (xtb 207)) (mC (xtb 207)) (mN (xtb 207)) (mR (xtb 207))], w ∈ xgood := List.forall_mem_cons.mpr ⟨wd1617, List.forall_mem_cons.mpr ⟨wd66, List.forall_mem_cons.mpr ⟨wd123, List.forall_mem_cons.mpr ⟨wd1618, fun _ h => by cases h⟩⟩⟩⟩
theorem cn185 : (parseMethodDescriptor (mY (xtb 185)).desc).map (fun d => d.parameters.length) = some 3 := by decide +kernel
theorem cm185 : (mY (xtb 185)).cls ≠ "java/lang/invoke/MethodHandle" ∧ (mY (xtb 185)).cls ≠ "java/lang/invoke/VarHandle" := by decide +kernel
theorem cw185 : ∀ w ∈ [Cond.instanceMethod (mY (xtb 185)), Cond.selects (mY (xtb 185)).cls (mY (xtb 185)) (mY (xtb 185)), Cond.initialized (mY (xtb 185)).cls, Cond.code (mY (xtb 185)) (mC (xtb 185)) (mN (xtb 185)) (mR (xtb 185))], w ∈ xgood := List.forall_mem_cons.mpr ⟨wd1529, List.forall_mem_cons.mpr ⟨wd50, List.forall_mem_cons.mpr ⟨wd123, List.forall_mem_cons.mpr ⟨wd1530, fun _ h => by cases h⟩⟩⟩⟩
theorem cn196 : (parseMethodDescriptor (mY (xtb 196)).desc).map (fun d => d.parameters.length) = some 2 := by decide +kernel
theorem cm196 : (mY (xtb 196)).cls ≠ "java/lang/invoke/MethodHandle" ∧ (mY (xtb 196)).cls ≠ "java/lang/invoke/VarHandle" := by decide +kernel
theorem cw196 : ∀ w ∈ [Cond.instanceMethod (mY (xtb 196)), Cond.selects (mY (xtb 196)).cls (mY (xtb 196)) (mY (xtb 196)), Cond.initialized (mY (xtb 196)).cls, Cond.code (mY (xtb 196)) (mC (xtb 196)) (mN (xtb 196)) (mR (xtb 196))], w ∈ xgood := List.forall_mem_cons.mpr ⟨wd1547, List.forall_mem_cons.mpr ⟨wd54, List.forall_mem_cons.mpr ⟨wd123, List.forall_mem_cons.mpr ⟨wd1548, fun _ h => by cases h⟩⟩⟩⟩
theorem cn190 : (parseMethodDescriptor (mY (xtb 190)).desc).map (fun d => d.parameters.length) = some 0 := by decide +kernel
theorem cm190 : (mY (xtb 190)).cls ≠ "java/lang/invoke/MethodHandle" ∧ (mY (xtb 190)).cls ≠ "java/lang/invoke/VarHandle" := by decide +kernel
theorem cw190 : ∀ w ∈ [Cond.instanceMethod (mY (xtb 190)), Cond.selects (mY (xtb 190)).cls (mY (xtb 190)) (mY (xtb 190)), Cond.initialized (mY (xtb 190)).cls, Cond.code (mY (xtb 190)) (mC (xtb 190)) (mN (xtb 190)) (mR (xtb 190))], w ∈ xgood := List.forall_mem_cons.mpr ⟨wd1551, List.forall_mem_cons.mpr ⟨wd55, List.forall_mem_cons.mpr ⟨wd123, List.forall_mem_cons.mpr ⟨wd1552, fun _ h => by cases h⟩⟩⟩⟩
theorem cn192 : (parseMethodDescriptor (mY (xtb 192)).desc).map (fun d => d.parameters.length) = some 1 := by decide +kernel
theorem cm192 : (mY (xtb 192)).cls ≠ "java/lang/invoke/MethodHandle" ∧ (mY (xtb 192)).cls ≠ "java/lang/invoke/VarHandle" := by decide +kernel
theorem cw192 : ∀ w ∈ [Cond.instanceMethod (mY (xtb 192)), Cond.selects (mY (xtb 192)).cls (mY (xtb 192)) (mY (xtb 192)), Cond.initialized (mY (xtb 192)).cls, Cond.code (mY (xtb 192)) (mC (xtb 192)) (mN (xtb 192)) (mR (xtb 192))], w ∈ xgood := List.forall_mem_cons.mpr ⟨wd1579, List.forall_mem_cons.mpr ⟨wd60, List.forall_mem_cons.mpr ⟨wd123, List.forall_mem_cons.mpr ⟨wd1580, fun _ h => by cases h⟩⟩⟩⟩
theorem cn199 : (parseMethodDescriptor (mY (xtb 199)).desc).map (fun d => d.parameters.length) = some 1 := by decide +kernel
theorem cm199 : (mY (xtb 199)).cls ≠ "java/lang/invoke/MethodHandle" ∧ (mY (xtb 199)).cls ≠ "java/lang/invoke/VarHandle" := by decide +kernel
theorem cw199 : ∀ w ∈ [Cond.static (mY (xtb 199)), Cond.initialized (mY (xtb 199)).cls, Cond.code (mY (xtb 199)) (mC (xtb 199)) (mN (xtb 199)) (mR (xtb 199))], w ∈ xgood := List.forall_mem_cons.mpr ⟨wd1598, List.forall_mem_cons.mpr ⟨wd123, List.forall_mem_cons.mpr ⟨wd1599, fun _ h => by cases h⟩⟩⟩
theorem cn200 : (parseMethodDescriptor (mY (xtb 200)).desc).map (fun d => d.parameters.length) = some 2 := by decide +kernel
theorem cm200 : (mY (xtb 200)).cls ≠ "java/lang/invoke/MethodHandle" ∧ (mY (xtb 200)).cls ≠ "java/lang/invoke/VarHandle" := by decide +kernel
theorem cw200 : ∀ w ∈ [Cond.static (mY (xtb 200)), Cond.initialized (mY (xtb 200)).cls, Cond.code (mY (xtb 200)) (mC (xtb 200)) (mN (xtb 200)) (mR (xtb 200))], w ∈ xgood := List.forall_mem_cons.mpr ⟨wd1595, List.forall_mem_cons.mpr ⟨wd123, List.forall_mem_cons.mpr ⟨wd1596, fun _ h => by cases h⟩⟩⟩
theorem cn202 : (parseMethodDescriptor (mY (xtb 202)).desc).map (fun d => d.parameters.length) = some 3 := by decide +kernel
theorem cm202 : (mY (xtb 202)).cls ≠ "java/lang/invoke/MethodHandle" ∧ (mY (xtb 202)).cls ≠ "java/lang/invoke/VarHandle" := by decide +kernel
theorem cw202 : ∀ w ∈ [Cond.static (mY (xtb 202)), Cond.initialized (mY (xtb 202)).cls, Cond.code (mY (xtb 202)) (mC (xtb 202)) (mN (xtb 202)) (mR (xtb 202))], w ∈ xgood := List.forall_mem_cons.mpr ⟨wd1605, List.forall_mem_cons.mpr ⟨wd123, List.forall_mem_cons.mpr ⟨wd1606, fun _ h => by cases h⟩⟩⟩
theorem cn204 : (parseMethodDescriptor (mY (xtb 204)).desc).map (fun d => d.parameters.length) = some 5 := by decide +kernel
theorem cm204 : (mY (xtb 204)).cls ≠ "java/lang/invoke/MethodHandle" ∧ (mY (xtb 204)).cls ≠ "java/lang/invoke/VarHandle" := by decide +kernel
theorem cw204 : ∀ w ∈ [Cond.static (mY (xtb 204)), Cond.initialized (mY (xtb 204)).cls, Cond.code (mY (xtb 204)) (mC (xtb 204)) (mN (xtb 204)) (mR (xtb 204))], w ∈ xgood := List.forall_mem_cons.mpr ⟨wd1608, List.forall_mem_cons.mpr ⟨wd123, List.forall_mem_cons.mpr ⟨wd1609, fun _ h => by cases h⟩⟩⟩
theorem cn206 : (parseMethodDescriptor (mY (xtb 206)).desc).map (fun d => d.parameters.length) = some 3 := by decide +kernel
theorem cm206 : (mY (xtb 206)).cls ≠ "java/lang/invoke/MethodHandle" ∧ (mY (xtb 206)).cls ≠ "java/lang/invoke/VarHandle" := by decide +kernel
theorem cw206 : ∀ w ∈ [Cond.static (mY (xtb 206)), Cond.initialized (mY (xtb 206)).cls, Cond.code (mY (xtb 206)) (mC (xtb 206)) (mN (xtb 206)) (mR (xtb 206))], w ∈ xgood := List.forall_mem_cons.mpr ⟨wd1620, List.forall_mem_cons.mpr ⟨wd123, List.forall_mem_cons.mpr ⟨wd1621, fun _ h => by cases h⟩⟩⟩
theorem cn193 : (parseMethodDescriptor (mY (xtb 193)).desc).map (fun d => d.parameters.length) = some 0 := by decide +kernel
theorem cm193 : (mY (xtb 193)).cls ≠ "java/lang/invoke/MethodHandle" ∧ (mY (xtb 193)).cls ≠ "java/lang/invoke/VarHandle" := by decide +kernel
theorem cw193 : ∀ w ∈ [Cond.instanceMethod (mY (xtb 193)), Cond.selects (mY (xtb 193)).cls (mY (xtb 193)) (mY (xtb 193)), Cond.initialized (mY (xtb 193)).cls, Cond.code (mY (xtb 193)) (mC (xtb 193)) (mN (xtb 193)) (mR (xtb 193))], w ∈ xgood := List.forall_mem_cons.mpr ⟨wd1482, List.forall_mem_cons.mpr ⟨wd40, List.forall_mem_cons.mpr ⟨wd123, List.forall_mem_cons.mpr ⟨wd1483, fun _ h => by cases h⟩⟩⟩⟩
theorem cn174 : (parseMethodDescriptor (mY (xtb 174)).desc).map (fun d => d.parameters.length) = some 1 := by decide +kernel
theorem cm174 : (mY (xtb 174)).cls ≠ "java/lang/invoke/MethodHandle" ∧ (mY (xtb 174)).cls ≠ "java/lang/invoke/VarHandle" := by decide +kernel
theorem cw174 : ∀ w ∈ [Cond.instanceMethod (mY (xtb 174)), Cond.selects (mY (xtb 174)).cls (mY (xtb 174)) (mY (xtb 174)), Cond.initialized (mY (xtb 174)).cls, Cond.code (mY (xtb 174)) (mC (xtb 174)) (mN (xtb 174)) (mR (xtb 174))], w ∈ xgood := List.forall_mem_cons.mpr ⟨wd1624, List.forall_mem_cons.mpr ⟨wd67, List.forall_mem_cons.mpr ⟨wd123, List.forall_mem_cons.mpr ⟨wd1625, fun _ h => by cases h⟩⟩⟩⟩
theorem cn213 : (parseMethodDescriptor (mY (xtb 213)).desc).map (fun d => d.parameters.length) = some 1 := by decide +kernel
theorem cm213 : (mY (xtb 213)).cls ≠ "java/lang/invoke/MethodHandle" ∧ (mY (xtb 213)).cls ≠ "java/lang/invoke/VarHandle" := by decide +kernel
theorem cw213 : ∀ w ∈ [Cond.instanceMethod (mY (xtb 213)), Cond.selects (mY (xtb 213)).cls (mY (xtb 213)) (mY (xtb 213)), Cond.initialized (mY (xtb 213)).cls, Cond.code (mY (xtb 213)) (mC (xtb 213)) (mN (xtb 213)) (mR (xtb 213))], w ∈ xgood := List.forall_mem_cons.mpr ⟨wd1644, List.forall_mem_cons.mpr ⟨wd68, List.forall_mem_cons.mpr ⟨wd123, List.forall_mem_cons.mpr ⟨wd1645, fun _ h => by cases h⟩⟩⟩⟩
theorem cn214 : (parseMethodDescriptor (mY (xtb 214)).desc).map (fun d => d.parameters.length) = some 1 := by decide +kernel
theorem cm214 : (mY (xtb 214)).cls ≠ "java/lang/invoke/MethodHandle" ∧ (mY (xtb 214)).cls ≠ "java/lang/invoke/VarHandle" := by decide +kernel
theorem cw214 : ∀ w ∈ [Cond.instanceMethod (mY (xtb 214)), Cond.selects (mY (xtb 214)).cls (mY (xtb 214)) (mY (xtb 214)), Cond.initialized (mY (xtb 214)).cls, Cond.code (mY (xtb 214)) (mC (xtb 214)) (mN (xtb 214)) (mR (xtb 214))], w ∈ xgood := List.forall_mem_cons.mpr ⟨wd1652, List.forall_mem_cons.mpr ⟨wd69, List.forall_mem_cons.mpr ⟨wd123, List.forall_mem_cons.mpr ⟨wd1653, fun _ h => by cases h⟩⟩⟩⟩
theorem cn217 : (parseMethodDescriptor (mY (xtb 217)).desc).map (fun d => d.parameters.length) = some 1 := by decide +kernel
theorem cm217 : (mY (xtb 217)).cls ≠ "java/lang/invoke/MethodHandle" ∧ (mY (xtb 217)).cls ≠ "java/lang/invoke/VarHandle" := by decide +kernel
theorem cw217 : ∀ w ∈ [Cond.instanceMethod (mY (xtb 217)), Cond.selects (mY (xtb 217)).cls (mY (xtb 217)) (mY (xtb 217)), Cond.initialized (mY (xtb 217)).cls, Cond.code (mY (xtb 217)) (mC (xtb 217)) (mN (xtb 217)) (mR (xtb 217))], w ∈ xgood := List.forall_mem_cons.mpr ⟨wd1656, List.forall_mem_cons.mpr ⟨wd70, List.forall_mem_cons.mpr ⟨wd123, List.forall_mem_cons.mpr ⟨wd1657, fun _ h => by cases h⟩⟩⟩⟩
theorem cn218 : (parseMethodDescriptor (mY (xtb 218)).desc).map (fun d => d.parameters.length) = some 2 := by decide +kernel
theorem cm218 : (mY (xtb 218)).cls ≠ "java/lang/invoke/MethodHandle" ∧ (mY (xtb 218)).cls ≠ "java/lang/invoke/VarHandle" := by decide +kernel
theorem cw218 : ∀ w ∈ [Cond.instanceMethod (mY (xtb 218)), Cond.selects (mY (xtb 218)).cls (mY (xtb 218)) (mY (xtb 218)), Cond.initialized (mY (xtb 218)).cls, Cond.code (mY (xtb 218)) (mC (xtb 218)) (mN (xtb 218)) (mR (xtb 218))], w ∈ xgood := List.forall_mem_cons.mpr ⟨wd1675, List.forall_mem_cons.mpr ⟨wd73, List.forall_mem_cons.mpr ⟨wd123, List.forall_mem_cons.mpr ⟨wd1676, fun _ h => by cases h⟩⟩⟩⟩
theorem cn222 : (parseMethodDescriptor (mY (xtb 222)).desc).map (fun d => d.parameters.length) = some 1 := by decide +kernel
theorem cm222 : (mY (xtb 222)).cls ≠ "java/lang/invoke/MethodHandle" ∧ (mY (xtb 222)).cls ≠ "java/lang/invoke/VarHandle" := by decide +kernel
theorem cw222 : ∀ w ∈ [Cond.static (mY (xtb 222)), Cond.initialized (mY (xtb 222)).cls, Cond.code (mY (xtb 222)) (mC (xtb 222)) (mN (xtb 222)) (mR (xtb 222))], w ∈ xgood := List.forall_mem_cons.mpr ⟨wd1667, List.forall_mem_cons.mpr ⟨wd123, List.forall_mem_cons.mpr ⟨wd1668, fun _ h => by cases h⟩⟩⟩
theorem cn224 : (parseMethodDescriptor (mY (xtb 224)).desc).map (fun d => d.parameters.length) = some 2 := by decide +kernel
theorem cm224 : (mY (xtb 224)).cls ≠ "java/lang/invoke/MethodHandle" ∧ (mY (xtb 224)).cls ≠ "java/lang/invoke/VarHandle" := by decide +kernel
theorem cw224 : ∀ w ∈ [Cond.instanceMethod (mY (xtb 224)), Cond.selects (mY (xtb 224)).cls (mY (xtb 224)) (mY (xtb 224)), Cond.initialized (mY (xtb 224)).cls, Cond.code (mY (xtb 224)) (mC (xtb 224)) (mN (xtb 224)) (mR (xtb 224))], w ∈ xgood := List.forall_mem_cons.mpr ⟨wd1664, List.forall_mem_cons.mpr ⟨wd71, List.forall_mem_cons.mpr ⟨wd123, List.forall_mem_cons.mpr ⟨wd1665, fun _ h => by cases h⟩⟩⟩⟩
theorem cn223 : (parseMethodDescriptor (mY (xtb 223)).desc).map (fun d => d.parameters.length) = some 2 := by decide +kernel
theorem cm223 : (mY (xtb 223)).cls ≠ "java/lang/invoke/MethodHandle" ∧ (mY (xtb 223)).cls ≠ "java/lang/invoke/VarHandle" := by decide +kernel
theorem cw223 : ∀ w ∈ [Cond.instanceMethod (mY (xtb 223)), Cond.selects (mY (xtb 223)).cls (mY (xtb 223)) (mY (xtb 223)), Cond.initialized (mY (xtb 223)).cls, Cond.code (mY (xtb 223)) (mC (xtb 223)) (mN (xtb 223)) (mR (xtb 223))], w ∈ xgood := List.forall_mem_cons.mpr ⟨wd1708, List.forall_mem_cons.mpr ⟨wd78, List.forall_mem_cons.mpr ⟨wd123, List.forall_mem_cons.mpr ⟨wd1709, fun _ h => by cases h⟩⟩⟩⟩
theorem cn219 : (parseMethodDescriptor (mY (xtb 219)).desc).map (fun d => d.parameters.length) = some 2 := by decide +kernel
theorem cm219 : (mY (xtb 219)).cls ≠ "java/lang/invoke/MethodHandle" ∧ (mY (xtb 219)).cls ≠ "java/lang/invoke/VarHandle" := by decide +kernel
theorem cw219 : ∀ w ∈ [Cond.instanceMethod (mY (xtb 219)), Cond.selects (mY (xtb 219)).cls (mY (xtb 219)) (mY (xtb 219)), Cond.initialized (mY (xtb 219)).cls, Cond.code (mY (xtb 219)) (mC (xtb 219)) (mN (xtb 219)) (mR (xtb 219))], w ∈ xgood := List.forall_mem_cons.mpr ⟨wd1671, List.forall_mem_cons.mpr ⟨wd72, List.forall_mem_cons.mpr ⟨wd123, List.forall_mem_cons.mpr ⟨wd1672, fun _ h => by cases h⟩⟩⟩⟩
theorem cn220 : (parseMethodDescriptor (mY (xtb 220)).desc).map (fun d => d.parameters.length) = some 2 := by decide +kernel
theorem cm220 : (mY (xtb 220)).cls ≠ "java/lang/invoke/MethodHandle" ∧ (mY (xtb 220)).cls ≠ "java/lang/invoke/VarHandle" := by decide +kernel
theorem cw220 : ∀ w ∈ [Cond.instanceMethod (mY (xtb 220)), Cond.selects (mY (xtb 220)).cls (mY (xtb 220)) (mY (xtb 220)), Cond.initialized (mY (xtb 220)).cls, Cond.code (mY (xtb 220)) (mC (xtb 220)) (mN (xtb 220)) (mR (xtb 220))], w ∈ xgood := List.forall_mem_cons.mpr ⟨wd1683, List.forall_mem_cons.mpr ⟨wd74, List.forall_mem_cons.mpr ⟨wd123, List.forall_mem_cons.mpr ⟨wd1684, fun _ h => by cases h⟩⟩⟩⟩
theorem cn221 : (parseMethodDescriptor (mY (xtb 221)).desc).map (fun d => d.parameters.length) = some 2 := by decide +kernel
theorem cm221 : (mY (xtb 221)).cls ≠ "java/lang/invoke/MethodHandle" ∧ (mY (xtb 221)).cls ≠ "java/lang/invoke/VarHandle" := by decide +kernel
theorem cw221 : ∀ w ∈ [Cond.instanceMethod (mY (xtb 221)), Cond.selects (mY (xtb 221)).cls (mY (xtb 221)) (mY (xtb 221)), Cond.initialized (mY (xtb 221)).cls, Cond.code (mY (xtb 221)) (mC (xtb 221)) (mN (xtb 221)) (mR (xtb 221))], w ∈ xgood := List.forall_mem_cons.mpr ⟨wd1687, List.forall_mem_cons.mpr ⟨wd75, List.forall_mem_cons.mpr ⟨wd123, List.forall_mem_cons.mpr ⟨wd1688, fun _ h => by cases h⟩⟩⟩⟩
theorem cn173 : (parseMethodDescriptor (mY (xtb 173)).desc).map (fun d => d.parameters.length) = some 1 := by decide +kernel
theorem cm173 : (mY (xtb 173)).cls ≠ "java/lang/invoke/MethodHandle" ∧ (mY (xtb 173)).cls ≠ "java/lang/invoke/VarHandle" := by decide +kernel
theorem cw173 : ∀ w ∈ [Cond.instanceMethod (mY (xtb 173)), Cond.selects (mY (xtb 173)).cls (mY (xtb 173)) (mY (xtb 173)), Cond.initialized (mY (xtb 173)).cls, Cond.code (mY (xtb 173)) (mC (xtb 173)) (mN (xtb 173)) (mR (xtb 173))], w ∈ xgood := List.forall_mem_cons.mpr ⟨wd1695, List.forall_mem_cons.mpr ⟨wd76, List.forall_mem_cons.mpr ⟨wd123, List.forall_mem_cons.mpr ⟨wd1696, fun _ h => by cases h⟩⟩⟩⟩
theorem cn229 : (parseMethodDescriptor (mY (xtb 229)).desc).map (fun d => d.parameters.length) = some 5 := by decide +kernel
theorem cm229 : (mY (xtb 229)).cls ≠ "java/lang/invoke/MethodHandle" ∧ (mY (xtb 229)).cls ≠ "java/lang/invoke/VarHandle" := by decide +kernel
theorem cw229 : ∀ w ∈ [Cond.instanceMethod (mY (xtb 229)), Cond.selects (mY (xtb 229)).cls (mY (xtb 229)) (mY (xtb 229)), Cond.initialized (mY (xtb 229)).cls, Cond.code (mY (xtb 229)) (mC (xtb 229)) (mN (xtb 229)) (mR (xtb 229))], w ∈ xgood := List.forall_mem_cons.mpr ⟨wd1716, List.forall_mem_cons.mpr ⟨wd80, List.forall_mem_cons.mpr ⟨wd123, List.forall_mem_cons.mpr ⟨wd1717, fun _ h => by cases h⟩⟩⟩⟩
theorem cn225 : (parseMethodDescriptor (mY (xtb 225)).desc).map (fun d => d.parameters.length) = some 4 := by decide +kernel
theorem cm225 : (mY (xtb 225)).cls ≠ "java/lang/invoke/MethodHandle" ∧ (mY (xtb 225)).cls ≠ "java/lang/invoke/VarHandle" := by decide +kernel
theorem cw225 : ∀ w ∈ [Cond.instanceMethod (mY (xtb 225)), Cond.selects (mY (xtb 225)).cls (mY (xtb 225)) (mY (xtb 225)), Cond.initialized (mY (xtb 225)).cls, Cond.code (mY (xtb 225)) (mC (xtb 225)) (mN (xtb 225)) (mR (xtb 225))], w ∈ xgood := List.forall_mem_cons.mpr ⟨wd1704, List.forall_mem_cons.mpr ⟨wd77, List.forall_mem_cons.mpr ⟨wd123, List.forall_mem_cons.mpr ⟨wd1705, fun _ h => by cases h⟩⟩⟩⟩
theorem cn230 : (parseMethodDescriptor (mY (xtb 230)).desc).map (fun d => d.parameters.length) = some 4 := by decide +kernel
theorem cm230 : (mY (xtb 230)).cls ≠ "java/lang/invoke/MethodHandle" ∧ (mY (xtb 230)).cls ≠ "java/lang/invoke/VarHandle" := by decide +kernel
theorem cw230 : ∀ w ∈ [Cond.instanceMethod (mY (xtb 230)), Cond.selects (mY (xtb 230)).cls (mY (xtb 230)) (mY (xtb 230)), Cond.initialized (mY (xtb 230)).cls, Cond.code (mY (xtb 230)) (mC (xtb 230)) (mN (xtb 230)) (mR (xtb 230))], w ∈ xgood := List.forall_mem_cons.mpr ⟨wd1712, List.forall_mem_cons.mpr ⟨wd79, List.forall_mem_cons.mpr ⟨wd123, List.forall_mem_cons.mpr ⟨wd1713, fun _ h => by cases h⟩⟩⟩⟩
theorem cn232 : (parseMethodDescriptor (mY (xtb 232)).desc).map (fun d => d.parameters.length) = some 3 := by decide +kernel
theorem cm232 : (mY (xtb 232)).cls ≠ "java/lang/invoke/MethodHandle" ∧ (mY (xtb 232)).cls ≠ "java/lang/invoke/VarHandle" := by decide +kernel
theorem cw232 : ∀ w ∈ [Cond.static (mY (xtb 232)), Cond.initialized (mY (xtb 232)).cls, Cond.code (mY (xtb 232)) (mC (xtb 232)) (mN (xtb 232)) (mR (xtb 232))], w ∈ xgood := List.forall_mem_cons.mpr ⟨wd1723, List.forall_mem_cons.mpr ⟨wd123, List.forall_mem_cons.mpr ⟨wd1724, fun _ h => by cases h⟩⟩⟩
theorem cn235 : (parseMethodDescriptor (mY (xtb 235)).desc).map (fun d => d.parameters.length) = some 4 := by decide +kernel
theorem cm235 : (mY (xtb 235)).cls ≠ "java/lang/invoke/MethodHandle" ∧ (mY (xtb 235)).cls ≠ "java/lang/invoke/VarHandle" := by decide +kernel
theorem cw235 : ∀ w ∈ [Cond.instanceMethod (mY (xtb 235)), Cond.selects (mY (xtb 235)).cls (mY (xtb 235)) (mY (xtb 235)), Cond.initialized (mY (xtb 235)).cls, Cond.code (mY (xtb 235)) (mC (xtb 235)) (mN (xtb 235)) (mR (xtb 235))], w ∈ xgood := List.forall_mem_cons.mpr ⟨wd1735, List.forall_mem_cons.mpr ⟨wd81, List.forall_mem_cons.mpr ⟨wd123, List.forall_mem_cons.mpr ⟨wd1736, fun _ h => by cases h⟩⟩⟩⟩
theorem cn236 : (parseMethodDescriptor (mY (xtb 236)).desc).map (fun d => d.parameters.length) = some 4 := by decide +kernel
theorem cm236 : (mY (xtb 236)).cls ≠ "java/lang/invoke/MethodHandle" ∧ (mY (xtb 236)).cls ≠ "java/lang/invoke/VarHandle" := by decide +kernel
theorem cw236 : ∀ w ∈ [Cond.instanceMethod (mY (xtb 236)), Cond.selects (mY (xtb 236)).cls (mY (xtb 236)) (mY (xtb 236)), Cond.initialized (mY (xtb 236)).cls, Cond.code (mY (xtb 236)) (mC (xtb 236)) (mN (xtb 236)) (mR (xtb 236))], w ∈ xgood := List.forall_mem_cons.mpr ⟨wd1743, List.forall_mem_cons.mpr ⟨wd82, List.forall_mem_cons.mpr ⟨wd123, List.forall_mem_cons.mpr ⟨wd1744, fun _ h => by cases h⟩⟩⟩⟩
theorem cn244 : (parseMethodDescriptor (mY (xtb 244)).desc).map (fun d => d.parameters.length) = some 3 := by decide +kernel
theorem cm244 : (mY (xtb 244)).cls ≠ "java/lang/invoke/MethodHandle" ∧ (mY (xtb 244)).cls ≠ "java/lang/invoke/VarHandle" := by decide +kernel
theorem cw244 : ∀ w ∈ [Cond.instanceMethod (mY (xtb 244)), Cond.selects (mY (xtb 244)).cls (mY (xtb 244)) (mY (xtb 244)), Cond.initialized (mY (xtb 244)).cls, Cond.code (mY (xtb 244)) (mC (xtb 244)) (mN (xtb 244)) (mR (xtb 244))], w ∈ xgood := List.forall_mem_cons.mpr ⟨wd1775, List.forall_mem_cons.mpr ⟨wd84, List.forall_mem_cons.mpr ⟨wd123, List.forall_mem_cons.mpr ⟨wd1776, fun _ h => by cases h⟩⟩⟩⟩
theorem cn246 : (parseMethodDescriptor (mY (xtb 246)).desc).map (fun d => d.parameters.length) = some 2 := by decide +kernel
theorem cm246 : (mY (xtb 246)).cls ≠ "java/lang/invoke/MethodHandle" ∧ (mY (xtb 246)).cls ≠ "java/lang/invoke/VarHandle" := by decide +kernel
theorem cw246 : ∀ w ∈ [Cond.instanceMethod (mY (xtb 246)), Cond.selects (mY (xtb 246)).cls (mY (xtb 246)) (mY (xtb 246)), Cond.initialized (mY (xtb 246)).cls, Cond.code (mY (xtb 246)) (mC (xtb 246)) (mN (xtb 246)) (mR (xtb 246))], w ∈ xgood := List.forall_mem_cons.mpr ⟨wd1787, List.forall_mem_cons.mpr ⟨wd86, List.forall_mem_cons.mpr ⟨wd123, List.forall_mem_cons.mpr ⟨wd1788, fun _ h => by cases h⟩⟩⟩⟩
theorem cn245 : (parseMethodDescriptor (mY (xtb 245)).desc).map (fun d => d.parameters.length) = some 3 := by decide +kernel
theorem cm245 : (mY (xtb 245)).cls ≠ "java/lang/invoke/MethodHandle" ∧ (mY (xtb 245)).cls ≠ "java/lang/invoke/VarHandle" := by decide +kernel
theorem cw245 : ∀ w ∈ [Cond.instanceMethod (mY (xtb 245)), Cond.selects (mY (xtb 245)).cls (mY (xtb 245)) (mY (xtb 245)), Cond.initialized (mY (xtb 245)).cls, Cond.code (mY (xtb 245)) (mC (xtb 245)) (mN (xtb 245)) (mR (xtb 245))], w ∈ xgood := List.forall_mem_cons.mpr ⟨wd1771, List.forall_mem_cons.mpr ⟨wd83, List.forall_mem_cons.mpr ⟨wd123, List.forall_mem_cons.mpr ⟨wd1772, fun _ h => by cases h⟩⟩⟩⟩
theorem cn247 : (parseMethodDescriptor (mY (xtb 247)).desc).map (fun d => d.parameters.length) = some 4 := by decide +kernel
theorem cm247 : (mY (xtb 247)).cls ≠ "java/lang/invoke/MethodHandle" ∧ (mY (xtb 247)).cls ≠ "java/lang/invoke/VarHandle" := by decide +kernel
theorem cw247 : ∀ w ∈ [Cond.instanceMethod (mY (xtb 247)), Cond.selects (mY (xtb 247)).cls (mY (xtb 247)) (mY (xtb 247)), Cond.initialized (mY (xtb 247)).cls, Cond.code (mY (xtb 247)) (mC (xtb 247)) (mN (xtb 247)) (mR (xtb 247))], w ∈ xgood := List.forall_mem_cons.mpr ⟨wd1783, List.forall_mem_cons.mpr ⟨wd85, List.forall_mem_cons.mpr ⟨wd123, List.forall_mem_cons.mpr ⟨wd1784, fun _ h => by cases h⟩⟩⟩⟩
theorem cn248 : (parseMethodDescriptor (mY (xtb 248)).desc).map (fun d => d.parameters.length) = some 2 := by decide +kernel
theorem cm248 : (mY (xtb 248)).cls ≠ "java/lang/invoke/MethodHandle" ∧ (mY (xtb 248)).cls ≠ "java/lang/invoke/VarHandle" := by decide +kernel
theorem cw248 : ∀ w ∈ [Cond.instanceMethod (mY (xtb 248)), Cond.selects (mY (xtb 248)).cls (mY (xtb 248)) (mY (xtb 248)), Cond.initialized (mY (xtb 248)).cls, Cond.code (mY (xtb 248)) (mC (xtb 248)) (mN (xtb 248)) (mR (xtb 248))], w ∈ xgood := List.forall_mem_cons.mpr ⟨wd1795, List.forall_mem_cons.mpr ⟨wd87, List.forall_mem_cons.mpr ⟨wd123, List.forall_mem_cons.mpr ⟨wd1796, fun _ h => by cases h⟩⟩⟩⟩
theorem cn252 : (parseMethodDescriptor (mY (xtb 252)).desc).map (fun d => d.parameters.length) = some 4 := by decide +kernel
theorem cm252 : (mY (xtb 252)).cls ≠ "java/lang/invoke/MethodHandle" ∧ (mY (xtb 252)).cls ≠ "java/lang/invoke/VarHandle" := by decide +kernel
theorem cw252 : ∀ w ∈ [Cond.instanceMethod (mY (xtb 252)), Cond.selects (mY (xtb 252)).cls (mY (xtb 252)) (mY (xtb 252)), Cond.initialized (mY (xtb 252)).cls, Cond.code (mY (xtb 252)) (mC (xtb 252)) (mN (xtb 252)) (mR (xtb 252))], w ∈ xgood := List.forall_mem_cons.mpr ⟨wd1803, List.forall_mem_cons.mpr ⟨wd88, List.forall_mem_cons.mpr ⟨wd123, List.forall_mem_cons.mpr ⟨wd1804, fun _ h => by cases h⟩⟩⟩⟩
theorem cn255 : (parseMethodDescriptor (mY (xtb 255)).desc).map (fun d => d.parameters.length) = some 4 := by decide +kernel
theorem cm255 : (mY (xtb 255)).cls ≠ "java/lang/invoke/MethodHandle" ∧ (mY (xtb 255)).cls ≠ "java/lang/invoke/VarHandle" := by decide +kernel
theorem cw255 : ∀ w ∈ [Cond.static (mY (xtb 255)), Cond.initialized (mY (xtb 255)).cls, Cond.code (mY (xtb 255)) (mC (xtb 255)) (mN (xtb 255)) (mR (xtb 255))], w ∈ xgood := List.forall_mem_cons.mpr ⟨wd1822, List.forall_mem_cons.mpr ⟨wd123, List.forall_mem_cons.mpr ⟨wd1823, fun _ h => by cases h⟩⟩⟩
theorem cn256 : (parseMethodDescriptor (mY (xtb 256)).desc).map (fun d => d.parameters.length) = some 2 := by decide +kernel
theorem cm256 : (mY (xtb 256)).cls ≠ "java/lang/invoke/MethodHandle" ∧ (mY (xtb 256)).cls ≠ "java/lang/invoke/VarHandle" := by decide +kernel
theorem cw256 : ∀ w ∈ [Cond.static (mY (xtb 256)), Cond.initialized (mY (xtb 256)).cls, Cond.code (mY (xtb 256)) (mC (xtb 256)) (mN (xtb 256)) (mR (xtb 256))], w ∈ xgood := List.forall_mem_cons.mpr ⟨wd1825, List.forall_mem_cons.mpr ⟨wd123, List.forall_mem_cons.mpr ⟨wd1826, fun _ h => by cases h⟩⟩⟩
theorem cn258 : (parseMethodDescriptor (mY (xtb 258)).desc).map (fun d => d.parameters.length) = some 6 := by decide +kernel
theorem cm258 : (mY (xtb 258)).cls ≠ "java/lang/invoke/MethodHandle" ∧ (mY (xtb 258)).cls ≠ "java/lang/invoke/VarHandle" := by decide +kernel
theorem cw258 : ∀ w ∈ [Cond.instanceMethod (mY (xtb 258)), Cond.selects (mY (xtb 258)).cls (mY (xtb 258)) (mY (xtb 258)), Cond.initialized (mY (xtb 258)).cls, Cond.code (mY (xtb 258)) (mC (xtb 258)) (mN (xtb 258)) (mR (xtb 258))], w ∈ xgood := List.forall_mem_cons.mpr ⟨wd1815, List.forall_mem_cons.mpr ⟨wd89, List.forall_mem_cons.mpr ⟨wd123, List.forall_mem_cons.mpr ⟨wd1816, fun _ h => by cases h⟩⟩⟩⟩
theorem cn257 : (parseMethodDescriptor (mY (xtb 257)).desc).map (fun d => d.parameters.length) = some 6 := by decide +kernel
theorem cm257 : (mY (xtb 257)).cls ≠ "java/lang/invoke/MethodHandle" ∧ (mY (xtb 257)).cls ≠ "java/lang/invoke/VarHandle" := by decide +kernel
theorem cw257 : ∀ w ∈ [Cond.instanceMethod (mY (xtb 257)), Cond.selects (mY (xtb 257)).cls (mY (xtb 257)) (mY (xtb 257)), Cond.initialized (mY (xtb 257)).cls, Cond.code (mY (xtb 257)) (mC (xtb 257)) (mN (xtb 257)) (mR (xtb 257))], w ∈ xgood := List.forall_mem_cons.mpr ⟨wd1819, List.forall_mem_cons.mpr ⟨wd90, List.forall_mem_cons.mpr ⟨wd123, List.forall_mem_cons.mpr ⟨wd1820, fun _ h => by cases h⟩⟩⟩⟩
theorem cn262 : (parseMethodDescriptor (mY (xtb 262)).desc).map (fun d => d.parameters.length) = some 2 := by decide +kernel
theorem cm262 : (mY (xtb 262)).cls ≠ "java/lang/invoke/MethodHandle" ∧ (mY (xtb 262)).cls ≠ "java/lang/invoke/VarHandle" := by decide +kernel
theorem cw262 : ∀ w ∈ [Cond.instanceMethod (mY (xtb 262)), Cond.selects (mY (xtb 262)).cls (mY (xtb 262)) (mY (xtb 262)), Cond.initialized (mY (xtb 262)).cls, Cond.code (mY (xtb 262)) (mC (xtb 262)) (mN (xtb 262)) (mR (xtb 262))], w ∈ xgood := List.forall_mem_cons.mpr ⟨wd1847, List.forall_mem_cons.mpr ⟨wd93, List.forall_mem_cons.mpr ⟨wd123, List.forall_mem_cons.mpr ⟨wd1848, fun _ h => by cases h⟩⟩⟩⟩
theorem cn263 : (parseMethodDescriptor (mY (xtb 263)).desc).map (fun d => d.parameters.length) = some 3 := by decide +kernel
theorem cm263 : (mY (xtb 263)).cls ≠ "java/lang/invoke/MethodHandle" ∧ (mY (xtb 263)).cls ≠ "java/lang/invoke/VarHandle" := by decide +kernel
theorem cw263 : ∀ w ∈ [Cond.instanceMethod (mY (xtb 263)), Cond.selects (mY (xtb 263)).cls (mY (xtb 263)) (mY (xtb 263)), Cond.initialized (mY (xtb 263)).cls, Cond.code (mY (xtb 263)) (mC (xtb 263)) (mN (xtb 263)) (mR (xtb 263))], w ∈ xgood := List.forall_mem_cons.mpr ⟨wd1859, List.forall_mem_cons.mpr ⟨wd96, List.forall_mem_cons.mpr ⟨wd123, List.forall_mem_cons.mpr ⟨wd1860, fun _ h => by cases h⟩⟩⟩⟩
theorem cn264 : (parseMethodDescriptor (mY (xtb 264)).desc).map (fun d => d.parameters.length) = some 2 := by decide +kernel
theorem cm264 : (mY (xtb 264)).cls ≠ "java/lang/invoke/MethodHandle" ∧ (mY (xtb 264)).cls ≠ "java/lang/invoke/VarHandle" := by decide +kernel
theorem cw264 : ∀ w ∈ [Cond.instanceMethod (mY (xtb 264)), Cond.selects (mY (xtb 264)).cls (mY (xtb 264)) (mY (xtb 264)), Cond.initialized (mY (xtb 264)).cls, Cond.code (mY (xtb 264)) (mC (xtb 264)) (mN (xtb 264)) (mR (xtb 264))], w ∈ xgood := List.forall_mem_cons.mpr ⟨wd1855, List.forall_mem_cons.mpr ⟨wd95, List.forall_mem_cons.mpr ⟨wd123, List.forall_mem_cons.mpr ⟨wd1856, fun _ h => by cases h⟩⟩⟩⟩
theorem cn265 : (parseMethodDescriptor (mY (xtb 265)).desc).map (fun d => d.parameters.length) = some 2 := by decide +kernel
theorem cm265 : (mY (xtb 265)).cls ≠ "java/lang/invoke/MethodHandle" ∧ (mY (xtb 265)).cls ≠ "java/lang/invoke/VarHandle" := by decide +kernel
theorem cw265 : ∀ w ∈ [Cond.instanceMethod (mY (xtb 265)), Cond.selects (mY (xtb 265)).cls (mY (xtb 265)) (mY (xtb 265)), Cond.initialized (mY (xtb 265)).cls, Cond.code (mY (xtb 265)) (mC (xtb 265)) (mN (xtb 265)) (mR (xtb 265))], w ∈ xgood := List.forall_mem_cons.mpr ⟨wd1851, List.forall_mem_cons.mpr ⟨wd94, List.forall_mem_cons.mpr ⟨wd123, List.forall_mem_cons.mpr ⟨wd1852, fun _ h => by cases h⟩⟩⟩⟩
theorem cn261 : (parseMethodDescriptor (mY (xtb 261)).desc).map (fun d => d.parameters.length) = some 1 := by decide +kernel
theorem cm261 : (mY (xtb 261)).cls ≠ "java/lang/invoke/MethodHandle" ∧ (mY (xtb 261)).cls ≠ "java/lang/invoke/VarHandle" := by decide +kernel
theorem cw261 : ∀ w ∈ [Cond.instanceMethod (mY (xtb 261)), Cond.selects (mY (xtb 261)).cls (mY (xtb 261)) (mY (xtb 261)), Cond.initialized (mY (xtb 261)).cls, Cond.code (mY (xtb 261)) (mC (xtb 261)) (mN (xtb 261)) (mR (xtb 261))], w ∈ xgood := List.forall_mem_cons.mpr ⟨wd1839, List.forall_mem_cons.mpr ⟨wd91, List.forall_mem_cons.mpr ⟨wd123, List.forall_mem_cons.mpr ⟨wd1840, fun _ h => by cases h⟩⟩⟩⟩
theorem cn266 : (parseMethodDescriptor (mY (xtb 266)).desc).map (fun d => d.parameters.length) = some 1 := by decide +kernel
theorem cm266 : (mY (xtb 266)).cls ≠ "java/lang/invoke/MethodHandle" ∧ (mY (xtb 266)).cls ≠ "java/lang/invoke/VarHandle" := by decide +kernel
theorem cw266 : ∀ w ∈ [Cond.instanceMethod (mY (xtb 266)), Cond.selects (mY (xtb 266)).cls (mY (xtb 266)) (mY (xtb 266)), Cond.initialized (mY (xtb 266)).cls, Cond.code (mY (xtb 266)) (mC (xtb 266)) (mN (xtb 266)) (mR (xtb 266))], w ∈ xgood := List.forall_mem_cons.mpr ⟨wd1843, List.forall_mem_cons.mpr ⟨wd92, List.forall_mem_cons.mpr ⟨wd123, List.forall_mem_cons.mpr ⟨wd1844, fun _ h => by cases h⟩⟩⟩⟩
theorem cn269 : (parseMethodDescriptor (mY (xtb 269)).desc).map (fun d => d.parameters.length) = some 2 := by decide +kernel
theorem cm269 : (mY (xtb 269)).cls ≠ "java/lang/invoke/MethodHandle" ∧ (mY (xtb 269)).cls ≠ "java/lang/invoke/VarHandle" := by decide +kernel
theorem cw269 : ∀ w ∈ [Cond.instanceMethod (mY (xtb 269)), Cond.selects (mY (xtb 269)).cls (mY (xtb 269)) (mY (xtb 269)), Cond.initialized (mY (xtb 269)).cls, Cond.code (mY (xtb 269)) (mC (xtb 269)) (mN (xtb 269)) (mR (xtb 269))], w ∈ xgood := List.forall_mem_cons.mpr ⟨wd1875, List.forall_mem_cons.mpr ⟨wd98, List.forall_mem_cons.mpr ⟨wd123, List.forall_mem_cons.mpr ⟨wd1876, fun _ h => by cases h⟩⟩⟩⟩
theorem cn270 : (parseMethodDescriptor (mY (xtb 270)).desc).map (fun d => d.parameters.length) = some 0 := by decide +kernel
theorem cm270 : (mY (xtb 270)).cls ≠ "java/lang/invoke/MethodHandle" ∧ (mY (xtb 270)).cls ≠ "java/lang/invoke/VarHandle" := by decide +kernel
theorem cw270 : ∀ w ∈ [Cond.instanceMethod (mY (xtb 270)), Cond.selects (mY (xtb 270)).cls (mY (xtb 270)) (mY (xtb 270)), Cond.initialized (mY (xtb 270)).cls, Cond.code (mY (xtb 270)) (mC (xtb 270)) (mN (xtb 270)) (mR (xtb 270))], w ∈ xgood := List.forall_mem_cons.mpr ⟨wd1871, List.forall_mem_cons.mpr ⟨wd97, List.forall_mem_cons.mpr ⟨wd123, List.forall_mem_cons.mpr ⟨wd1872, fun _ h => by cases h⟩⟩⟩⟩
theorem cn275 : (parseMethodDescriptor (mY (xtb 275)).desc).map (fun d => d.parameters.length) = some 2 := by decide +kernel
theorem cm275 : (mY (xtb 275)).cls ≠ "java/lang/invoke/MethodHandle" ∧ (mY (xtb 275)).cls ≠ "java/lang/invoke/VarHandle" := by decide +kernel
theorem cw275 : ∀ w ∈ [Cond.instanceMethod (mY (xtb 275)), Cond.selects (mY (xtb 275)).cls (mY (xtb 275)) (mY (xtb 275)), Cond.initialized (mY (xtb 275)).cls, Cond.code (mY (xtb 275)) (mC (xtb 275)) (mN (xtb 275)) (mR (xtb 275))], w ∈ xgood := List.forall_mem_cons.mpr ⟨wd1923, List.forall_mem_cons.mpr ⟨wd104, List.forall_mem_cons.mpr ⟨wd123, List.forall_mem_cons.mpr ⟨wd1924, fun _ h => by cases h⟩⟩⟩⟩
theorem cn277 : (parseMethodDescriptor (mY (xtb 277)).desc).map (fun d => d.parameters.length) = some 1 := by decide +kernel
theorem cm277 : (mY (xtb 277)).cls ≠ "java/lang/invoke/MethodHandle" ∧ (mY (xtb 277)).cls ≠ "java/lang/invoke/VarHandle" := by decide +kernel
theorem cw277 : ∀ w ∈ [Cond.instanceMethod (mY (xtb 277)), Cond.selects (mY (xtb 277)).cls (mY (xtb 277)) (mY (xtb 277)), Cond.initialized (mY (xtb 277)).cls, Cond.code (mY (xtb 277)) (mC (xtb 277)) (mN (xtb 277)) (mR (xtb 277))], w ∈ xgood := List.forall_mem_cons.mpr ⟨wd1895, List.forall_mem_cons.mpr ⟨wd99, List.forall_mem_cons.mpr ⟨wd123, List.forall_mem_cons.mpr ⟨wd1896, fun _ h => by cases h⟩⟩⟩⟩
theorem cn278 : (parseMethodDescriptor (mY (xtb 278)).desc).map (fun d => d.parameters.length) = some 1 := by decide +kernel
theorem cm278 : (mY (xtb 278)).cls ≠ "java/lang/invoke/MethodHandle" ∧ (mY (xtb 278)).cls ≠ "java/lang/invoke/VarHandle" := by decide +kernel
theorem cw278 : ∀ w ∈ [Cond.instanceMethod (mY (xtb 278)), Cond.selects (mY (xtb 278)).cls (mY (xtb 278)) (mY (xtb 278)), Cond.initialized (mY (xtb 278)).cls, Cond.code (mY (xtb 278)) (mC (xtb 278)) (mN (xtb 278)) (mR (xtb 278))], w ∈ xgood := List.forall_mem_cons.mpr ⟨wd1903, List.forall_mem_cons.mpr ⟨wd100, List.forall_mem_cons.mpr ⟨wd123, List.forall_mem_cons.mpr ⟨wd1904, fun _ h => by cases h⟩⟩⟩⟩
theorem cn274 : (parseMethodDescriptor (mY (xtb 274)).desc).map (fun d => d.parameters.length) = some 0 := by decide +kernel
theorem cm274 : (mY (xtb 274)).cls ≠ "java/lang/invoke/MethodHandle" ∧ (mY (xtb 274)).cls ≠ "java/lang/invoke/VarHandle" := by decide +kernel
theorem cw274 : ∀ w ∈ [Cond.instanceMethod (mY (xtb 274)), Cond.selects (mY (xtb 274)).cls (mY (xtb 274)) (mY (xtb 274)), Cond.initialized (mY (xtb 274)).cls, Cond.code (mY (xtb 274)) (mC (xtb 274)) (mN (xtb 274)) (mR (xtb 274))], w ∈ xgood := List.forall_mem_cons.mpr ⟨wd1915, List.forall_mem_cons.mpr ⟨wd102, List.forall_mem_cons.mpr ⟨wd123, List.forall_mem_cons.mpr ⟨wd1916, fun _ h => by cases h⟩⟩⟩⟩
theorem cn282 : (parseMethodDescriptor (mY (xtb 282)).desc).map (fun d => d.parameters.length) = some 1 := by decide +kernel
theorem cm282 : (mY (xtb 282)).cls ≠ "java/lang/invoke/MethodHandle" ∧ (mY (xtb 282)).cls ≠ "java/lang/invoke/VarHandle" := by decide +kernel
theorem cw282 : ∀ w ∈ [Cond.instanceMethod (mY (xtb 282)), Cond.selects (mY (xtb 282)).cls (mY (xtb 282)) (mY (xtb 282)), Cond.initialized (mY (xtb 282)).cls, Cond.code (mY (xtb 282)) (mC (xtb 282)) (mN (xtb 282)) (mR (xtb 282))], w ∈ xgood := List.forall_mem_cons.mpr ⟨wd1911, List.forall_mem_cons.mpr ⟨wd101, List.forall_mem_cons.mpr ⟨wd123, List.forall_mem_cons.mpr ⟨wd1912, fun _ h => by cases h⟩⟩⟩⟩
theorem cn276 : (parseMethodDescriptor (mY (xtb 276)).desc).map (fun d => d.parameters.length) = some 2 := by decide +kernel
theorem cm276 : (mY (xtb 276)).cls ≠ "java/lang/invoke/MethodHandle" ∧ (mY (xtb 276)).cls ≠ "java/lang/invoke/VarHandle" := by decide +kernel
theorem cw276 : ∀ w ∈ [Cond.instanceMethod (mY (xtb 276)), Cond.selects (mY (xtb 276)).cls (mY (xtb 276)) (mY (xtb 276)), Cond.initialized (mY (xtb 276)).cls, Cond.code (mY (xtb 276)) (mC (xtb 276)) (mN (xtb 276)) (mR (xtb 276))], w ∈ xgood := List.forall_mem_cons.mpr ⟨wd1919, List.forall_mem_cons.mpr ⟨wd103, List.forall_mem_cons.mpr ⟨wd123, List.forall_mem_cons.mpr ⟨wd1920, fun _ h => by cases h⟩⟩⟩⟩
theorem cn289 : (parseMethodDescriptor (mY (xtb 289)).desc).map (fun d => d.parameters.length) = some 3 := by decide +kernel
theorem cm289 : (mY (xtb 289)).cls ≠ "java/lang/invoke/MethodHandle" ∧ (mY (xtb 289)).cls ≠ "java/lang/invoke/VarHandle" := by decide +kernel
theorem cw289 : ∀ w ∈ [Cond.instanceMethod (mY (xtb 289)), Cond.selects (mY (xtb 289)).cls (mY (xtb 289)) (mY (xtb 289)), Cond.initialized (mY (xtb 289)).cls, Cond.code (mY (xtb 289)) (mC (xtb 289)) (mN (xtb 289)) (mR (xtb 289))], w ∈ xgood := List.forall_mem_cons.mpr ⟨wd1931, List.forall_mem_cons.mpr ⟨wd105, List.forall_mem_cons.mpr ⟨wd123, List.forall_mem_cons.mpr ⟨wd1932, fun _ h => by cases h⟩⟩⟩⟩
theorem cn286 : (parseMethodDescriptor (mY (xtb 286)).desc).map (fun d => d.parameters.length) = some 1 := by decide +kernel
theorem cm286 : (mY (xtb 286)).cls ≠ "java/lang/invoke/MethodHandle" ∧ (mY (xtb 286)).cls ≠ "java/lang/invoke/VarHandle" := by decide +kernel
theorem cw286 : ∀ w ∈ [Cond.instanceMethod (mY (xtb 286)), Cond.selects (mY (xtb 286)).cls (mY (xtb 286)) (mY (xtb 286)), Cond.initialized (mY (xtb 286)).cls, Cond.code (mY (xtb 286)) (mC (xtb 286)) (mN (xtb 286)) (mR (xtb 286))], w ∈ xgood := List.forall_mem_cons.mpr ⟨wd1939, List.forall_mem_cons.mpr ⟨wd106, List.forall_mem_cons.mpr ⟨wd123, List.forall_mem_cons.mpr ⟨wd1940, fun _ h => by cases h⟩⟩⟩⟩
theorem cn292 : (parseMethodDescriptor (mY (xtb 292)).desc).map (fun d => d.parameters.length) = some 3 := by decide +kernel
theorem cm292 : (mY (xtb 292)).cls ≠ "java/lang/invoke/MethodHandle" ∧ (mY (xtb 292)).cls ≠ "java/lang/invoke/VarHandle" := by decide +kernel
theorem cw292 : ∀ w ∈ [Cond.instanceMethod (mY (xtb 292)), Cond.selects (mY (xtb 292)).cls (mY (xtb 292)) (mY (xtb 292)), Cond.initialized (mY (xtb 292)).cls, Cond.code (mY (xtb 292)) (mC (xtb 292)) (mN (xtb 292)) (mR (xtb 292))], w ∈ xgood := List.forall_mem_cons.mpr ⟨wd1959, List.forall_mem_cons.mpr ⟨wd107, List.forall_mem_cons.mpr ⟨wd123, List.forall_mem_cons.mpr ⟨wd1960, fun _ h => by cases h⟩⟩⟩⟩
theorem cn285 : (parseMethodDescriptor (mY (xtb 285)).desc).map (fun d => d.parameters.length) = some 0 := by decide +kernel
theorem cm285 : (mY (xtb 285)).cls ≠ "java/lang/invoke/MethodHandle" ∧ (mY (xtb 285)).cls ≠ "java/lang/invoke/VarHandle" := by decide +kernel
theorem cw285 : ∀ w ∈ [Cond.instanceMethod (mY (xtb 285)), Cond.selects (mY (xtb 285)).cls (mY (xtb 285)) (mY (xtb 285)), Cond.initialized (mY (xtb 285)).cls, Cond.code (mY (xtb 285)) (mC (xtb 285)) (mN (xtb 285)) (mR (xtb 285))], w ∈ xgood := List.forall_mem_cons.mpr ⟨wd1971, List.forall_mem_cons.mpr ⟨wd108, List.forall_mem_cons.mpr ⟨wd123, List.forall_mem_cons.mpr ⟨wd1972, fun _ h => by cases h⟩⟩⟩⟩
theorem cn296 : (parseMethodDescriptor (mY (xtb 296)).desc).map (fun d => d.parameters.length) = some 1 := by decide +kernel
theorem cm296 : (mY (xtb 296)).cls ≠ "java/lang/invoke/MethodHandle" ∧ (mY (xtb 296)).cls ≠ "java/lang/invoke/VarHandle" := by decide +kernel
theorem cw296 : ∀ w ∈ [Cond.instanceMethod (mY (xtb 296)), Cond.selects (mY (xtb 296)).cls (mY (xtb 296)) (mY (xtb 296)), Cond.initialized (mY (xtb 296)).cls, Cond.code (mY (xtb 296)) (mC (xtb 296)) (mN (xtb 296)) (mR (xtb 296))], w ∈ xgood := List.forall_mem_cons.mpr ⟨wd1979, List.forall_mem_cons.mpr ⟨wd109, List.forall_mem_cons.mpr ⟨wd123, List.forall_mem_cons.mpr ⟨wd1980, fun _ h => by cases h⟩⟩⟩⟩
theorem cn298 : (parseMethodDescriptor (mY (xtb 298)).desc).map (fun d => d.parameters.length) = some 0 := by decide +kernel
theorem cm298 : (mY (xtb 298)).cls ≠ "java/lang/invoke/MethodHandle" ∧ (mY (xtb 298)).cls ≠ "java/lang/invoke/VarHandle" := by decide +kernel
theorem cw298 : ∀ w ∈ [Cond.instanceMethod (mY (xtb 298)), Cond.selects (mY (xtb 298)).cls (mY (xtb 298)) (mY (xtb 298)), Cond.initialized (mY (xtb 298)).cls, Cond.code (mY (xtb 298)) (mC (xtb 298)) (mN (xtb 298)) (mR (xtb 298))], w ∈ xgood := List.forall_mem_cons.mpr ⟨wd1987, List.forall_mem_cons.mpr ⟨wd110, List.forall_mem_cons.mpr ⟨wd123, List.forall_mem_cons.mpr ⟨wd1988, fun _ h => by cases h⟩⟩⟩⟩
