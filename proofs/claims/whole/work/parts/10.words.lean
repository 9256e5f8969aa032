theorem w_oi : (Jvm.Cond.instanceMethod ({ cls := "java/lang/Object", name := "<init>", desc := "()V" } : Jvm.MethodName)) ∈ TB := TB_t1 28 rfl rfl
theorem w_oc : (Jvm.Cond.code ({ cls := "java/lang/Object", name := "<init>", desc := "()V" } : Jvm.MethodName) object_method_1_code (1 : Nat) (Option.none : Option Jvm.ClassFile.FieldType)) ∈ TB := TB_t1 29 rfl rfl
theorem w_an : (Jvm.Cond.native ({ cls := "java/lang/System", name := "arraycopy", desc := "(Ljava/lang/Object;ILjava/lang/Object;II)V" } : Jvm.MethodName)) ∈ TB := TB_t3 151 rfl rfl
theorem w_as : (Jvm.Cond.static ({ cls := "java/lang/System", name := "arraycopy", desc := "(Ljava/lang/Object;ILjava/lang/Object;II)V" } : Jvm.MethodName)) ∈ TB := TB_t3 150 rfl rfl
theorem w_ai : (Jvm.Cond.initialized "java/lang/System") ∈ TB := TB_t1 18 rfl rfl
theorem w_c0 : (Jvm.Cond.sameMethod "[I" "java/lang/Object" "clone" "()Ljava/lang/Object;") ∈ TB := TB_t3 142 rfl rfl
theorem w_c1 : (Jvm.Cond.native ({ cls := "java/lang/Object", name := "clone", desc := "()Ljava/lang/Object;" } : Jvm.MethodName)) ∈ TB := TB_t3 143 rfl rfl
theorem w_c2 : (Jvm.Cond.instanceMethod ({ cls := "java/lang/Object", name := "clone", desc := "()Ljava/lang/Object;" } : Jvm.MethodName)) ∈ TB := TB_t3 144 rfl rfl
theorem w_c3 : (Jvm.Cond.selects "[I" ({ cls := "[I", name := "clone", desc := "()Ljava/lang/Object;" } : Jvm.MethodName) ({ cls := "java/lang/Object", name := "clone", desc := "()Ljava/lang/Object;" } : Jvm.MethodName)) ∈ TB := TB_t3 145 rfl rfl
theorem ws_0 : Cond.selects "NeedleHomes$Reader" ⟨"NeedleHomes$Reader", "byteAt", "(I)I"⟩ ⟨"NeedleHomes$Reader", "byteAt", "(I)I"⟩ ∈ TB := TB_sel (q := (⟨"NeedleHomes$Reader", "byteAt", "(I)I"⟩, 8)) 0 rfl
theorem ws_1 : Cond.selects "NeedleHomes$Reader" ⟨"NeedleHomes$Reader", "stepOverDigits", "()V"⟩ ⟨"NeedleHomes$Reader", "stepOverDigits", "()V"⟩ ∈ TB := TB_sel (q := (⟨"NeedleHomes$Reader", "stepOverDigits", "()V"⟩, 8)) 1 rfl
theorem ws_10 : Cond.selects "NeedleHomes$PatternReader" ⟨"NeedleHomes$PatternReader", "close", "()V"⟩ ⟨"NeedleHomes$PatternReader", "close", "()V"⟩ ∈ TB := TB_sel (q := (⟨"NeedleHomes$PatternReader", "close", "()V"⟩, 5)) 10 rfl
theorem ws_11 : Cond.selects "NeedleHomes$PatternReader" ⟨"NeedleHomes$PatternReader", "closeStitch", "(I)V"⟩ ⟨"NeedleHomes$PatternReader", "closeStitch", "(I)V"⟩ ∈ TB := TB_sel (q := (⟨"NeedleHomes$PatternReader", "closeStitch", "(I)V"⟩, 5)) 11 rfl
theorem ws_12 : Cond.selects "NeedleHomes$PatternReader" ⟨"NeedleHomes$PatternReader", "stitchesInAll", "()I"⟩ ⟨"NeedleHomes$PatternReader", "stitchesInAll", "()I"⟩ ∈ TB := TB_sel (q := (⟨"NeedleHomes$PatternReader", "stitchesInAll", "()I"⟩, 5)) 12 rfl
theorem ws_13 : Cond.selects "NeedleHomes$ListReader" ⟨"NeedleHomes$ListReader", "readLine", "(I)Z"⟩ ⟨"NeedleHomes$ListReader", "readLine", "(I)Z"⟩ ∈ TB := TB_sel (q := (⟨"NeedleHomes$ListReader", "readLine", "(I)Z"⟩, 6)) 13 rfl
theorem ws_14 : Cond.selects "NeedleHomes$ListReader" ⟨"NeedleHomes$ListReader", "topicHere", "()I"⟩ ⟨"NeedleHomes$ListReader", "topicHere", "()I"⟩ ∈ TB := TB_sel (q := (⟨"NeedleHomes$ListReader", "topicHere", "()I"⟩, 6)) 14 rfl
theorem ws_15 : Cond.selects "NeedleHomes$ListReader" ⟨"NeedleHomes$ListReader", "readTests", "(I)Z"⟩ ⟨"NeedleHomes$ListReader", "readTests", "(I)Z"⟩ ∈ TB := TB_sel (q := (⟨"NeedleHomes$ListReader", "readTests", "(I)Z"⟩, 6)) 15 rfl
theorem ws_16 : Cond.selects "NeedleHomes$ListReader" ⟨"NeedleHomes$ListReader", "readTest", "(II)Z"⟩ ⟨"NeedleHomes$ListReader", "readTest", "(II)Z"⟩ ∈ TB := TB_sel (q := (⟨"NeedleHomes$ListReader", "readTest", "(II)Z"⟩, 6)) 16 rfl
theorem ws_17 : Cond.selects "NeedleHomes$ListReader" ⟨"NeedleHomes$ListReader", "keepTest", "(IIZIII)V"⟩ ⟨"NeedleHomes$ListReader", "keepTest", "(IIZIII)V"⟩ ∈ TB := TB_sel (q := (⟨"NeedleHomes$ListReader", "keepTest", "(IIZIII)V"⟩, 6)) 17 rfl
theorem ws_18 : Cond.selects "NeedleHomes$ListReader" ⟨"NeedleHomes$ListReader", "askedHere", "()I"⟩ ⟨"NeedleHomes$ListReader", "askedHere", "()I"⟩ ∈ TB := TB_sel (q := (⟨"NeedleHomes$ListReader", "askedHere", "()I"⟩, 6)) 18 rfl
theorem ws_19 : Cond.selects "NeedleHomes$ListReader" ⟨"NeedleHomes$ListReader", "signHere", "()I"⟩ ⟨"NeedleHomes$ListReader", "signHere", "()I"⟩ ∈ TB := TB_sel (q := (⟨"NeedleHomes$ListReader", "signHere", "()I"⟩, 6)) 19 rfl
theorem ws_2 : Cond.selects "NeedleHomes$PatternReader" ⟨"NeedleHomes$PatternReader", "clearLevel", "(I)V"⟩ ⟨"NeedleHomes$PatternReader", "clearLevel", "(I)V"⟩ ∈ TB := TB_sel (q := (⟨"NeedleHomes$PatternReader", "clearLevel", "(I)V"⟩, 5)) 2 rfl
theorem ws_20 : Cond.selects "NeedleHomes$ListReader" ⟨"NeedleHomes$ListReader", "readNumber", "(II)Z"⟩ ⟨"NeedleHomes$ListReader", "readNumber", "(II)Z"⟩ ∈ TB := TB_sel (q := (⟨"NeedleHomes$ListReader", "readNumber", "(II)Z"⟩, 6)) 20 rfl
theorem ws_21 : Cond.selects "NeedleHomes" ⟨"NeedleHomes", "isPastDay", "(I)Z"⟩ ⟨"NeedleHomes", "isPastDay", "(I)Z"⟩ ∈ TB := TB_sel (q := (⟨"NeedleHomes", "isPastDay", "(I)Z"⟩, 8)) 21 rfl
theorem ws_22 : Cond.selects "NeedleHomes$TermList" ⟨"NeedleHomes$TermList", "allHold", "(I[I)Z"⟩ ⟨"NeedleHomes$TermList", "allHold", "(I[I)Z"⟩ ∈ TB := TB_sel (q := (⟨"NeedleHomes$TermList", "allHold", "(I[I)Z"⟩, 8)) 22 rfl
theorem ws_23 : Cond.selects "NeedleHomes$TermList" ⟨"NeedleHomes$TermList", "holds", "(I[I)Z"⟩ ⟨"NeedleHomes$TermList", "holds", "(I[I)Z"⟩ ∈ TB := TB_sel (q := (⟨"NeedleHomes$TermList", "holds", "(I[I)Z"⟩, 8)) 23 rfl
theorem ws_24 : Cond.selects "NeedleHomes$Bill" ⟨"NeedleHomes$Bill", "reckonStitches", "(LNeedleHomes$Pattern;)V"⟩ ⟨"NeedleHomes$Bill", "reckonStitches", "(LNeedleHomes$Pattern;)V"⟩ ∈ TB := TB_sel (q := (⟨"NeedleHomes$Bill", "reckonStitches", "(LNeedleHomes$Pattern;)V"⟩, 7)) 24 rfl
theorem ws_25 : Cond.selects "NeedleHomes$Bill" ⟨"NeedleHomes$Bill", "reckonLosses", "(LNeedleHomes$Piece;)V"⟩ ⟨"NeedleHomes$Bill", "reckonLosses", "(LNeedleHomes$Piece;)V"⟩ ∈ TB := TB_sel (q := (⟨"NeedleHomes$Bill", "reckonLosses", "(LNeedleHomes$Piece;)V"⟩, 7)) 25 rfl
theorem ws_26 : Cond.selects "NeedleHomes" ⟨"NeedleHomes", "settle", "(LNeedleHomes$Piece;LNeedleHomes$Hand;)V"⟩ ⟨"NeedleHomes", "settle", "(LNeedleHomes$Piece;LNeedleHomes$Hand;)V"⟩ ∈ TB := TB_sel (q := (⟨"NeedleHomes", "settle", "(LNeedleHomes$Piece;LNeedleHomes$Hand;)V"⟩, 8)) 26 rfl
theorem ws_27 : Cond.selects "NeedleHomes" ⟨"NeedleHomes", "findParting", "(III)Z"⟩ ⟨"NeedleHomes", "findParting", "(III)Z"⟩ ∈ TB := TB_sel (q := (⟨"NeedleHomes", "findParting", "(III)Z"⟩, 8)) 27 rfl
theorem ws_28 : Cond.selects "NeedleHomes$Parting" ⟨"NeedleHomes$Parting", "fewestFor", "(I)I"⟩ ⟨"NeedleHomes$Parting", "fewestFor", "(I)I"⟩ ∈ TB := TB_sel (q := (⟨"NeedleHomes$Parting", "fewestFor", "(I)I"⟩, 7)) 28 rfl
theorem ws_29 : Cond.selects "NeedleHomes$Parting" ⟨"NeedleHomes$Parting", "chooseSet", "(I)V"⟩ ⟨"NeedleHomes$Parting", "chooseSet", "(I)V"⟩ ∈ TB := TB_sel (q := (⟨"NeedleHomes$Parting", "chooseSet", "(I)V"⟩, 7)) 29 rfl
theorem ws_3 : Cond.selects "NeedleHomes$PatternReader" ⟨"NeedleHomes$PatternReader", "readItem", "()Z"⟩ ⟨"NeedleHomes$PatternReader", "readItem", "()Z"⟩ ∈ TB := TB_sel (q := (⟨"NeedleHomes$PatternReader", "readItem", "()Z"⟩, 5)) 3 rfl
theorem ws_30 : Cond.selects "NeedleHomes$Parting" ⟨"NeedleHomes$Parting", "allows", "(II)Z"⟩ ⟨"NeedleHomes$Parting", "allows", "(II)Z"⟩ ∈ TB := TB_sel (q := (⟨"NeedleHomes$Parting", "allows", "(II)Z"⟩, 7)) 30 rfl
theorem ws_31 : Cond.selects "NeedleHomes$Parting" ⟨"NeedleHomes$Parting", "spreadOf", "(I)I"⟩ ⟨"NeedleHomes$Parting", "spreadOf", "(I)I"⟩ ∈ TB := TB_sel (q := (⟨"NeedleHomes$Parting", "spreadOf", "(I)I"⟩, 7)) 31 rfl
theorem ws_32 : Cond.selects "NeedleHomes$Parting" ⟨"NeedleHomes$Parting", "shareOut", "(I)V"⟩ ⟨"NeedleHomes$Parting", "shareOut", "(I)V"⟩ ∈ TB := TB_sel (q := (⟨"NeedleHomes$Parting", "shareOut", "(I)V"⟩, 7)) 32 rfl
theorem ws_33 : Cond.selects "NeedleHomes$EvenPay" ⟨"NeedleHomes$EvenPay", "takeRates", "(LNeedleHomes$World;I)V"⟩ ⟨"NeedleHomes$EvenPay", "takeRates", "(LNeedleHomes$World;I)V"⟩ ∈ TB := TB_sel (q := (⟨"NeedleHomes$EvenPay", "takeRates", "(LNeedleHomes$World;I)V"⟩, 6)) 33 rfl
theorem ws_34 : Cond.selects "NeedleHomes$EvenPay" ⟨"NeedleHomes$EvenPay", "highestPay", "()I"⟩ ⟨"NeedleHomes$EvenPay", "highestPay", "()I"⟩ ∈ TB := TB_sel (q := (⟨"NeedleHomes$EvenPay", "highestPay", "()I"⟩, 6)) 34 rfl
theorem ws_35 : Cond.selects "NeedleHomes$EvenPay" ⟨"NeedleHomes$EvenPay", "changeFor", "(I)I"⟩ ⟨"NeedleHomes$EvenPay", "changeFor", "(I)I"⟩ ∈ TB := TB_sel (q := (⟨"NeedleHomes$EvenPay", "changeFor", "(I)I"⟩, 6)) 35 rfl
theorem ws_36 : Cond.selects "NeedleHomes$EvenPay" ⟨"NeedleHomes$EvenPay", "nearestRate", "(III)I"⟩ ⟨"NeedleHomes$EvenPay", "nearestRate", "(III)I"⟩ ∈ TB := TB_sel (q := (⟨"NeedleHomes$EvenPay", "nearestRate", "(III)I"⟩, 6)) 36 rfl
theorem ws_37 : Cond.selects "NeedleHomes$World" ⟨"NeedleHomes$World", "copyTexts", "(LNeedleHomes$World;)V"⟩ ⟨"NeedleHomes$World", "copyTexts", "(LNeedleHomes$World;)V"⟩ ∈ TB := TB_sel (q := (⟨"NeedleHomes$World", "copyTexts", "(LNeedleHomes$World;)V"⟩, 15)) 37 rfl
theorem ws_38 : Cond.selects "NeedleHomes$World" ⟨"NeedleHomes$World", "copyHands", "(LNeedleHomes$World;)V"⟩ ⟨"NeedleHomes$World", "copyHands", "(LNeedleHomes$World;)V"⟩ ∈ TB := TB_sel (q := (⟨"NeedleHomes$World", "copyHands", "(LNeedleHomes$World;)V"⟩, 15)) 38 rfl
theorem ws_39 : Cond.selects "NeedleHomes$World" ⟨"NeedleHomes$World", "copyPieces", "(LNeedleHomes$World;)V"⟩ ⟨"NeedleHomes$World", "copyPieces", "(LNeedleHomes$World;)V"⟩ ∈ TB := TB_sel (q := (⟨"NeedleHomes$World", "copyPieces", "(LNeedleHomes$World;)V"⟩, 15)) 39 rfl
theorem ws_4 : Cond.selects "NeedleHomes$PatternReader" ⟨"NeedleHomes$PatternReader", "readColour", "()Z"⟩ ⟨"NeedleHomes$PatternReader", "readColour", "()Z"⟩ ∈ TB := TB_sel (q := (⟨"NeedleHomes$PatternReader", "readColour", "()Z"⟩, 5)) 4 rfl
theorem ws_40 : Cond.selects "NeedleHomesModel" ⟨"NeedleHomesModel", "begins", "()V"⟩ ⟨"NeedleHomesModel", "begins", "()V"⟩ ∈ TB := TB_sel (q := (⟨"NeedleHomesModel", "begins", "()V"⟩, 38)) 40 rfl
theorem ws_41 : Cond.selects "NeedleHomesModel" ⟨"NeedleHomesModel", "opens", "(I)V"⟩ ⟨"NeedleHomesModel", "opens", "(I)V"⟩ ∈ TB := TB_sel (q := (⟨"NeedleHomesModel", "opens", "(I)V"⟩, 38)) 41 rfl
theorem ws_42 : Cond.selects "NeedleHomesModel" ⟨"NeedleHomesModel", "step", "()V"⟩ ⟨"NeedleHomesModel", "step", "()V"⟩ ∈ TB := TB_sel (q := (⟨"NeedleHomesModel", "step", "()V"⟩, 38)) 42 rfl
theorem ws_43 : Cond.selects "NeedleHomesModel" ⟨"NeedleHomesModel", "byteAt", "(I)I"⟩ ⟨"NeedleHomesModel", "byteAt", "(I)I"⟩ ∈ TB := TB_sel (q := (⟨"NeedleHomesModel", "byteAt", "(I)I"⟩, 38)) 43 rfl
theorem ws_44 : Cond.selects "NeedleHomesModel" ⟨"NeedleHomesModel", "items", "()V"⟩ ⟨"NeedleHomesModel", "items", "()V"⟩ ∈ TB := TB_sel (q := (⟨"NeedleHomesModel", "items", "()V"⟩, 38)) 44 rfl
theorem ws_45 : Cond.selects "NeedleHomesModel" ⟨"NeedleHomesModel", "isSign", "(I)Z"⟩ ⟨"NeedleHomesModel", "isSign", "(I)Z"⟩ ∈ TB := TB_sel (q := (⟨"NeedleHomesModel", "isSign", "(I)Z"⟩, 38)) 45 rfl
theorem ws_46 : Cond.selects "NeedleHomesModel" ⟨"NeedleHomesModel", "anItem", "()V"⟩ ⟨"NeedleHomesModel", "anItem", "()V"⟩ ∈ TB := TB_sel (q := (⟨"NeedleHomesModel", "anItem", "()V"⟩, 38)) 46 rfl
theorem ws_47 : Cond.selects "NeedleHomesModel" ⟨"NeedleHomesModel", "numbered", "()I"⟩ ⟨"NeedleHomesModel", "numbered", "()I"⟩ ∈ TB := TB_sel (q := (⟨"NeedleHomesModel", "numbered", "()I"⟩, 38)) 47 rfl
theorem ws_48 : Cond.selects "NeedleHomesModel" ⟨"NeedleHomesModel", "stops", "()V"⟩ ⟨"NeedleHomesModel", "stops", "()V"⟩ ∈ TB := TB_sel (q := (⟨"NeedleHomesModel", "stops", "()V"⟩, 38)) 48 rfl
theorem ws_49 : Cond.selects "NeedleHomesModel" ⟨"NeedleHomesModel", "sews", "(IIJ)V"⟩ ⟨"NeedleHomesModel", "sews", "(IIJ)V"⟩ ∈ TB := TB_sel (q := (⟨"NeedleHomesModel", "sews", "(IIJ)V"⟩, 38)) 49 rfl
theorem ws_5 : Cond.selects "NeedleHomes$PatternReader" ⟨"NeedleHomes$PatternReader", "isCounting", "()Z"⟩ ⟨"NeedleHomes$PatternReader", "isCounting", "()Z"⟩ ∈ TB := TB_sel (q := (⟨"NeedleHomes$PatternReader", "isCounting", "()Z"⟩, 5)) 5 rfl
theorem ws_50 : Cond.selects "NeedleHomesModel" ⟨"NeedleHomesModel", "takes", "(I)Z"⟩ ⟨"NeedleHomesModel", "takes", "(I)Z"⟩ ∈ TB := TB_sel (q := (⟨"NeedleHomesModel", "takes", "(I)Z"⟩, 38)) 50 rfl
theorem ws_51 : Cond.selects "NeedleHomesModel" ⟨"NeedleHomesModel", "also", "(II)V"⟩ ⟨"NeedleHomesModel", "also", "(II)V"⟩ ∈ TB := TB_sel (q := (⟨"NeedleHomesModel", "also", "(II)V"⟩, 38)) 51 rfl
theorem ws_52 : Cond.selects "NeedleHomesModel" ⟨"NeedleHomesModel", "must", "(I)V"⟩ ⟨"NeedleHomesModel", "must", "(I)V"⟩ ∈ TB := TB_sel (q := (⟨"NeedleHomesModel", "must", "(I)V"⟩, 38)) 52 rfl
theorem ws_53 : Cond.selects "NeedleHomesModel" ⟨"NeedleHomesModel", "closes", "()V"⟩ ⟨"NeedleHomesModel", "closes", "()V"⟩ ∈ TB := TB_sel (q := (⟨"NeedleHomesModel", "closes", "()V"⟩, 38)) 53 rfl
theorem ws_54 : Cond.selects "NeedleHomesModel" ⟨"NeedleHomesModel", "isOf", "(II)Z"⟩ ⟨"NeedleHomesModel", "isOf", "(II)Z"⟩ ∈ TB := TB_sel (q := (⟨"NeedleHomesModel", "isOf", "(II)Z"⟩, 38)) 54 rfl
theorem ws_55 : Cond.selects "NeedleHomesModel" ⟨"NeedleHomesModel", "patternOf", "(II)I"⟩ ⟨"NeedleHomesModel", "patternOf", "(II)I"⟩ ∈ TB := TB_sel (q := (⟨"NeedleHomesModel", "patternOf", "(II)I"⟩, 38)) 55 rfl
theorem ws_56 : Cond.selects "NeedleHomesModel" ⟨"NeedleHomesModel", "aLine", "()V"⟩ ⟨"NeedleHomesModel", "aLine", "()V"⟩ ∈ TB := TB_sel (q := (⟨"NeedleHomesModel", "aLine", "()V"⟩, 38)) 56 rfl
theorem ws_57 : Cond.selects "NeedleHomesModel" ⟨"NeedleHomesModel", "aTest", "()V"⟩ ⟨"NeedleHomesModel", "aTest", "()V"⟩ ∈ TB := TB_sel (q := (⟨"NeedleHomesModel", "aTest", "()V"⟩, 38)) 57 rfl
theorem ws_58 : Cond.selects "NeedleHomesModel" ⟨"NeedleHomesModel", "puts", "(II)V"⟩ ⟨"NeedleHomesModel", "puts", "(II)V"⟩ ∈ TB := TB_sel (q := (⟨"NeedleHomesModel", "puts", "(II)V"⟩, 38)) 58 rfl
theorem ws_59 : Cond.selects "NeedleHomesModel" ⟨"NeedleHomesModel", "listOf", "(III)I"⟩ ⟨"NeedleHomesModel", "listOf", "(III)I"⟩ ∈ TB := TB_sel (q := (⟨"NeedleHomesModel", "listOf", "(III)I"⟩, 38)) 59 rfl
theorem ws_6 : Cond.selects "NeedleHomes$PatternReader" ⟨"NeedleHomes$PatternReader", "readStitches", "(I)Z"⟩ ⟨"NeedleHomes$PatternReader", "readStitches", "(I)Z"⟩ ∈ TB := TB_sel (q := (⟨"NeedleHomes$PatternReader", "readStitches", "(I)Z"⟩, 5)) 6 rfl
theorem ws_60 : Cond.selects "NeedleHomesModel" ⟨"NeedleHomesModel", "week", "()I"⟩ ⟨"NeedleHomesModel", "week", "()I"⟩ ∈ TB := TB_sel (q := (⟨"NeedleHomesModel", "week", "()I"⟩, 38)) 60 rfl
theorem ws_61 : Cond.selects "NeedleHomesModel" ⟨"NeedleHomesModel", "asks", "(IIII)V"⟩ ⟨"NeedleHomesModel", "asks", "(IIII)V"⟩ ∈ TB := TB_sel (q := (⟨"NeedleHomesModel", "asks", "(IIII)V"⟩, 38)) 61 rfl
theorem ws_62 : Cond.selects "NeedleHomesModel" ⟨"NeedleHomesModel", "handOf", "(II)I"⟩ ⟨"NeedleHomesModel", "handOf", "(II)I"⟩ ∈ TB := TB_sel (q := (⟨"NeedleHomesModel", "handOf", "(II)I"⟩, 38)) 62 rfl
theorem ws_63 : Cond.selects "NeedleHomesModel" ⟨"NeedleHomesModel", "hasHay", "(II)Z"⟩ ⟨"NeedleHomesModel", "hasHay", "(II)Z"⟩ ∈ TB := TB_sel (q := (⟨"NeedleHomesModel", "hasHay", "(II)Z"⟩, 38)) 63 rfl
theorem ws_64 : Cond.selects "NeedleHomesModel" ⟨"NeedleHomesModel", "termOf", "(IIII)I"⟩ ⟨"NeedleHomesModel", "termOf", "(IIII)I"⟩ ∈ TB := TB_sel (q := (⟨"NeedleHomesModel", "termOf", "(IIII)I"⟩, 38)) 64 rfl
theorem ws_65 : Cond.selects "NeedleHomesModel" ⟨"NeedleHomesModel", "holds", "(I)Z"⟩ ⟨"NeedleHomesModel", "holds", "(I)Z"⟩ ∈ TB := TB_sel (q := (⟨"NeedleHomesModel", "holds", "(I)Z"⟩, 38)) 65 rfl
theorem ws_66 : Cond.selects "NeedleHomesModel" ⟨"NeedleHomesModel", "asked", "(I)I"⟩ ⟨"NeedleHomesModel", "asked", "(I)I"⟩ ∈ TB := TB_sel (q := (⟨"NeedleHomesModel", "asked", "(I)I"⟩, 38)) 66 rfl
theorem ws_67 : Cond.selects "NeedleHomesModel" ⟨"NeedleHomesModel", "pieceOf", "(II)I"⟩ ⟨"NeedleHomesModel", "pieceOf", "(II)I"⟩ ∈ TB := TB_sel (q := (⟨"NeedleHomesModel", "pieceOf", "(II)I"⟩, 38)) 67 rfl
theorem ws_68 : Cond.selects "NeedleHomesModel" ⟨"NeedleHomesModel", "bills", "(IIII)V"⟩ ⟨"NeedleHomesModel", "bills", "(IIII)V"⟩ ∈ TB := TB_sel (q := (⟨"NeedleHomesModel", "bills", "(IIII)V"⟩, 38)) 68 rfl
theorem ws_69 : Cond.selects "NeedleHomesModel" ⟨"NeedleHomesModel", "billed", "(II)V"⟩ ⟨"NeedleHomesModel", "billed", "(II)V"⟩ ∈ TB := TB_sel (q := (⟨"NeedleHomesModel", "billed", "(II)V"⟩, 38)) 69 rfl
theorem ws_7 : Cond.selects "NeedleHomes$PatternReader" ⟨"NeedleHomes$PatternReader", "addTo", "(IIIJ)V"⟩ ⟨"NeedleHomes$PatternReader", "addTo", "(IIIJ)V"⟩ ∈ TB := TB_sel (q := (⟨"NeedleHomes$PatternReader", "addTo", "(IIIJ)V"⟩, 5)) 7 rfl
theorem ws_70 : Cond.selects "NeedleHomesModel" ⟨"NeedleHomesModel", "differs", "(I)I"⟩ ⟨"NeedleHomesModel", "differs", "(I)I"⟩ ∈ TB := TB_sel (q := (⟨"NeedleHomesModel", "differs", "(I)I"⟩, 38)) 70 rfl
theorem ws_71 : Cond.selects "NeedleHomesModel" ⟨"NeedleHomesModel", "parts", "(III)Z"⟩ ⟨"NeedleHomesModel", "parts", "(III)Z"⟩ ∈ TB := TB_sel (q := (⟨"NeedleHomesModel", "parts", "(III)Z"⟩, 38)) 71 rfl
theorem ws_72 : Cond.selects "NeedleHomesModel" ⟨"NeedleHomesModel", "counts", "(II)V"⟩ ⟨"NeedleHomesModel", "counts", "(II)V"⟩ ∈ TB := TB_sel (q := (⟨"NeedleHomesModel", "counts", "(II)V"⟩, 38)) 72 rfl
theorem ws_73 : Cond.selects "NeedleHomesModel" ⟨"NeedleHomesModel", "isSet", "(II)Z"⟩ ⟨"NeedleHomesModel", "isSet", "(II)Z"⟩ ∈ TB := TB_sel (q := (⟨"NeedleHomesModel", "isSet", "(II)Z"⟩, 38)) 73 rfl
theorem ws_74 : Cond.selects "NeedleHomesModel" ⟨"NeedleHomesModel", "spreadOf", "(I)I"⟩ ⟨"NeedleHomesModel", "spreadOf", "(I)I"⟩ ∈ TB := TB_sel (q := (⟨"NeedleHomesModel", "spreadOf", "(I)I"⟩, 38)) 74 rfl
theorem ws_75 : Cond.selects "NeedleHomesModel" ⟨"NeedleHomesModel", "unlikeness", "(II)I"⟩ ⟨"NeedleHomesModel", "unlikeness", "(II)I"⟩ ∈ TB := TB_sel (q := (⟨"NeedleHomesModel", "unlikeness", "(II)I"⟩, 38)) 75 rfl
theorem ws_76 : Cond.selects "NeedleHomesModel" ⟨"NeedleHomesModel", "changes", "(II)I"⟩ ⟨"NeedleHomesModel", "changes", "(II)I"⟩ ∈ TB := TB_sel (q := (⟨"NeedleHomesModel", "changes", "(II)I"⟩, 38)) 76 rfl
theorem ws_8 : Cond.selects "NeedleHomes$PatternReader" ⟨"NeedleHomes$PatternReader", "readOpening", "()Z"⟩ ⟨"NeedleHomes$PatternReader", "readOpening", "()Z"⟩ ∈ TB := TB_sel (q := (⟨"NeedleHomes$PatternReader", "readOpening", "()Z"⟩, 5)) 8 rfl
theorem ws_9 : Cond.selects "NeedleHomes$PatternReader" ⟨"NeedleHomes$PatternReader", "open", "(I)V"⟩ ⟨"NeedleHomes$PatternReader", "open", "(I)V"⟩ ∈ TB := TB_sel (q := (⟨"NeedleHomes$PatternReader", "open", "(I)V"⟩, 5)) 9 rfl
theorem wt1_1 : (Jvm.Cond.initialized "NeedleHomes") ∈ TB := TB_t1 1 rfl rfl
theorem wt1_10 : (Jvm.Cond.initialized "NeedleHomesModel") ∈ TB := TB_t1 10 rfl rfl
theorem wt1_108 : (Jvm.Cond.arrayClass Jvm.ClassFile.FieldType.byte) ∈ TB := TB_t1 108 rfl rfl
theorem wt1_109 : (Jvm.Cond.arrayClass Jvm.ClassFile.FieldType.int) ∈ TB := TB_t1 109 rfl rfl
theorem wt1_11 : (Jvm.Cond.initialized "java/lang/Math") ∈ TB := TB_t1 11 rfl rfl
theorem wt1_111 : (Jvm.Cond.classLink "NeedleHomes" (20 : Nat) "NeedleHomes$PatternReader") ∈ TB := TB_t1 111 rfl rfl
theorem wt1_112 : (Jvm.Cond.instantiable "NeedleHomes$PatternReader" (5 : Nat)) ∈ TB := TB_t1 112 rfl rfl
theorem wt1_114 : (Jvm.Cond.instanceMethod ({ cls := "NeedleHomes$PatternReader", name := "<init>", desc := "()V" } : Jvm.MethodName)) ∈ TB := TB_t1 114 rfl rfl
theorem wt1_115 : (Jvm.Cond.code ({ cls := "NeedleHomes$PatternReader", name := "<init>", desc := "()V" } : Jvm.MethodName) prog_8_method_1_code (1 : Nat) (Option.none : Option Jvm.ClassFile.FieldType)) ∈ TB := TB_t1 115 rfl rfl
theorem wt1_116 : (Jvm.Cond.methodLink "NeedleHomes$PatternReader" (5 : Nat) ({ cls := "java/lang/Object", name := "<init>", desc := "()V" } : Jvm.MethodName)) ∈ TB := TB_t1 116 rfl rfl
theorem wt1_117 : (Jvm.Cond.classLink "NeedleHomes$PatternReader" (11 : Nat) "NeedleHomes$Reader") ∈ TB := TB_t1 117 rfl rfl
theorem wt1_118 : (Jvm.Cond.instantiable "NeedleHomes$Reader" (8 : Nat)) ∈ TB := TB_t1 118 rfl rfl
theorem wt1_12 : (Jvm.Cond.initialized "NeedleHomes$Pattern") ∈ TB := TB_t1 12 rfl rfl
theorem wt1_120 : (Jvm.Cond.instanceMethod ({ cls := "NeedleHomes$Reader", name := "<init>", desc := "()V" } : Jvm.MethodName)) ∈ TB := TB_t1 120 rfl rfl
theorem wt1_121 : (Jvm.Cond.code ({ cls := "NeedleHomes$Reader", name := "<init>", desc := "()V" } : Jvm.MethodName) prog_10_method_1_code (1 : Nat) (Option.none : Option Jvm.ClassFile.FieldType)) ∈ TB := TB_t1 121 rfl rfl
theorem wt1_122 : (Jvm.Cond.methodLink "NeedleHomes$Reader" (3 : Nat) ({ cls := "java/lang/Object", name := "<init>", desc := "()V" } : Jvm.MethodName)) ∈ TB := TB_t1 122 rfl rfl
theorem wt1_123 : (Jvm.Cond.fieldLink "NeedleHomes$ListReader" (41 : Nat) "NeedleHomes$Reader" "kind" "I") ∈ TB := TB_t1 123 rfl rfl
theorem wt1_124 : (Jvm.Cond.fieldLink "NeedleHomes$PatternReader" (40 : Nat) "NeedleHomes$Reader" "kind" "I") ∈ TB := TB_t1 124 rfl rfl
theorem wt1_125 : (Jvm.Cond.fieldLink "NeedleHomes$Reader" (50 : Nat) "NeedleHomes$Reader" "kind" "I") ∈ TB := TB_t1 125 rfl rfl
theorem wt1_126 : (Jvm.Cond.fieldLink "NeedleHomes$Reader" (47 : Nat) "NeedleHomes$Reader" "number" "I") ∈ TB := TB_t1 126 rfl rfl
theorem wt1_127 : (Jvm.Cond.fieldLink "NeedleHomes$PatternReader" (82 : Nat) "NeedleHomes$Reader" "number" "I") ∈ TB := TB_t1 127 rfl rfl
theorem wt1_128 : (Jvm.Cond.fieldLink "NeedleHomes$ListReader" (102 : Nat) "NeedleHomes$Reader" "number" "I") ∈ TB := TB_t1 128 rfl rfl
theorem wt1_129 : (Jvm.Cond.fieldLink "NeedleHomes$ListReader" (56 : Nat) "NeedleHomes$Reader" "place" "I") ∈ TB := TB_t1 129 rfl rfl
theorem wt1_13 : (Jvm.Cond.initialized "java/lang/String") ∈ TB := TB_t1 13 rfl rfl
theorem wt1_130 : (Jvm.Cond.fieldLink "NeedleHomes$Reader" (44 : Nat) "NeedleHomes$Reader" "place" "I") ∈ TB := TB_t1 130 rfl rfl
theorem wt1_131 : (Jvm.Cond.fieldLink "NeedleHomes$PatternReader" (88 : Nat) "NeedleHomes$Reader" "place" "I") ∈ TB := TB_t1 131 rfl rfl
theorem wt1_132 : (Jvm.Cond.fieldLink "NeedleHomes$Reader" (31 : Nat) "NeedleHomes$Reader" "fault" "I") ∈ TB := TB_t1 132 rfl rfl
theorem wt1_133 : (Jvm.Cond.fieldLink "NeedleHomes$PatternReader" (101 : Nat) "NeedleHomes$Reader" "fault" "I") ∈ TB := TB_t1 133 rfl rfl
theorem wt1_134 : (Jvm.Cond.fieldLink "NeedleHomes$World" (135 : Nat) "NeedleHomes$Reader" "fault" "I") ∈ TB := TB_t1 134 rfl rfl
theorem wt1_135 : (Jvm.Cond.fieldLink "NeedleHomes$Reader" (34 : Nat) "NeedleHomes$Reader" "faultPlace" "I") ∈ TB := TB_t1 135 rfl rfl
theorem wt1_136 : (Jvm.Cond.fieldLink "NeedleHomes$World" (138 : Nat) "NeedleHomes$Reader" "faultPlace" "I") ∈ TB := TB_t1 136 rfl rfl
theorem wt1_137 : (Jvm.Cond.fieldLink "NeedleHomes$Reader" (9 : Nat) "NeedleHomes$Reader" "bytes" "[B") ∈ TB := TB_t1 137 rfl rfl
theorem wt1_138 : (Jvm.Cond.fieldLink "NeedleHomes$Reader" (24 : Nat) "NeedleHomes$Reader" "length" "I") ∈ TB := TB_t1 138 rfl rfl
theorem wt1_139 : (Jvm.Cond.fieldLink "NeedleHomes$Reader" (28 : Nat) "NeedleHomes$Reader" "next" "I") ∈ TB := TB_t1 139 rfl rfl
theorem wt1_14 : (Jvm.Cond.initialized "java/lang/StringLatin1") ∈ TB := TB_t1 14 rfl rfl
theorem wt1_15 : (Jvm.Cond.initialized "jdk/internal/util/Preconditions") ∈ TB := TB_t1 15 rfl rfl
theorem wt1_157 : (Jvm.Cond.fieldLink "NeedleHomes$PatternReader" (14 : Nat) "NeedleHomes$PatternReader" "reader" "LNeedleHomes$Reader;") ∈ TB := TB_t1 157 rfl rfl
theorem wt1_158 : (Jvm.Cond.fieldLink "NeedleHomes" (87 : Nat) "NeedleHomes$PatternReader" "reader" "LNeedleHomes$Reader;") ∈ TB := TB_t1 158 rfl rfl
theorem wt1_159 : (Jvm.Cond.fieldLink "NeedleHomes$PatternReader" (32 : Nat) "NeedleHomes$PatternReader" "depth" "I") ∈ TB := TB_t1 159 rfl rfl
theorem wt1_160 : (Jvm.Cond.fieldLink "NeedleHomes$PatternReader" (18 : Nat) "NeedleHomes$PatternReader" "counts" "[I") ∈ TB := TB_t1 160 rfl rfl
theorem wt1_161 : (Jvm.Cond.fieldLink "NeedleHomes$PatternReader" (22 : Nat) "NeedleHomes$PatternReader" "colourAtHand" "[I") ∈ TB := TB_t1 161 rfl rfl
theorem wt1_162 : (Jvm.Cond.fieldLink "NeedleHomes$PatternReader" (25 : Nat) "NeedleHomes$PatternReader" "repeats" "[I") ∈ TB := TB_t1 162 rfl rfl
theorem wt1_17 : (Jvm.Cond.initialized "NeedleHomes$TermList") ∈ TB := TB_t1 17 rfl rfl
theorem wt1_174 : (Jvm.Cond.classLink "NeedleHomes" (27 : Nat) "NeedleHomes$ListReader") ∈ TB := TB_t1 174 rfl rfl
theorem wt1_175 : (Jvm.Cond.instantiable "NeedleHomes$ListReader" (6 : Nat)) ∈ TB := TB_t1 175 rfl rfl
theorem wt1_177 : (Jvm.Cond.instanceMethod ({ cls := "NeedleHomes$ListReader", name := "<init>", desc := "()V" } : Jvm.MethodName)) ∈ TB := TB_t1 177 rfl rfl
theorem wt1_178 : (Jvm.Cond.code ({ cls := "NeedleHomes$ListReader", name := "<init>", desc := "()V" } : Jvm.MethodName) prog_5_method_1_code (1 : Nat) (Option.none : Option Jvm.ClassFile.FieldType)) ∈ TB := TB_t1 178 rfl rfl
theorem wt1_179 : (Jvm.Cond.methodLink "NeedleHomes$ListReader" (3 : Nat) ({ cls := "java/lang/Object", name := "<init>", desc := "()V" } : Jvm.MethodName)) ∈ TB := TB_t1 179 rfl rfl
theorem wt1_180 : (Jvm.Cond.classLink "NeedleHomes$ListReader" (9 : Nat) "NeedleHomes$Reader") ∈ TB := TB_t1 180 rfl rfl
theorem wt1_182 : (Jvm.Cond.fieldLink "NeedleHomes$ListReader" (12 : Nat) "NeedleHomes$ListReader" "reader" "LNeedleHomes$Reader;") ∈ TB := TB_t1 182 rfl rfl
theorem wt1_183 : (Jvm.Cond.fieldLink "NeedleHomes" (115 : Nat) "NeedleHomes$ListReader" "reader" "LNeedleHomes$Reader;") ∈ TB := TB_t1 183 rfl rfl
theorem wt1_184 : (Jvm.Cond.fieldLink "NeedleHomes$TermList" (21 : Nat) "NeedleHomes$ListReader" "lineCount" "I") ∈ TB := TB_t1 184 rfl rfl
theorem wt1_185 : (Jvm.Cond.fieldLink "NeedleHomes$ListReader" (37 : Nat) "NeedleHomes$ListReader" "lineCount" "I") ∈ TB := TB_t1 185 rfl rfl
theorem wt1_186 : (Jvm.Cond.fieldLink "NeedleHomes$ListReader" (18 : Nat) "NeedleHomes$ListReader" "topics" "[I") ∈ TB := TB_t1 186 rfl rfl
theorem wt1_187 : (Jvm.Cond.fieldLink "NeedleHomes$TermList" (36 : Nat) "NeedleHomes$ListReader" "topics" "[I") ∈ TB := TB_t1 187 rfl rfl
theorem wt1_188 : (Jvm.Cond.fieldLink "NeedleHomes$ListReader" (22 : Nat) "NeedleHomes$ListReader" "numbers" "[I") ∈ TB := TB_t1 188 rfl rfl
theorem wt1_189 : (Jvm.Cond.fieldLink "NeedleHomes$TermList" (47 : Nat) "NeedleHomes$ListReader" "numbers" "[I") ∈ TB := TB_t1 189 rfl rfl
theorem wt1_19 : (Jvm.Cond.initialized "NeedleHomes$Hand") ∈ TB := TB_t1 19 rfl rfl
theorem wt1_190 : (Jvm.Cond.fieldLink "NeedleHomes$ListReader" (25 : Nat) "NeedleHomes$ListReader" "testCounts" "[I") ∈ TB := TB_t1 190 rfl rfl
theorem wt1_191 : (Jvm.Cond.fieldLink "NeedleHomes$TermList" (51 : Nat) "NeedleHomes$ListReader" "testCounts" "[I") ∈ TB := TB_t1 191 rfl rfl
theorem wt1_192 : (Jvm.Cond.fieldLink "NeedleHomes$ListReader" (30 : Nat) "NeedleHomes$ListReader" "tests" "[I") ∈ TB := TB_t1 192 rfl rfl
theorem wt1_193 : (Jvm.Cond.fieldLink "NeedleHomes$TermList" (55 : Nat) "NeedleHomes$ListReader" "tests" "[I") ∈ TB := TB_t1 193 rfl rfl
theorem wt1_2 : (Jvm.Cond.initialized "NeedleHomes$World") ∈ TB := TB_t1 2 rfl rfl
theorem wt1_20 : (Jvm.Cond.initialized "NeedleHomes$Piece") ∈ TB := TB_t1 20 rfl rfl
theorem wt1_207 : (Jvm.Cond.classLink "NeedleHomes" (34 : Nat) "NeedleHomes$Bill") ∈ TB := TB_t1 207 rfl rfl
theorem wt1_208 : (Jvm.Cond.instantiable "NeedleHomes$Bill" (7 : Nat)) ∈ TB := TB_t1 208 rfl rfl
theorem wt1_21 : (Jvm.Cond.initialized "java/lang/Integer") ∈ TB := TB_t1 21 rfl rfl
theorem wt1_210 : (Jvm.Cond.instanceMethod ({ cls := "NeedleHomes$Bill", name := "<init>", desc := "()V" } : Jvm.MethodName)) ∈ TB := TB_t1 210 rfl rfl
theorem wt1_211 : (Jvm.Cond.code ({ cls := "NeedleHomes$Bill", name := "<init>", desc := "()V" } : Jvm.MethodName) prog_2_method_1_code (1 : Nat) (Option.none : Option Jvm.ClassFile.FieldType)) ∈ TB := TB_t1 211 rfl rfl
theorem wt1_212 : (Jvm.Cond.methodLink "NeedleHomes$Bill" (3 : Nat) ({ cls := "java/lang/Object", name := "<init>", desc := "()V" } : Jvm.MethodName)) ∈ TB := TB_t1 212 rfl rfl
theorem wt1_213 : (Jvm.Cond.fieldLink "NeedleHomes$Bill" (15 : Nat) "NeedleHomes$Bill" "thread" "I") ∈ TB := TB_t1 213 rfl rfl
theorem wt1_214 : (Jvm.Cond.fieldLink "NeedleHomes" (255 : Nat) "NeedleHomes$Bill" "thread" "I") ∈ TB := TB_t1 214 rfl rfl
theorem wt1_215 : (Jvm.Cond.fieldLink "NeedleHomes$Bill" (19 : Nat) "NeedleHomes$Bill" "earned" "I") ∈ TB := TB_t1 215 rfl rfl
theorem wt1_216 : (Jvm.Cond.fieldLink "NeedleHomes" (284 : Nat) "NeedleHomes$Bill" "earned" "I") ∈ TB := TB_t1 216 rfl rfl
theorem wt1_217 : (Jvm.Cond.fieldLink "NeedleHomes$Bill" (27 : Nat) "NeedleHomes$Bill" "due" "I") ∈ TB := TB_t1 217 rfl rfl
theorem wt1_218 : (Jvm.Cond.fieldLink "NeedleHomes" (287 : Nat) "NeedleHomes$Bill" "due" "I") ∈ TB := TB_t1 218 rfl rfl
theorem wt1_219 : (Jvm.Cond.fieldLink "NeedleHomes$Bill" (30 : Nat) "NeedleHomes$Bill" "fine" "I") ∈ TB := TB_t1 219 rfl rfl
theorem wt1_220 : (Jvm.Cond.fieldLink "NeedleHomes" (290 : Nat) "NeedleHomes$Bill" "fine" "I") ∈ TB := TB_t1 220 rfl rfl
theorem wt1_221 : (Jvm.Cond.fieldLink "NeedleHomes$Bill" (33 : Nat) "NeedleHomes$Bill" "part" "I") ∈ TB := TB_t1 221 rfl rfl
theorem wt1_222 : (Jvm.Cond.fieldLink "NeedleHomes" (293 : Nat) "NeedleHomes$Bill" "part" "I") ∈ TB := TB_t1 222 rfl rfl
theorem wt1_223 : (Jvm.Cond.fieldLink "NeedleHomes$Bill" (67 : Nat) "NeedleHomes$Bill" "list" "LNeedleHomes$TermList;") ∈ TB := TB_t1 223 rfl rfl
theorem wt1_224 : (Jvm.Cond.fieldLink "NeedleHomes$Bill" (9 : Nat) "NeedleHomes$Bill" "asked" "[I") ∈ TB := TB_t1 224 rfl rfl
theorem wt1_23 : (Jvm.Cond.instantiable "NeedleHomes" (8 : Nat)) ∈ TB := TB_t1 23 rfl rfl
theorem wt1_26 : (Jvm.Cond.code ({ cls := "NeedleHomes", name := "<init>", desc := "()V" } : Jvm.MethodName) prog_1_method_1_code (1 : Nat) (Option.none : Option Jvm.ClassFile.FieldType)) ∈ TB := TB_t1 26 rfl rfl
theorem wt1_27 : (Jvm.Cond.methodLink "NeedleHomes" (3 : Nat) ({ cls := "java/lang/Object", name := "<init>", desc := "()V" } : Jvm.MethodName)) ∈ TB := TB_t1 27 rfl rfl
theorem wt1_3 : (Jvm.Cond.initialized "java/util/Arrays") ∈ TB := TB_t1 3 rfl rfl
theorem wt1_30 : (Jvm.Cond.classLink "NeedleHomes" (9 : Nat) "NeedleHomes$World") ∈ TB := TB_t1 30 rfl rfl
theorem wt1_31 : (Jvm.Cond.instantiable "NeedleHomes$World" (15 : Nat)) ∈ TB := TB_t1 31 rfl rfl
theorem wt1_32 : (Jvm.Cond.methodLink "NeedleHomes" (11 : Nat) ({ cls := "NeedleHomes$World", name := "<init>", desc := "()V" } : Jvm.MethodName)) ∈ TB := TB_t1 32 rfl rfl
theorem wt1_33 : (Jvm.Cond.instanceMethod ({ cls := "NeedleHomes$World", name := "<init>", desc := "()V" } : Jvm.MethodName)) ∈ TB := TB_t1 33 rfl rfl
theorem wt1_34 : (Jvm.Cond.code ({ cls := "NeedleHomes$World", name := "<init>", desc := "()V" } : Jvm.MethodName) prog_12_method_1_code (1 : Nat) (Option.none : Option Jvm.ClassFile.FieldType)) ∈ TB := TB_t1 34 rfl rfl
theorem wt1_35 : (Jvm.Cond.methodLink "NeedleHomes$World" (3 : Nat) ({ cls := "java/lang/Object", name := "<init>", desc := "()V" } : Jvm.MethodName)) ∈ TB := TB_t1 35 rfl rfl
theorem wt1_36 : (Jvm.Cond.classLink "NeedleHomes$World" (19 : Nat) "NeedleHomes$Pattern") ∈ TB := TB_t1 36 rfl rfl
theorem wt1_38 : (Jvm.Cond.classLink "NeedleHomes$World" (25 : Nat) "NeedleHomes$TermList") ∈ TB := TB_t1 38 rfl rfl
theorem wt1_4 : (Jvm.Cond.initialized "NeedleHomes$PatternReader") ∈ TB := TB_t1 4 rfl rfl
theorem wt1_40 : (Jvm.Cond.classLink "NeedleHomes$World" (31 : Nat) "NeedleHomes$Hand") ∈ TB := TB_t1 40 rfl rfl
theorem wt1_42 : (Jvm.Cond.classLink "NeedleHomes$World" (37 : Nat) "NeedleHomes$Piece") ∈ TB := TB_t1 42 rfl rfl
theorem wt1_44 : (Jvm.Cond.methodLink "NeedleHomes$World" (50 : Nat) ({ cls := "java/util/Arrays", name := "fill", desc := "([II)V" } : Jvm.MethodName)) ∈ TB := TB_t1 44 rfl rfl
theorem wt1_45 : (Jvm.Cond.static ({ cls := "java/util/Arrays", name := "fill", desc := "([II)V" } : Jvm.MethodName)) ∈ TB := TB_t1 45 rfl rfl
theorem wt1_46 : (Jvm.Cond.code ({ cls := "java/util/Arrays", name := "fill", desc := "([II)V" } : Jvm.MethodName) prog_22_method_103_code (4 : Nat) (Option.none : Option Jvm.ClassFile.FieldType)) ∈ TB := TB_t1 46 rfl rfl
theorem wt1_47 : (Jvm.Cond.fieldLink "NeedleHomes$World" (9 : Nat) "NeedleHomes$World" "tape" "[B") ∈ TB := TB_t1 47 rfl rfl
theorem wt1_48 : (Jvm.Cond.fieldLink "NeedleHomes" (79 : Nat) "NeedleHomes$World" "tape" "[B") ∈ TB := TB_t1 48 rfl rfl
theorem wt1_49 : (Jvm.Cond.fieldLink "NeedleHomes" (59 : Nat) "NeedleHomes$World" "tapeLength" "I") ∈ TB := TB_t1 49 rfl rfl
theorem wt1_5 : (Jvm.Cond.initialized "NeedleHomes$Reader") ∈ TB := TB_t1 5 rfl rfl
theorem wt1_50 : (Jvm.Cond.fieldLink "NeedleHomes$World" (62 : Nat) "NeedleHomes$World" "tapeLength" "I") ∈ TB := TB_t1 50 rfl rfl
theorem wt1_51 : (Jvm.Cond.fieldLink "NeedleHomes$World" (65 : Nat) "NeedleHomes$World" "fault" "I") ∈ TB := TB_t1 51 rfl rfl
theorem wt1_52 : (Jvm.Cond.fieldLink "NeedleHomes" (95 : Nat) "NeedleHomes$World" "fault" "I") ∈ TB := TB_t1 52 rfl rfl
theorem wt1_53 : (Jvm.Cond.fieldLink "NeedleHomes$World" (15 : Nat) "NeedleHomes$World" "faultPlace" "I") ∈ TB := TB_t1 53 rfl rfl
theorem wt1_54 : (Jvm.Cond.fieldLink "NeedleHomes" (128 : Nat) "NeedleHomes$World" "faultPlace" "I") ∈ TB := TB_t1 54 rfl rfl
theorem wt1_55 : (Jvm.Cond.fieldLink "NeedleHomes$World" (68 : Nat) "NeedleHomes$World" "day" "I") ∈ TB := TB_t1 55 rfl rfl
theorem wt1_56 : (Jvm.Cond.fieldLink "NeedleHomes$Parting" (48 : Nat) "NeedleHomes$World" "day" "I") ∈ TB := TB_t1 56 rfl rfl
theorem wt1_57 : (Jvm.Cond.fieldLink "NeedleHomes$EvenPay" (49 : Nat) "NeedleHomes$World" "day" "I") ∈ TB := TB_t1 57 rfl rfl
theorem wt1_58 : (Jvm.Cond.fieldLink "NeedleHomes" (118 : Nat) "NeedleHomes$World" "day" "I") ∈ TB := TB_t1 58 rfl rfl
theorem wt1_59 : (Jvm.Cond.fieldLink "NeedleHomes$World" (21 : Nat) "NeedleHomes$World" "patterns" "[LNeedleHomes$Pattern;") ∈ TB := TB_t1 59 rfl rfl
theorem wt1_6 : (Jvm.Cond.initialized "NeedleHomes$ListReader") ∈ TB := TB_t1 6 rfl rfl
theorem wt1_60 : (Jvm.Cond.fieldLink "NeedleHomes$World" (81 : Nat) "NeedleHomes$World" "patternCount" "I") ∈ TB := TB_t1 60 rfl rfl
theorem wt1_61 : (Jvm.Cond.fieldLink "NeedleHomes" (75 : Nat) "NeedleHomes$World" "patternCount" "I") ∈ TB := TB_t1 61 rfl rfl
theorem wt1_62 : (Jvm.Cond.fieldLink "NeedleHomes$World" (27 : Nat) "NeedleHomes$World" "termLists" "[LNeedleHomes$TermList;") ∈ TB := TB_t1 62 rfl rfl
theorem wt1_63 : (Jvm.Cond.fieldLink "NeedleHomes$World" (84 : Nat) "NeedleHomes$World" "listCount" "I") ∈ TB := TB_t1 63 rfl rfl
theorem wt1_64 : (Jvm.Cond.fieldLink "NeedleHomes" (107 : Nat) "NeedleHomes$World" "listCount" "I") ∈ TB := TB_t1 64 rfl rfl
theorem wt1_65 : (Jvm.Cond.fieldLink "NeedleHomes$World" (33 : Nat) "NeedleHomes$World" "hands" "[LNeedleHomes$Hand;") ∈ TB := TB_t1 65 rfl rfl
theorem wt1_66 : (Jvm.Cond.fieldLink "NeedleHomes$Parting" (21 : Nat) "NeedleHomes$World" "handCount" "I") ∈ TB := TB_t1 66 rfl rfl
theorem wt1_67 : (Jvm.Cond.fieldLink "NeedleHomes$World" (87 : Nat) "NeedleHomes$World" "handCount" "I") ∈ TB := TB_t1 67 rfl rfl
theorem wt1_68 : (Jvm.Cond.fieldLink "NeedleHomes" (167 : Nat) "NeedleHomes$World" "handCount" "I") ∈ TB := TB_t1 68 rfl rfl
theorem wt1_69 : (Jvm.Cond.fieldLink "NeedleHomes$World" (39 : Nat) "NeedleHomes$World" "pieces" "[LNeedleHomes$Piece;") ∈ TB := TB_t1 69 rfl rfl
theorem wt1_7 : (Jvm.Cond.initialized "NeedleHomes$Bill") ∈ TB := TB_t1 7 rfl rfl
theorem wt1_70 : (Jvm.Cond.fieldLink "NeedleHomes$World" (110 : Nat) "NeedleHomes$World" "pieceCount" "I") ∈ TB := TB_t1 70 rfl rfl
theorem wt1_71 : (Jvm.Cond.fieldLink "NeedleHomes" (225 : Nat) "NeedleHomes$World" "pieceCount" "I") ∈ TB := TB_t1 71 rfl rfl
theorem wt1_72 : (Jvm.Cond.fieldLink "NeedleHomes$World" (43 : Nat) "NeedleHomes$World" "times" "[I") ∈ TB := TB_t1 72 rfl rfl
theorem wt1_73 : (Jvm.Cond.fieldLink "NeedleHomes$EvenPay" (75 : Nat) "NeedleHomes$World" "times" "[I") ∈ TB := TB_t1 73 rfl rfl
theorem wt1_74 : (Jvm.Cond.fieldLink "NeedleHomes" (348 : Nat) "NeedleHomes$World" "times" "[I") ∈ TB := TB_t1 74 rfl rfl
theorem wt1_75 : (Jvm.Cond.fieldLink "NeedleHomes$World" (47 : Nat) "NeedleHomes$World" "carried" "[I") ∈ TB := TB_t1 75 rfl rfl
theorem wt1_76 : (Jvm.Cond.fieldLink "NeedleHomes" (300 : Nat) "NeedleHomes$World" "carried" "[I") ∈ TB := TB_t1 76 rfl rfl
theorem wt1_8 : (Jvm.Cond.initialized "NeedleHomes$Parting") ∈ TB := TB_t1 8 rfl rfl
theorem wt1_9 : (Jvm.Cond.initialized "NeedleHomes$EvenPay") ∈ TB := TB_t1 9 rfl rfl
theorem wt2_0 : (Jvm.Cond.classLink "NeedleHomes" (41 : Nat) "NeedleHomes$Parting") ∈ TB := TB_t2 0 rfl rfl
theorem wt2_1 : (Jvm.Cond.instantiable "NeedleHomes$Parting" (7 : Nat)) ∈ TB := TB_t2 1 rfl rfl
theorem wt2_10 : (Jvm.Cond.fieldLink "NeedleHomes$Parting" (78 : Nat) "NeedleHomes$Parting" "set" "I") ∈ TB := TB_t2 10 rfl rfl
theorem wt2_101 : (Jvm.Cond.code ({ cls := "NeedleHomes", name := "pattern", desc := "(II)I" } : Jvm.MethodName) prog_1_method_4_code (4 : Nat) (Option.some Jvm.ClassFile.FieldType.int)) ∈ TB := TB_t2 101 rfl rfl
theorem wt2_102 : (Jvm.Cond.methodLink "NeedleHomes" (71 : Nat) ({ cls := "NeedleHomes$World", name := "takeTape", desc := "()I" } : Jvm.MethodName)) ∈ TB := TB_t2 102 rfl rfl
theorem wt2_103 : (Jvm.Cond.instanceMethod ({ cls := "NeedleHomes$World", name := "takeTape", desc := "()I" } : Jvm.MethodName)) ∈ TB := TB_t2 103 rfl rfl
theorem wt2_104 : (Jvm.Cond.selects "NeedleHomes$World" ({ cls := "NeedleHomes$World", name := "takeTape", desc := "()I" } : Jvm.MethodName) ({ cls := "NeedleHomes$World", name := "takeTape", desc := "()I" } : Jvm.MethodName)) ∈ TB := TB_t2 104 rfl rfl
theorem wt2_105 : (Jvm.Cond.code ({ cls := "NeedleHomes$World", name := "takeTape", desc := "()I" } : Jvm.MethodName) prog_12_method_7_code (2 : Nat) (Option.some Jvm.ClassFile.FieldType.int)) ∈ TB := TB_t2 105 rfl rfl
theorem wt2_106 : (Jvm.Cond.constant "NeedleHomes" (78 : Nat) (16777215 : Int32)) ∈ TB := TB_t2 106 rfl rfl
theorem wt2_107 : (Jvm.Cond.methodLink "NeedleHomes" (83 : Nat) ({ cls := "NeedleHomes$PatternReader", name := "read", desc := "([BI)V" } : Jvm.MethodName)) ∈ TB := TB_t2 107 rfl rfl
theorem wt2_108 : (Jvm.Cond.instanceMethod ({ cls := "NeedleHomes$PatternReader", name := "read", desc := "([BI)V" } : Jvm.MethodName)) ∈ TB := TB_t2 108 rfl rfl
theorem wt2_109 : (Jvm.Cond.selects "NeedleHomes$PatternReader" ({ cls := "NeedleHomes$PatternReader", name := "read", desc := "([BI)V" } : Jvm.MethodName) ({ cls := "NeedleHomes$PatternReader", name := "read", desc := "([BI)V" } : Jvm.MethodName)) ∈ TB := TB_t2 109 rfl rfl
theorem wt2_11 : (Jvm.Cond.fieldLink "NeedleHomes" (318 : Nat) "NeedleHomes$Parting" "set" "I") ∈ TB := TB_t2 11 rfl rfl
theorem wt2_110 : (Jvm.Cond.code ({ cls := "NeedleHomes$PatternReader", name := "read", desc := "([BI)V" } : Jvm.MethodName) prog_8_method_2_code (5 : Nat) (Option.none : Option Jvm.ClassFile.FieldType)) ∈ TB := TB_t2 110 rfl rfl
theorem wt2_111 : (Jvm.Cond.methodLink "NeedleHomes$PatternReader" (28 : Nat) ({ cls := "NeedleHomes$Reader", name := "start", desc := "([BI)V" } : Jvm.MethodName)) ∈ TB := TB_t2 111 rfl rfl
theorem wt2_112 : (Jvm.Cond.instanceMethod ({ cls := "NeedleHomes$Reader", name := "start", desc := "([BI)V" } : Jvm.MethodName)) ∈ TB := TB_t2 112 rfl rfl
theorem wt2_113 : (Jvm.Cond.selects "NeedleHomes$Reader" ({ cls := "NeedleHomes$Reader", name := "start", desc := "([BI)V" } : Jvm.MethodName) ({ cls := "NeedleHomes$Reader", name := "start", desc := "([BI)V" } : Jvm.MethodName)) ∈ TB := TB_t2 113 rfl rfl
theorem wt2_114 : (Jvm.Cond.code ({ cls := "NeedleHomes$Reader", name := "start", desc := "([BI)V" } : Jvm.MethodName) prog_10_method_2_code (3 : Nat) (Option.none : Option Jvm.ClassFile.FieldType)) ∈ TB := TB_t2 114 rfl rfl
theorem wt2_115 : (Jvm.Cond.methodLink "NeedleHomes$Reader" (15 : Nat) ({ cls := "java/lang/Math", name := "min", desc := "(II)I" } : Jvm.MethodName)) ∈ TB := TB_t2 115 rfl rfl
theorem wt2_116 : (Jvm.Cond.static ({ cls := "java/lang/Math", name := "min", desc := "(II)I" } : Jvm.MethodName)) ∈ TB := TB_t2 116 rfl rfl
theorem wt2_117 : (Jvm.Cond.code ({ cls := "java/lang/Math", name := "min", desc := "(II)I" } : Jvm.MethodName) prog_17_method_69_code (2 : Nat) (Option.some Jvm.ClassFile.FieldType.int)) ∈ TB := TB_t2 117 rfl rfl
theorem wt2_118 : (Jvm.Cond.methodLink "NeedleHomes$Reader" (21 : Nat) ({ cls := "java/lang/Math", name := "max", desc := "(II)I" } : Jvm.MethodName)) ∈ TB := TB_t2 118 rfl rfl
theorem wt2_119 : (Jvm.Cond.static ({ cls := "java/lang/Math", name := "max", desc := "(II)I" } : Jvm.MethodName)) ∈ TB := TB_t2 119 rfl rfl
theorem wt2_12 : (Jvm.Cond.fieldLink "NeedleHomes$Parting" (33 : Nat) "NeedleHomes$Parting" "handCount" "I") ∈ TB := TB_t2 12 rfl rfl
theorem wt2_120 : (Jvm.Cond.code ({ cls := "java/lang/Math", name := "max", desc := "(II)I" } : Jvm.MethodName) prog_17_method_65_code (2 : Nat) (Option.some Jvm.ClassFile.FieldType.int)) ∈ TB := TB_t2 120 rfl rfl
theorem wt2_121 : (Jvm.Cond.methodLink "NeedleHomes$Reader" (37 : Nat) ({ cls := "NeedleHomes$Reader", name := "step", desc := "()V" } : Jvm.MethodName)) ∈ TB := TB_t2 121 rfl rfl
theorem wt2_122 : (Jvm.Cond.instanceMethod ({ cls := "NeedleHomes$Reader", name := "step", desc := "()V" } : Jvm.MethodName)) ∈ TB := TB_t2 122 rfl rfl
theorem wt2_123 : (Jvm.Cond.selects "NeedleHomes$Reader" ({ cls := "NeedleHomes$Reader", name := "step", desc := "()V" } : Jvm.MethodName) ({ cls := "NeedleHomes$Reader", name := "step", desc := "()V" } : Jvm.MethodName)) ∈ TB := TB_t2 123 rfl rfl
theorem wt2_124 : (Jvm.Cond.code ({ cls := "NeedleHomes$Reader", name := "step", desc := "()V" } : Jvm.MethodName) prog_10_method_3_code (2 : Nat) (Option.none : Option Jvm.ClassFile.FieldType)) ∈ TB := TB_t2 124 rfl rfl
theorem wt2_125 : (Jvm.Cond.methodLink "NeedleHomes$Reader" (40 : Nat) ({ cls := "NeedleHomes$Reader", name := "byteAt", desc := "(I)I" } : Jvm.MethodName)) ∈ TB := TB_t2 125 rfl rfl
theorem wt2_127 : (Jvm.Cond.instanceMethod ({ cls := "NeedleHomes$Reader", name := "byteAt", desc := "(I)I" } : Jvm.MethodName)) ∈ TB := TB_t2 127 rfl rfl
theorem wt2_128 : (Jvm.Cond.code ({ cls := "NeedleHomes$Reader", name := "byteAt", desc := "(I)I" } : Jvm.MethodName) prog_10_method_10_code (2 : Nat) (Option.some Jvm.ClassFile.FieldType.int)) ∈ TB := TB_t2 128 rfl rfl
theorem wt2_129 : (Jvm.Cond.methodLink "NeedleHomes$Reader" (53 : Nat) ({ cls := "NeedleHomes$Reader", name := "isLetter", desc := "(I)Z" } : Jvm.MethodName)) ∈ TB := TB_t2 129 rfl rfl
theorem wt2_13 : (Jvm.Cond.fieldLink "NeedleHomes$Parting" (9 : Nat) "NeedleHomes$Parting" "canDo" "[I") ∈ TB := TB_t2 13 rfl rfl
theorem wt2_130 : (Jvm.Cond.static ({ cls := "NeedleHomes$Reader", name := "isLetter", desc := "(I)Z" } : Jvm.MethodName)) ∈ TB := TB_t2 130 rfl rfl
theorem wt2_131 : (Jvm.Cond.code ({ cls := "NeedleHomes$Reader", name := "isLetter", desc := "(I)Z" } : Jvm.MethodName) prog_10_method_11_code (1 : Nat) (Option.some Jvm.ClassFile.FieldType.boolean)) ∈ TB := TB_t2 131 rfl rfl
theorem wt2_132 : (Jvm.Cond.methodLink "NeedleHomes$Reader" (57 : Nat) ({ cls := "NeedleHomes$Reader", name := "isDigit", desc := "(I)Z" } : Jvm.MethodName)) ∈ TB := TB_t2 132 rfl rfl
theorem wt2_133 : (Jvm.Cond.static ({ cls := "NeedleHomes$Reader", name := "isDigit", desc := "(I)Z" } : Jvm.MethodName)) ∈ TB := TB_t2 133 rfl rfl
theorem wt2_134 : (Jvm.Cond.code ({ cls := "NeedleHomes$Reader", name := "isDigit", desc := "(I)Z" } : Jvm.MethodName) prog_10_method_12_code (1 : Nat) (Option.some Jvm.ClassFile.FieldType.boolean)) ∈ TB := TB_t2 134 rfl rfl
theorem wt2_135 : (Jvm.Cond.methodLink "NeedleHomes$Reader" (60 : Nat) ({ cls := "NeedleHomes$Reader", name := "stepOverDigits", desc := "()V" } : Jvm.MethodName)) ∈ TB := TB_t2 135 rfl rfl
theorem wt2_137 : (Jvm.Cond.instanceMethod ({ cls := "NeedleHomes$Reader", name := "stepOverDigits", desc := "()V" } : Jvm.MethodName)) ∈ TB := TB_t2 137 rfl rfl
theorem wt2_138 : (Jvm.Cond.code ({ cls := "NeedleHomes$Reader", name := "stepOverDigits", desc := "()V" } : Jvm.MethodName) prog_10_method_4_code (1 : Nat) (Option.none : Option Jvm.ClassFile.FieldType)) ∈ TB := TB_t2 138 rfl rfl
theorem wt2_139 : (Jvm.Cond.methodLink "NeedleHomes$Reader" (63 : Nat) ({ cls := "NeedleHomes$Reader", name := "isSignByte", desc := "(I)Z" } : Jvm.MethodName)) ∈ TB := TB_t2 139 rfl rfl
theorem wt2_14 : (Jvm.Cond.fieldLink "NeedleHomes$Parting" (15 : Nat) "NeedleHomes$Parting" "skills" "[I") ∈ TB := TB_t2 14 rfl rfl
theorem wt2_140 : (Jvm.Cond.static ({ cls := "NeedleHomes$Reader", name := "isSignByte", desc := "(I)Z" } : Jvm.MethodName)) ∈ TB := TB_t2 140 rfl rfl
theorem wt2_141 : (Jvm.Cond.code ({ cls := "NeedleHomes$Reader", name := "isSignByte", desc := "(I)Z" } : Jvm.MethodName) prog_10_method_13_code (1 : Nat) (Option.some Jvm.ClassFile.FieldType.boolean)) ∈ TB := TB_t2 141 rfl rfl
theorem wt2_142 : (Jvm.Cond.methodLink "NeedleHomes$PatternReader" (36 : Nat) ({ cls := "NeedleHomes$PatternReader", name := "clearLevel", desc := "(I)V" } : Jvm.MethodName)) ∈ TB := TB_t2 142 rfl rfl
theorem wt2_144 : (Jvm.Cond.instanceMethod ({ cls := "NeedleHomes$PatternReader", name := "clearLevel", desc := "(I)V" } : Jvm.MethodName)) ∈ TB := TB_t2 144 rfl rfl
theorem wt2_145 : (Jvm.Cond.code ({ cls := "NeedleHomes$PatternReader", name := "clearLevel", desc := "(I)V" } : Jvm.MethodName) prog_8_method_14_code (3 : Nat) (Option.none : Option Jvm.ClassFile.FieldType)) ∈ TB := TB_t2 145 rfl rfl
theorem wt2_147 : (Jvm.Cond.methodLink "NeedleHomes$PatternReader" (43 : Nat) ({ cls := "NeedleHomes$PatternReader", name := "readItem", desc := "()Z" } : Jvm.MethodName)) ∈ TB := TB_t2 147 rfl rfl
theorem wt2_149 : (Jvm.Cond.instanceMethod ({ cls := "NeedleHomes$PatternReader", name := "readItem", desc := "()Z" } : Jvm.MethodName)) ∈ TB := TB_t2 149 rfl rfl
theorem wt2_15 : (Jvm.Cond.fieldLink "NeedleHomes$Parting" (18 : Nat) "NeedleHomes$Parting" "shares" "[I") ∈ TB := TB_t2 15 rfl rfl
theorem wt2_150 : (Jvm.Cond.code ({ cls := "NeedleHomes$PatternReader", name := "readItem", desc := "()Z" } : Jvm.MethodName) prog_8_method_3_code (2 : Nat) (Option.some Jvm.ClassFile.FieldType.boolean)) ∈ TB := TB_t2 150 rfl rfl
theorem wt2_151 : (Jvm.Cond.methodLink "NeedleHomes$PatternReader" (56 : Nat) ({ cls := "NeedleHomes$Reader", name := "onlyLetter", desc := "()I" } : Jvm.MethodName)) ∈ TB := TB_t2 151 rfl rfl
theorem wt2_152 : (Jvm.Cond.instanceMethod ({ cls := "NeedleHomes$Reader", name := "onlyLetter", desc := "()I" } : Jvm.MethodName)) ∈ TB := TB_t2 152 rfl rfl
theorem wt2_153 : (Jvm.Cond.selects "NeedleHomes$Reader" ({ cls := "NeedleHomes$Reader", name := "onlyLetter", desc := "()I" } : Jvm.MethodName) ({ cls := "NeedleHomes$Reader", name := "onlyLetter", desc := "()I" } : Jvm.MethodName)) ∈ TB := TB_t2 153 rfl rfl
theorem wt2_154 : (Jvm.Cond.code ({ cls := "NeedleHomes$Reader", name := "onlyLetter", desc := "()I" } : Jvm.MethodName) prog_10_method_6_code (1 : Nat) (Option.some Jvm.ClassFile.FieldType.int)) ∈ TB := TB_t2 154 rfl rfl
theorem wt2_155 : (Jvm.Cond.methodLink "NeedleHomes$PatternReader" (59 : Nat) ({ cls := "NeedleHomes$PatternReader", name := "readColour", desc := "()Z" } : Jvm.MethodName)) ∈ TB := TB_t2 155 rfl rfl
theorem wt2_157 : (Jvm.Cond.instanceMethod ({ cls := "NeedleHomes$PatternReader", name := "readColour", desc := "()Z" } : Jvm.MethodName)) ∈ TB := TB_t2 157 rfl rfl
theorem wt2_158 : (Jvm.Cond.code ({ cls := "NeedleHomes$PatternReader", name := "readColour", desc := "()Z" } : Jvm.MethodName) prog_8_method_4_code (1 : Nat) (Option.some Jvm.ClassFile.FieldType.boolean)) ∈ TB := TB_t2 158 rfl rfl
theorem wt2_159 : (Jvm.Cond.methodLink "NeedleHomes$PatternReader" (76 : Nat) ({ cls := "NeedleHomes$Reader", name := "step", desc := "()V" } : Jvm.MethodName)) ∈ TB := TB_t2 159 rfl rfl
theorem wt2_160 : (Jvm.Cond.methodLink "NeedleHomes$PatternReader" (79 : Nat) ({ cls := "NeedleHomes$Reader", name := "failHere", desc := "()Z" } : Jvm.MethodName)) ∈ TB := TB_t2 160 rfl rfl
theorem wt2_161 : (Jvm.Cond.instanceMethod ({ cls := "NeedleHomes$Reader", name := "failHere", desc := "()Z" } : Jvm.MethodName)) ∈ TB := TB_t2 161 rfl rfl
theorem wt2_162 : (Jvm.Cond.selects "NeedleHomes$Reader" ({ cls := "NeedleHomes$Reader", name := "failHere", desc := "()Z" } : Jvm.MethodName) ({ cls := "NeedleHomes$Reader", name := "failHere", desc := "()Z" } : Jvm.MethodName)) ∈ TB := TB_t2 162 rfl rfl
theorem wt2_163 : (Jvm.Cond.code ({ cls := "NeedleHomes$Reader", name := "failHere", desc := "()Z" } : Jvm.MethodName) prog_10_method_8_code (1 : Nat) (Option.some Jvm.ClassFile.FieldType.boolean)) ∈ TB := TB_t2 163 rfl rfl
theorem wt2_165 : (Jvm.Cond.static ({ cls := "NeedleHomes", name := "isColour", desc := "(I)Z" } : Jvm.MethodName)) ∈ TB := TB_t2 165 rfl rfl
theorem wt2_166 : (Jvm.Cond.code ({ cls := "NeedleHomes", name := "isColour", desc := "(I)Z" } : Jvm.MethodName) prog_1_method_38_code (1 : Nat) (Option.some Jvm.ClassFile.FieldType.boolean)) ∈ TB := TB_t2 166 rfl rfl
theorem wt2_167 : (Jvm.Cond.methodLink "NeedleHomes$PatternReader" (52 : Nat) ({ cls := "NeedleHomes$Reader", name := "noteFault", desc := "(II)V" } : Jvm.MethodName)) ∈ TB := TB_t2 167 rfl rfl
theorem wt2_168 : (Jvm.Cond.instanceMethod ({ cls := "NeedleHomes$Reader", name := "noteFault", desc := "(II)V" } : Jvm.MethodName)) ∈ TB := TB_t2 168 rfl rfl
theorem wt2_169 : (Jvm.Cond.selects "NeedleHomes$Reader" ({ cls := "NeedleHomes$Reader", name := "noteFault", desc := "(II)V" } : Jvm.MethodName) ({ cls := "NeedleHomes$Reader", name := "noteFault", desc := "(II)V" } : Jvm.MethodName)) ∈ TB := TB_t2 169 rfl rfl
theorem wt2_170 : (Jvm.Cond.code ({ cls := "NeedleHomes$Reader", name := "noteFault", desc := "(II)V" } : Jvm.MethodName) prog_10_method_9_code (3 : Nat) (Option.none : Option Jvm.ClassFile.FieldType)) ∈ TB := TB_t2 170 rfl rfl
theorem wt2_171 : (Jvm.Cond.methodLink "NeedleHomes$PatternReader" (91 : Nat) ({ cls := "NeedleHomes$PatternReader", name := "isCounting", desc := "()Z" } : Jvm.MethodName)) ∈ TB := TB_t2 171 rfl rfl
theorem wt2_173 : (Jvm.Cond.instanceMethod ({ cls := "NeedleHomes$PatternReader", name := "isCounting", desc := "()Z" } : Jvm.MethodName)) ∈ TB := TB_t2 173 rfl rfl
theorem wt2_174 : (Jvm.Cond.code ({ cls := "NeedleHomes$PatternReader", name := "isCounting", desc := "()Z" } : Jvm.MethodName) prog_8_method_7_code (1 : Nat) (Option.some Jvm.ClassFile.FieldType.boolean)) ∈ TB := TB_t2 174 rfl rfl
theorem wt2_175 : (Jvm.Cond.methodLink "NeedleHomes$PatternReader" (62 : Nat) ({ cls := "NeedleHomes$PatternReader", name := "readStitches", desc := "(I)Z" } : Jvm.MethodName)) ∈ TB := TB_t2 175 rfl rfl
theorem wt2_177 : (Jvm.Cond.instanceMethod ({ cls := "NeedleHomes$PatternReader", name := "readStitches", desc := "(I)Z" } : Jvm.MethodName)) ∈ TB := TB_t2 177 rfl rfl
theorem wt2_178 : (Jvm.Cond.code ({ cls := "NeedleHomes$PatternReader", name := "readStitches", desc := "(I)Z" } : Jvm.MethodName) prog_8_method_5_code (2 : Nat) (Option.some Jvm.ClassFile.FieldType.boolean)) ∈ TB := TB_t2 178 rfl rfl
theorem wt2_179 : (Jvm.Cond.methodLink "NeedleHomes$PatternReader" (94 : Nat) ({ cls := "NeedleHomes$PatternReader", name := "addTo", desc := "(IIIJ)V" } : Jvm.MethodName)) ∈ TB := TB_t2 179 rfl rfl
theorem wt2_181 : (Jvm.Cond.instanceMethod ({ cls := "NeedleHomes$PatternReader", name := "addTo", desc := "(IIIJ)V" } : Jvm.MethodName)) ∈ TB := TB_t2 181 rfl rfl
theorem wt2_182 : (Jvm.Cond.code ({ cls := "NeedleHomes$PatternReader", name := "addTo", desc := "(IIIJ)V" } : Jvm.MethodName) prog_8_method_11_code (7 : Nat) (Option.none : Option Jvm.ClassFile.FieldType)) ∈ TB := TB_t2 182 rfl rfl
theorem wt2_183 : (Jvm.Cond.methodLink "NeedleHomes$PatternReader" (115 : Nat) ({ cls := "NeedleHomes$PatternReader", name := "slotOf", desc := "(III)I" } : Jvm.MethodName)) ∈ TB := TB_t2 183 rfl rfl
theorem wt2_184 : (Jvm.Cond.static ({ cls := "NeedleHomes$PatternReader", name := "slotOf", desc := "(III)I" } : Jvm.MethodName)) ∈ TB := TB_t2 184 rfl rfl
theorem wt2_185 : (Jvm.Cond.code ({ cls := "NeedleHomes$PatternReader", name := "slotOf", desc := "(III)I" } : Jvm.MethodName) prog_8_method_13_code (4 : Nat) (Option.some Jvm.ClassFile.FieldType.int)) ∈ TB := TB_t2 185 rfl rfl
theorem wt2_186 : (Jvm.Cond.constantLong "NeedleHomes$PatternReader" (118 : Nat) (1000001 : Int64)) ∈ TB := TB_t2 186 rfl rfl
theorem wt2_187 : (Jvm.Cond.methodLink "NeedleHomes$PatternReader" (120 : Nat) ({ cls := "java/lang/Math", name := "min", desc := "(JJ)J" } : Jvm.MethodName)) ∈ TB := TB_t2 187 rfl rfl
theorem wt2_188 : (Jvm.Cond.static ({ cls := "java/lang/Math", name := "min", desc := "(JJ)J" } : Jvm.MethodName)) ∈ TB := TB_t2 188 rfl rfl
theorem wt2_189 : (Jvm.Cond.code ({ cls := "java/lang/Math", name := "min", desc := "(JJ)J" } : Jvm.MethodName) prog_17_method_70_code (4 : Nat) (Option.some Jvm.ClassFile.FieldType.long)) ∈ TB := TB_t2 189 rfl rfl
theorem wt2_190 : (Jvm.Cond.methodLink "NeedleHomes$PatternReader" (66 : Nat) ({ cls := "NeedleHomes$PatternReader", name := "readOpening", desc := "()Z" } : Jvm.MethodName)) ∈ TB := TB_t2 190 rfl rfl
theorem wt2_192 : (Jvm.Cond.instanceMethod ({ cls := "NeedleHomes$PatternReader", name := "readOpening", desc := "()Z" } : Jvm.MethodName)) ∈ TB := TB_t2 192 rfl rfl
theorem wt2_193 : (Jvm.Cond.code ({ cls := "NeedleHomes$PatternReader", name := "readOpening", desc := "()Z" } : Jvm.MethodName) prog_8_method_6_code (2 : Nat) (Option.some Jvm.ClassFile.FieldType.boolean)) ∈ TB := TB_t2 193 rfl rfl
theorem wt2_194 : (Jvm.Cond.methodLink "NeedleHomes$PatternReader" (69 : Nat) ({ cls := "NeedleHomes$Reader", name := "isSign", desc := "(C)Z" } : Jvm.MethodName)) ∈ TB := TB_t2 194 rfl rfl
theorem wt2_195 : (Jvm.Cond.instanceMethod ({ cls := "NeedleHomes$Reader", name := "isSign", desc := "(C)Z" } : Jvm.MethodName)) ∈ TB := TB_t2 195 rfl rfl
theorem wt2_196 : (Jvm.Cond.selects "NeedleHomes$Reader" ({ cls := "NeedleHomes$Reader", name := "isSign", desc := "(C)Z" } : Jvm.MethodName) ({ cls := "NeedleHomes$Reader", name := "isSign", desc := "(C)Z" } : Jvm.MethodName)) ∈ TB := TB_t2 196 rfl rfl
theorem wt2_197 : (Jvm.Cond.code ({ cls := "NeedleHomes$Reader", name := "isSign", desc := "(C)Z" } : Jvm.MethodName) prog_10_method_7_code (2 : Nat) (Option.some Jvm.ClassFile.FieldType.boolean)) ∈ TB := TB_t2 197 rfl rfl
theorem wt2_198 : (Jvm.Cond.methodLink "NeedleHomes$PatternReader" (98 : Nat) ({ cls := "NeedleHomes$PatternReader", name := "open", desc := "(I)V" } : Jvm.MethodName)) ∈ TB := TB_t2 198 rfl rfl
theorem wt2_200 : (Jvm.Cond.instanceMethod ({ cls := "NeedleHomes$PatternReader", name := "open", desc := "(I)V" } : Jvm.MethodName)) ∈ TB := TB_t2 200 rfl rfl
theorem wt2_201 : (Jvm.Cond.code ({ cls := "NeedleHomes$PatternReader", name := "open", desc := "(I)V" } : Jvm.MethodName) prog_8_method_8_code (2 : Nat) (Option.none : Option Jvm.ClassFile.FieldType)) ∈ TB := TB_t2 201 rfl rfl
theorem wt2_202 : (Jvm.Cond.methodLink "NeedleHomes$PatternReader" (73 : Nat) ({ cls := "NeedleHomes$PatternReader", name := "close", desc := "()V" } : Jvm.MethodName)) ∈ TB := TB_t2 202 rfl rfl
theorem wt2_204 : (Jvm.Cond.instanceMethod ({ cls := "NeedleHomes$PatternReader", name := "close", desc := "()V" } : Jvm.MethodName)) ∈ TB := TB_t2 204 rfl rfl
theorem wt2_205 : (Jvm.Cond.code ({ cls := "NeedleHomes$PatternReader", name := "close", desc := "()V" } : Jvm.MethodName) prog_8_method_9_code (2 : Nat) (Option.none : Option Jvm.ClassFile.FieldType)) ∈ TB := TB_t2 205 rfl rfl
theorem wt2_206 : (Jvm.Cond.methodLink "NeedleHomes$PatternReader" (108 : Nat) ({ cls := "NeedleHomes$PatternReader", name := "closeStitch", desc := "(I)V" } : Jvm.MethodName)) ∈ TB := TB_t2 206 rfl rfl
theorem wt2_208 : (Jvm.Cond.instanceMethod ({ cls := "NeedleHomes$PatternReader", name := "closeStitch", desc := "(I)V" } : Jvm.MethodName)) ∈ TB := TB_t2 208 rfl rfl
theorem wt2_209 : (Jvm.Cond.code ({ cls := "NeedleHomes$PatternReader", name := "closeStitch", desc := "(I)V" } : Jvm.MethodName) prog_8_method_10_code (7 : Nat) (Option.none : Option Jvm.ClassFile.FieldType)) ∈ TB := TB_t2 209 rfl rfl
theorem wt2_210 : (Jvm.Cond.methodLink "NeedleHomes$PatternReader" (111 : Nat) ({ cls := "NeedleHomes$PatternReader", name := "countAt", desc := "(III)I" } : Jvm.MethodName)) ∈ TB := TB_t2 210 rfl rfl
theorem wt2_211 : (Jvm.Cond.instanceMethod ({ cls := "NeedleHomes$PatternReader", name := "countAt", desc := "(III)I" } : Jvm.MethodName)) ∈ TB := TB_t2 211 rfl rfl
theorem wt2_212 : (Jvm.Cond.selects "NeedleHomes$PatternReader" ({ cls := "NeedleHomes$PatternReader", name := "countAt", desc := "(III)I" } : Jvm.MethodName) ({ cls := "NeedleHomes$PatternReader", name := "countAt", desc := "(III)I" } : Jvm.MethodName)) ∈ TB := TB_t2 212 rfl rfl
theorem wt2_213 : (Jvm.Cond.code ({ cls := "NeedleHomes$PatternReader", name := "countAt", desc := "(III)I" } : Jvm.MethodName) prog_8_method_12_code (5 : Nat) (Option.some Jvm.ClassFile.FieldType.int)) ∈ TB := TB_t2 213 rfl rfl
theorem wt2_214 : (Jvm.Cond.methodLink "NeedleHomes$PatternReader" (47 : Nat) ({ cls := "NeedleHomes$PatternReader", name := "stitchesInAll", desc := "()I" } : Jvm.MethodName)) ∈ TB := TB_t2 214 rfl rfl
theorem wt2_216 : (Jvm.Cond.instanceMethod ({ cls := "NeedleHomes$PatternReader", name := "stitchesInAll", desc := "()I" } : Jvm.MethodName)) ∈ TB := TB_t2 216 rfl rfl
theorem wt2_217 : (Jvm.Cond.code ({ cls := "NeedleHomes$PatternReader", name := "stitchesInAll", desc := "()I" } : Jvm.MethodName) prog_8_method_15_code (4 : Nat) (Option.some Jvm.ClassFile.FieldType.int)) ∈ TB := TB_t2 217 rfl rfl
theorem wt2_218 : (Jvm.Cond.constant "NeedleHomes$PatternReader" (51 : Nat) (1000000 : Int32)) ∈ TB := TB_t2 218 rfl rfl
theorem wt2_219 : (Jvm.Cond.methodLink "NeedleHomes" (91 : Nat) ({ cls := "NeedleHomes$World", name := "keepFault", desc := "(LNeedleHomes$Reader;)V" } : Jvm.MethodName)) ∈ TB := TB_t2 219 rfl rfl
theorem wt2_220 : (Jvm.Cond.instanceMethod ({ cls := "NeedleHomes$World", name := "keepFault", desc := "(LNeedleHomes$Reader;)V" } : Jvm.MethodName)) ∈ TB := TB_t2 220 rfl rfl
theorem wt2_221 : (Jvm.Cond.selects "NeedleHomes$World" ({ cls := "NeedleHomes$World", name := "keepFault", desc := "(LNeedleHomes$Reader;)V" } : Jvm.MethodName) ({ cls := "NeedleHomes$World", name := "keepFault", desc := "(LNeedleHomes$Reader;)V" } : Jvm.MethodName)) ∈ TB := TB_t2 221 rfl rfl
theorem wt2_222 : (Jvm.Cond.code ({ cls := "NeedleHomes$World", name := "keepFault", desc := "(LNeedleHomes$Reader;)V" } : Jvm.MethodName) prog_12_method_8_code (2 : Nat) (Option.none : Option Jvm.ClassFile.FieldType)) ∈ TB := TB_t2 222 rfl rfl
theorem wt2_223 : (Jvm.Cond.classLink "NeedleHomes" (98 : Nat) "NeedleHomes$Pattern") ∈ TB := TB_t2 223 rfl rfl
theorem wt2_224 : (Jvm.Cond.instantiable "NeedleHomes$Pattern" (4 : Nat)) ∈ TB := TB_t2 224 rfl rfl
theorem wt2_225 : (Jvm.Cond.methodLink "NeedleHomes" (100 : Nat) ({ cls := "NeedleHomes$Pattern", name := "<init>", desc := "(IILNeedleHomes$PatternReader;)V" } : Jvm.MethodName)) ∈ TB := TB_t2 225 rfl rfl
theorem wt2_226 : (Jvm.Cond.instanceMethod ({ cls := "NeedleHomes$Pattern", name := "<init>", desc := "(IILNeedleHomes$PatternReader;)V" } : Jvm.MethodName)) ∈ TB := TB_t2 226 rfl rfl
theorem wt2_227 : (Jvm.Cond.code ({ cls := "NeedleHomes$Pattern", name := "<init>", desc := "(IILNeedleHomes$PatternReader;)V" } : Jvm.MethodName) prog_7_method_1_code (7 : Nat) (Option.none : Option Jvm.ClassFile.FieldType)) ∈ TB := TB_t2 227 rfl rfl
theorem wt2_228 : (Jvm.Cond.methodLink "NeedleHomes$Pattern" (3 : Nat) ({ cls := "java/lang/Object", name := "<init>", desc := "()V" } : Jvm.MethodName)) ∈ TB := TB_t2 228 rfl rfl
theorem wt2_229 : (Jvm.Cond.methodLink "NeedleHomes$Pattern" (22 : Nat) ({ cls := "NeedleHomes$PatternReader", name := "countAt", desc := "(III)I" } : Jvm.MethodName)) ∈ TB := TB_t2 229 rfl rfl
theorem wt2_230 : (Jvm.Cond.fieldLink "NeedleHomes$Pattern" (15 : Nat) "NeedleHomes$Pattern" "ground" "I") ∈ TB := TB_t2 230 rfl rfl
theorem wt2_231 : (Jvm.Cond.fieldLink "NeedleHomes" (145 : Nat) "NeedleHomes$Pattern" "ground" "I") ∈ TB := TB_t2 231 rfl rfl
theorem wt2_232 : (Jvm.Cond.fieldLink "NeedleHomes$Pattern" (19 : Nat) "NeedleHomes$Pattern" "marks" "I") ∈ TB := TB_t2 232 rfl rfl
theorem wt2_233 : (Jvm.Cond.fieldLink "NeedleHomes" (148 : Nat) "NeedleHomes$Pattern" "marks" "I") ∈ TB := TB_t2 233 rfl rfl
theorem wt2_234 : (Jvm.Cond.fieldLink "NeedleHomes$Pattern" (28 : Nat) "NeedleHomes$Pattern" "stitches" "I") ∈ TB := TB_t2 234 rfl rfl
theorem wt2_235 : (Jvm.Cond.fieldLink "NeedleHomes$Parting" (43 : Nat) "NeedleHomes$Pattern" "stitches" "I") ∈ TB := TB_t2 235 rfl rfl
theorem wt2_236 : (Jvm.Cond.fieldLink "NeedleHomes" (151 : Nat) "NeedleHomes$Pattern" "stitches" "I") ∈ TB := TB_t2 236 rfl rfl
theorem wt2_237 : (Jvm.Cond.fieldLink "NeedleHomes$Pattern" (9 : Nat) "NeedleHomes$Pattern" "counts" "[I") ∈ TB := TB_t2 237 rfl rfl
theorem wt2_3 : (Jvm.Cond.instanceMethod ({ cls := "NeedleHomes$Parting", name := "<init>", desc := "()V" } : Jvm.MethodName)) ∈ TB := TB_t2 3 rfl rfl
theorem wt2_31 : (Jvm.Cond.classLink "NeedleHomes" (48 : Nat) "NeedleHomes$EvenPay") ∈ TB := TB_t2 31 rfl rfl
theorem wt2_32 : (Jvm.Cond.instantiable "NeedleHomes$EvenPay" (6 : Nat)) ∈ TB := TB_t2 32 rfl rfl
theorem wt2_34 : (Jvm.Cond.instanceMethod ({ cls := "NeedleHomes$EvenPay", name := "<init>", desc := "()V" } : Jvm.MethodName)) ∈ TB := TB_t2 34 rfl rfl
theorem wt2_35 : (Jvm.Cond.code ({ cls := "NeedleHomes$EvenPay", name := "<init>", desc := "()V" } : Jvm.MethodName) prog_3_method_1_code (1 : Nat) (Option.none : Option Jvm.ClassFile.FieldType)) ∈ TB := TB_t2 35 rfl rfl
theorem wt2_36 : (Jvm.Cond.methodLink "NeedleHomes$EvenPay" (3 : Nat) ({ cls := "java/lang/Object", name := "<init>", desc := "()V" } : Jvm.MethodName)) ∈ TB := TB_t2 36 rfl rfl
theorem wt2_37 : (Jvm.Cond.fieldLink "NeedleHomes$EvenPay" (29 : Nat) "NeedleHomes$EvenPay" "pay" "I") ∈ TB := TB_t2 37 rfl rfl
theorem wt2_38 : (Jvm.Cond.fieldLink "NeedleHomes" (355 : Nat) "NeedleHomes$EvenPay" "pay" "I") ∈ TB := TB_t2 38 rfl rfl
theorem wt2_39 : (Jvm.Cond.fieldLink "NeedleHomes$EvenPay" (32 : Nat) "NeedleHomes$EvenPay" "change" "I") ∈ TB := TB_t2 39 rfl rfl
theorem wt2_4 : (Jvm.Cond.code ({ cls := "NeedleHomes$Parting", name := "<init>", desc := "()V" } : Jvm.MethodName) prog_6_method_1_code (1 : Nat) (Option.none : Option Jvm.ClassFile.FieldType)) ∈ TB := TB_t2 4 rfl rfl
theorem wt2_40 : (Jvm.Cond.fieldLink "NeedleHomes" (358 : Nat) "NeedleHomes$EvenPay" "change" "I") ∈ TB := TB_t2 40 rfl rfl
theorem wt2_41 : (Jvm.Cond.fieldLink "NeedleHomes$EvenPay" (21 : Nat) "NeedleHomes$EvenPay" "gap" "I") ∈ TB := TB_t2 41 rfl rfl
theorem wt2_42 : (Jvm.Cond.fieldLink "NeedleHomes$EvenPay" (9 : Nat) "NeedleHomes$EvenPay" "rates" "[I") ∈ TB := TB_t2 42 rfl rfl
theorem wt2_43 : (Jvm.Cond.fieldLink "NeedleHomes$EvenPay" (15 : Nat) "NeedleHomes$EvenPay" "times" "[I") ∈ TB := TB_t2 43 rfl rfl
theorem wt2_44 : (Jvm.Cond.fieldLink "NeedleHomes$EvenPay" (18 : Nat) "NeedleHomes$EvenPay" "asked" "[I") ∈ TB := TB_t2 44 rfl rfl
theorem wt2_5 : (Jvm.Cond.methodLink "NeedleHomes$Parting" (3 : Nat) ({ cls := "java/lang/Object", name := "<init>", desc := "()V" } : Jvm.MethodName)) ∈ TB := TB_t2 5 rfl rfl
theorem wt2_58 : (Jvm.Cond.fieldLink "NeedleHomes" (12 : Nat) "NeedleHomes" "world" "LNeedleHomes$World;") ∈ TB := TB_t2 58 rfl rfl
theorem wt2_59 : (Jvm.Cond.fieldLink "NeedleHomes" (16 : Nat) "NeedleHomes" "images" "[LNeedleHomes$World;") ∈ TB := TB_t2 59 rfl rfl
theorem wt2_6 : (Jvm.Cond.fieldLink "NeedleHomes$Parting" (60 : Nat) "NeedleHomes$Parting" "many" "I") ∈ TB := TB_t2 6 rfl rfl
theorem wt2_60 : (Jvm.Cond.fieldLink "NeedleHomes" (23 : Nat) "NeedleHomes" "patternReader" "LNeedleHomes$PatternReader;") ∈ TB := TB_t2 60 rfl rfl
theorem wt2_61 : (Jvm.Cond.fieldLink "NeedleHomes" (30 : Nat) "NeedleHomes" "listReader" "LNeedleHomes$ListReader;") ∈ TB := TB_t2 61 rfl rfl
theorem wt2_62 : (Jvm.Cond.fieldLink "NeedleHomes" (37 : Nat) "NeedleHomes" "reckoning" "LNeedleHomes$Bill;") ∈ TB := TB_t2 62 rfl rfl
theorem wt2_63 : (Jvm.Cond.fieldLink "NeedleHomes" (44 : Nat) "NeedleHomes" "parting" "LNeedleHomes$Parting;") ∈ TB := TB_t2 63 rfl rfl
theorem wt2_64 : (Jvm.Cond.fieldLink "NeedleHomes" (51 : Nat) "NeedleHomes" "evenPay" "LNeedleHomes$EvenPay;") ∈ TB := TB_t2 64 rfl rfl
theorem wt2_65 : (Jvm.Cond.fieldLink "NeedleHomes" (55 : Nat) "NeedleHomes" "asked" "[I") ∈ TB := TB_t2 65 rfl rfl
theorem wt2_7 : (Jvm.Cond.fieldLink "NeedleHomes" (312 : Nat) "NeedleHomes$Parting" "many" "I") ∈ TB := TB_t2 7 rfl rfl
theorem wt2_8 : (Jvm.Cond.fieldLink "NeedleHomes$Parting" (81 : Nat) "NeedleHomes$Parting" "spread" "I") ∈ TB := TB_t2 8 rfl rfl
theorem wt2_86 : (Jvm.Cond.code ({ cls := "NeedleHomes", name := "feed", desc := "(IIIII)I" } : Jvm.MethodName) prog_1_method_2_code (6 : Nat) (Option.some Jvm.ClassFile.FieldType.int)) ∈ TB := TB_t2 86 rfl rfl
theorem wt2_87 : (Jvm.Cond.methodLink "NeedleHomes" (63 : Nat) ({ cls := "NeedleHomes$World", name := "addBytes", desc := "(I)V" } : Jvm.MethodName)) ∈ TB := TB_t2 87 rfl rfl
theorem wt2_88 : (Jvm.Cond.instanceMethod ({ cls := "NeedleHomes$World", name := "addBytes", desc := "(I)V" } : Jvm.MethodName)) ∈ TB := TB_t2 88 rfl rfl
theorem wt2_89 : (Jvm.Cond.selects "NeedleHomes$World" ({ cls := "NeedleHomes$World", name := "addBytes", desc := "(I)V" } : Jvm.MethodName) ({ cls := "NeedleHomes$World", name := "addBytes", desc := "(I)V" } : Jvm.MethodName)) ∈ TB := TB_t2 89 rfl rfl
theorem wt2_9 : (Jvm.Cond.fieldLink "NeedleHomes" (315 : Nat) "NeedleHomes$Parting" "spread" "I") ∈ TB := TB_t2 9 rfl rfl
theorem wt2_90 : (Jvm.Cond.code ({ cls := "NeedleHomes$World", name := "addBytes", desc := "(I)V" } : Jvm.MethodName) prog_12_method_6_code (3 : Nat) (Option.none : Option Jvm.ClassFile.FieldType)) ∈ TB := TB_t2 90 rfl rfl
theorem wt2_94 : (Jvm.Cond.code ({ cls := "NeedleHomes", name := "end", desc := "(I)I" } : Jvm.MethodName) prog_1_method_3_code (2 : Nat) (Option.some Jvm.ClassFile.FieldType.int)) ∈ TB := TB_t2 94 rfl rfl
theorem wt2_95 : (Jvm.Cond.methodLink "NeedleHomes" (67 : Nat) ({ cls := "NeedleHomes", name := "within", desc := "(III)Z" } : Jvm.MethodName)) ∈ TB := TB_t2 95 rfl rfl
theorem wt2_96 : (Jvm.Cond.static ({ cls := "NeedleHomes", name := "within", desc := "(III)Z" } : Jvm.MethodName)) ∈ TB := TB_t2 96 rfl rfl
theorem wt2_97 : (Jvm.Cond.code ({ cls := "NeedleHomes", name := "within", desc := "(III)Z" } : Jvm.MethodName) prog_1_method_36_code (3 : Nat) (Option.some Jvm.ClassFile.FieldType.boolean)) ∈ TB := TB_t2 97 rfl rfl
theorem wt3_10 : (Jvm.Cond.code ({ cls := "NeedleHomes$World", name := "addPattern", desc := "(LNeedleHomes$Pattern;)I" } : Jvm.MethodName) prog_12_method_13_code (3 : Nat) (Option.some Jvm.ClassFile.FieldType.int)) ∈ TB := TB_t3 10 rfl rfl
theorem wt3_101 : (Jvm.Cond.instanceMethod ({ cls := "NeedleHomes$ListReader", name := "readTest", desc := "(II)Z" } : Jvm.MethodName)) ∈ TB := TB_t3 101 rfl rfl
theorem wt3_102 : (Jvm.Cond.code ({ cls := "NeedleHomes$ListReader", name := "readTest", desc := "(II)Z" } : Jvm.MethodName) prog_5_method_5_code (6 : Nat) (Option.some Jvm.ClassFile.FieldType.boolean)) ∈ TB := TB_t3 102 rfl rfl
theorem wt3_105 : (Jvm.Cond.methodLink "NeedleHomes$ListReader" (92 : Nat) ({ cls := "NeedleHomes$ListReader", name := "keepTest", desc := "(IIZIII)V" } : Jvm.MethodName)) ∈ TB := TB_t3 105 rfl rfl
theorem wt3_107 : (Jvm.Cond.instanceMethod ({ cls := "NeedleHomes$ListReader", name := "keepTest", desc := "(IIZIII)V" } : Jvm.MethodName)) ∈ TB := TB_t3 107 rfl rfl
theorem wt3_108 : (Jvm.Cond.code ({ cls := "NeedleHomes$ListReader", name := "keepTest", desc := "(IIZIII)V" } : Jvm.MethodName) prog_5_method_6_code (8 : Nat) (Option.none : Option Jvm.ClassFile.FieldType)) ∈ TB := TB_t3 108 rfl rfl
theorem wt3_109 : (Jvm.Cond.methodLink "NeedleHomes$ListReader" (96 : Nat) ({ cls := "NeedleHomes$ListReader", name := "askedHere", desc := "()I" } : Jvm.MethodName)) ∈ TB := TB_t3 109 rfl rfl
theorem wt3_111 : (Jvm.Cond.instanceMethod ({ cls := "NeedleHomes$ListReader", name := "askedHere", desc := "()I" } : Jvm.MethodName)) ∈ TB := TB_t3 111 rfl rfl
theorem wt3_112 : (Jvm.Cond.code ({ cls := "NeedleHomes$ListReader", name := "askedHere", desc := "()I" } : Jvm.MethodName) prog_5_method_9_code (1 : Nat) (Option.some Jvm.ClassFile.FieldType.int)) ∈ TB := TB_t3 112 rfl rfl
theorem wt3_120 : (Jvm.Cond.methodLink "NeedleHomes$ListReader" (99 : Nat) ({ cls := "NeedleHomes$ListReader", name := "signHere", desc := "()I" } : Jvm.MethodName)) ∈ TB := TB_t3 120 rfl rfl
theorem wt3_122 : (Jvm.Cond.instanceMethod ({ cls := "NeedleHomes$ListReader", name := "signHere", desc := "()I" } : Jvm.MethodName)) ∈ TB := TB_t3 122 rfl rfl
theorem wt3_123 : (Jvm.Cond.code ({ cls := "NeedleHomes$ListReader", name := "signHere", desc := "()I" } : Jvm.MethodName) prog_5_method_10_code (1 : Nat) (Option.some Jvm.ClassFile.FieldType.int)) ∈ TB := TB_t3 123 rfl rfl
theorem wt3_124 : (Jvm.Cond.methodLink "NeedleHomes$ListReader" (105 : Nat) ({ cls := "NeedleHomes$Reader", name := "isSign", desc := "(C)Z" } : Jvm.MethodName)) ∈ TB := TB_t3 124 rfl rfl
theorem wt3_126 : (Jvm.Cond.methodLink "NeedleHomes$ListReader" (79 : Nat) ({ cls := "NeedleHomes$ListReader", name := "readNumber", desc := "(II)Z" } : Jvm.MethodName)) ∈ TB := TB_t3 126 rfl rfl
theorem wt3_128 : (Jvm.Cond.instanceMethod ({ cls := "NeedleHomes$ListReader", name := "readNumber", desc := "(II)Z" } : Jvm.MethodName)) ∈ TB := TB_t3 128 rfl rfl
theorem wt3_129 : (Jvm.Cond.code ({ cls := "NeedleHomes$ListReader", name := "readNumber", desc := "(II)Z" } : Jvm.MethodName) prog_5_method_7_code (3 : Nat) (Option.some Jvm.ClassFile.FieldType.boolean)) ∈ TB := TB_t3 129 rfl rfl
theorem wt3_130 : (Jvm.Cond.classLink "NeedleHomes" (116 : Nat) "NeedleHomes$TermList") ∈ TB := TB_t3 130 rfl rfl
theorem wt3_131 : (Jvm.Cond.instantiable "NeedleHomes$TermList" (8 : Nat)) ∈ TB := TB_t3 131 rfl rfl
theorem wt3_132 : (Jvm.Cond.methodLink "NeedleHomes" (121 : Nat) ({ cls := "NeedleHomes$TermList", name := "<init>", desc := "(IIILNeedleHomes$ListReader;)V" } : Jvm.MethodName)) ∈ TB := TB_t3 132 rfl rfl
theorem wt3_133 : (Jvm.Cond.instanceMethod ({ cls := "NeedleHomes$TermList", name := "<init>", desc := "(IIILNeedleHomes$ListReader;)V" } : Jvm.MethodName)) ∈ TB := TB_t3 133 rfl rfl
theorem wt3_134 : (Jvm.Cond.code ({ cls := "NeedleHomes$TermList", name := "<init>", desc := "(IIILNeedleHomes$ListReader;)V" } : Jvm.MethodName) prog_11_method_1_code (5 : Nat) (Option.none : Option Jvm.ClassFile.FieldType)) ∈ TB := TB_t3 134 rfl rfl
theorem wt3_135 : (Jvm.Cond.methodLink "NeedleHomes$TermList" (5 : Nat) ({ cls := "java/lang/Object", name := "<init>", desc := "()V" } : Jvm.MethodName)) ∈ TB := TB_t3 135 rfl rfl
theorem wt3_136 : (Jvm.Cond.methodLink "NeedleHomes$TermList" (26 : Nat) ({ cls := "java/lang/Math", name := "min", desc := "(II)I" } : Jvm.MethodName)) ∈ TB := TB_t3 136 rfl rfl
theorem wt3_137 : (Jvm.Cond.methodLink "NeedleHomes$TermList" (32 : Nat) ({ cls := "java/lang/Math", name := "max", desc := "(II)I" } : Jvm.MethodName)) ∈ TB := TB_t3 137 rfl rfl
theorem wt3_138 : (Jvm.Cond.methodLink "NeedleHomes$TermList" (40 : Nat) ({ cls := "java/util/Arrays", name := "copyOf", desc := "([II)[I" } : Jvm.MethodName)) ∈ TB := TB_t3 138 rfl rfl
theorem wt3_139 : (Jvm.Cond.static ({ cls := "java/util/Arrays", name := "copyOf", desc := "([II)[I" } : Jvm.MethodName)) ∈ TB := TB_t3 139 rfl rfl
theorem wt3_140 : (Jvm.Cond.code ({ cls := "java/util/Arrays", name := "copyOf", desc := "([II)[I" } : Jvm.MethodName) prog_22_method_123_code (3 : Nat) (Option.some (Jvm.ClassFile.FieldType.array Jvm.ClassFile.FieldType.int))) ∈ TB := TB_t3 140 rfl rfl
theorem wt3_141 : (Jvm.Cond.methodLink "java/util/Arrays" (316 : Nat) ({ cls := "[I", name := "clone", desc := "()Ljava/lang/Object;" } : Jvm.MethodName)) ∈ TB := TB_t3 141 rfl rfl
theorem wt3_147 : (Jvm.Cond.classLink "java/util/Arrays" (317 : Nat) "[I") ∈ TB := TB_t3 147 rfl rfl
theorem wt3_148 : (Jvm.Cond.methodLink "java/util/Arrays" (304 : Nat) ({ cls := "java/lang/Math", name := "min", desc := "(II)I" } : Jvm.MethodName)) ∈ TB := TB_t3 148 rfl rfl
theorem wt3_149 : (Jvm.Cond.methodLink "java/util/Arrays" (150 : Nat) ({ cls := "java/lang/System", name := "arraycopy", desc := "(Ljava/lang/Object;ILjava/lang/Object;II)V" } : Jvm.MethodName)) ∈ TB := TB_t3 149 rfl rfl
theorem wt3_15 : (Jvm.Cond.code ({ cls := "NeedleHomes", name := "list", desc := "(II)I" } : Jvm.MethodName) prog_1_method_5_code (4 : Nat) (Option.some Jvm.ClassFile.FieldType.int)) ∈ TB := TB_t3 15 rfl rfl
theorem wt3_152 : (Jvm.Cond.fieldLink "NeedleHomes$TermList" (11 : Nat) "NeedleHomes$TermList" "dealer" "I") ∈ TB := TB_t3 152 rfl rfl
theorem wt3_153 : (Jvm.Cond.fieldLink "NeedleHomes$World" (147 : Nat) "NeedleHomes$TermList" "dealer" "I") ∈ TB := TB_t3 153 rfl rfl
theorem wt3_154 : (Jvm.Cond.fieldLink "NeedleHomes$TermList" (15 : Nat) "NeedleHomes$TermList" "fromWeek" "I") ∈ TB := TB_t3 154 rfl rfl
theorem wt3_155 : (Jvm.Cond.fieldLink "NeedleHomes$World" (151 : Nat) "NeedleHomes$TermList" "fromWeek" "I") ∈ TB := TB_t3 155 rfl rfl
theorem wt3_156 : (Jvm.Cond.fieldLink "NeedleHomes$TermList" (18 : Nat) "NeedleHomes$TermList" "toldDay" "I") ∈ TB := TB_t3 156 rfl rfl
theorem wt3_157 : (Jvm.Cond.fieldLink "NeedleHomes$World" (148 : Nat) "NeedleHomes$TermList" "toldDay" "I") ∈ TB := TB_t3 157 rfl rfl
theorem wt3_158 : (Jvm.Cond.fieldLink "NeedleHomes$TermList" (35 : Nat) "NeedleHomes$TermList" "lineCount" "I") ∈ TB := TB_t3 158 rfl rfl
theorem wt3_159 : (Jvm.Cond.fieldLink "NeedleHomes$TermList" (46 : Nat) "NeedleHomes$TermList" "topics" "[I") ∈ TB := TB_t3 159 rfl rfl
theorem wt3_16 : (Jvm.Cond.methodLink "NeedleHomes" (110 : Nat) ({ cls := "NeedleHomes", name := "isDealer", desc := "(I)Z" } : Jvm.MethodName)) ∈ TB := TB_t3 16 rfl rfl
theorem wt3_160 : (Jvm.Cond.fieldLink "NeedleHomes$TermList" (50 : Nat) "NeedleHomes$TermList" "numbers" "[I") ∈ TB := TB_t3 160 rfl rfl
theorem wt3_161 : (Jvm.Cond.fieldLink "NeedleHomes$TermList" (54 : Nat) "NeedleHomes$TermList" "testCounts" "[I") ∈ TB := TB_t3 161 rfl rfl
theorem wt3_162 : (Jvm.Cond.fieldLink "NeedleHomes$TermList" (58 : Nat) "NeedleHomes$TermList" "tests" "[I") ∈ TB := TB_t3 162 rfl rfl
theorem wt3_17 : (Jvm.Cond.static ({ cls := "NeedleHomes", name := "isDealer", desc := "(I)Z" } : Jvm.MethodName)) ∈ TB := TB_t3 17 rfl rfl
theorem wt3_18 : (Jvm.Cond.code ({ cls := "NeedleHomes", name := "isDealer", desc := "(I)Z" } : Jvm.MethodName) prog_1_method_39_code (1 : Nat) (Option.some Jvm.ClassFile.FieldType.boolean)) ∈ TB := TB_t3 18 rfl rfl
theorem wt3_180 : (Jvm.Cond.methodLink "NeedleHomes" (124 : Nat) ({ cls := "NeedleHomes$World", name := "addList", desc := "(LNeedleHomes$TermList;)I" } : Jvm.MethodName)) ∈ TB := TB_t3 180 rfl rfl
theorem wt3_181 : (Jvm.Cond.instanceMethod ({ cls := "NeedleHomes$World", name := "addList", desc := "(LNeedleHomes$TermList;)I" } : Jvm.MethodName)) ∈ TB := TB_t3 181 rfl rfl
theorem wt3_182 : (Jvm.Cond.selects "NeedleHomes$World" ({ cls := "NeedleHomes$World", name := "addList", desc := "(LNeedleHomes$TermList;)I" } : Jvm.MethodName) ({ cls := "NeedleHomes$World", name := "addList", desc := "(LNeedleHomes$TermList;)I" } : Jvm.MethodName)) ∈ TB := TB_t3 182 rfl rfl
theorem wt3_183 : (Jvm.Cond.code ({ cls := "NeedleHomes$World", name := "addList", desc := "(LNeedleHomes$TermList;)I" } : Jvm.MethodName) prog_12_method_14_code (3 : Nat) (Option.some Jvm.ClassFile.FieldType.int)) ∈ TB := TB_t3 183 rfl rfl
theorem wt3_187 : (Jvm.Cond.code ({ cls := "NeedleHomes", name := "fault", desc := "(I)I" } : Jvm.MethodName) prog_1_method_6_code (2 : Nat) (Option.some Jvm.ClassFile.FieldType.int)) ∈ TB := TB_t3 187 rfl rfl
theorem wt3_19 : (Jvm.Cond.methodLink "NeedleHomes" (114 : Nat) ({ cls := "NeedleHomes$ListReader", name := "read", desc := "([BI)V" } : Jvm.MethodName)) ∈ TB := TB_t3 19 rfl rfl
theorem wt3_191 : (Jvm.Cond.code ({ cls := "NeedleHomes", name := "stitches", desc := "(III)I" } : Jvm.MethodName) prog_1_method_7_code (5 : Nat) (Option.some Jvm.ClassFile.FieldType.int)) ∈ TB := TB_t3 191 rfl rfl
theorem wt3_192 : (Jvm.Cond.methodLink "NeedleHomes" (131 : Nat) ({ cls := "NeedleHomes$World", name := "patternAt", desc := "(I)LNeedleHomes$Pattern;" } : Jvm.MethodName)) ∈ TB := TB_t3 192 rfl rfl
theorem wt3_193 : (Jvm.Cond.instanceMethod ({ cls := "NeedleHomes$World", name := "patternAt", desc := "(I)LNeedleHomes$Pattern;" } : Jvm.MethodName)) ∈ TB := TB_t3 193 rfl rfl
theorem wt3_194 : (Jvm.Cond.selects "NeedleHomes$World" ({ cls := "NeedleHomes$World", name := "patternAt", desc := "(I)LNeedleHomes$Pattern;" } : Jvm.MethodName) ({ cls := "NeedleHomes$World", name := "patternAt", desc := "(I)LNeedleHomes$Pattern;" } : Jvm.MethodName)) ∈ TB := TB_t3 194 rfl rfl
theorem wt3_195 : (Jvm.Cond.code ({ cls := "NeedleHomes$World", name := "patternAt", desc := "(I)LNeedleHomes$Pattern;" } : Jvm.MethodName) prog_12_method_9_code (2 : Nat) (Option.some (Jvm.ClassFile.FieldType.object "NeedleHomes$Pattern"))) ∈ TB := TB_t3 195 rfl rfl
theorem wt3_196 : (Jvm.Cond.methodLink "NeedleHomes" (135 : Nat) ({ cls := "NeedleHomes", name := "isStitch", desc := "(I)Z" } : Jvm.MethodName)) ∈ TB := TB_t3 196 rfl rfl
theorem wt3_197 : (Jvm.Cond.static ({ cls := "NeedleHomes", name := "isStitch", desc := "(I)Z" } : Jvm.MethodName)) ∈ TB := TB_t3 197 rfl rfl
theorem wt3_198 : (Jvm.Cond.code ({ cls := "NeedleHomes", name := "isStitch", desc := "(I)Z" } : Jvm.MethodName) prog_1_method_37_code (1 : Nat) (Option.some Jvm.ClassFile.FieldType.boolean)) ∈ TB := TB_t3 198 rfl rfl
theorem wt3_199 : (Jvm.Cond.methodLink "NeedleHomes" (138 : Nat) ({ cls := "NeedleHomes", name := "isColour", desc := "(I)Z" } : Jvm.MethodName)) ∈ TB := TB_t3 199 rfl rfl
theorem wt3_20 : (Jvm.Cond.instanceMethod ({ cls := "NeedleHomes$ListReader", name := "read", desc := "([BI)V" } : Jvm.MethodName)) ∈ TB := TB_t3 20 rfl rfl
theorem wt3_200 : (Jvm.Cond.methodLink "NeedleHomes" (141 : Nat) ({ cls := "NeedleHomes$Pattern", name := "countOf", desc := "(II)I" } : Jvm.MethodName)) ∈ TB := TB_t3 200 rfl rfl
theorem wt3_201 : (Jvm.Cond.instanceMethod ({ cls := "NeedleHomes$Pattern", name := "countOf", desc := "(II)I" } : Jvm.MethodName)) ∈ TB := TB_t3 201 rfl rfl
theorem wt3_202 : (Jvm.Cond.selects "NeedleHomes$Pattern" ({ cls := "NeedleHomes$Pattern", name := "countOf", desc := "(II)I" } : Jvm.MethodName) ({ cls := "NeedleHomes$Pattern", name := "countOf", desc := "(II)I" } : Jvm.MethodName)) ∈ TB := TB_t3 202 rfl rfl
theorem wt3_203 : (Jvm.Cond.code ({ cls := "NeedleHomes$Pattern", name := "countOf", desc := "(II)I" } : Jvm.MethodName) prog_7_method_2_code (3 : Nat) (Option.some Jvm.ClassFile.FieldType.int)) ∈ TB := TB_t3 203 rfl rfl
theorem wt3_209 : (Jvm.Cond.code ({ cls := "NeedleHomes", name := "about", desc := "(II)I" } : Jvm.MethodName) prog_1_method_8_code (4 : Nat) (Option.some Jvm.ClassFile.FieldType.int)) ∈ TB := TB_t3 209 rfl rfl
theorem wt3_21 : (Jvm.Cond.selects "NeedleHomes$ListReader" ({ cls := "NeedleHomes$ListReader", name := "read", desc := "([BI)V" } : Jvm.MethodName) ({ cls := "NeedleHomes$ListReader", name := "read", desc := "([BI)V" } : Jvm.MethodName)) ∈ TB := TB_t3 21 rfl rfl
theorem wt3_210 : (Jvm.Cond.methodLink "NeedleHomes" (154 : Nat) ({ cls := "NeedleHomes$Pattern", name := "kindsOfStitches", desc := "()I" } : Jvm.MethodName)) ∈ TB := TB_t3 210 rfl rfl
theorem wt3_211 : (Jvm.Cond.instanceMethod ({ cls := "NeedleHomes$Pattern", name := "kindsOfStitches", desc := "()I" } : Jvm.MethodName)) ∈ TB := TB_t3 211 rfl rfl
theorem wt3_212 : (Jvm.Cond.selects "NeedleHomes$Pattern" ({ cls := "NeedleHomes$Pattern", name := "kindsOfStitches", desc := "()I" } : Jvm.MethodName) ({ cls := "NeedleHomes$Pattern", name := "kindsOfStitches", desc := "()I" } : Jvm.MethodName)) ∈ TB := TB_t3 212 rfl rfl
theorem wt3_213 : (Jvm.Cond.code ({ cls := "NeedleHomes$Pattern", name := "kindsOfStitches", desc := "()I" } : Jvm.MethodName) prog_7_method_3_code (5 : Nat) (Option.some Jvm.ClassFile.FieldType.int)) ∈ TB := TB_t3 213 rfl rfl
theorem wt3_214 : (Jvm.Cond.methodLink "NeedleHomes$Pattern" (38 : Nat) ({ cls := "NeedleHomes$Pattern", name := "countOf", desc := "(II)I" } : Jvm.MethodName)) ∈ TB := TB_t3 214 rfl rfl
theorem wt3_215 : (Jvm.Cond.methodLink "NeedleHomes" (157 : Nat) ({ cls := "NeedleHomes$Pattern", name := "coloursUsed", desc := "()I" } : Jvm.MethodName)) ∈ TB := TB_t3 215 rfl rfl
theorem wt3_216 : (Jvm.Cond.instanceMethod ({ cls := "NeedleHomes$Pattern", name := "coloursUsed", desc := "()I" } : Jvm.MethodName)) ∈ TB := TB_t3 216 rfl rfl
theorem wt3_217 : (Jvm.Cond.selects "NeedleHomes$Pattern" ({ cls := "NeedleHomes$Pattern", name := "coloursUsed", desc := "()I" } : Jvm.MethodName) ({ cls := "NeedleHomes$Pattern", name := "coloursUsed", desc := "()I" } : Jvm.MethodName)) ∈ TB := TB_t3 217 rfl rfl
theorem wt3_218 : (Jvm.Cond.code ({ cls := "NeedleHomes$Pattern", name := "coloursUsed", desc := "()I" } : Jvm.MethodName) prog_7_method_4_code (5 : Nat) (Option.some Jvm.ClassFile.FieldType.int)) ∈ TB := TB_t3 218 rfl rfl
theorem wt3_22 : (Jvm.Cond.code ({ cls := "NeedleHomes$ListReader", name := "read", desc := "([BI)V" } : Jvm.MethodName) prog_5_method_2_code (4 : Nat) (Option.none : Option Jvm.ClassFile.FieldType)) ∈ TB := TB_t3 22 rfl rfl
theorem wt3_222 : (Jvm.Cond.code ({ cls := "NeedleHomes", name := "day", desc := "(I)Z" } : Jvm.MethodName) prog_1_method_9_code (2 : Nat) (Option.some Jvm.ClassFile.FieldType.boolean)) ∈ TB := TB_t3 222 rfl rfl
theorem wt3_226 : (Jvm.Cond.code ({ cls := "NeedleHomes", name := "lists", desc := "(III)I" } : Jvm.MethodName) prog_1_method_10_code (4 : Nat) (Option.some Jvm.ClassFile.FieldType.int)) ∈ TB := TB_t3 226 rfl rfl
theorem wt3_227 : (Jvm.Cond.methodLink "NeedleHomes" (160 : Nat) ({ cls := "NeedleHomes", name := "isPastDay", desc := "(I)Z" } : Jvm.MethodName)) ∈ TB := TB_t3 227 rfl rfl
theorem wt3_229 : (Jvm.Cond.instanceMethod ({ cls := "NeedleHomes", name := "isPastDay", desc := "(I)Z" } : Jvm.MethodName)) ∈ TB := TB_t3 229 rfl rfl
theorem wt3_23 : (Jvm.Cond.methodLink "NeedleHomes$ListReader" (33 : Nat) ({ cls := "NeedleHomes$Reader", name := "start", desc := "([BI)V" } : Jvm.MethodName)) ∈ TB := TB_t3 23 rfl rfl
theorem wt3_230 : (Jvm.Cond.code ({ cls := "NeedleHomes", name := "isPastDay", desc := "(I)Z" } : Jvm.MethodName) prog_1_method_40_code (2 : Nat) (Option.some Jvm.ClassFile.FieldType.boolean)) ∈ TB := TB_t3 230 rfl rfl
theorem wt3_231 : (Jvm.Cond.methodLink "NeedleHomes" (163 : Nat) ({ cls := "NeedleHomes$World", name := "listKnown", desc := "(III)I" } : Jvm.MethodName)) ∈ TB := TB_t3 231 rfl rfl
theorem wt3_232 : (Jvm.Cond.instanceMethod ({ cls := "NeedleHomes$World", name := "listKnown", desc := "(III)I" } : Jvm.MethodName)) ∈ TB := TB_t3 232 rfl rfl
theorem wt3_233 : (Jvm.Cond.selects "NeedleHomes$World" ({ cls := "NeedleHomes$World", name := "listKnown", desc := "(III)I" } : Jvm.MethodName) ({ cls := "NeedleHomes$World", name := "listKnown", desc := "(III)I" } : Jvm.MethodName)) ∈ TB := TB_t3 233 rfl rfl
theorem wt3_234 : (Jvm.Cond.code ({ cls := "NeedleHomes$World", name := "listKnown", desc := "(III)I" } : Jvm.MethodName) prog_12_method_17_code (8 : Nat) (Option.some Jvm.ClassFile.FieldType.int)) ∈ TB := TB_t3 234 rfl rfl
theorem wt3_235 : (Jvm.Cond.methodLink "NeedleHomes$World" (143 : Nat) ({ cls := "NeedleHomes$World", name := "listAt", desc := "(I)LNeedleHomes$TermList;" } : Jvm.MethodName)) ∈ TB := TB_t3 235 rfl rfl
theorem wt3_236 : (Jvm.Cond.instanceMethod ({ cls := "NeedleHomes$World", name := "listAt", desc := "(I)LNeedleHomes$TermList;" } : Jvm.MethodName)) ∈ TB := TB_t3 236 rfl rfl
theorem wt3_237 : (Jvm.Cond.selects "NeedleHomes$World" ({ cls := "NeedleHomes$World", name := "listAt", desc := "(I)LNeedleHomes$TermList;" } : Jvm.MethodName) ({ cls := "NeedleHomes$World", name := "listAt", desc := "(I)LNeedleHomes$TermList;" } : Jvm.MethodName)) ∈ TB := TB_t3 237 rfl rfl
theorem wt3_238 : (Jvm.Cond.code ({ cls := "NeedleHomes$World", name := "listAt", desc := "(I)LNeedleHomes$TermList;" } : Jvm.MethodName) prog_12_method_10_code (2 : Nat) (Option.some (Jvm.ClassFile.FieldType.object "NeedleHomes$TermList"))) ∈ TB := TB_t3 238 rfl rfl
theorem wt3_24 : (Jvm.Cond.methodLink "NeedleHomes$ListReader" (44 : Nat) ({ cls := "NeedleHomes$ListReader", name := "readLine", desc := "(I)Z" } : Jvm.MethodName)) ∈ TB := TB_t3 24 rfl rfl
theorem wt3_26 : (Jvm.Cond.instanceMethod ({ cls := "NeedleHomes$ListReader", name := "readLine", desc := "(I)Z" } : Jvm.MethodName)) ∈ TB := TB_t3 26 rfl rfl
theorem wt3_27 : (Jvm.Cond.code ({ cls := "NeedleHomes$ListReader", name := "readLine", desc := "(I)Z" } : Jvm.MethodName) prog_5_method_3_code (3 : Nat) (Option.some Jvm.ClassFile.FieldType.boolean)) ∈ TB := TB_t3 27 rfl rfl
theorem wt3_28 : (Jvm.Cond.methodLink "NeedleHomes$ListReader" (48 : Nat) ({ cls := "NeedleHomes$ListReader", name := "topicHere", desc := "()I" } : Jvm.MethodName)) ∈ TB := TB_t3 28 rfl rfl
theorem wt3_30 : (Jvm.Cond.instanceMethod ({ cls := "NeedleHomes$ListReader", name := "topicHere", desc := "()I" } : Jvm.MethodName)) ∈ TB := TB_t3 30 rfl rfl
theorem wt3_31 : (Jvm.Cond.code ({ cls := "NeedleHomes$ListReader", name := "topicHere", desc := "()I" } : Jvm.MethodName) prog_5_method_8_code (1 : Nat) (Option.some Jvm.ClassFile.FieldType.int)) ∈ TB := TB_t3 31 rfl rfl
theorem wt3_33 : (Jvm.Cond.methodLink "NeedleHomes$ListReader" (72 : Nat) ({ cls := "NeedleHomes$Reader", name := "isWord", desc := "(Ljava/lang/String;)Z" } : Jvm.MethodName)) ∈ TB := TB_t3 33 rfl rfl
theorem wt3_34 : (Jvm.Cond.instanceMethod ({ cls := "NeedleHomes$Reader", name := "isWord", desc := "(Ljava/lang/String;)Z" } : Jvm.MethodName)) ∈ TB := TB_t3 34 rfl rfl
theorem wt3_35 : (Jvm.Cond.selects "NeedleHomes$Reader" ({ cls := "NeedleHomes$Reader", name := "isWord", desc := "(Ljava/lang/String;)Z" } : Jvm.MethodName) ({ cls := "NeedleHomes$Reader", name := "isWord", desc := "(Ljava/lang/String;)Z" } : Jvm.MethodName)) ∈ TB := TB_t3 35 rfl rfl
theorem wt3_36 : (Jvm.Cond.code ({ cls := "NeedleHomes$Reader", name := "isWord", desc := "(Ljava/lang/String;)Z" } : Jvm.MethodName) prog_10_method_5_code (3 : Nat) (Option.some Jvm.ClassFile.FieldType.boolean)) ∈ TB := TB_t3 36 rfl rfl
theorem wt3_37 : (Jvm.Cond.methodLink "NeedleHomes$Reader" (66 : Nat) ({ cls := "java/lang/String", name := "length", desc := "()I" } : Jvm.MethodName)) ∈ TB := TB_t3 37 rfl rfl
theorem wt3_38 : (Jvm.Cond.instanceMethod ({ cls := "java/lang/String", name := "length", desc := "()I" } : Jvm.MethodName)) ∈ TB := TB_t3 38 rfl rfl
theorem wt3_39 : (Jvm.Cond.selects "java/lang/String" ({ cls := "java/lang/String", name := "length", desc := "()I" } : Jvm.MethodName) ({ cls := "java/lang/String", name := "length", desc := "()I" } : Jvm.MethodName)) ∈ TB := TB_t3 39 rfl rfl
theorem wt3_40 : (Jvm.Cond.code ({ cls := "java/lang/String", name := "length", desc := "()I" } : Jvm.MethodName) prog_18_method_54_code (1 : Nat) (Option.some Jvm.ClassFile.FieldType.int)) ∈ TB := TB_t3 40 rfl rfl
theorem wt3_41 : (Jvm.Cond.methodLink "java/lang/String" (335 : Nat) ({ cls := "java/lang/String", name := "coder", desc := "()B" } : Jvm.MethodName)) ∈ TB := TB_t3 41 rfl rfl
theorem wt3_42 : (Jvm.Cond.instanceMethod ({ cls := "java/lang/String", name := "coder", desc := "()B" } : Jvm.MethodName)) ∈ TB := TB_t3 42 rfl rfl
theorem wt3_43 : (Jvm.Cond.selects "java/lang/String" ({ cls := "java/lang/String", name := "coder", desc := "()B" } : Jvm.MethodName) ({ cls := "java/lang/String", name := "coder", desc := "()B" } : Jvm.MethodName)) ∈ TB := TB_t3 43 rfl rfl
theorem wt3_44 : (Jvm.Cond.code ({ cls := "java/lang/String", name := "coder", desc := "()B" } : Jvm.MethodName) prog_18_method_152_code (1 : Nat) (Option.some Jvm.ClassFile.FieldType.byte)) ∈ TB := TB_t3 44 rfl rfl
theorem wt3_45 : (Jvm.Cond.fieldLink "java/lang/String" (38 : Nat) "java/lang/String" "COMPACT_STRINGS" "Z") ∈ TB := TB_t3 45 rfl rfl
theorem wt3_47 : (Jvm.Cond.methodLink "NeedleHomes$Reader" (71 : Nat) ({ cls := "java/lang/String", name := "charAt", desc := "(I)C" } : Jvm.MethodName)) ∈ TB := TB_t3 47 rfl rfl
theorem wt3_48 : (Jvm.Cond.instanceMethod ({ cls := "java/lang/String", name := "charAt", desc := "(I)C" } : Jvm.MethodName)) ∈ TB := TB_t3 48 rfl rfl
theorem wt3_49 : (Jvm.Cond.selects "java/lang/String" ({ cls := "java/lang/String", name := "charAt", desc := "(I)C" } : Jvm.MethodName) ({ cls := "java/lang/String", name := "charAt", desc := "(I)C" } : Jvm.MethodName)) ∈ TB := TB_t3 49 rfl rfl
theorem wt3_50 : (Jvm.Cond.code ({ cls := "java/lang/String", name := "charAt", desc := "(I)C" } : Jvm.MethodName) prog_18_method_56_code (2 : Nat) (Option.some Jvm.ClassFile.FieldType.char)) ∈ TB := TB_t3 50 rfl rfl
theorem wt3_51 : (Jvm.Cond.methodLink "java/lang/String" (492 : Nat) ({ cls := "java/lang/String", name := "isLatin1", desc := "()Z" } : Jvm.MethodName)) ∈ TB := TB_t3 51 rfl rfl
theorem wt3_52 : (Jvm.Cond.instanceMethod ({ cls := "java/lang/String", name := "isLatin1", desc := "()Z" } : Jvm.MethodName)) ∈ TB := TB_t3 52 rfl rfl
theorem wt3_53 : (Jvm.Cond.selects "java/lang/String" ({ cls := "java/lang/String", name := "isLatin1", desc := "()Z" } : Jvm.MethodName) ({ cls := "java/lang/String", name := "isLatin1", desc := "()Z" } : Jvm.MethodName)) ∈ TB := TB_t3 53 rfl rfl
theorem wt3_54 : (Jvm.Cond.code ({ cls := "java/lang/String", name := "isLatin1", desc := "()Z" } : Jvm.MethodName) prog_18_method_154_code (1 : Nat) (Option.some Jvm.ClassFile.FieldType.boolean)) ∈ TB := TB_t3 54 rfl rfl
theorem wt3_55 : (Jvm.Cond.methodLink "java/lang/String" (495 : Nat) ({ cls := "java/lang/StringLatin1", name := "charAt", desc := "([BI)C" } : Jvm.MethodName)) ∈ TB := TB_t3 55 rfl rfl
theorem wt3_56 : (Jvm.Cond.static ({ cls := "java/lang/StringLatin1", name := "charAt", desc := "([BI)C" } : Jvm.MethodName)) ∈ TB := TB_t3 56 rfl rfl
theorem wt3_57 : (Jvm.Cond.code ({ cls := "java/lang/StringLatin1", name := "charAt", desc := "([BI)C" } : Jvm.MethodName) prog_19_method_2_code (2 : Nat) (Option.some Jvm.ClassFile.FieldType.char)) ∈ TB := TB_t3 57 rfl rfl
theorem wt3_58 : (Jvm.Cond.methodLink "java/lang/StringLatin1" (9 : Nat) ({ cls := "java/lang/String", name := "checkIndex", desc := "(II)V" } : Jvm.MethodName)) ∈ TB := TB_t3 58 rfl rfl
theorem wt3_59 : (Jvm.Cond.static ({ cls := "java/lang/String", name := "checkIndex", desc := "(II)V" } : Jvm.MethodName)) ∈ TB := TB_t3 59 rfl rfl
theorem wt3_60 : (Jvm.Cond.code ({ cls := "java/lang/String", name := "checkIndex", desc := "(II)V" } : Jvm.MethodName) prog_18_method_155_code (2 : Nat) (Option.none : Option Jvm.ClassFile.FieldType)) ∈ TB := TB_t3 60 rfl rfl
theorem wt3_61 : (Jvm.Cond.fieldLink "java/lang/String" (1053 : Nat) "jdk/internal/util/Preconditions" "SIOOBE_FORMATTER" "Ljava/util/function/BiFunction;") ∈ TB := TB_t3 61 rfl rfl
theorem wt3_63 : (Jvm.Cond.methodLink "java/lang/String" (1059 : Nat) ({ cls := "jdk/internal/util/Preconditions", name := "checkIndex", desc := "(IILjava/util/function/BiFunction;)I" } : Jvm.MethodName)) ∈ TB := TB_t3 63 rfl rfl
theorem wt3_64 : (Jvm.Cond.static ({ cls := "jdk/internal/util/Preconditions", name := "checkIndex", desc := "(IILjava/util/function/BiFunction;)I" } : Jvm.MethodName)) ∈ TB := TB_t3 64 rfl rfl
theorem wt3_65 : (Jvm.Cond.code ({ cls := "jdk/internal/util/Preconditions", name := "checkIndex", desc := "(IILjava/util/function/BiFunction;)I" } : Jvm.MethodName) prog_23_method_11_code (3 : Nat) (Option.some Jvm.ClassFile.FieldType.int)) ∈ TB := TB_t3 65 rfl rfl
theorem wt3_7 : (Jvm.Cond.methodLink "NeedleHomes" (103 : Nat) ({ cls := "NeedleHomes$World", name := "addPattern", desc := "(LNeedleHomes$Pattern;)I" } : Jvm.MethodName)) ∈ TB := TB_t3 7 rfl rfl
theorem wt3_8 : (Jvm.Cond.instanceMethod ({ cls := "NeedleHomes$World", name := "addPattern", desc := "(LNeedleHomes$Pattern;)I" } : Jvm.MethodName)) ∈ TB := TB_t3 8 rfl rfl
theorem wt3_9 : (Jvm.Cond.selects "NeedleHomes$World" ({ cls := "NeedleHomes$World", name := "addPattern", desc := "(LNeedleHomes$Pattern;)I" } : Jvm.MethodName) ({ cls := "NeedleHomes$World", name := "addPattern", desc := "(LNeedleHomes$Pattern;)I" } : Jvm.MethodName)) ∈ TB := TB_t3 9 rfl rfl
theorem wt3_90 : (Jvm.Cond.methodLink "NeedleHomes$ListReader" (52 : Nat) ({ cls := "NeedleHomes$Reader", name := "failHere", desc := "()Z" } : Jvm.MethodName)) ∈ TB := TB_t3 90 rfl rfl
theorem wt3_91 : (Jvm.Cond.methodLink "NeedleHomes$ListReader" (59 : Nat) ({ cls := "NeedleHomes$Reader", name := "noteFault", desc := "(II)V" } : Jvm.MethodName)) ∈ TB := TB_t3 91 rfl rfl
theorem wt3_93 : (Jvm.Cond.methodLink "NeedleHomes$ListReader" (67 : Nat) ({ cls := "NeedleHomes$Reader", name := "step", desc := "()V" } : Jvm.MethodName)) ∈ TB := TB_t3 93 rfl rfl
theorem wt3_95 : (Jvm.Cond.methodLink "NeedleHomes$ListReader" (76 : Nat) ({ cls := "NeedleHomes$ListReader", name := "readTests", desc := "(I)Z" } : Jvm.MethodName)) ∈ TB := TB_t3 95 rfl rfl
theorem wt3_97 : (Jvm.Cond.instanceMethod ({ cls := "NeedleHomes$ListReader", name := "readTests", desc := "(I)Z" } : Jvm.MethodName)) ∈ TB := TB_t3 97 rfl rfl
theorem wt3_98 : (Jvm.Cond.code ({ cls := "NeedleHomes$ListReader", name := "readTests", desc := "(I)Z" } : Jvm.MethodName) prog_5_method_4_code (3 : Nat) (Option.some Jvm.ClassFile.FieldType.boolean)) ∈ TB := TB_t3 98 rfl rfl
theorem wt3_99 : (Jvm.Cond.methodLink "NeedleHomes$ListReader" (83 : Nat) ({ cls := "NeedleHomes$ListReader", name := "readTest", desc := "(II)Z" } : Jvm.MethodName)) ∈ TB := TB_t3 99 rfl rfl
theorem wt4_10 : (Jvm.Cond.fieldLink "NeedleHomes$Hand" (18 : Nat) "NeedleHomes$Hand" "skill" "I") ∈ TB := TB_t4 10 rfl rfl
theorem wt4_100 : (Jvm.Cond.selects "NeedleHomes$Hand" ({ cls := "NeedleHomes$Hand", name := "hasHay", desc := "(I)Z" } : Jvm.MethodName) ({ cls := "NeedleHomes$Hand", name := "hasHay", desc := "(I)Z" } : Jvm.MethodName)) ∈ TB := TB_t4 100 rfl rfl
theorem wt4_101 : (Jvm.Cond.code ({ cls := "NeedleHomes$Hand", name := "hasHay", desc := "(I)Z" } : Jvm.MethodName) prog_4_method_4_code (2 : Nat) (Option.some Jvm.ClassFile.FieldType.boolean)) ∈ TB := TB_t4 101 rfl rfl
theorem wt4_102 : (Jvm.Cond.methodLink "NeedleHomes" (217 : Nat) ({ cls := "NeedleHomes$World", name := "listAt", desc := "(I)LNeedleHomes$TermList;" } : Jvm.MethodName)) ∈ TB := TB_t4 102 rfl rfl
theorem wt4_103 : (Jvm.Cond.methodLink "NeedleHomes" (221 : Nat) ({ cls := "NeedleHomes", name := "termOf", desc := "(LNeedleHomes$TermList;I[I)I" } : Jvm.MethodName)) ∈ TB := TB_t4 103 rfl rfl
theorem wt4_104 : (Jvm.Cond.static ({ cls := "NeedleHomes", name := "termOf", desc := "(LNeedleHomes$TermList;I[I)I" } : Jvm.MethodName)) ∈ TB := TB_t4 104 rfl rfl
theorem wt4_105 : (Jvm.Cond.code ({ cls := "NeedleHomes", name := "termOf", desc := "(LNeedleHomes$TermList;I[I)I" } : Jvm.MethodName) prog_1_method_43_code (4 : Nat) (Option.some Jvm.ClassFile.FieldType.int)) ∈ TB := TB_t4 105 rfl rfl
theorem wt4_106 : (Jvm.Cond.methodLink "NeedleHomes" (385 : Nat) ({ cls := "NeedleHomes$TermList", name := "lineFor", desc := "(I[I)I" } : Jvm.MethodName)) ∈ TB := TB_t4 106 rfl rfl
theorem wt4_107 : (Jvm.Cond.instanceMethod ({ cls := "NeedleHomes$TermList", name := "lineFor", desc := "(I[I)I" } : Jvm.MethodName)) ∈ TB := TB_t4 107 rfl rfl
theorem wt4_108 : (Jvm.Cond.selects "NeedleHomes$TermList" ({ cls := "NeedleHomes$TermList", name := "lineFor", desc := "(I[I)I" } : Jvm.MethodName) ({ cls := "NeedleHomes$TermList", name := "lineFor", desc := "(I[I)I" } : Jvm.MethodName)) ∈ TB := TB_t4 108 rfl rfl
theorem wt4_109 : (Jvm.Cond.code ({ cls := "NeedleHomes$TermList", name := "lineFor", desc := "(I[I)I" } : Jvm.MethodName) prog_11_method_2_code (4 : Nat) (Option.some Jvm.ClassFile.FieldType.int)) ∈ TB := TB_t4 109 rfl rfl
theorem wt4_11 : (Jvm.Cond.fieldLink "NeedleHomes$Parting" (38 : Nat) "NeedleHomes$Hand" "skill" "I") ∈ TB := TB_t4 11 rfl rfl
theorem wt4_110 : (Jvm.Cond.methodLink "NeedleHomes$TermList" (59 : Nat) ({ cls := "NeedleHomes$TermList", name := "allHold", desc := "(I[I)Z" } : Jvm.MethodName)) ∈ TB := TB_t4 110 rfl rfl
theorem wt4_112 : (Jvm.Cond.instanceMethod ({ cls := "NeedleHomes$TermList", name := "allHold", desc := "(I[I)Z" } : Jvm.MethodName)) ∈ TB := TB_t4 112 rfl rfl
theorem wt4_113 : (Jvm.Cond.code ({ cls := "NeedleHomes$TermList", name := "allHold", desc := "(I[I)Z" } : Jvm.MethodName) prog_11_method_4_code (4 : Nat) (Option.some Jvm.ClassFile.FieldType.boolean)) ∈ TB := TB_t4 113 rfl rfl
theorem wt4_114 : (Jvm.Cond.methodLink "NeedleHomes$TermList" (67 : Nat) ({ cls := "NeedleHomes$TermList", name := "holds", desc := "(I[I)Z" } : Jvm.MethodName)) ∈ TB := TB_t4 114 rfl rfl
theorem wt4_116 : (Jvm.Cond.instanceMethod ({ cls := "NeedleHomes$TermList", name := "holds", desc := "(I[I)Z" } : Jvm.MethodName)) ∈ TB := TB_t4 116 rfl rfl
theorem wt4_117 : (Jvm.Cond.code ({ cls := "NeedleHomes$TermList", name := "holds", desc := "(I[I)Z" } : Jvm.MethodName) prog_11_method_5_code (8 : Nat) (Option.some Jvm.ClassFile.FieldType.boolean)) ∈ TB := TB_t4 117 rfl rfl
theorem wt4_118 : (Jvm.Cond.methodLink "NeedleHomes" (389 : Nat) ({ cls := "NeedleHomes", name := "termWithoutLine", desc := "(I)I" } : Jvm.MethodName)) ∈ TB := TB_t4 118 rfl rfl
theorem wt4_119 : (Jvm.Cond.static ({ cls := "NeedleHomes", name := "termWithoutLine", desc := "(I)I" } : Jvm.MethodName)) ∈ TB := TB_t4 119 rfl rfl
theorem wt4_12 : (Jvm.Cond.fieldLink "NeedleHomes$World" (94 : Nat) "NeedleHomes$Hand" "skill" "I") ∈ TB := TB_t4 12 rfl rfl
theorem wt4_120 : (Jvm.Cond.code ({ cls := "NeedleHomes", name := "termWithoutLine", desc := "(I)I" } : Jvm.MethodName) prog_1_method_44_code (1 : Nat) (Option.some Jvm.ClassFile.FieldType.int)) ∈ TB := TB_t4 120 rfl rfl
theorem wt4_121 : (Jvm.Cond.methodLink "NeedleHomes" (392 : Nat) ({ cls := "NeedleHomes$TermList", name := "numberOf", desc := "(I)I" } : Jvm.MethodName)) ∈ TB := TB_t4 121 rfl rfl
theorem wt4_122 : (Jvm.Cond.instanceMethod ({ cls := "NeedleHomes$TermList", name := "numberOf", desc := "(I)I" } : Jvm.MethodName)) ∈ TB := TB_t4 122 rfl rfl
theorem wt4_123 : (Jvm.Cond.selects "NeedleHomes$TermList" ({ cls := "NeedleHomes$TermList", name := "numberOf", desc := "(I)I" } : Jvm.MethodName) ({ cls := "NeedleHomes$TermList", name := "numberOf", desc := "(I)I" } : Jvm.MethodName)) ∈ TB := TB_t4 123 rfl rfl
theorem wt4_124 : (Jvm.Cond.code ({ cls := "NeedleHomes$TermList", name := "numberOf", desc := "(I)I" } : Jvm.MethodName) prog_11_method_3_code (2 : Nat) (Option.some Jvm.ClassFile.FieldType.int)) ∈ TB := TB_t4 124 rfl rfl
theorem wt4_129 : (Jvm.Cond.code ({ cls := "NeedleHomes", name := "out", desc := "(III)I" } : Jvm.MethodName) prog_1_method_17_code (4 : Nat) (Option.some Jvm.ClassFile.FieldType.int)) ∈ TB := TB_t4 129 rfl rfl
theorem wt4_13 : (Jvm.Cond.fieldLink "NeedleHomes" (194 : Nat) "NeedleHomes$Hand" "skill" "I") ∈ TB := TB_t4 13 rfl rfl
theorem wt4_130 : (Jvm.Cond.classLink "NeedleHomes" (228 : Nat) "NeedleHomes$Piece") ∈ TB := TB_t4 130 rfl rfl
theorem wt4_131 : (Jvm.Cond.instantiable "NeedleHomes$Piece" (12 : Nat)) ∈ TB := TB_t4 131 rfl rfl
theorem wt4_132 : (Jvm.Cond.methodLink "NeedleHomes" (230 : Nat) ({ cls := "NeedleHomes$Piece", name := "<init>", desc := "(IIII)V" } : Jvm.MethodName)) ∈ TB := TB_t4 132 rfl rfl
theorem wt4_133 : (Jvm.Cond.instanceMethod ({ cls := "NeedleHomes$Piece", name := "<init>", desc := "(IIII)V" } : Jvm.MethodName)) ∈ TB := TB_t4 133 rfl rfl
theorem wt4_134 : (Jvm.Cond.code ({ cls := "NeedleHomes$Piece", name := "<init>", desc := "(IIII)V" } : Jvm.MethodName) prog_9_method_1_code (5 : Nat) (Option.none : Option Jvm.ClassFile.FieldType)) ∈ TB := TB_t4 134 rfl rfl
theorem wt4_135 : (Jvm.Cond.methodLink "NeedleHomes$Piece" (3 : Nat) ({ cls := "java/lang/Object", name := "<init>", desc := "()V" } : Jvm.MethodName)) ∈ TB := TB_t4 135 rfl rfl
theorem wt4_136 : (Jvm.Cond.methodLink "NeedleHomes$Piece" (37 : Nat) ({ cls := "java/util/Arrays", name := "fill", desc := "([II)V" } : Jvm.MethodName)) ∈ TB := TB_t4 136 rfl rfl
theorem wt4_137 : (Jvm.Cond.fieldLink "NeedleHomes$Piece" (25 : Nat) "NeedleHomes$Piece" "dealer" "I") ∈ TB := TB_t4 137 rfl rfl
theorem wt4_138 : (Jvm.Cond.fieldLink "NeedleHomes$Bill" (56 : Nat) "NeedleHomes$Piece" "dealer" "I") ∈ TB := TB_t4 138 rfl rfl
theorem wt4_139 : (Jvm.Cond.fieldLink "NeedleHomes$World" (117 : Nat) "NeedleHomes$Piece" "dealer" "I") ∈ TB := TB_t4 139 rfl rfl
theorem wt4_14 : (Jvm.Cond.fieldLink "NeedleHomes$Hand" (22 : Nat) "NeedleHomes$Hand" "hours" "I") ∈ TB := TB_t4 14 rfl rfl
theorem wt4_140 : (Jvm.Cond.fieldLink "NeedleHomes" (266 : Nat) "NeedleHomes$Piece" "dealer" "I") ∈ TB := TB_t4 140 rfl rfl
theorem wt4_141 : (Jvm.Cond.fieldLink "NeedleHomes$Piece" (28 : Nat) "NeedleHomes$Piece" "pattern" "I") ∈ TB := TB_t4 141 rfl rfl
theorem wt4_142 : (Jvm.Cond.fieldLink "NeedleHomes$Bill" (36 : Nat) "NeedleHomes$Piece" "pattern" "I") ∈ TB := TB_t4 142 rfl rfl
theorem wt4_143 : (Jvm.Cond.fieldLink "NeedleHomes$World" (120 : Nat) "NeedleHomes$Piece" "pattern" "I") ∈ TB := TB_t4 143 rfl rfl
theorem wt4_144 : (Jvm.Cond.fieldLink "NeedleHomes" (269 : Nat) "NeedleHomes$Piece" "pattern" "I") ∈ TB := TB_t4 144 rfl rfl
theorem wt4_145 : (Jvm.Cond.fieldLink "NeedleHomes$Piece" (31 : Nat) "NeedleHomes$Piece" "hand" "I") ∈ TB := TB_t4 145 rfl rfl
theorem wt4_146 : (Jvm.Cond.fieldLink "NeedleHomes$Bill" (45 : Nat) "NeedleHomes$Piece" "hand" "I") ∈ TB := TB_t4 146 rfl rfl
theorem wt4_147 : (Jvm.Cond.fieldLink "NeedleHomes$World" (123 : Nat) "NeedleHomes$Piece" "hand" "I") ∈ TB := TB_t4 147 rfl rfl
theorem wt4_148 : (Jvm.Cond.fieldLink "NeedleHomes" (245 : Nat) "NeedleHomes$Piece" "hand" "I") ∈ TB := TB_t4 148 rfl rfl
theorem wt4_149 : (Jvm.Cond.fieldLink "NeedleHomes$Piece" (34 : Nat) "NeedleHomes$Piece" "outDay" "I") ∈ TB := TB_t4 149 rfl rfl
theorem wt4_15 : (Jvm.Cond.fieldLink "NeedleHomes$World" (97 : Nat) "NeedleHomes$Hand" "hours" "I") ∈ TB := TB_t4 15 rfl rfl
theorem wt4_150 : (Jvm.Cond.fieldLink "NeedleHomes$Bill" (22 : Nat) "NeedleHomes$Piece" "outDay" "I") ∈ TB := TB_t4 150 rfl rfl
theorem wt4_151 : (Jvm.Cond.fieldLink "NeedleHomes$World" (126 : Nat) "NeedleHomes$Piece" "outDay" "I") ∈ TB := TB_t4 151 rfl rfl
theorem wt4_152 : (Jvm.Cond.fieldLink "NeedleHomes" (248 : Nat) "NeedleHomes$Piece" "outDay" "I") ∈ TB := TB_t4 152 rfl rfl
theorem wt4_153 : (Jvm.Cond.fieldLink "NeedleHomes$Piece" (9 : Nat) "NeedleHomes$Piece" "inDay" "I") ∈ TB := TB_t4 153 rfl rfl
theorem wt4_154 : (Jvm.Cond.fieldLink "NeedleHomes$Bill" (102 : Nat) "NeedleHomes$Piece" "inDay" "I") ∈ TB := TB_t4 154 rfl rfl
theorem wt4_155 : (Jvm.Cond.fieldLink "NeedleHomes" (272 : Nat) "NeedleHomes$Piece" "inDay" "I") ∈ TB := TB_t4 155 rfl rfl
theorem wt4_156 : (Jvm.Cond.fieldLink "NeedleHomes$Piece" (43 : Nat) "NeedleHomes$Piece" "spots" "I") ∈ TB := TB_t4 156 rfl rfl
theorem wt4_157 : (Jvm.Cond.fieldLink "NeedleHomes$Bill" (71 : Nat) "NeedleHomes$Piece" "spots" "I") ∈ TB := TB_t4 157 rfl rfl
theorem wt4_158 : (Jvm.Cond.fieldLink "NeedleHomes" (275 : Nat) "NeedleHomes$Piece" "spots" "I") ∈ TB := TB_t4 158 rfl rfl
theorem wt4_159 : (Jvm.Cond.fieldLink "NeedleHomes$Piece" (46 : Nat) "NeedleHomes$Piece" "back" "I") ∈ TB := TB_t4 159 rfl rfl
theorem wt4_16 : (Jvm.Cond.fieldLink "NeedleHomes" (197 : Nat) "NeedleHomes$Hand" "hours" "I") ∈ TB := TB_t4 16 rfl rfl
theorem wt4_160 : (Jvm.Cond.fieldLink "NeedleHomes" (278 : Nat) "NeedleHomes$Piece" "back" "I") ∈ TB := TB_t4 160 rfl rfl
theorem wt4_161 : (Jvm.Cond.fieldLink "NeedleHomes$Piece" (49 : Nat) "NeedleHomes$Piece" "paidOff" "I") ∈ TB := TB_t4 161 rfl rfl
theorem wt4_162 : (Jvm.Cond.fieldLink "NeedleHomes" (281 : Nat) "NeedleHomes$Piece" "paidOff" "I") ∈ TB := TB_t4 162 rfl rfl
theorem wt4_163 : (Jvm.Cond.fieldLink "NeedleHomes$Piece" (52 : Nat) "NeedleHomes$Piece" "net" "I") ∈ TB := TB_t4 163 rfl rfl
theorem wt4_164 : (Jvm.Cond.fieldLink "NeedleHomes" (265 : Nat) "NeedleHomes$Piece" "net" "I") ∈ TB := TB_t4 164 rfl rfl
theorem wt4_165 : (Jvm.Cond.fieldLink "NeedleHomes$Piece" (15 : Nat) "NeedleHomes$Piece" "written" "[I") ∈ TB := TB_t4 165 rfl rfl
theorem wt4_166 : (Jvm.Cond.fieldLink "NeedleHomes" (303 : Nat) "NeedleHomes$Piece" "written" "[I") ∈ TB := TB_t4 166 rfl rfl
theorem wt4_167 : (Jvm.Cond.fieldLink "NeedleHomes$Piece" (19 : Nat) "NeedleHomes$Piece" "looked" "[I") ∈ TB := TB_t4 167 rfl rfl
theorem wt4_168 : (Jvm.Cond.fieldLink "NeedleHomes" (324 : Nat) "NeedleHomes$Piece" "looked" "[I") ∈ TB := TB_t4 168 rfl rfl
theorem wt4_169 : (Jvm.Cond.fieldLink "NeedleHomes$Piece" (22 : Nat) "NeedleHomes$Piece" "turned" "[I") ∈ TB := TB_t4 169 rfl rfl
theorem wt4_17 : (Jvm.Cond.fieldLink "NeedleHomes$Hand" (25 : Nat) "NeedleHomes$Hand" "carrier" "I") ∈ TB := TB_t4 17 rfl rfl
theorem wt4_170 : (Jvm.Cond.fieldLink "NeedleHomes" (327 : Nat) "NeedleHomes$Piece" "turned" "[I") ∈ TB := TB_t4 170 rfl rfl
theorem wt4_18 : (Jvm.Cond.fieldLink "NeedleHomes$World" (100 : Nat) "NeedleHomes$Hand" "carrier" "I") ∈ TB := TB_t4 18 rfl rfl
theorem wt4_19 : (Jvm.Cond.fieldLink "NeedleHomes" (200 : Nat) "NeedleHomes$Hand" "carrier" "I") ∈ TB := TB_t4 19 rfl rfl
theorem wt4_196 : (Jvm.Cond.methodLink "NeedleHomes" (233 : Nat) ({ cls := "NeedleHomes$World", name := "addPiece", desc := "(LNeedleHomes$Piece;)I" } : Jvm.MethodName)) ∈ TB := TB_t4 196 rfl rfl
theorem wt4_197 : (Jvm.Cond.instanceMethod ({ cls := "NeedleHomes$World", name := "addPiece", desc := "(LNeedleHomes$Piece;)I" } : Jvm.MethodName)) ∈ TB := TB_t4 197 rfl rfl
theorem wt4_198 : (Jvm.Cond.selects "NeedleHomes$World" ({ cls := "NeedleHomes$World", name := "addPiece", desc := "(LNeedleHomes$Piece;)I" } : Jvm.MethodName) ({ cls := "NeedleHomes$World", name := "addPiece", desc := "(LNeedleHomes$Piece;)I" } : Jvm.MethodName)) ∈ TB := TB_t4 198 rfl rfl
theorem wt4_199 : (Jvm.Cond.code ({ cls := "NeedleHomes$World", name := "addPiece", desc := "(LNeedleHomes$Piece;)I" } : Jvm.MethodName) prog_12_method_16_code (3 : Nat) (Option.some Jvm.ClassFile.FieldType.int)) ∈ TB := TB_t4 199 rfl rfl
theorem wt4_2 : (Jvm.Cond.code ({ cls := "NeedleHomes", name := "hand", desc := "(III)I" } : Jvm.MethodName) prog_1_method_11_code (4 : Nat) (Option.some Jvm.ClassFile.FieldType.int)) ∈ TB := TB_t4 2 rfl rfl
theorem wt4_20 : (Jvm.Cond.fieldLink "NeedleHomes$Hand" (34 : Nat) "NeedleHomes$Hand" "debt" "I") ∈ TB := TB_t4 20 rfl rfl
theorem wt4_203 : (Jvm.Cond.code ({ cls := "NeedleHomes", name := "in", desc := "(III)I" } : Jvm.MethodName) prog_1_method_18_code (6 : Nat) (Option.some Jvm.ClassFile.FieldType.int)) ∈ TB := TB_t4 203 rfl rfl
theorem wt4_204 : (Jvm.Cond.methodLink "NeedleHomes" (237 : Nat) ({ cls := "NeedleHomes$World", name := "pieceAt", desc := "(I)LNeedleHomes$Piece;" } : Jvm.MethodName)) ∈ TB := TB_t4 204 rfl rfl
theorem wt4_205 : (Jvm.Cond.methodLink "NeedleHomes" (241 : Nat) ({ cls := "NeedleHomes$Piece", name := "isIn", desc := "()Z" } : Jvm.MethodName)) ∈ TB := TB_t4 205 rfl rfl
theorem wt4_206 : (Jvm.Cond.methodLink "NeedleHomes" (251 : Nat) ({ cls := "NeedleHomes$Bill", name := "reckon", desc := "(LNeedleHomes$World;LNeedleHomes$Piece;I)V" } : Jvm.MethodName)) ∈ TB := TB_t4 206 rfl rfl
theorem wt4_207 : (Jvm.Cond.instanceMethod ({ cls := "NeedleHomes$Bill", name := "reckon", desc := "(LNeedleHomes$World;LNeedleHomes$Piece;I)V" } : Jvm.MethodName)) ∈ TB := TB_t4 207 rfl rfl
theorem wt4_208 : (Jvm.Cond.selects "NeedleHomes$Bill" ({ cls := "NeedleHomes$Bill", name := "reckon", desc := "(LNeedleHomes$World;LNeedleHomes$Piece;I)V" } : Jvm.MethodName) ({ cls := "NeedleHomes$Bill", name := "reckon", desc := "(LNeedleHomes$World;LNeedleHomes$Piece;I)V" } : Jvm.MethodName)) ∈ TB := TB_t4 208 rfl rfl
theorem wt4_209 : (Jvm.Cond.code ({ cls := "NeedleHomes$Bill", name := "reckon", desc := "(LNeedleHomes$World;LNeedleHomes$Piece;I)V" } : Jvm.MethodName) prog_2_method_2_code (7 : Nat) (Option.none : Option Jvm.ClassFile.FieldType)) ∈ TB := TB_t4 209 rfl rfl
theorem wt4_21 : (Jvm.Cond.fieldLink "NeedleHomes" (191 : Nat) "NeedleHomes$Hand" "debt" "I") ∈ TB := TB_t4 21 rfl rfl
theorem wt4_210 : (Jvm.Cond.methodLink "NeedleHomes$Bill" (39 : Nat) ({ cls := "NeedleHomes$World", name := "patternAt", desc := "(I)LNeedleHomes$Pattern;" } : Jvm.MethodName)) ∈ TB := TB_t4 210 rfl rfl
theorem wt4_211 : (Jvm.Cond.methodLink "NeedleHomes$Bill" (48 : Nat) ({ cls := "NeedleHomes$World", name := "handAt", desc := "(I)LNeedleHomes$Hand;" } : Jvm.MethodName)) ∈ TB := TB_t4 211 rfl rfl
theorem wt4_213 : (Jvm.Cond.methodLink "NeedleHomes$Bill" (59 : Nat) ({ cls := "NeedleHomes$World", name := "listKnown", desc := "(III)I" } : Jvm.MethodName)) ∈ TB := TB_t4 213 rfl rfl
theorem wt4_214 : (Jvm.Cond.methodLink "NeedleHomes$Bill" (63 : Nat) ({ cls := "NeedleHomes$World", name := "listAt", desc := "(I)LNeedleHomes$TermList;" } : Jvm.MethodName)) ∈ TB := TB_t4 214 rfl rfl
theorem wt4_216 : (Jvm.Cond.methodLink "NeedleHomes$Bill" (78 : Nat) ({ cls := "NeedleHomes$Bill", name := "reckonStitches", desc := "(LNeedleHomes$Pattern;)V" } : Jvm.MethodName)) ∈ TB := TB_t4 216 rfl rfl
theorem wt4_218 : (Jvm.Cond.instanceMethod ({ cls := "NeedleHomes$Bill", name := "reckonStitches", desc := "(LNeedleHomes$Pattern;)V" } : Jvm.MethodName)) ∈ TB := TB_t4 218 rfl rfl
theorem wt4_219 : (Jvm.Cond.code ({ cls := "NeedleHomes$Bill", name := "reckonStitches", desc := "(LNeedleHomes$Pattern;)V" } : Jvm.MethodName) prog_2_method_3_code (6 : Nat) (Option.none : Option Jvm.ClassFile.FieldType)) ∈ TB := TB_t4 219 rfl rfl
theorem wt4_22 : (Jvm.Cond.fieldLink "NeedleHomes$World" (162 : Nat) "NeedleHomes$Hand" "debt" "I") ∈ TB := TB_t4 22 rfl rfl
theorem wt4_220 : (Jvm.Cond.methodLink "NeedleHomes$Bill" (94 : Nat) ({ cls := "NeedleHomes$Pattern", name := "countOf", desc := "(II)I" } : Jvm.MethodName)) ∈ TB := TB_t4 220 rfl rfl
theorem wt4_222 : (Jvm.Cond.constantLong "NeedleHomes$Bill" (100 : Nat) (100 : Int64)) ∈ TB := TB_t4 222 rfl rfl
theorem wt4_223 : (Jvm.Cond.methodLink "NeedleHomes$Bill" (86 : Nat) ({ cls := "NeedleHomes$Piece", name := "isIn", desc := "()Z" } : Jvm.MethodName)) ∈ TB := TB_t4 223 rfl rfl
theorem wt4_224 : (Jvm.Cond.methodLink "NeedleHomes$Bill" (90 : Nat) ({ cls := "NeedleHomes$Bill", name := "reckonLosses", desc := "(LNeedleHomes$Piece;)V" } : Jvm.MethodName)) ∈ TB := TB_t4 224 rfl rfl
theorem wt4_226 : (Jvm.Cond.instanceMethod ({ cls := "NeedleHomes$Bill", name := "reckonLosses", desc := "(LNeedleHomes$Piece;)V" } : Jvm.MethodName)) ∈ TB := TB_t4 226 rfl rfl
theorem wt4_227 : (Jvm.Cond.code ({ cls := "NeedleHomes$Bill", name := "reckonLosses", desc := "(LNeedleHomes$Piece;)V" } : Jvm.MethodName) prog_2_method_4_code (3 : Nat) (Option.none : Option Jvm.ClassFile.FieldType)) ∈ TB := TB_t4 227 rfl rfl
theorem wt4_228 : (Jvm.Cond.methodLink "NeedleHomes$Bill" (105 : Nat) ({ cls := "java/lang/Math", name := "max", desc := "(II)I" } : Jvm.MethodName)) ∈ TB := TB_t4 228 rfl rfl
theorem wt4_229 : (Jvm.Cond.methodLink "NeedleHomes$Bill" (110 : Nat) ({ cls := "java/lang/Math", name := "min", desc := "(II)I" } : Jvm.MethodName)) ∈ TB := TB_t4 229 rfl rfl
theorem wt4_23 : (Jvm.Cond.fieldLink "NeedleHomes$Hand" (37 : Nat) "NeedleHomes$Hand" "net" "I") ∈ TB := TB_t4 23 rfl rfl
theorem wt4_230 : (Jvm.Cond.methodLink "NeedleHomes" (258 : Nat) ({ cls := "NeedleHomes$Piece", name := "bringIn", desc := "(III)V" } : Jvm.MethodName)) ∈ TB := TB_t4 230 rfl rfl
theorem wt4_231 : (Jvm.Cond.instanceMethod ({ cls := "NeedleHomes$Piece", name := "bringIn", desc := "(III)V" } : Jvm.MethodName)) ∈ TB := TB_t4 231 rfl rfl
theorem wt4_232 : (Jvm.Cond.selects "NeedleHomes$Piece" ({ cls := "NeedleHomes$Piece", name := "bringIn", desc := "(III)V" } : Jvm.MethodName) ({ cls := "NeedleHomes$Piece", name := "bringIn", desc := "(III)V" } : Jvm.MethodName)) ∈ TB := TB_t4 232 rfl rfl
theorem wt4_233 : (Jvm.Cond.code ({ cls := "NeedleHomes$Piece", name := "bringIn", desc := "(III)V" } : Jvm.MethodName) prog_9_method_4_code (4 : Nat) (Option.none : Option Jvm.ClassFile.FieldType)) ∈ TB := TB_t4 233 rfl rfl
theorem wt4_234 : (Jvm.Cond.methodLink "NeedleHomes" (261 : Nat) ({ cls := "NeedleHomes", name := "settle", desc := "(LNeedleHomes$Piece;LNeedleHomes$Hand;)V" } : Jvm.MethodName)) ∈ TB := TB_t4 234 rfl rfl
theorem wt4_236 : (Jvm.Cond.instanceMethod ({ cls := "NeedleHomes", name := "settle", desc := "(LNeedleHomes$Piece;LNeedleHomes$Hand;)V" } : Jvm.MethodName)) ∈ TB := TB_t4 236 rfl rfl
theorem wt4_237 : (Jvm.Cond.code ({ cls := "NeedleHomes", name := "settle", desc := "(LNeedleHomes$Piece;LNeedleHomes$Hand;)V" } : Jvm.MethodName) prog_1_method_45_code (4 : Nat) (Option.none : Option Jvm.ClassFile.FieldType)) ∈ TB := TB_t4 237 rfl rfl
theorem wt4_238 : (Jvm.Cond.methodLink "NeedleHomes" (297 : Nat) ({ cls := "NeedleHomes$Bill", name := "paid", desc := "()I" } : Jvm.MethodName)) ∈ TB := TB_t4 238 rfl rfl
theorem wt4_239 : (Jvm.Cond.instanceMethod ({ cls := "NeedleHomes$Bill", name := "paid", desc := "()I" } : Jvm.MethodName)) ∈ TB := TB_t4 239 rfl rfl
theorem wt4_24 : (Jvm.Cond.fieldLink "NeedleHomes" (203 : Nat) "NeedleHomes$Hand" "net" "I") ∈ TB := TB_t4 24 rfl rfl
theorem wt4_25 : (Jvm.Cond.fieldLink "NeedleHomes$World" (165 : Nat) "NeedleHomes$Hand" "net" "I") ∈ TB := TB_t4 25 rfl rfl
theorem wt4_26 : (Jvm.Cond.fieldLink "NeedleHomes$Hand" (9 : Nat) "NeedleHomes$Hand" "habits" "[I") ∈ TB := TB_t4 26 rfl rfl
theorem wt4_27 : (Jvm.Cond.fieldLink "NeedleHomes$Piece" (61 : Nat) "NeedleHomes$Hand" "habits" "[I") ∈ TB := TB_t4 27 rfl rfl
theorem wt4_28 : (Jvm.Cond.fieldLink "NeedleHomes" (183 : Nat) "NeedleHomes$Hand" "habits" "[I") ∈ TB := TB_t4 28 rfl rfl
theorem wt4_29 : (Jvm.Cond.fieldLink "NeedleHomes$Hand" (15 : Nat) "NeedleHomes$Hand" "hayBits" "[I") ∈ TB := TB_t4 29 rfl rfl
theorem wt4_3 : (Jvm.Cond.classLink "NeedleHomes" (170 : Nat) "NeedleHomes$Hand") ∈ TB := TB_t4 3 rfl rfl
theorem wt4_4 : (Jvm.Cond.instantiable "NeedleHomes$Hand" (7 : Nat)) ∈ TB := TB_t4 4 rfl rfl
theorem wt4_45 : (Jvm.Cond.methodLink "NeedleHomes" (175 : Nat) ({ cls := "NeedleHomes$World", name := "addHand", desc := "(LNeedleHomes$Hand;)I" } : Jvm.MethodName)) ∈ TB := TB_t4 45 rfl rfl
theorem wt4_46 : (Jvm.Cond.instanceMethod ({ cls := "NeedleHomes$World", name := "addHand", desc := "(LNeedleHomes$Hand;)I" } : Jvm.MethodName)) ∈ TB := TB_t4 46 rfl rfl
theorem wt4_47 : (Jvm.Cond.selects "NeedleHomes$World" ({ cls := "NeedleHomes$World", name := "addHand", desc := "(LNeedleHomes$Hand;)I" } : Jvm.MethodName) ({ cls := "NeedleHomes$World", name := "addHand", desc := "(LNeedleHomes$Hand;)I" } : Jvm.MethodName)) ∈ TB := TB_t4 47 rfl rfl
theorem wt4_48 : (Jvm.Cond.code ({ cls := "NeedleHomes$World", name := "addHand", desc := "(LNeedleHomes$Hand;)I" } : Jvm.MethodName) prog_12_method_15_code (3 : Nat) (Option.some Jvm.ClassFile.FieldType.int)) ∈ TB := TB_t4 48 rfl rfl
theorem wt4_5 : (Jvm.Cond.methodLink "NeedleHomes" (172 : Nat) ({ cls := "NeedleHomes$Hand", name := "<init>", desc := "(III)V" } : Jvm.MethodName)) ∈ TB := TB_t4 5 rfl rfl
theorem wt4_52 : (Jvm.Cond.code ({ cls := "NeedleHomes", name := "habit", desc := "(III)Z" } : Jvm.MethodName) prog_1_method_12_code (5 : Nat) (Option.some Jvm.ClassFile.FieldType.boolean)) ∈ TB := TB_t4 52 rfl rfl
theorem wt4_53 : (Jvm.Cond.methodLink "NeedleHomes" (179 : Nat) ({ cls := "NeedleHomes$World", name := "handAt", desc := "(I)LNeedleHomes$Hand;" } : Jvm.MethodName)) ∈ TB := TB_t4 53 rfl rfl
theorem wt4_54 : (Jvm.Cond.instanceMethod ({ cls := "NeedleHomes$World", name := "handAt", desc := "(I)LNeedleHomes$Hand;" } : Jvm.MethodName)) ∈ TB := TB_t4 54 rfl rfl
theorem wt4_55 : (Jvm.Cond.selects "NeedleHomes$World" ({ cls := "NeedleHomes$World", name := "handAt", desc := "(I)LNeedleHomes$Hand;" } : Jvm.MethodName) ({ cls := "NeedleHomes$World", name := "handAt", desc := "(I)LNeedleHomes$Hand;" } : Jvm.MethodName)) ∈ TB := TB_t4 55 rfl rfl
theorem wt4_56 : (Jvm.Cond.code ({ cls := "NeedleHomes$World", name := "handAt", desc := "(I)LNeedleHomes$Hand;" } : Jvm.MethodName) prog_12_method_11_code (2 : Nat) (Option.some (Jvm.ClassFile.FieldType.object "NeedleHomes$Hand"))) ∈ TB := TB_t4 56 rfl rfl
theorem wt4_6 : (Jvm.Cond.instanceMethod ({ cls := "NeedleHomes$Hand", name := "<init>", desc := "(III)V" } : Jvm.MethodName)) ∈ TB := TB_t4 6 rfl rfl
theorem wt4_60 : (Jvm.Cond.code ({ cls := "NeedleHomes", name := "hay", desc := "(IIZ)Z" } : Jvm.MethodName) prog_1_method_13_code (5 : Nat) (Option.some Jvm.ClassFile.FieldType.boolean)) ∈ TB := TB_t4 60 rfl rfl
theorem wt4_61 : (Jvm.Cond.methodLink "NeedleHomes" (186 : Nat) ({ cls := "NeedleHomes$Hand", name := "setHay", desc := "(IZ)V" } : Jvm.MethodName)) ∈ TB := TB_t4 61 rfl rfl
theorem wt4_62 : (Jvm.Cond.instanceMethod ({ cls := "NeedleHomes$Hand", name := "setHay", desc := "(IZ)V" } : Jvm.MethodName)) ∈ TB := TB_t4 62 rfl rfl
theorem wt4_63 : (Jvm.Cond.selects "NeedleHomes$Hand" ({ cls := "NeedleHomes$Hand", name := "setHay", desc := "(IZ)V" } : Jvm.MethodName) ({ cls := "NeedleHomes$Hand", name := "setHay", desc := "(IZ)V" } : Jvm.MethodName)) ∈ TB := TB_t4 63 rfl rfl
theorem wt4_64 : (Jvm.Cond.code ({ cls := "NeedleHomes$Hand", name := "setHay", desc := "(IZ)V" } : Jvm.MethodName) prog_4_method_3_code (4 : Nat) (Option.none : Option Jvm.ClassFile.FieldType)) ∈ TB := TB_t4 64 rfl rfl
theorem wt4_69 : (Jvm.Cond.code ({ cls := "NeedleHomes", name := "advance", desc := "(II)I" } : Jvm.MethodName) prog_1_method_14_code (4 : Nat) (Option.some Jvm.ClassFile.FieldType.int)) ∈ TB := TB_t4 69 rfl rfl
theorem wt4_7 : (Jvm.Cond.code ({ cls := "NeedleHomes$Hand", name := "<init>", desc := "(III)V" } : Jvm.MethodName) prog_4_method_1_code (4 : Nat) (Option.none : Option Jvm.ClassFile.FieldType)) ∈ TB := TB_t4 7 rfl rfl
theorem wt4_70 : (Jvm.Cond.constant "NeedleHomes" (190 : Nat) (100000 : Int32)) ∈ TB := TB_t4 70 rfl rfl
theorem wt4_74 : (Jvm.Cond.code ({ cls := "NeedleHomes", name := "tell", desc := "(II)I" } : Jvm.MethodName) prog_1_method_15_code (4 : Nat) (Option.some Jvm.ClassFile.FieldType.int)) ∈ TB := TB_t4 74 rfl rfl
theorem wt4_75 : (Jvm.Cond.methodLink "NeedleHomes" (206 : Nat) ({ cls := "NeedleHomes$World", name := "piecesOutWith", desc := "(I)I" } : Jvm.MethodName)) ∈ TB := TB_t4 75 rfl rfl
theorem wt4_76 : (Jvm.Cond.instanceMethod ({ cls := "NeedleHomes$World", name := "piecesOutWith", desc := "(I)I" } : Jvm.MethodName)) ∈ TB := TB_t4 76 rfl rfl
theorem wt4_77 : (Jvm.Cond.selects "NeedleHomes$World" ({ cls := "NeedleHomes$World", name := "piecesOutWith", desc := "(I)I" } : Jvm.MethodName) ({ cls := "NeedleHomes$World", name := "piecesOutWith", desc := "(I)I" } : Jvm.MethodName)) ∈ TB := TB_t4 77 rfl rfl
theorem wt4_78 : (Jvm.Cond.code ({ cls := "NeedleHomes$World", name := "piecesOutWith", desc := "(I)I" } : Jvm.MethodName) prog_12_method_19_code (5 : Nat) (Option.some Jvm.ClassFile.FieldType.int)) ∈ TB := TB_t4 78 rfl rfl
theorem wt4_79 : (Jvm.Cond.methodLink "NeedleHomes$World" (113 : Nat) ({ cls := "NeedleHomes$World", name := "pieceAt", desc := "(I)LNeedleHomes$Piece;" } : Jvm.MethodName)) ∈ TB := TB_t4 79 rfl rfl
theorem wt4_8 : (Jvm.Cond.methodLink "NeedleHomes$Hand" (3 : Nat) ({ cls := "java/lang/Object", name := "<init>", desc := "()V" } : Jvm.MethodName)) ∈ TB := TB_t4 8 rfl rfl
theorem wt4_80 : (Jvm.Cond.instanceMethod ({ cls := "NeedleHomes$World", name := "pieceAt", desc := "(I)LNeedleHomes$Piece;" } : Jvm.MethodName)) ∈ TB := TB_t4 80 rfl rfl
theorem wt4_81 : (Jvm.Cond.selects "NeedleHomes$World" ({ cls := "NeedleHomes$World", name := "pieceAt", desc := "(I)LNeedleHomes$Piece;" } : Jvm.MethodName) ({ cls := "NeedleHomes$World", name := "pieceAt", desc := "(I)LNeedleHomes$Piece;" } : Jvm.MethodName)) ∈ TB := TB_t4 81 rfl rfl
theorem wt4_82 : (Jvm.Cond.code ({ cls := "NeedleHomes$World", name := "pieceAt", desc := "(I)LNeedleHomes$Piece;" } : Jvm.MethodName) prog_12_method_12_code (2 : Nat) (Option.some (Jvm.ClassFile.FieldType.object "NeedleHomes$Piece"))) ∈ TB := TB_t4 82 rfl rfl
theorem wt4_83 : (Jvm.Cond.methodLink "NeedleHomes$World" (154 : Nat) ({ cls := "NeedleHomes$Piece", name := "isIn", desc := "()Z" } : Jvm.MethodName)) ∈ TB := TB_t4 83 rfl rfl
theorem wt4_84 : (Jvm.Cond.instanceMethod ({ cls := "NeedleHomes$Piece", name := "isIn", desc := "()Z" } : Jvm.MethodName)) ∈ TB := TB_t4 84 rfl rfl
theorem wt4_85 : (Jvm.Cond.selects "NeedleHomes$Piece" ({ cls := "NeedleHomes$Piece", name := "isIn", desc := "()Z" } : Jvm.MethodName) ({ cls := "NeedleHomes$Piece", name := "isIn", desc := "()Z" } : Jvm.MethodName)) ∈ TB := TB_t4 85 rfl rfl
theorem wt4_86 : (Jvm.Cond.code ({ cls := "NeedleHomes$Piece", name := "isIn", desc := "()Z" } : Jvm.MethodName) prog_9_method_3_code (1 : Nat) (Option.some Jvm.ClassFile.FieldType.boolean)) ∈ TB := TB_t4 86 rfl rfl
theorem wt4_9 : (Jvm.Cond.methodLink "NeedleHomes$Hand" (28 : Nat) ({ cls := "java/util/Arrays", name := "fill", desc := "([II)V" } : Jvm.MethodName)) ∈ TB := TB_t4 9 rfl rfl
theorem wt4_90 : (Jvm.Cond.code ({ cls := "NeedleHomes", name := "term", desc := "(IIIIII)I" } : Jvm.MethodName) prog_1_method_16_code (10 : Nat) (Option.some Jvm.ClassFile.FieldType.int)) ∈ TB := TB_t4 90 rfl rfl
theorem wt4_91 : (Jvm.Cond.methodLink "NeedleHomes" (210 : Nat) ({ cls := "NeedleHomes", name := "weekOf", desc := "(I)I" } : Jvm.MethodName)) ∈ TB := TB_t4 91 rfl rfl
theorem wt4_92 : (Jvm.Cond.static ({ cls := "NeedleHomes", name := "weekOf", desc := "(I)I" } : Jvm.MethodName)) ∈ TB := TB_t4 92 rfl rfl
theorem wt4_93 : (Jvm.Cond.code ({ cls := "NeedleHomes", name := "weekOf", desc := "(I)I" } : Jvm.MethodName) prog_1_method_41_code (1 : Nat) (Option.some Jvm.ClassFile.FieldType.int)) ∈ TB := TB_t4 93 rfl rfl
theorem wt4_94 : (Jvm.Cond.methodLink "NeedleHomes" (213 : Nat) ({ cls := "NeedleHomes", name := "askFor", desc := "([ILNeedleHomes$Pattern;LNeedleHomes$Hand;II)V" } : Jvm.MethodName)) ∈ TB := TB_t4 94 rfl rfl
theorem wt4_95 : (Jvm.Cond.static ({ cls := "NeedleHomes", name := "askFor", desc := "([ILNeedleHomes$Pattern;LNeedleHomes$Hand;II)V" } : Jvm.MethodName)) ∈ TB := TB_t4 95 rfl rfl
theorem wt4_96 : (Jvm.Cond.code ({ cls := "NeedleHomes", name := "askFor", desc := "([ILNeedleHomes$Pattern;LNeedleHomes$Hand;II)V" } : Jvm.MethodName) prog_1_method_42_code (5 : Nat) (Option.none : Option Jvm.ClassFile.FieldType)) ∈ TB := TB_t4 96 rfl rfl
theorem wt4_97 : (Jvm.Cond.methodLink "NeedleHomes" (377 : Nat) ({ cls := "java/lang/Math", name := "min", desc := "(II)I" } : Jvm.MethodName)) ∈ TB := TB_t4 97 rfl rfl
theorem wt4_98 : (Jvm.Cond.methodLink "NeedleHomes" (382 : Nat) ({ cls := "NeedleHomes$Hand", name := "hasHay", desc := "(I)Z" } : Jvm.MethodName)) ∈ TB := TB_t4 98 rfl rfl
theorem wt4_99 : (Jvm.Cond.instanceMethod ({ cls := "NeedleHomes$Hand", name := "hasHay", desc := "(I)Z" } : Jvm.MethodName)) ∈ TB := TB_t4 99 rfl rfl
theorem wt5_0 : (Jvm.Cond.selects "NeedleHomes$Bill" ({ cls := "NeedleHomes$Bill", name := "paid", desc := "()I" } : Jvm.MethodName) ({ cls := "NeedleHomes$Bill", name := "paid", desc := "()I" } : Jvm.MethodName)) ∈ TB := TB_t5 0 rfl rfl
theorem wt5_1 : (Jvm.Cond.code ({ cls := "NeedleHomes$Bill", name := "paid", desc := "()I" } : Jvm.MethodName) prog_2_method_5_code (1 : Nat) (Option.some Jvm.ClassFile.FieldType.int)) ∈ TB := TB_t5 1 rfl rfl
theorem wt5_102 : (Jvm.Cond.code ({ cls := "NeedleHomes", name := "look", desc := "(IIII)Z" } : Jvm.MethodName) prog_1_method_27_code (6 : Nat) (Option.some Jvm.ClassFile.FieldType.boolean)) ∈ TB := TB_t5 102 rfl rfl
theorem wt5_106 : (Jvm.Cond.code ({ cls := "NeedleHomes", name := "unlike", desc := "(II)I" } : Jvm.MethodName) prog_1_method_28_code (5 : Nat) (Option.some Jvm.ClassFile.FieldType.int)) ∈ TB := TB_t5 106 rfl rfl
theorem wt5_107 : (Jvm.Cond.methodLink "NeedleHomes" (330 : Nat) ({ cls := "NeedleHomes$Piece", name := "unlikenessOf", desc := "(LNeedleHomes$Hand;)I" } : Jvm.MethodName)) ∈ TB := TB_t5 107 rfl rfl
theorem wt5_108 : (Jvm.Cond.instanceMethod ({ cls := "NeedleHomes$Piece", name := "unlikenessOf", desc := "(LNeedleHomes$Hand;)I" } : Jvm.MethodName)) ∈ TB := TB_t5 108 rfl rfl
theorem wt5_109 : (Jvm.Cond.selects "NeedleHomes$Piece" ({ cls := "NeedleHomes$Piece", name := "unlikenessOf", desc := "(LNeedleHomes$Hand;)I" } : Jvm.MethodName) ({ cls := "NeedleHomes$Piece", name := "unlikenessOf", desc := "(LNeedleHomes$Hand;)I" } : Jvm.MethodName)) ∈ TB := TB_t5 109 rfl rfl
theorem wt5_110 : (Jvm.Cond.code ({ cls := "NeedleHomes$Piece", name := "unlikenessOf", desc := "(LNeedleHomes$Hand;)I" } : Jvm.MethodName) prog_9_method_7_code (4 : Nat) (Option.some Jvm.ClassFile.FieldType.int)) ∈ TB := TB_t5 110 rfl rfl
theorem wt5_111 : (Jvm.Cond.methodLink "NeedleHomes$Piece" (66 : Nat) ({ cls := "java/lang/Math", name := "abs", desc := "(I)I" } : Jvm.MethodName)) ∈ TB := TB_t5 111 rfl rfl
theorem wt5_112 : (Jvm.Cond.static ({ cls := "java/lang/Math", name := "abs", desc := "(I)I" } : Jvm.MethodName)) ∈ TB := TB_t5 112 rfl rfl
theorem wt5_113 : (Jvm.Cond.code ({ cls := "java/lang/Math", name := "abs", desc := "(I)I" } : Jvm.MethodName) prog_17_method_59_code (1 : Nat) (Option.some Jvm.ClassFile.FieldType.int)) ∈ TB := TB_t5 113 rfl rfl
theorem wt5_117 : (Jvm.Cond.code ({ cls := "NeedleHomes", name := "who", desc := "(II)I" } : Jvm.MethodName) prog_1_method_29_code (7 : Nat) (Option.some Jvm.ClassFile.FieldType.int)) ∈ TB := TB_t5 117 rfl rfl
theorem wt5_118 : (Jvm.Cond.methodLink "NeedleHomes" (333 : Nat) ({ cls := "NeedleHomes$Piece", name := "isLookedAt", desc := "()Z" } : Jvm.MethodName)) ∈ TB := TB_t5 118 rfl rfl
theorem wt5_119 : (Jvm.Cond.instanceMethod ({ cls := "NeedleHomes$Piece", name := "isLookedAt", desc := "()Z" } : Jvm.MethodName)) ∈ TB := TB_t5 119 rfl rfl
theorem wt5_120 : (Jvm.Cond.selects "NeedleHomes$Piece" ({ cls := "NeedleHomes$Piece", name := "isLookedAt", desc := "()Z" } : Jvm.MethodName) ({ cls := "NeedleHomes$Piece", name := "isLookedAt", desc := "()Z" } : Jvm.MethodName)) ∈ TB := TB_t5 120 rfl rfl
theorem wt5_121 : (Jvm.Cond.code ({ cls := "NeedleHomes$Piece", name := "isLookedAt", desc := "()Z" } : Jvm.MethodName) prog_9_method_6_code (2 : Nat) (Option.some Jvm.ClassFile.FieldType.boolean)) ∈ TB := TB_t5 121 rfl rfl
theorem wt5_122 : (Jvm.Cond.methodLink "NeedleHomes" (336 : Nat) ({ cls := "NeedleHomes$World", name := "likestHand", desc := "(LNeedleHomes$Piece;I)I" } : Jvm.MethodName)) ∈ TB := TB_t5 122 rfl rfl
theorem wt5_123 : (Jvm.Cond.instanceMethod ({ cls := "NeedleHomes$World", name := "likestHand", desc := "(LNeedleHomes$Piece;I)I" } : Jvm.MethodName)) ∈ TB := TB_t5 123 rfl rfl
theorem wt5_124 : (Jvm.Cond.selects "NeedleHomes$World" ({ cls := "NeedleHomes$World", name := "likestHand", desc := "(LNeedleHomes$Piece;I)I" } : Jvm.MethodName) ({ cls := "NeedleHomes$World", name := "likestHand", desc := "(LNeedleHomes$Piece;I)I" } : Jvm.MethodName)) ∈ TB := TB_t5 124 rfl rfl
theorem wt5_125 : (Jvm.Cond.code ({ cls := "NeedleHomes$World", name := "likestHand", desc := "(LNeedleHomes$Piece;I)I" } : Jvm.MethodName) prog_12_method_23_code (8 : Nat) (Option.some Jvm.ClassFile.FieldType.int)) ∈ TB := TB_t5 125 rfl rfl
theorem wt5_126 : (Jvm.Cond.methodLink "NeedleHomes$World" (90 : Nat) ({ cls := "NeedleHomes$World", name := "handAt", desc := "(I)LNeedleHomes$Hand;" } : Jvm.MethodName)) ∈ TB := TB_t5 126 rfl rfl
theorem wt5_127 : (Jvm.Cond.methodLink "NeedleHomes$World" (168 : Nat) ({ cls := "NeedleHomes$Piece", name := "unlikenessOf", desc := "(LNeedleHomes$Hand;)I" } : Jvm.MethodName)) ∈ TB := TB_t5 127 rfl rfl
theorem wt5_13 : (Jvm.Cond.code ({ cls := "NeedleHomes", name := "bill", desc := "(III)I" } : Jvm.MethodName) prog_1_method_20_code (5 : Nat) (Option.some Jvm.ClassFile.FieldType.int)) ∈ TB := TB_t5 13 rfl rfl
theorem wt5_131 : (Jvm.Cond.code ({ cls := "NeedleHomes", name := "stolen", desc := "(III)I" } : Jvm.MethodName) prog_1_method_30_code (7 : Nat) (Option.some Jvm.ClassFile.FieldType.int)) ∈ TB := TB_t5 131 rfl rfl
theorem wt5_132 : (Jvm.Cond.methodLink "NeedleHomes" (340 : Nat) ({ cls := "java/lang/Integer", name := "bitCount", desc := "(I)I" } : Jvm.MethodName)) ∈ TB := TB_t5 132 rfl rfl
theorem wt5_133 : (Jvm.Cond.methodLink "NeedleHomes" (345 : Nat) ({ cls := "NeedleHomes", name := "isBeyondChance", desc := "(III)Z" } : Jvm.MethodName)) ∈ TB := TB_t5 133 rfl rfl
theorem wt5_134 : (Jvm.Cond.static ({ cls := "NeedleHomes", name := "isBeyondChance", desc := "(III)Z" } : Jvm.MethodName)) ∈ TB := TB_t5 134 rfl rfl
theorem wt5_135 : (Jvm.Cond.code ({ cls := "NeedleHomes", name := "isBeyondChance", desc := "(III)Z" } : Jvm.MethodName) prog_1_method_47_code (6 : Nat) (Option.some Jvm.ClassFile.FieldType.boolean)) ∈ TB := TB_t5 135 rfl rfl
theorem wt5_136 : (Jvm.Cond.methodLink "NeedleHomes" (402 : Nat) ({ cls := "NeedleHomes", name := "choices", desc := "(II)J" } : Jvm.MethodName)) ∈ TB := TB_t5 136 rfl rfl
theorem wt5_137 : (Jvm.Cond.static ({ cls := "NeedleHomes", name := "choices", desc := "(II)J" } : Jvm.MethodName)) ∈ TB := TB_t5 137 rfl rfl
theorem wt5_138 : (Jvm.Cond.code ({ cls := "NeedleHomes", name := "choices", desc := "(II)J" } : Jvm.MethodName) prog_1_method_48_code (5 : Nat) (Option.some Jvm.ClassFile.FieldType.long)) ∈ TB := TB_t5 138 rfl rfl
theorem wt5_139 : (Jvm.Cond.constantLong "NeedleHomes" (406 : Nat) (1000 : Int64)) ∈ TB := TB_t5 139 rfl rfl
theorem wt5_143 : (Jvm.Cond.code ({ cls := "NeedleHomes", name := "time", desc := "(II)Z" } : Jvm.MethodName) prog_1_method_31_code (3 : Nat) (Option.some Jvm.ClassFile.FieldType.boolean)) ∈ TB := TB_t5 143 rfl rfl
theorem wt5_147 : (Jvm.Cond.code ({ cls := "NeedleHomes", name := "even", desc := "(III)I" } : Jvm.MethodName) prog_1_method_32_code (4 : Nat) (Option.some Jvm.ClassFile.FieldType.int)) ∈ TB := TB_t5 147 rfl rfl
theorem wt5_148 : (Jvm.Cond.methodLink "NeedleHomes" (351 : Nat) ({ cls := "NeedleHomes$EvenPay", name := "find", desc := "(LNeedleHomes$World;II)Z" } : Jvm.MethodName)) ∈ TB := TB_t5 148 rfl rfl
theorem wt5_149 : (Jvm.Cond.instanceMethod ({ cls := "NeedleHomes$EvenPay", name := "find", desc := "(LNeedleHomes$World;II)Z" } : Jvm.MethodName)) ∈ TB := TB_t5 149 rfl rfl
theorem wt5_150 : (Jvm.Cond.selects "NeedleHomes$EvenPay" ({ cls := "NeedleHomes$EvenPay", name := "find", desc := "(LNeedleHomes$World;II)Z" } : Jvm.MethodName) ({ cls := "NeedleHomes$EvenPay", name := "find", desc := "(LNeedleHomes$World;II)Z" } : Jvm.MethodName)) ∈ TB := TB_t5 150 rfl rfl
theorem wt5_151 : (Jvm.Cond.code ({ cls := "NeedleHomes$EvenPay", name := "find", desc := "(LNeedleHomes$World;II)Z" } : Jvm.MethodName) prog_3_method_2_code (8 : Nat) (Option.some Jvm.ClassFile.FieldType.boolean)) ∈ TB := TB_t5 151 rfl rfl
theorem wt5_152 : (Jvm.Cond.methodLink "NeedleHomes$EvenPay" (25 : Nat) ({ cls := "NeedleHomes$EvenPay", name := "takeRates", desc := "(LNeedleHomes$World;I)V" } : Jvm.MethodName)) ∈ TB := TB_t5 152 rfl rfl
theorem wt5_154 : (Jvm.Cond.instanceMethod ({ cls := "NeedleHomes$EvenPay", name := "takeRates", desc := "(LNeedleHomes$World;I)V" } : Jvm.MethodName)) ∈ TB := TB_t5 154 rfl rfl
theorem wt5_155 : (Jvm.Cond.code ({ cls := "NeedleHomes$EvenPay", name := "takeRates", desc := "(LNeedleHomes$World;I)V" } : Jvm.MethodName) prog_3_method_4_code (6 : Nat) (Option.none : Option Jvm.ClassFile.FieldType)) ∈ TB := TB_t5 155 rfl rfl
theorem wt5_157 : (Jvm.Cond.methodLink "NeedleHomes$EvenPay" (57 : Nat) ({ cls := "NeedleHomes$World", name := "listKnown", desc := "(III)I" } : Jvm.MethodName)) ∈ TB := TB_t5 157 rfl rfl
theorem wt5_158 : (Jvm.Cond.methodLink "NeedleHomes$EvenPay" (61 : Nat) ({ cls := "NeedleHomes$World", name := "listAt", desc := "(I)LNeedleHomes$TermList;" } : Jvm.MethodName)) ∈ TB := TB_t5 158 rfl rfl
theorem wt5_159 : (Jvm.Cond.methodLink "NeedleHomes$EvenPay" (65 : Nat) ({ cls := "java/util/Arrays", name := "fill", desc := "([II)V" } : Jvm.MethodName)) ∈ TB := TB_t5 159 rfl rfl
theorem wt5_161 : (Jvm.Cond.methodLink "NeedleHomes$EvenPay" (35 : Nat) ({ cls := "NeedleHomes$EvenPay", name := "highestPay", desc := "()I" } : Jvm.MethodName)) ∈ TB := TB_t5 161 rfl rfl
theorem wt5_163 : (Jvm.Cond.instanceMethod ({ cls := "NeedleHomes$EvenPay", name := "highestPay", desc := "()I" } : Jvm.MethodName)) ∈ TB := TB_t5 163 rfl rfl
theorem wt5_164 : (Jvm.Cond.code ({ cls := "NeedleHomes$EvenPay", name := "highestPay", desc := "()I" } : Jvm.MethodName) prog_3_method_3_code (3 : Nat) (Option.some Jvm.ClassFile.FieldType.int)) ∈ TB := TB_t5 164 rfl rfl
theorem wt5_165 : (Jvm.Cond.methodLink "NeedleHomes$EvenPay" (43 : Nat) ({ cls := "java/lang/Math", name := "max", desc := "(II)I" } : Jvm.MethodName)) ∈ TB := TB_t5 165 rfl rfl
theorem wt5_166 : (Jvm.Cond.methodLink "NeedleHomes$EvenPay" (39 : Nat) ({ cls := "NeedleHomes$EvenPay", name := "changeFor", desc := "(I)I" } : Jvm.MethodName)) ∈ TB := TB_t5 166 rfl rfl
theorem wt5_168 : (Jvm.Cond.instanceMethod ({ cls := "NeedleHomes$EvenPay", name := "changeFor", desc := "(I)I" } : Jvm.MethodName)) ∈ TB := TB_t5 168 rfl rfl
theorem wt5_169 : (Jvm.Cond.code ({ cls := "NeedleHomes$EvenPay", name := "changeFor", desc := "(I)I" } : Jvm.MethodName) prog_3_method_5_code (5 : Nat) (Option.some Jvm.ClassFile.FieldType.int)) ∈ TB := TB_t5 169 rfl rfl
theorem wt5_17 : (Jvm.Cond.code ({ cls := "NeedleHomes", name := "wronged", desc := "(II)I" } : Jvm.MethodName) prog_1_method_21_code (5 : Nat) (Option.some Jvm.ClassFile.FieldType.int)) ∈ TB := TB_t5 17 rfl rfl
theorem wt5_170 : (Jvm.Cond.methodLink "NeedleHomes$EvenPay" (76 : Nat) ({ cls := "NeedleHomes$EvenPay", name := "nearestRate", desc := "(III)I" } : Jvm.MethodName)) ∈ TB := TB_t5 170 rfl rfl
theorem wt5_172 : (Jvm.Cond.instanceMethod ({ cls := "NeedleHomes$EvenPay", name := "nearestRate", desc := "(III)I" } : Jvm.MethodName)) ∈ TB := TB_t5 172 rfl rfl
theorem wt5_173 : (Jvm.Cond.code ({ cls := "NeedleHomes$EvenPay", name := "nearestRate", desc := "(III)I" } : Jvm.MethodName) prog_3_method_7_code (6 : Nat) (Option.some Jvm.ClassFile.FieldType.int)) ∈ TB := TB_t5 173 rfl rfl
theorem wt5_174 : (Jvm.Cond.methodLink "NeedleHomes$EvenPay" (86 : Nat) ({ cls := "NeedleHomes$EvenPay", name := "leastRateFor", desc := "(II)I" } : Jvm.MethodName)) ∈ TB := TB_t5 174 rfl rfl
theorem wt5_175 : (Jvm.Cond.static ({ cls := "NeedleHomes$EvenPay", name := "leastRateFor", desc := "(II)I" } : Jvm.MethodName)) ∈ TB := TB_t5 175 rfl rfl
theorem wt5_176 : (Jvm.Cond.code ({ cls := "NeedleHomes$EvenPay", name := "leastRateFor", desc := "(II)I" } : Jvm.MethodName) prog_3_method_8_code (2 : Nat) (Option.some Jvm.ClassFile.FieldType.int)) ∈ TB := TB_t5 176 rfl rfl
theorem wt5_177 : (Jvm.Cond.methodLink "NeedleHomes$EvenPay" (89 : Nat) ({ cls := "java/lang/Math", name := "min", desc := "(II)I" } : Jvm.MethodName)) ∈ TB := TB_t5 177 rfl rfl
theorem wt5_178 : (Jvm.Cond.methodLink "NeedleHomes$EvenPay" (79 : Nat) ({ cls := "java/lang/Math", name := "abs", desc := "(I)I" } : Jvm.MethodName)) ∈ TB := TB_t5 178 rfl rfl
theorem wt5_179 : (Jvm.Cond.methodLink "NeedleHomes" (361 : Nat) ({ cls := "NeedleHomes$EvenPay", name := "newRate", desc := "(II)I" } : Jvm.MethodName)) ∈ TB := TB_t5 179 rfl rfl
theorem wt5_18 : (Jvm.Cond.constant "NeedleHomes" (296 : Nat) (-1000000000 : Int32)) ∈ TB := TB_t5 18 rfl rfl
theorem wt5_180 : (Jvm.Cond.instanceMethod ({ cls := "NeedleHomes$EvenPay", name := "newRate", desc := "(II)I" } : Jvm.MethodName)) ∈ TB := TB_t5 180 rfl rfl
theorem wt5_181 : (Jvm.Cond.selects "NeedleHomes$EvenPay" ({ cls := "NeedleHomes$EvenPay", name := "newRate", desc := "(II)I" } : Jvm.MethodName) ({ cls := "NeedleHomes$EvenPay", name := "newRate", desc := "(II)I" } : Jvm.MethodName)) ∈ TB := TB_t5 181 rfl rfl
theorem wt5_182 : (Jvm.Cond.code ({ cls := "NeedleHomes$EvenPay", name := "newRate", desc := "(II)I" } : Jvm.MethodName) prog_3_method_6_code (3 : Nat) (Option.some Jvm.ClassFile.FieldType.int)) ∈ TB := TB_t5 182 rfl rfl
theorem wt5_187 : (Jvm.Cond.code ({ cls := "NeedleHomes", name := "count", desc := "(I)I" } : Jvm.MethodName) prog_1_method_33_code (2 : Nat) (Option.some Jvm.ClassFile.FieldType.int)) ∈ TB := TB_t5 187 rfl rfl
theorem wt5_188 : (Jvm.Cond.methodLink "NeedleHomes" (364 : Nat) ({ cls := "NeedleHomes$World", name := "piecesThatDiffer", desc := "()I" } : Jvm.MethodName)) ∈ TB := TB_t5 188 rfl rfl
theorem wt5_189 : (Jvm.Cond.instanceMethod ({ cls := "NeedleHomes$World", name := "piecesThatDiffer", desc := "()I" } : Jvm.MethodName)) ∈ TB := TB_t5 189 rfl rfl
theorem wt5_190 : (Jvm.Cond.selects "NeedleHomes$World" ({ cls := "NeedleHomes$World", name := "piecesThatDiffer", desc := "()I" } : Jvm.MethodName) ({ cls := "NeedleHomes$World", name := "piecesThatDiffer", desc := "()I" } : Jvm.MethodName)) ∈ TB := TB_t5 190 rfl rfl
theorem wt5_191 : (Jvm.Cond.code ({ cls := "NeedleHomes$World", name := "piecesThatDiffer", desc := "()I" } : Jvm.MethodName) prog_12_method_20_code (4 : Nat) (Option.some Jvm.ClassFile.FieldType.int)) ∈ TB := TB_t5 191 rfl rfl
theorem wt5_192 : (Jvm.Cond.methodLink "NeedleHomes$World" (158 : Nat) ({ cls := "NeedleHomes$Piece", name := "differences", desc := "()I" } : Jvm.MethodName)) ∈ TB := TB_t5 192 rfl rfl
theorem wt5_193 : (Jvm.Cond.methodLink "NeedleHomes" (367 : Nat) ({ cls := "NeedleHomes$World", name := "allDebts", desc := "()I" } : Jvm.MethodName)) ∈ TB := TB_t5 193 rfl rfl
theorem wt5_194 : (Jvm.Cond.instanceMethod ({ cls := "NeedleHomes$World", name := "allDebts", desc := "()I" } : Jvm.MethodName)) ∈ TB := TB_t5 194 rfl rfl
theorem wt5_195 : (Jvm.Cond.selects "NeedleHomes$World" ({ cls := "NeedleHomes$World", name := "allDebts", desc := "()I" } : Jvm.MethodName) ({ cls := "NeedleHomes$World", name := "allDebts", desc := "()I" } : Jvm.MethodName)) ∈ TB := TB_t5 195 rfl rfl
theorem wt5_196 : (Jvm.Cond.code ({ cls := "NeedleHomes$World", name := "allDebts", desc := "()I" } : Jvm.MethodName) prog_12_method_21_code (4 : Nat) (Option.some Jvm.ClassFile.FieldType.int)) ∈ TB := TB_t5 196 rfl rfl
theorem wt5_197 : (Jvm.Cond.methodLink "NeedleHomes" (370 : Nat) ({ cls := "NeedleHomes$World", name := "allNet", desc := "()I" } : Jvm.MethodName)) ∈ TB := TB_t5 197 rfl rfl
theorem wt5_198 : (Jvm.Cond.instanceMethod ({ cls := "NeedleHomes$World", name := "allNet", desc := "()I" } : Jvm.MethodName)) ∈ TB := TB_t5 198 rfl rfl
theorem wt5_199 : (Jvm.Cond.selects "NeedleHomes$World" ({ cls := "NeedleHomes$World", name := "allNet", desc := "()I" } : Jvm.MethodName) ({ cls := "NeedleHomes$World", name := "allNet", desc := "()I" } : Jvm.MethodName)) ∈ TB := TB_t5 199 rfl rfl
theorem wt5_2 : (Jvm.Cond.methodLink "NeedleHomes" (395 : Nat) ({ cls := "NeedleHomes$World", name := "addCarried", desc := "(II)V" } : Jvm.MethodName)) ∈ TB := TB_t5 2 rfl rfl
theorem wt5_200 : (Jvm.Cond.code ({ cls := "NeedleHomes$World", name := "allNet", desc := "()I" } : Jvm.MethodName) prog_12_method_22_code (4 : Nat) (Option.some Jvm.ClassFile.FieldType.int)) ∈ TB := TB_t5 200 rfl rfl
theorem wt5_204 : (Jvm.Cond.code ({ cls := "NeedleHomes", name := "image", desc := "(I)Z" } : Jvm.MethodName) prog_1_method_34_code (2 : Nat) (Option.some Jvm.ClassFile.FieldType.boolean)) ∈ TB := TB_t5 204 rfl rfl
theorem wt5_205 : (Jvm.Cond.methodLink "NeedleHomes" (373 : Nat) ({ cls := "NeedleHomes$World", name := "copyFrom", desc := "(LNeedleHomes$World;)V" } : Jvm.MethodName)) ∈ TB := TB_t5 205 rfl rfl
theorem wt5_206 : (Jvm.Cond.instanceMethod ({ cls := "NeedleHomes$World", name := "copyFrom", desc := "(LNeedleHomes$World;)V" } : Jvm.MethodName)) ∈ TB := TB_t5 206 rfl rfl
theorem wt5_207 : (Jvm.Cond.selects "NeedleHomes$World" ({ cls := "NeedleHomes$World", name := "copyFrom", desc := "(LNeedleHomes$World;)V" } : Jvm.MethodName) ({ cls := "NeedleHomes$World", name := "copyFrom", desc := "(LNeedleHomes$World;)V" } : Jvm.MethodName)) ∈ TB := TB_t5 207 rfl rfl
theorem wt5_208 : (Jvm.Cond.code ({ cls := "NeedleHomes$World", name := "copyFrom", desc := "(LNeedleHomes$World;)V" } : Jvm.MethodName) prog_12_method_2_code (2 : Nat) (Option.none : Option Jvm.ClassFile.FieldType)) ∈ TB := TB_t5 208 rfl rfl
theorem wt5_209 : (Jvm.Cond.methodLink "NeedleHomes$World" (56 : Nat) ({ cls := "java/lang/System", name := "arraycopy", desc := "(Ljava/lang/Object;ILjava/lang/Object;II)V" } : Jvm.MethodName)) ∈ TB := TB_t5 209 rfl rfl
theorem wt5_210 : (Jvm.Cond.methodLink "NeedleHomes$World" (71 : Nat) ({ cls := "NeedleHomes$World", name := "copyTexts", desc := "(LNeedleHomes$World;)V" } : Jvm.MethodName)) ∈ TB := TB_t5 210 rfl rfl
theorem wt5_212 : (Jvm.Cond.instanceMethod ({ cls := "NeedleHomes$World", name := "copyTexts", desc := "(LNeedleHomes$World;)V" } : Jvm.MethodName)) ∈ TB := TB_t5 212 rfl rfl
theorem wt5_213 : (Jvm.Cond.code ({ cls := "NeedleHomes$World", name := "copyTexts", desc := "(LNeedleHomes$World;)V" } : Jvm.MethodName) prog_12_method_3_code (3 : Nat) (Option.none : Option Jvm.ClassFile.FieldType)) ∈ TB := TB_t5 213 rfl rfl
theorem wt5_214 : (Jvm.Cond.methodLink "NeedleHomes$World" (75 : Nat) ({ cls := "NeedleHomes$World", name := "copyHands", desc := "(LNeedleHomes$World;)V" } : Jvm.MethodName)) ∈ TB := TB_t5 214 rfl rfl
theorem wt5_216 : (Jvm.Cond.instanceMethod ({ cls := "NeedleHomes$World", name := "copyHands", desc := "(LNeedleHomes$World;)V" } : Jvm.MethodName)) ∈ TB := TB_t5 216 rfl rfl
theorem wt5_217 : (Jvm.Cond.code ({ cls := "NeedleHomes$World", name := "copyHands", desc := "(LNeedleHomes$World;)V" } : Jvm.MethodName) prog_12_method_4_code (4 : Nat) (Option.none : Option Jvm.ClassFile.FieldType)) ∈ TB := TB_t5 217 rfl rfl
theorem wt5_218 : (Jvm.Cond.methodLink "NeedleHomes$World" (103 : Nat) ({ cls := "NeedleHomes$Hand", name := "<init>", desc := "(III)V" } : Jvm.MethodName)) ∈ TB := TB_t5 218 rfl rfl
theorem wt5_219 : (Jvm.Cond.methodLink "NeedleHomes$World" (106 : Nat) ({ cls := "NeedleHomes$Hand", name := "copyFrom", desc := "(LNeedleHomes$Hand;)V" } : Jvm.MethodName)) ∈ TB := TB_t5 219 rfl rfl
theorem wt5_22 : (Jvm.Cond.code ({ cls := "NeedleHomes", name := "carried", desc := "(I)I" } : Jvm.MethodName) prog_1_method_22_code (2 : Nat) (Option.some Jvm.ClassFile.FieldType.int)) ∈ TB := TB_t5 22 rfl rfl
theorem wt5_220 : (Jvm.Cond.instanceMethod ({ cls := "NeedleHomes$Hand", name := "copyFrom", desc := "(LNeedleHomes$Hand;)V" } : Jvm.MethodName)) ∈ TB := TB_t5 220 rfl rfl
theorem wt5_221 : (Jvm.Cond.selects "NeedleHomes$Hand" ({ cls := "NeedleHomes$Hand", name := "copyFrom", desc := "(LNeedleHomes$Hand;)V" } : Jvm.MethodName) ({ cls := "NeedleHomes$Hand", name := "copyFrom", desc := "(LNeedleHomes$Hand;)V" } : Jvm.MethodName)) ∈ TB := TB_t5 221 rfl rfl
theorem wt5_222 : (Jvm.Cond.code ({ cls := "NeedleHomes$Hand", name := "copyFrom", desc := "(LNeedleHomes$Hand;)V" } : Jvm.MethodName) prog_4_method_2_code (2 : Nat) (Option.none : Option Jvm.ClassFile.FieldType)) ∈ TB := TB_t5 222 rfl rfl
theorem wt5_223 : (Jvm.Cond.methodLink "NeedleHomes$Hand" (40 : Nat) ({ cls := "java/lang/System", name := "arraycopy", desc := "(Ljava/lang/Object;ILjava/lang/Object;II)V" } : Jvm.MethodName)) ∈ TB := TB_t5 223 rfl rfl
theorem wt5_224 : (Jvm.Cond.methodLink "NeedleHomes$World" (78 : Nat) ({ cls := "NeedleHomes$World", name := "copyPieces", desc := "(LNeedleHomes$World;)V" } : Jvm.MethodName)) ∈ TB := TB_t5 224 rfl rfl
theorem wt5_226 : (Jvm.Cond.instanceMethod ({ cls := "NeedleHomes$World", name := "copyPieces", desc := "(LNeedleHomes$World;)V" } : Jvm.MethodName)) ∈ TB := TB_t5 226 rfl rfl
theorem wt5_227 : (Jvm.Cond.code ({ cls := "NeedleHomes$World", name := "copyPieces", desc := "(LNeedleHomes$World;)V" } : Jvm.MethodName) prog_12_method_5_code (4 : Nat) (Option.none : Option Jvm.ClassFile.FieldType)) ∈ TB := TB_t5 227 rfl rfl
theorem wt5_228 : (Jvm.Cond.methodLink "NeedleHomes$World" (129 : Nat) ({ cls := "NeedleHomes$Piece", name := "<init>", desc := "(IIII)V" } : Jvm.MethodName)) ∈ TB := TB_t5 228 rfl rfl
theorem wt5_229 : (Jvm.Cond.methodLink "NeedleHomes$World" (132 : Nat) ({ cls := "NeedleHomes$Piece", name := "copyFrom", desc := "(LNeedleHomes$Piece;)V" } : Jvm.MethodName)) ∈ TB := TB_t5 229 rfl rfl
theorem wt5_230 : (Jvm.Cond.instanceMethod ({ cls := "NeedleHomes$Piece", name := "copyFrom", desc := "(LNeedleHomes$Piece;)V" } : Jvm.MethodName)) ∈ TB := TB_t5 230 rfl rfl
theorem wt5_231 : (Jvm.Cond.selects "NeedleHomes$Piece" ({ cls := "NeedleHomes$Piece", name := "copyFrom", desc := "(LNeedleHomes$Piece;)V" } : Jvm.MethodName) ({ cls := "NeedleHomes$Piece", name := "copyFrom", desc := "(LNeedleHomes$Piece;)V" } : Jvm.MethodName)) ∈ TB := TB_t5 231 rfl rfl
theorem wt5_232 : (Jvm.Cond.code ({ cls := "NeedleHomes$Piece", name := "copyFrom", desc := "(LNeedleHomes$Piece;)V" } : Jvm.MethodName) prog_9_method_2_code (2 : Nat) (Option.none : Option Jvm.ClassFile.FieldType)) ∈ TB := TB_t5 232 rfl rfl
theorem wt5_233 : (Jvm.Cond.methodLink "NeedleHomes$Piece" (55 : Nat) ({ cls := "java/lang/System", name := "arraycopy", desc := "(Ljava/lang/Object;ILjava/lang/Object;II)V" } : Jvm.MethodName)) ∈ TB := TB_t5 233 rfl rfl
theorem wt5_237 : (Jvm.Cond.code ({ cls := "NeedleHomes", name := "again", desc := "(I)Z" } : Jvm.MethodName) prog_1_method_35_code (2 : Nat) (Option.some Jvm.ClassFile.FieldType.boolean)) ∈ TB := TB_t5 237 rfl rfl
theorem wt5_239 : (Jvm.Cond.instantiable "NeedleHomesModel" (38 : Nat)) ∈ TB := TB_t5 239 rfl rfl
theorem wt5_26 : (Jvm.Cond.code ({ cls := "NeedleHomes", name := "write", desc := "(IIII)Z" } : Jvm.MethodName) prog_1_method_23_code (6 : Nat) (Option.some Jvm.ClassFile.FieldType.boolean)) ∈ TB := TB_t5 26 rfl rfl
theorem wt5_3 : (Jvm.Cond.instanceMethod ({ cls := "NeedleHomes$World", name := "addCarried", desc := "(II)V" } : Jvm.MethodName)) ∈ TB := TB_t5 3 rfl rfl
theorem wt5_30 : (Jvm.Cond.code ({ cls := "NeedleHomes", name := "differ", desc := "(I)I" } : Jvm.MethodName) prog_1_method_24_code (3 : Nat) (Option.some Jvm.ClassFile.FieldType.int)) ∈ TB := TB_t5 30 rfl rfl
theorem wt5_31 : (Jvm.Cond.methodLink "NeedleHomes" (306 : Nat) ({ cls := "NeedleHomes$Piece", name := "differences", desc := "()I" } : Jvm.MethodName)) ∈ TB := TB_t5 31 rfl rfl
theorem wt5_32 : (Jvm.Cond.instanceMethod ({ cls := "NeedleHomes$Piece", name := "differences", desc := "()I" } : Jvm.MethodName)) ∈ TB := TB_t5 32 rfl rfl
theorem wt5_33 : (Jvm.Cond.selects "NeedleHomes$Piece" ({ cls := "NeedleHomes$Piece", name := "differences", desc := "()I" } : Jvm.MethodName) ({ cls := "NeedleHomes$Piece", name := "differences", desc := "()I" } : Jvm.MethodName)) ∈ TB := TB_t5 33 rfl rfl
theorem wt5_34 : (Jvm.Cond.code ({ cls := "NeedleHomes$Piece", name := "differences", desc := "()I" } : Jvm.MethodName) prog_9_method_5_code (5 : Nat) (Option.some Jvm.ClassFile.FieldType.int)) ∈ TB := TB_t5 34 rfl rfl
theorem wt5_38 : (Jvm.Cond.code ({ cls := "NeedleHomes", name := "part", desc := "(IIII)I" } : Jvm.MethodName) prog_1_method_25_code (5 : Nat) (Option.some Jvm.ClassFile.FieldType.int)) ∈ TB := TB_t5 38 rfl rfl
theorem wt5_39 : (Jvm.Cond.methodLink "NeedleHomes" (309 : Nat) ({ cls := "NeedleHomes", name := "findParting", desc := "(III)Z" } : Jvm.MethodName)) ∈ TB := TB_t5 39 rfl rfl
theorem wt5_4 : (Jvm.Cond.selects "NeedleHomes$World" ({ cls := "NeedleHomes$World", name := "addCarried", desc := "(II)V" } : Jvm.MethodName) ({ cls := "NeedleHomes$World", name := "addCarried", desc := "(II)V" } : Jvm.MethodName)) ∈ TB := TB_t5 4 rfl rfl
theorem wt5_41 : (Jvm.Cond.instanceMethod ({ cls := "NeedleHomes", name := "findParting", desc := "(III)Z" } : Jvm.MethodName)) ∈ TB := TB_t5 41 rfl rfl
theorem wt5_42 : (Jvm.Cond.code ({ cls := "NeedleHomes", name := "findParting", desc := "(III)Z" } : Jvm.MethodName) prog_1_method_46_code (5 : Nat) (Option.some Jvm.ClassFile.FieldType.boolean)) ∈ TB := TB_t5 42 rfl rfl
theorem wt5_43 : (Jvm.Cond.methodLink "NeedleHomes" (399 : Nat) ({ cls := "NeedleHomes$Parting", name := "find", desc := "(LNeedleHomes$World;LNeedleHomes$Pattern;II)Z" } : Jvm.MethodName)) ∈ TB := TB_t5 43 rfl rfl
theorem wt5_44 : (Jvm.Cond.instanceMethod ({ cls := "NeedleHomes$Parting", name := "find", desc := "(LNeedleHomes$World;LNeedleHomes$Pattern;II)Z" } : Jvm.MethodName)) ∈ TB := TB_t5 44 rfl rfl
theorem wt5_45 : (Jvm.Cond.selects "NeedleHomes$Parting" ({ cls := "NeedleHomes$Parting", name := "find", desc := "(LNeedleHomes$World;LNeedleHomes$Pattern;II)Z" } : Jvm.MethodName) ({ cls := "NeedleHomes$Parting", name := "find", desc := "(LNeedleHomes$World;LNeedleHomes$Pattern;II)Z" } : Jvm.MethodName)) ∈ TB := TB_t5 45 rfl rfl
theorem wt5_46 : (Jvm.Cond.code ({ cls := "NeedleHomes$Parting", name := "find", desc := "(LNeedleHomes$World;LNeedleHomes$Pattern;II)Z" } : Jvm.MethodName) prog_6_method_2_code (7 : Nat) (Option.some Jvm.ClassFile.FieldType.boolean)) ∈ TB := TB_t5 46 rfl rfl
theorem wt5_47 : (Jvm.Cond.methodLink "NeedleHomes$Parting" (27 : Nat) ({ cls := "java/lang/Math", name := "min", desc := "(II)I" } : Jvm.MethodName)) ∈ TB := TB_t5 47 rfl rfl
theorem wt5_48 : (Jvm.Cond.methodLink "NeedleHomes$Parting" (34 : Nat) ({ cls := "NeedleHomes$World", name := "handAt", desc := "(I)LNeedleHomes$Hand;" } : Jvm.MethodName)) ∈ TB := TB_t5 48 rfl rfl
theorem wt5_49 : (Jvm.Cond.methodLink "NeedleHomes$Parting" (51 : Nat) ({ cls := "NeedleHomes$Hand", name := "hoursIn", desc := "(II)I" } : Jvm.MethodName)) ∈ TB := TB_t5 49 rfl rfl
theorem wt5_5 : (Jvm.Cond.code ({ cls := "NeedleHomes$World", name := "addCarried", desc := "(II)V" } : Jvm.MethodName) prog_12_method_18_code (3 : Nat) (Option.none : Option Jvm.ClassFile.FieldType)) ∈ TB := TB_t5 5 rfl rfl
theorem wt5_50 : (Jvm.Cond.instanceMethod ({ cls := "NeedleHomes$Hand", name := "hoursIn", desc := "(II)I" } : Jvm.MethodName)) ∈ TB := TB_t5 50 rfl rfl
theorem wt5_51 : (Jvm.Cond.selects "NeedleHomes$Hand" ({ cls := "NeedleHomes$Hand", name := "hoursIn", desc := "(II)I" } : Jvm.MethodName) ({ cls := "NeedleHomes$Hand", name := "hoursIn", desc := "(II)I" } : Jvm.MethodName)) ∈ TB := TB_t5 51 rfl rfl
theorem wt5_52 : (Jvm.Cond.code ({ cls := "NeedleHomes$Hand", name := "hoursIn", desc := "(II)I" } : Jvm.MethodName) prog_4_method_5_code (5 : Nat) (Option.some Jvm.ClassFile.FieldType.int)) ∈ TB := TB_t5 52 rfl rfl
theorem wt5_54 : (Jvm.Cond.methodLink "NeedleHomes$Hand" (54 : Nat) ({ cls := "NeedleHomes$Hand", name := "hasHay", desc := "(I)Z" } : Jvm.MethodName)) ∈ TB := TB_t5 54 rfl rfl
theorem wt5_55 : (Jvm.Cond.methodLink "NeedleHomes$Parting" (54 : Nat) ({ cls := "NeedleHomes$Hand", name := "canDo", desc := "(II)I" } : Jvm.MethodName)) ∈ TB := TB_t5 55 rfl rfl
theorem wt5_56 : (Jvm.Cond.instanceMethod ({ cls := "NeedleHomes$Hand", name := "canDo", desc := "(II)I" } : Jvm.MethodName)) ∈ TB := TB_t5 56 rfl rfl
theorem wt5_57 : (Jvm.Cond.selects "NeedleHomes$Hand" ({ cls := "NeedleHomes$Hand", name := "canDo", desc := "(II)I" } : Jvm.MethodName) ({ cls := "NeedleHomes$Hand", name := "canDo", desc := "(II)I" } : Jvm.MethodName)) ∈ TB := TB_t5 57 rfl rfl
theorem wt5_58 : (Jvm.Cond.code ({ cls := "NeedleHomes$Hand", name := "canDo", desc := "(II)I" } : Jvm.MethodName) prog_4_method_6_code (5 : Nat) (Option.some Jvm.ClassFile.FieldType.int)) ∈ TB := TB_t5 58 rfl rfl
theorem wt5_59 : (Jvm.Cond.methodLink "NeedleHomes$Hand" (58 : Nat) ({ cls := "java/lang/Math", name := "max", desc := "(II)I" } : Jvm.MethodName)) ∈ TB := TB_t5 59 rfl rfl
theorem wt5_60 : (Jvm.Cond.methodLink "NeedleHomes$Parting" (56 : Nat) ({ cls := "NeedleHomes$Parting", name := "fewestFor", desc := "(I)I" } : Jvm.MethodName)) ∈ TB := TB_t5 60 rfl rfl
theorem wt5_62 : (Jvm.Cond.instanceMethod ({ cls := "NeedleHomes$Parting", name := "fewestFor", desc := "(I)I" } : Jvm.MethodName)) ∈ TB := TB_t5 62 rfl rfl
theorem wt5_63 : (Jvm.Cond.code ({ cls := "NeedleHomes$Parting", name := "fewestFor", desc := "(I)I" } : Jvm.MethodName) prog_6_method_4_code (7 : Nat) (Option.some Jvm.ClassFile.FieldType.int)) ∈ TB := TB_t5 63 rfl rfl
theorem wt5_64 : (Jvm.Cond.methodLink "NeedleHomes$Parting" (74 : Nat) ({ cls := "NeedleHomes$Parting", name := "isInSet", desc := "(II)Z" } : Jvm.MethodName)) ∈ TB := TB_t5 64 rfl rfl
theorem wt5_65 : (Jvm.Cond.static ({ cls := "NeedleHomes$Parting", name := "isInSet", desc := "(II)Z" } : Jvm.MethodName)) ∈ TB := TB_t5 65 rfl rfl
theorem wt5_66 : (Jvm.Cond.code ({ cls := "NeedleHomes$Parting", name := "isInSet", desc := "(II)Z" } : Jvm.MethodName) prog_6_method_9_code (2 : Nat) (Option.some Jvm.ClassFile.FieldType.boolean)) ∈ TB := TB_t5 66 rfl rfl
theorem wt5_67 : (Jvm.Cond.methodLink "NeedleHomes$Parting" (63 : Nat) ({ cls := "NeedleHomes$Parting", name := "chooseSet", desc := "(I)V" } : Jvm.MethodName)) ∈ TB := TB_t5 67 rfl rfl
theorem wt5_69 : (Jvm.Cond.instanceMethod ({ cls := "NeedleHomes$Parting", name := "chooseSet", desc := "(I)V" } : Jvm.MethodName)) ∈ TB := TB_t5 69 rfl rfl
theorem wt5_70 : (Jvm.Cond.code ({ cls := "NeedleHomes$Parting", name := "chooseSet", desc := "(I)V" } : Jvm.MethodName) prog_6_method_5_code (4 : Nat) (Option.none : Option Jvm.ClassFile.FieldType)) ∈ TB := TB_t5 70 rfl rfl
theorem wt5_71 : (Jvm.Cond.methodLink "NeedleHomes$Parting" (84 : Nat) ({ cls := "java/lang/Integer", name := "bitCount", desc := "(I)I" } : Jvm.MethodName)) ∈ TB := TB_t5 71 rfl rfl
theorem wt5_72 : (Jvm.Cond.static ({ cls := "java/lang/Integer", name := "bitCount", desc := "(I)I" } : Jvm.MethodName)) ∈ TB := TB_t5 72 rfl rfl
theorem wt5_73 : (Jvm.Cond.code ({ cls := "java/lang/Integer", name := "bitCount", desc := "(I)I" } : Jvm.MethodName) prog_16_method_49_code (1 : Nat) (Option.some Jvm.ClassFile.FieldType.int)) ∈ TB := TB_t5 73 rfl rfl
theorem wt5_74 : (Jvm.Cond.constant "java/lang/Integer" (265 : Nat) (1431655765 : Int32)) ∈ TB := TB_t5 74 rfl rfl
theorem wt5_75 : (Jvm.Cond.constant "java/lang/Integer" (266 : Nat) (858993459 : Int32)) ∈ TB := TB_t5 75 rfl rfl
theorem wt5_76 : (Jvm.Cond.constant "java/lang/Integer" (267 : Nat) (252645135 : Int32)) ∈ TB := TB_t5 76 rfl rfl
theorem wt5_77 : (Jvm.Cond.methodLink "NeedleHomes$Parting" (89 : Nat) ({ cls := "NeedleHomes$Parting", name := "allows", desc := "(II)Z" } : Jvm.MethodName)) ∈ TB := TB_t5 77 rfl rfl
theorem wt5_79 : (Jvm.Cond.instanceMethod ({ cls := "NeedleHomes$Parting", name := "allows", desc := "(II)Z" } : Jvm.MethodName)) ∈ TB := TB_t5 79 rfl rfl
theorem wt5_80 : (Jvm.Cond.code ({ cls := "NeedleHomes$Parting", name := "allows", desc := "(II)Z" } : Jvm.MethodName) prog_6_method_6_code (5 : Nat) (Option.some Jvm.ClassFile.FieldType.boolean)) ∈ TB := TB_t5 80 rfl rfl
theorem wt5_81 : (Jvm.Cond.methodLink "NeedleHomes$Parting" (92 : Nat) ({ cls := "NeedleHomes$Parting", name := "spreadOf", desc := "(I)I" } : Jvm.MethodName)) ∈ TB := TB_t5 81 rfl rfl
theorem wt5_83 : (Jvm.Cond.instanceMethod ({ cls := "NeedleHomes$Parting", name := "spreadOf", desc := "(I)I" } : Jvm.MethodName)) ∈ TB := TB_t5 83 rfl rfl
theorem wt5_84 : (Jvm.Cond.code ({ cls := "NeedleHomes$Parting", name := "spreadOf", desc := "(I)I" } : Jvm.MethodName) prog_6_method_7_code (5 : Nat) (Option.some Jvm.ClassFile.FieldType.int)) ∈ TB := TB_t5 84 rfl rfl
theorem wt5_85 : (Jvm.Cond.methodLink "NeedleHomes$Parting" (95 : Nat) ({ cls := "java/lang/Math", name := "max", desc := "(II)I" } : Jvm.MethodName)) ∈ TB := TB_t5 85 rfl rfl
theorem wt5_86 : (Jvm.Cond.methodLink "NeedleHomes$Parting" (67 : Nat) ({ cls := "NeedleHomes$Parting", name := "shareOut", desc := "(I)V" } : Jvm.MethodName)) ∈ TB := TB_t5 86 rfl rfl
theorem wt5_88 : (Jvm.Cond.instanceMethod ({ cls := "NeedleHomes$Parting", name := "shareOut", desc := "(I)V" } : Jvm.MethodName)) ∈ TB := TB_t5 88 rfl rfl
theorem wt5_89 : (Jvm.Cond.code ({ cls := "NeedleHomes$Parting", name := "shareOut", desc := "(I)V" } : Jvm.MethodName) prog_6_method_8_code (5 : Nat) (Option.none : Option Jvm.ClassFile.FieldType)) ∈ TB := TB_t5 89 rfl rfl
theorem wt5_9 : (Jvm.Cond.code ({ cls := "NeedleHomes", name := "piece", desc := "(II)I" } : Jvm.MethodName) prog_1_method_19_code (4 : Nat) (Option.some Jvm.ClassFile.FieldType.int)) ∈ TB := TB_t5 9 rfl rfl
theorem wt5_93 : (Jvm.Cond.code ({ cls := "NeedleHomes", name := "parted", desc := "(IIII)I" } : Jvm.MethodName) prog_1_method_26_code (5 : Nat) (Option.some Jvm.ClassFile.FieldType.int)) ∈ TB := TB_t5 93 rfl rfl
theorem wt5_94 : (Jvm.Cond.methodLink "NeedleHomes" (321 : Nat) ({ cls := "NeedleHomes$Parting", name := "shareOf", desc := "(I)I" } : Jvm.MethodName)) ∈ TB := TB_t5 94 rfl rfl
theorem wt5_95 : (Jvm.Cond.instanceMethod ({ cls := "NeedleHomes$Parting", name := "shareOf", desc := "(I)I" } : Jvm.MethodName)) ∈ TB := TB_t5 95 rfl rfl
theorem wt5_96 : (Jvm.Cond.selects "NeedleHomes$Parting" ({ cls := "NeedleHomes$Parting", name := "shareOf", desc := "(I)I" } : Jvm.MethodName) ({ cls := "NeedleHomes$Parting", name := "shareOf", desc := "(I)I" } : Jvm.MethodName)) ∈ TB := TB_t5 96 rfl rfl
theorem wt5_97 : (Jvm.Cond.code ({ cls := "NeedleHomes$Parting", name := "shareOf", desc := "(I)I" } : Jvm.MethodName) prog_6_method_3_code (2 : Nat) (Option.some Jvm.ClassFile.FieldType.int)) ∈ TB := TB_t5 97 rfl rfl
theorem wt6_10 : (Jvm.Cond.fieldLink "NeedleHomesModel" (110 : Nat) "NeedleHomesModel" "number" "I") ∈ TB := TB_t6 10 rfl rfl
theorem wt6_11 : (Jvm.Cond.fieldLink "NeedleHomesModel" (113 : Nat) "NeedleHomesModel" "sign" "I") ∈ TB := TB_t6 11 rfl rfl
theorem wt6_119 : (Jvm.Cond.arrayClass Jvm.ClassFile.FieldType.boolean) ∈ TB := TB_t6 119 rfl rfl
theorem wt6_12 : (Jvm.Cond.fieldLink "NeedleHomesModel" (104 : Nat) "NeedleHomesModel" "word" "I") ∈ TB := TB_t6 12 rfl rfl
theorem wt6_120 : (Jvm.Cond.arrayClass Jvm.ClassFile.FieldType.long) ∈ TB := TB_t6 120 rfl rfl
theorem wt6_124 : (Jvm.Cond.code ({ cls := "NeedleHomesModel", name := "feed", desc := "(IIIII)I" } : Jvm.MethodName) prog_14_method_8_code (8 : Nat) (Option.some Jvm.ClassFile.FieldType.int)) ∈ TB := TB_t6 124 rfl rfl
theorem wt6_128 : (Jvm.Cond.code ({ cls := "NeedleHomesModel", name := "end", desc := "(I)I" } : Jvm.MethodName) prog_14_method_9_code (2 : Nat) (Option.some Jvm.ClassFile.FieldType.int)) ∈ TB := TB_t6 128 rfl rfl
theorem wt6_13 : (Jvm.Cond.fieldLink "NeedleHomesModel" (119 : Nat) "NeedleHomesModel" "wrong" "Z") ∈ TB := TB_t6 13 rfl rfl
theorem wt6_132 : (Jvm.Cond.code ({ cls := "NeedleHomesModel", name := "pattern", desc := "(II)I" } : Jvm.MethodName) prog_14_method_32_code (7 : Nat) (Option.some Jvm.ClassFile.FieldType.int)) ∈ TB := TB_t6 132 rfl rfl
theorem wt6_133 : (Jvm.Cond.methodLink "NeedleHomesModel" (169 : Nat) ({ cls := "NeedleHomesModel", name := "begins", desc := "()V" } : Jvm.MethodName)) ∈ TB := TB_t6 133 rfl rfl
theorem wt6_135 : (Jvm.Cond.instanceMethod ({ cls := "NeedleHomesModel", name := "begins", desc := "()V" } : Jvm.MethodName)) ∈ TB := TB_t6 135 rfl rfl
theorem wt6_136 : (Jvm.Cond.code ({ cls := "NeedleHomesModel", name := "begins", desc := "()V" } : Jvm.MethodName) prog_14_method_25_code (1 : Nat) (Option.none : Option Jvm.ClassFile.FieldType)) ∈ TB := TB_t6 136 rfl rfl
theorem wt6_137 : (Jvm.Cond.methodLink "NeedleHomesModel" (51 : Nat) ({ cls := "NeedleHomesModel", name := "isIn", desc := "(III)Z" } : Jvm.MethodName)) ∈ TB := TB_t6 137 rfl rfl
theorem wt6_138 : (Jvm.Cond.static ({ cls := "NeedleHomesModel", name := "isIn", desc := "(III)Z" } : Jvm.MethodName)) ∈ TB := TB_t6 138 rfl rfl
theorem wt6_139 : (Jvm.Cond.code ({ cls := "NeedleHomesModel", name := "isIn", desc := "(III)Z" } : Jvm.MethodName) prog_14_method_2_code (3 : Nat) (Option.some Jvm.ClassFile.FieldType.boolean)) ∈ TB := TB_t6 139 rfl rfl
theorem wt6_14 : (Jvm.Cond.fieldLink "NeedleHomesModel" (17 : Nat) "NeedleHomesModel" "plain" "[J") ∈ TB := TB_t6 14 rfl rfl
theorem wt6_140 : (Jvm.Cond.constant "NeedleHomesModel" (172 : Nat) (16777215 : Int32)) ∈ TB := TB_t6 140 rfl rfl
theorem wt6_141 : (Jvm.Cond.methodLink "NeedleHomesModel" (160 : Nat) ({ cls := "NeedleHomesModel", name := "opens", desc := "(I)V" } : Jvm.MethodName)) ∈ TB := TB_t6 141 rfl rfl
theorem wt6_143 : (Jvm.Cond.instanceMethod ({ cls := "NeedleHomesModel", name := "opens", desc := "(I)V" } : Jvm.MethodName)) ∈ TB := TB_t6 143 rfl rfl
theorem wt6_144 : (Jvm.Cond.code ({ cls := "NeedleHomesModel", name := "opens", desc := "(I)V" } : Jvm.MethodName) prog_14_method_27_code (3 : Nat) (Option.none : Option Jvm.ClassFile.FieldType)) ∈ TB := TB_t6 144 rfl rfl
theorem wt6_145 : (Jvm.Cond.methodLink "NeedleHomesModel" (123 : Nat) ({ cls := "NeedleHomesModel", name := "step", desc := "()V" } : Jvm.MethodName)) ∈ TB := TB_t6 145 rfl rfl
theorem wt6_147 : (Jvm.Cond.instanceMethod ({ cls := "NeedleHomesModel", name := "step", desc := "()V" } : Jvm.MethodName)) ∈ TB := TB_t6 147 rfl rfl
theorem wt6_148 : (Jvm.Cond.code ({ cls := "NeedleHomesModel", name := "step", desc := "()V" } : Jvm.MethodName) prog_14_method_18_code (4 : Nat) (Option.none : Option Jvm.ClassFile.FieldType)) ∈ TB := TB_t6 148 rfl rfl
theorem wt6_149 : (Jvm.Cond.methodLink "NeedleHomesModel" (86 : Nat) ({ cls := "NeedleHomesModel", name := "byteAt", desc := "(I)I" } : Jvm.MethodName)) ∈ TB := TB_t6 149 rfl rfl
theorem wt6_15 : (Jvm.Cond.fieldLink "NeedleHomesModel" (21 : Nat) "NeedleHomesModel" "dyed" "[J") ∈ TB := TB_t6 15 rfl rfl
theorem wt6_151 : (Jvm.Cond.instanceMethod ({ cls := "NeedleHomesModel", name := "byteAt", desc := "(I)I" } : Jvm.MethodName)) ∈ TB := TB_t6 151 rfl rfl
theorem wt6_152 : (Jvm.Cond.code ({ cls := "NeedleHomesModel", name := "byteAt", desc := "(I)I" } : Jvm.MethodName) prog_14_method_10_code (2 : Nat) (Option.some Jvm.ClassFile.FieldType.int)) ∈ TB := TB_t6 152 rfl rfl
theorem wt6_153 : (Jvm.Cond.methodLink "NeedleHomesModel" (96 : Nat) ({ cls := "NeedleHomesModel", name := "isLetter", desc := "(I)Z" } : Jvm.MethodName)) ∈ TB := TB_t6 153 rfl rfl
theorem wt6_154 : (Jvm.Cond.static ({ cls := "NeedleHomesModel", name := "isLetter", desc := "(I)Z" } : Jvm.MethodName)) ∈ TB := TB_t6 154 rfl rfl
theorem wt6_155 : (Jvm.Cond.code ({ cls := "NeedleHomesModel", name := "isLetter", desc := "(I)Z" } : Jvm.MethodName) prog_14_method_11_code (1 : Nat) (Option.some Jvm.ClassFile.FieldType.boolean)) ∈ TB := TB_t6 155 rfl rfl
theorem wt6_156 : (Jvm.Cond.constantLong "NeedleHomesModel" (59 : Nat) (32 : Int64)) ∈ TB := TB_t6 156 rfl rfl
theorem wt6_157 : (Jvm.Cond.constantLong "NeedleHomesModel" (61 : Nat) (96 : Int64)) ∈ TB := TB_t6 157 rfl rfl
theorem wt6_158 : (Jvm.Cond.methodLink "NeedleHomesModel" (100 : Nat) ({ cls := "NeedleHomesModel", name := "wordOf", desc := "(J)I" } : Jvm.MethodName)) ∈ TB := TB_t6 158 rfl rfl
theorem wt6_159 : (Jvm.Cond.static ({ cls := "NeedleHomesModel", name := "wordOf", desc := "(J)I" } : Jvm.MethodName)) ∈ TB := TB_t6 159 rfl rfl
theorem wt6_16 : (Jvm.Cond.fieldLink "NeedleHomesModel" (24 : Nat) "NeedleHomesModel" "hue" "[I") ∈ TB := TB_t6 16 rfl rfl
theorem wt6_160 : (Jvm.Cond.code ({ cls := "NeedleHomesModel", name := "wordOf", desc := "(J)I" } : Jvm.MethodName) prog_14_method_16_code (2 : Nat) (Option.some Jvm.ClassFile.FieldType.int)) ∈ TB := TB_t6 160 rfl rfl
theorem wt6_161 : (Jvm.Cond.methodLink "NeedleHomesModel" (69 : Nat) ({ cls := "NeedleHomesModel", name := "four", desc := "(IIII)J" } : Jvm.MethodName)) ∈ TB := TB_t6 161 rfl rfl
theorem wt6_162 : (Jvm.Cond.static ({ cls := "NeedleHomesModel", name := "four", desc := "(IIII)J" } : Jvm.MethodName)) ∈ TB := TB_t6 162 rfl rfl
theorem wt6_163 : (Jvm.Cond.code ({ cls := "NeedleHomesModel", name := "four", desc := "(IIII)J" } : Jvm.MethodName) prog_14_method_14_code (4 : Nat) (Option.some Jvm.ClassFile.FieldType.long)) ∈ TB := TB_t6 163 rfl rfl
theorem wt6_164 : (Jvm.Cond.methodLink "NeedleHomesModel" (63 : Nat) ({ cls := "NeedleHomesModel", name := "three", desc := "(III)J" } : Jvm.MethodName)) ∈ TB := TB_t6 164 rfl rfl
theorem wt6_165 : (Jvm.Cond.static ({ cls := "NeedleHomesModel", name := "three", desc := "(III)J" } : Jvm.MethodName)) ∈ TB := TB_t6 165 rfl rfl
theorem wt6_166 : (Jvm.Cond.code ({ cls := "NeedleHomesModel", name := "three", desc := "(III)J" } : Jvm.MethodName) prog_14_method_13_code (3 : Nat) (Option.some Jvm.ClassFile.FieldType.long)) ∈ TB := TB_t6 166 rfl rfl
theorem wt6_167 : (Jvm.Cond.methodLink "NeedleHomesModel" (73 : Nat) ({ cls := "NeedleHomesModel", name := "six", desc := "(JJ)J" } : Jvm.MethodName)) ∈ TB := TB_t6 167 rfl rfl
theorem wt6_168 : (Jvm.Cond.static ({ cls := "NeedleHomesModel", name := "six", desc := "(JJ)J" } : Jvm.MethodName)) ∈ TB := TB_t6 168 rfl rfl
theorem wt6_169 : (Jvm.Cond.code ({ cls := "NeedleHomesModel", name := "six", desc := "(JJ)J" } : Jvm.MethodName) prog_14_method_15_code (4 : Nat) (Option.some Jvm.ClassFile.FieldType.long)) ∈ TB := TB_t6 169 rfl rfl
theorem wt6_17 : (Jvm.Cond.fieldLink "NeedleHomesModel" (27 : Nat) "NeedleHomesModel" "times" "[I") ∈ TB := TB_t6 17 rfl rfl
theorem wt6_170 : (Jvm.Cond.constantLong "NeedleHomesModel" (67 : Nat) (32768 : Int64)) ∈ TB := TB_t6 170 rfl rfl
theorem wt6_171 : (Jvm.Cond.constantLong "NeedleHomesModel" (77 : Nat) (108 : Int64)) ∈ TB := TB_t6 171 rfl rfl
theorem wt6_172 : (Jvm.Cond.constantLong "NeedleHomesModel" (79 : Nat) (115 : Int64)) ∈ TB := TB_t6 172 rfl rfl
theorem wt6_173 : (Jvm.Cond.constantLong "NeedleHomesModel" (81 : Nat) (294 : Int64)) ∈ TB := TB_t6 173 rfl rfl
theorem wt6_174 : (Jvm.Cond.methodLink "NeedleHomesModel" (107 : Nat) ({ cls := "NeedleHomesModel", name := "isDigit", desc := "(I)Z" } : Jvm.MethodName)) ∈ TB := TB_t6 174 rfl rfl
theorem wt6_175 : (Jvm.Cond.static ({ cls := "NeedleHomesModel", name := "isDigit", desc := "(I)Z" } : Jvm.MethodName)) ∈ TB := TB_t6 175 rfl rfl
theorem wt6_176 : (Jvm.Cond.code ({ cls := "NeedleHomesModel", name := "isDigit", desc := "(I)Z" } : Jvm.MethodName) prog_14_method_12_code (1 : Nat) (Option.some Jvm.ClassFile.FieldType.boolean)) ∈ TB := TB_t6 176 rfl rfl
theorem wt6_177 : (Jvm.Cond.methodLink "NeedleHomesModel" (116 : Nat) ({ cls := "NeedleHomesModel", name := "isSignByte", desc := "(I)Z" } : Jvm.MethodName)) ∈ TB := TB_t6 177 rfl rfl
theorem wt6_178 : (Jvm.Cond.static ({ cls := "NeedleHomesModel", name := "isSignByte", desc := "(I)Z" } : Jvm.MethodName)) ∈ TB := TB_t6 178 rfl rfl
theorem wt6_179 : (Jvm.Cond.code ({ cls := "NeedleHomesModel", name := "isSignByte", desc := "(I)Z" } : Jvm.MethodName) prog_14_method_17_code (1 : Nat) (Option.some Jvm.ClassFile.FieldType.boolean)) ∈ TB := TB_t6 179 rfl rfl
theorem wt6_18 : (Jvm.Cond.fieldLink "NeedleHomesModel" (134 : Nat) "NeedleHomesModel" "depth" "I") ∈ TB := TB_t6 18 rfl rfl
theorem wt6_180 : (Jvm.Cond.methodLink "NeedleHomesModel" (173 : Nat) ({ cls := "NeedleHomesModel", name := "items", desc := "()V" } : Jvm.MethodName)) ∈ TB := TB_t6 180 rfl rfl
theorem wt6_182 : (Jvm.Cond.instanceMethod ({ cls := "NeedleHomesModel", name := "items", desc := "()V" } : Jvm.MethodName)) ∈ TB := TB_t6 182 rfl rfl
theorem wt6_183 : (Jvm.Cond.code ({ cls := "NeedleHomesModel", name := "items", desc := "()V" } : Jvm.MethodName) prog_14_method_31_code (1 : Nat) (Option.none : Option Jvm.ClassFile.FieldType)) ∈ TB := TB_t6 183 rfl rfl
theorem wt6_184 : (Jvm.Cond.methodLink "NeedleHomesModel" (126 : Nat) ({ cls := "NeedleHomesModel", name := "isSign", desc := "(I)Z" } : Jvm.MethodName)) ∈ TB := TB_t6 184 rfl rfl
theorem wt6_186 : (Jvm.Cond.instanceMethod ({ cls := "NeedleHomesModel", name := "isSign", desc := "(I)Z" } : Jvm.MethodName)) ∈ TB := TB_t6 186 rfl rfl
theorem wt6_187 : (Jvm.Cond.code ({ cls := "NeedleHomesModel", name := "isSign", desc := "(I)Z" } : Jvm.MethodName) prog_14_method_21_code (2 : Nat) (Option.some Jvm.ClassFile.FieldType.boolean)) ∈ TB := TB_t6 187 rfl rfl
theorem wt6_188 : (Jvm.Cond.methodLink "NeedleHomesModel" (163 : Nat) ({ cls := "NeedleHomesModel", name := "anItem", desc := "()V" } : Jvm.MethodName)) ∈ TB := TB_t6 188 rfl rfl
theorem wt6_19 : (Jvm.Cond.fieldLink "NeedleHomesModel" (189 : Nat) "NeedleHomesModel" "lines" "I") ∈ TB := TB_t6 19 rfl rfl
theorem wt6_190 : (Jvm.Cond.instanceMethod ({ cls := "NeedleHomesModel", name := "anItem", desc := "()V" } : Jvm.MethodName)) ∈ TB := TB_t6 190 rfl rfl
theorem wt6_191 : (Jvm.Cond.code ({ cls := "NeedleHomesModel", name := "anItem", desc := "()V" } : Jvm.MethodName) prog_14_method_30_code (4 : Nat) (Option.none : Option Jvm.ClassFile.FieldType)) ∈ TB := TB_t6 191 rfl rfl
theorem wt6_192 : (Jvm.Cond.methodLink "NeedleHomesModel" (145 : Nat) ({ cls := "NeedleHomesModel", name := "numbered", desc := "()I" } : Jvm.MethodName)) ∈ TB := TB_t6 192 rfl rfl
theorem wt6_194 : (Jvm.Cond.instanceMethod ({ cls := "NeedleHomesModel", name := "numbered", desc := "()I" } : Jvm.MethodName)) ∈ TB := TB_t6 194 rfl rfl
theorem wt6_195 : (Jvm.Cond.code ({ cls := "NeedleHomesModel", name := "numbered", desc := "()I" } : Jvm.MethodName) prog_14_method_24_code (2 : Nat) (Option.some Jvm.ClassFile.FieldType.int)) ∈ TB := TB_t6 195 rfl rfl
theorem wt6_196 : (Jvm.Cond.methodLink "NeedleHomesModel" (129 : Nat) ({ cls := "NeedleHomesModel", name := "stops", desc := "()V" } : Jvm.MethodName)) ∈ TB := TB_t6 196 rfl rfl
theorem wt6_198 : (Jvm.Cond.instanceMethod ({ cls := "NeedleHomesModel", name := "stops", desc := "()V" } : Jvm.MethodName)) ∈ TB := TB_t6 198 rfl rfl
theorem wt6_199 : (Jvm.Cond.code ({ cls := "NeedleHomesModel", name := "stops", desc := "()V" } : Jvm.MethodName) prog_14_method_19_code (1 : Nat) (Option.none : Option Jvm.ClassFile.FieldType)) ∈ TB := TB_t6 199 rfl rfl
theorem wt6_2 : (Jvm.Cond.code ({ cls := "NeedleHomesModel", name := "<init>", desc := "()V" } : Jvm.MethodName) prog_14_method_1_code (2 : Nat) (Option.none : Option Jvm.ClassFile.FieldType)) ∈ TB := TB_t6 2 rfl rfl
theorem wt6_20 : (Jvm.Cond.fieldLink "NeedleHomesModel" (30 : Nat) "NeedleHomesModel" "read" "[I") ∈ TB := TB_t6 20 rfl rfl
theorem wt6_200 : (Jvm.Cond.methodLink "NeedleHomesModel" (141 : Nat) ({ cls := "NeedleHomesModel", name := "sews", desc := "(IIJ)V" } : Jvm.MethodName)) ∈ TB := TB_t6 200 rfl rfl
theorem wt6_202 : (Jvm.Cond.instanceMethod ({ cls := "NeedleHomesModel", name := "sews", desc := "(IIJ)V" } : Jvm.MethodName)) ∈ TB := TB_t6 202 rfl rfl
theorem wt6_203 : (Jvm.Cond.code ({ cls := "NeedleHomesModel", name := "sews", desc := "(IIJ)V" } : Jvm.MethodName) prog_14_method_28_code (5 : Nat) (Option.none : Option Jvm.ClassFile.FieldType)) ∈ TB := TB_t6 203 rfl rfl
theorem wt6_204 : (Jvm.Cond.methodLink "NeedleHomesModel" (137 : Nat) ({ cls := "NeedleHomesModel", name := "least", desc := "(J)J" } : Jvm.MethodName)) ∈ TB := TB_t6 204 rfl rfl
theorem wt6_205 : (Jvm.Cond.static ({ cls := "NeedleHomesModel", name := "least", desc := "(J)J" } : Jvm.MethodName)) ∈ TB := TB_t6 205 rfl rfl
theorem wt6_206 : (Jvm.Cond.code ({ cls := "NeedleHomesModel", name := "least", desc := "(J)J" } : Jvm.MethodName) prog_14_method_26_code (2 : Nat) (Option.some Jvm.ClassFile.FieldType.long)) ∈ TB := TB_t6 206 rfl rfl
theorem wt6_207 : (Jvm.Cond.constantLong "NeedleHomesModel" (132 : Nat) (2000000 : Int64)) ∈ TB := TB_t6 207 rfl rfl
theorem wt6_208 : (Jvm.Cond.methodLink "NeedleHomesModel" (149 : Nat) ({ cls := "NeedleHomesModel", name := "takes", desc := "(I)Z" } : Jvm.MethodName)) ∈ TB := TB_t6 208 rfl rfl
theorem wt6_21 : (Jvm.Cond.fieldLink "NeedleHomesModel" (33 : Nat) "NeedleHomesModel" "test" "[I") ∈ TB := TB_t6 21 rfl rfl
theorem wt6_210 : (Jvm.Cond.instanceMethod ({ cls := "NeedleHomesModel", name := "takes", desc := "(I)Z" } : Jvm.MethodName)) ∈ TB := TB_t6 210 rfl rfl
theorem wt6_211 : (Jvm.Cond.code ({ cls := "NeedleHomesModel", name := "takes", desc := "(I)Z" } : Jvm.MethodName) prog_14_method_22_code (2 : Nat) (Option.some Jvm.ClassFile.FieldType.boolean)) ∈ TB := TB_t6 211 rfl rfl
theorem wt6_212 : (Jvm.Cond.methodLink "NeedleHomesModel" (152 : Nat) ({ cls := "NeedleHomesModel", name := "also", desc := "(II)V" } : Jvm.MethodName)) ∈ TB := TB_t6 212 rfl rfl
theorem wt6_214 : (Jvm.Cond.instanceMethod ({ cls := "NeedleHomesModel", name := "also", desc := "(II)V" } : Jvm.MethodName)) ∈ TB := TB_t6 214 rfl rfl
theorem wt6_215 : (Jvm.Cond.code ({ cls := "NeedleHomesModel", name := "also", desc := "(II)V" } : Jvm.MethodName) prog_14_method_20_code (3 : Nat) (Option.none : Option Jvm.ClassFile.FieldType)) ∈ TB := TB_t6 215 rfl rfl
theorem wt6_216 : (Jvm.Cond.methodLink "NeedleHomesModel" (156 : Nat) ({ cls := "NeedleHomesModel", name := "must", desc := "(I)V" } : Jvm.MethodName)) ∈ TB := TB_t6 216 rfl rfl
theorem wt6_218 : (Jvm.Cond.instanceMethod ({ cls := "NeedleHomesModel", name := "must", desc := "(I)V" } : Jvm.MethodName)) ∈ TB := TB_t6 218 rfl rfl
theorem wt6_219 : (Jvm.Cond.code ({ cls := "NeedleHomesModel", name := "must", desc := "(I)V" } : Jvm.MethodName) prog_14_method_23_code (2 : Nat) (Option.none : Option Jvm.ClassFile.FieldType)) ∈ TB := TB_t6 219 rfl rfl
theorem wt6_22 : (Jvm.Cond.fieldLink "NeedleHomesModel" (229 : Nat) "NeedleHomesModel" "askStitch" "I") ∈ TB := TB_t6 22 rfl rfl
theorem wt6_220 : (Jvm.Cond.methodLink "NeedleHomesModel" (166 : Nat) ({ cls := "NeedleHomesModel", name := "closes", desc := "()V" } : Jvm.MethodName)) ∈ TB := TB_t6 220 rfl rfl
theorem wt6_222 : (Jvm.Cond.instanceMethod ({ cls := "NeedleHomesModel", name := "closes", desc := "()V" } : Jvm.MethodName)) ∈ TB := TB_t6 222 rfl rfl
theorem wt6_223 : (Jvm.Cond.code ({ cls := "NeedleHomesModel", name := "closes", desc := "()V" } : Jvm.MethodName) prog_14_method_29_code (10 : Nat) (Option.none : Option Jvm.ClassFile.FieldType)) ∈ TB := TB_t6 223 rfl rfl
theorem wt6_224 : (Jvm.Cond.constantLong "NeedleHomesModel" (176 : Nat) (1000000 : Int64)) ∈ TB := TB_t6 224 rfl rfl
theorem wt6_228 : (Jvm.Cond.code ({ cls := "NeedleHomesModel", name := "fault", desc := "(I)I" } : Jvm.MethodName) prog_14_method_33_code (2 : Nat) (Option.some Jvm.ClassFile.FieldType.int)) ∈ TB := TB_t6 228 rfl rfl
theorem wt6_23 : (Jvm.Cond.fieldLink "NeedleHomesModel" (232 : Nat) "NeedleHomesModel" "askColour" "I") ∈ TB := TB_t6 23 rfl rfl
theorem wt6_232 : (Jvm.Cond.code ({ cls := "NeedleHomesModel", name := "stitches", desc := "(III)I" } : Jvm.MethodName) prog_14_method_34_code (4 : Nat) (Option.some Jvm.ClassFile.FieldType.int)) ∈ TB := TB_t6 232 rfl rfl
theorem wt6_233 : (Jvm.Cond.methodLink "NeedleHomesModel" (178 : Nat) ({ cls := "NeedleHomesModel", name := "isOf", desc := "(II)Z" } : Jvm.MethodName)) ∈ TB := TB_t6 233 rfl rfl
theorem wt6_235 : (Jvm.Cond.instanceMethod ({ cls := "NeedleHomesModel", name := "isOf", desc := "(II)Z" } : Jvm.MethodName)) ∈ TB := TB_t6 235 rfl rfl
theorem wt6_236 : (Jvm.Cond.code ({ cls := "NeedleHomesModel", name := "isOf", desc := "(II)Z" } : Jvm.MethodName) prog_14_method_3_code (3 : Nat) (Option.some Jvm.ClassFile.FieldType.boolean)) ∈ TB := TB_t6 236 rfl rfl
theorem wt6_237 : (Jvm.Cond.methodLink "NeedleHomesModel" (182 : Nat) ({ cls := "NeedleHomesModel", name := "patternOf", desc := "(II)I" } : Jvm.MethodName)) ∈ TB := TB_t6 237 rfl rfl
theorem wt6_239 : (Jvm.Cond.instanceMethod ({ cls := "NeedleHomesModel", name := "patternOf", desc := "(II)I" } : Jvm.MethodName)) ∈ TB := TB_t6 239 rfl rfl
theorem wt6_24 : (Jvm.Cond.fieldLink "NeedleHomesModel" (205 : Nat) "NeedleHomesModel" "askGround" "I") ∈ TB := TB_t6 24 rfl rfl
theorem wt6_25 : (Jvm.Cond.fieldLink "NeedleHomesModel" (208 : Nat) "NeedleHomesModel" "askSize" "I") ∈ TB := TB_t6 25 rfl rfl
theorem wt6_26 : (Jvm.Cond.fieldLink "NeedleHomesModel" (214 : Nat) "NeedleHomesModel" "askSkill" "I") ∈ TB := TB_t6 26 rfl rfl
theorem wt6_27 : (Jvm.Cond.fieldLink "NeedleHomesModel" (217 : Nat) "NeedleHomesModel" "askSpots" "I") ∈ TB := TB_t6 27 rfl rfl
theorem wt6_28 : (Jvm.Cond.fieldLink "NeedleHomesModel" (220 : Nat) "NeedleHomesModel" "askWeek" "I") ∈ TB := TB_t6 28 rfl rfl
theorem wt6_29 : (Jvm.Cond.fieldLink "NeedleHomesModel" (226 : Nat) "NeedleHomesModel" "askHay" "I") ∈ TB := TB_t6 29 rfl rfl
theorem wt6_3 : (Jvm.Cond.methodLink "NeedleHomesModel" (1 : Nat) ({ cls := "java/lang/Object", name := "<init>", desc := "()V" } : Jvm.MethodName)) ∈ TB := TB_t6 3 rfl rfl
theorem wt6_30 : (Jvm.Cond.fieldLink "NeedleHomesModel" (259 : Nat) "NeedleHomesModel" "thread" "I") ∈ TB := TB_t6 30 rfl rfl
theorem wt6_31 : (Jvm.Cond.fieldLink "NeedleHomesModel" (262 : Nat) "NeedleHomesModel" "earned" "I") ∈ TB := TB_t6 31 rfl rfl
theorem wt6_32 : (Jvm.Cond.fieldLink "NeedleHomesModel" (267 : Nat) "NeedleHomesModel" "due" "I") ∈ TB := TB_t6 32 rfl rfl
theorem wt6_33 : (Jvm.Cond.fieldLink "NeedleHomesModel" (270 : Nat) "NeedleHomesModel" "fine" "I") ∈ TB := TB_t6 33 rfl rfl
theorem wt6_34 : (Jvm.Cond.fieldLink "NeedleHomesModel" (273 : Nat) "NeedleHomesModel" "cut" "I") ∈ TB := TB_t6 34 rfl rfl
theorem wt6_35 : (Jvm.Cond.fieldLink "NeedleHomesModel" (36 : Nat) "NeedleHomesModel" "can" "[I") ∈ TB := TB_t6 35 rfl rfl
theorem wt6_36 : (Jvm.Cond.fieldLink "NeedleHomesModel" (39 : Nat) "NeedleHomesModel" "gets" "[I") ∈ TB := TB_t6 36 rfl rfl
theorem wt6_37 : (Jvm.Cond.fieldLink "NeedleHomesModel" (289 : Nat) "NeedleHomesModel" "set" "I") ∈ TB := TB_t6 37 rfl rfl
theorem wt6_38 : (Jvm.Cond.fieldLink "NeedleHomesModel" (292 : Nat) "NeedleHomesModel" "spread" "I") ∈ TB := TB_t6 38 rfl rfl
theorem wt6_39 : (Jvm.Cond.fieldLink "NeedleHomesModel" (42 : Nat) "NeedleHomesModel" "rates" "[I") ∈ TB := TB_t6 39 rfl rfl
theorem wt6_4 : (Jvm.Cond.fieldLink "NeedleHomesModel" (7 : Nat) "NeedleHomesModel" "all" "[I") ∈ TB := TB_t6 4 rfl rfl
theorem wt6_40 : (Jvm.Cond.fieldLink "NeedleHomesModel" (45 : Nat) "NeedleHomesModel" "fresh" "[I") ∈ TB := TB_t6 40 rfl rfl
theorem wt6_41 : (Jvm.Cond.fieldLink "NeedleHomesModel" (48 : Nat) "NeedleHomesModel" "kept" "[I") ∈ TB := TB_t6 41 rfl rfl
theorem wt6_5 : (Jvm.Cond.fieldLink "NeedleHomesModel" (13 : Nat) "NeedleHomesModel" "has" "[Z") ∈ TB := TB_t6 5 rfl rfl
theorem wt6_6 : (Jvm.Cond.fieldLink "NeedleHomesModel" (55 : Nat) "NeedleHomesModel" "size" "I") ∈ TB := TB_t6 6 rfl rfl
theorem wt6_7 : (Jvm.Cond.fieldLink "NeedleHomesModel" (83 : Nat) "NeedleHomesModel" "next" "I") ∈ TB := TB_t6 7 rfl rfl
theorem wt6_8 : (Jvm.Cond.fieldLink "NeedleHomesModel" (90 : Nat) "NeedleHomesModel" "where" "I") ∈ TB := TB_t6 8 rfl rfl
theorem wt6_9 : (Jvm.Cond.fieldLink "NeedleHomesModel" (93 : Nat) "NeedleHomesModel" "token" "I") ∈ TB := TB_t6 9 rfl rfl
theorem wt7_0 : (Jvm.Cond.code ({ cls := "NeedleHomesModel", name := "patternOf", desc := "(II)I" } : Jvm.MethodName) prog_14_method_4_code (3 : Nat) (Option.some Jvm.ClassFile.FieldType.int)) ∈ TB := TB_t7 0 rfl rfl
theorem wt7_103 : (Jvm.Cond.code ({ cls := "NeedleHomesModel", name := "in", desc := "(III)I" } : Jvm.MethodName) prog_14_method_59_code (8 : Nat) (Option.some Jvm.ClassFile.FieldType.int)) ∈ TB := TB_t7 103 rfl rfl
theorem wt7_104 : (Jvm.Cond.methodLink "NeedleHomesModel" (276 : Nat) ({ cls := "NeedleHomesModel", name := "bills", desc := "(IIII)V" } : Jvm.MethodName)) ∈ TB := TB_t7 104 rfl rfl
theorem wt7_106 : (Jvm.Cond.instanceMethod ({ cls := "NeedleHomesModel", name := "bills", desc := "(IIII)V" } : Jvm.MethodName)) ∈ TB := TB_t7 106 rfl rfl
theorem wt7_107 : (Jvm.Cond.code ({ cls := "NeedleHomesModel", name := "bills", desc := "(IIII)V" } : Jvm.MethodName) prog_14_method_57_code (11 : Nat) (Option.none : Option Jvm.ClassFile.FieldType)) ∈ TB := TB_t7 107 rfl rfl
theorem wt7_108 : (Jvm.Cond.constantLong "NeedleHomesModel" (265 : Nat) (100 : Int64)) ∈ TB := TB_t7 108 rfl rfl
theorem wt7_11 : (Jvm.Cond.code ({ cls := "NeedleHomesModel", name := "list", desc := "(II)I" } : Jvm.MethodName) prog_14_method_40_code (5 : Nat) (Option.some Jvm.ClassFile.FieldType.int)) ∈ TB := TB_t7 11 rfl rfl
theorem wt7_112 : (Jvm.Cond.code ({ cls := "NeedleHomesModel", name := "piece", desc := "(II)I" } : Jvm.MethodName) prog_14_method_60_code (3 : Nat) (Option.some Jvm.ClassFile.FieldType.int)) ∈ TB := TB_t7 112 rfl rfl
theorem wt7_116 : (Jvm.Cond.code ({ cls := "NeedleHomesModel", name := "bill", desc := "(III)I" } : Jvm.MethodName) prog_14_method_61_code (4 : Nat) (Option.some Jvm.ClassFile.FieldType.int)) ∈ TB := TB_t7 116 rfl rfl
theorem wt7_117 : (Jvm.Cond.methodLink "NeedleHomesModel" (279 : Nat) ({ cls := "NeedleHomesModel", name := "billed", desc := "(II)V" } : Jvm.MethodName)) ∈ TB := TB_t7 117 rfl rfl
theorem wt7_119 : (Jvm.Cond.instanceMethod ({ cls := "NeedleHomesModel", name := "billed", desc := "(II)V" } : Jvm.MethodName)) ∈ TB := TB_t7 119 rfl rfl
theorem wt7_12 : (Jvm.Cond.methodLink "NeedleHomesModel" (198 : Nat) ({ cls := "NeedleHomesModel", name := "aLine", desc := "()V" } : Jvm.MethodName)) ∈ TB := TB_t7 12 rfl rfl
theorem wt7_120 : (Jvm.Cond.code ({ cls := "NeedleHomesModel", name := "billed", desc := "(II)V" } : Jvm.MethodName) prog_14_method_58_code (3 : Nat) (Option.none : Option Jvm.ClassFile.FieldType)) ∈ TB := TB_t7 120 rfl rfl
theorem wt7_124 : (Jvm.Cond.code ({ cls := "NeedleHomesModel", name := "wronged", desc := "(II)I" } : Jvm.MethodName) prog_14_method_62_code (4 : Nat) (Option.some Jvm.ClassFile.FieldType.int)) ∈ TB := TB_t7 124 rfl rfl
theorem wt7_125 : (Jvm.Cond.constant "NeedleHomesModel" (282 : Nat) (-1000000000 : Int32)) ∈ TB := TB_t7 125 rfl rfl
theorem wt7_129 : (Jvm.Cond.code ({ cls := "NeedleHomesModel", name := "carried", desc := "(I)I" } : Jvm.MethodName) prog_14_method_63_code (2 : Nat) (Option.some Jvm.ClassFile.FieldType.int)) ∈ TB := TB_t7 129 rfl rfl
theorem wt7_133 : (Jvm.Cond.code ({ cls := "NeedleHomesModel", name := "write", desc := "(IIII)Z" } : Jvm.MethodName) prog_14_method_64_code (5 : Nat) (Option.some Jvm.ClassFile.FieldType.boolean)) ∈ TB := TB_t7 133 rfl rfl
theorem wt7_137 : (Jvm.Cond.code ({ cls := "NeedleHomesModel", name := "differ", desc := "(I)I" } : Jvm.MethodName) prog_14_method_66_code (2 : Nat) (Option.some Jvm.ClassFile.FieldType.int)) ∈ TB := TB_t7 137 rfl rfl
theorem wt7_138 : (Jvm.Cond.methodLink "NeedleHomesModel" (283 : Nat) ({ cls := "NeedleHomesModel", name := "differs", desc := "(I)I" } : Jvm.MethodName)) ∈ TB := TB_t7 138 rfl rfl
theorem wt7_14 : (Jvm.Cond.instanceMethod ({ cls := "NeedleHomesModel", name := "aLine", desc := "()V" } : Jvm.MethodName)) ∈ TB := TB_t7 14 rfl rfl
theorem wt7_140 : (Jvm.Cond.instanceMethod ({ cls := "NeedleHomesModel", name := "differs", desc := "(I)I" } : Jvm.MethodName)) ∈ TB := TB_t7 140 rfl rfl
theorem wt7_141 : (Jvm.Cond.code ({ cls := "NeedleHomesModel", name := "differs", desc := "(I)I" } : Jvm.MethodName) prog_14_method_65_code (6 : Nat) (Option.some Jvm.ClassFile.FieldType.int)) ∈ TB := TB_t7 141 rfl rfl
theorem wt7_145 : (Jvm.Cond.code ({ cls := "NeedleHomesModel", name := "part", desc := "(IIII)I" } : Jvm.MethodName) prog_14_method_71_code (5 : Nat) (Option.some Jvm.ClassFile.FieldType.int)) ∈ TB := TB_t7 145 rfl rfl
theorem wt7_146 : (Jvm.Cond.methodLink "NeedleHomesModel" (301 : Nat) ({ cls := "NeedleHomesModel", name := "parts", desc := "(III)Z" } : Jvm.MethodName)) ∈ TB := TB_t7 146 rfl rfl
theorem wt7_148 : (Jvm.Cond.instanceMethod ({ cls := "NeedleHomesModel", name := "parts", desc := "(III)Z" } : Jvm.MethodName)) ∈ TB := TB_t7 148 rfl rfl
theorem wt7_149 : (Jvm.Cond.code ({ cls := "NeedleHomesModel", name := "parts", desc := "(III)Z" } : Jvm.MethodName) prog_14_method_70_code (7 : Nat) (Option.some Jvm.ClassFile.FieldType.boolean)) ∈ TB := TB_t7 149 rfl rfl
theorem wt7_15 : (Jvm.Cond.code ({ cls := "NeedleHomesModel", name := "aLine", desc := "()V" } : Jvm.MethodName) prog_14_method_39_code (5 : Nat) (Option.none : Option Jvm.ClassFile.FieldType)) ∈ TB := TB_t7 15 rfl rfl
theorem wt7_150 : (Jvm.Cond.methodLink "NeedleHomesModel" (286 : Nat) ({ cls := "NeedleHomesModel", name := "counts", desc := "(II)V" } : Jvm.MethodName)) ∈ TB := TB_t7 150 rfl rfl
theorem wt7_152 : (Jvm.Cond.instanceMethod ({ cls := "NeedleHomesModel", name := "counts", desc := "(II)V" } : Jvm.MethodName)) ∈ TB := TB_t7 152 rfl rfl
theorem wt7_153 : (Jvm.Cond.code ({ cls := "NeedleHomesModel", name := "counts", desc := "(II)V" } : Jvm.MethodName) prog_14_method_67_code (8 : Nat) (Option.none : Option Jvm.ClassFile.FieldType)) ∈ TB := TB_t7 153 rfl rfl
theorem wt7_154 : (Jvm.Cond.methodLink "NeedleHomesModel" (295 : Nat) ({ cls := "NeedleHomesModel", name := "isSet", desc := "(II)Z" } : Jvm.MethodName)) ∈ TB := TB_t7 154 rfl rfl
theorem wt7_156 : (Jvm.Cond.instanceMethod ({ cls := "NeedleHomesModel", name := "isSet", desc := "(II)Z" } : Jvm.MethodName)) ∈ TB := TB_t7 156 rfl rfl
theorem wt7_157 : (Jvm.Cond.code ({ cls := "NeedleHomesModel", name := "isSet", desc := "(II)Z" } : Jvm.MethodName) prog_14_method_69_code (6 : Nat) (Option.some Jvm.ClassFile.FieldType.boolean)) ∈ TB := TB_t7 157 rfl rfl
theorem wt7_158 : (Jvm.Cond.methodLink "NeedleHomesModel" (298 : Nat) ({ cls := "NeedleHomesModel", name := "spreadOf", desc := "(I)I" } : Jvm.MethodName)) ∈ TB := TB_t7 158 rfl rfl
theorem wt7_16 : (Jvm.Cond.methodLink "NeedleHomesModel" (192 : Nat) ({ cls := "NeedleHomesModel", name := "aTest", desc := "()V" } : Jvm.MethodName)) ∈ TB := TB_t7 16 rfl rfl
theorem wt7_160 : (Jvm.Cond.instanceMethod ({ cls := "NeedleHomesModel", name := "spreadOf", desc := "(I)I" } : Jvm.MethodName)) ∈ TB := TB_t7 160 rfl rfl
theorem wt7_161 : (Jvm.Cond.code ({ cls := "NeedleHomesModel", name := "spreadOf", desc := "(I)I" } : Jvm.MethodName) prog_14_method_68_code (5 : Nat) (Option.some Jvm.ClassFile.FieldType.int)) ∈ TB := TB_t7 161 rfl rfl
theorem wt7_165 : (Jvm.Cond.code ({ cls := "NeedleHomesModel", name := "parted", desc := "(IIII)I" } : Jvm.MethodName) prog_14_method_72_code (8 : Nat) (Option.some Jvm.ClassFile.FieldType.int)) ∈ TB := TB_t7 165 rfl rfl
theorem wt7_169 : (Jvm.Cond.code ({ cls := "NeedleHomesModel", name := "look", desc := "(IIII)Z" } : Jvm.MethodName) prog_14_method_73_code (5 : Nat) (Option.some Jvm.ClassFile.FieldType.boolean)) ∈ TB := TB_t7 169 rfl rfl
theorem wt7_173 : (Jvm.Cond.code ({ cls := "NeedleHomesModel", name := "unlike", desc := "(II)I" } : Jvm.MethodName) prog_14_method_75_code (3 : Nat) (Option.some Jvm.ClassFile.FieldType.int)) ∈ TB := TB_t7 173 rfl rfl
theorem wt7_174 : (Jvm.Cond.methodLink "NeedleHomesModel" (304 : Nat) ({ cls := "NeedleHomesModel", name := "unlikeness", desc := "(II)I" } : Jvm.MethodName)) ∈ TB := TB_t7 174 rfl rfl
theorem wt7_176 : (Jvm.Cond.instanceMethod ({ cls := "NeedleHomesModel", name := "unlikeness", desc := "(II)I" } : Jvm.MethodName)) ∈ TB := TB_t7 176 rfl rfl
theorem wt7_177 : (Jvm.Cond.code ({ cls := "NeedleHomesModel", name := "unlikeness", desc := "(II)I" } : Jvm.MethodName) prog_14_method_74_code (6 : Nat) (Option.some Jvm.ClassFile.FieldType.int)) ∈ TB := TB_t7 177 rfl rfl
theorem wt7_18 : (Jvm.Cond.instanceMethod ({ cls := "NeedleHomesModel", name := "aTest", desc := "()V" } : Jvm.MethodName)) ∈ TB := TB_t7 18 rfl rfl
theorem wt7_181 : (Jvm.Cond.code ({ cls := "NeedleHomesModel", name := "who", desc := "(II)I" } : Jvm.MethodName) prog_14_method_76_code (8 : Nat) (Option.some Jvm.ClassFile.FieldType.int)) ∈ TB := TB_t7 181 rfl rfl
theorem wt7_185 : (Jvm.Cond.code ({ cls := "NeedleHomesModel", name := "stolen", desc := "(III)I" } : Jvm.MethodName) prog_14_method_78_code (10 : Nat) (Option.some Jvm.ClassFile.FieldType.int)) ∈ TB := TB_t7 185 rfl rfl
theorem wt7_186 : (Jvm.Cond.methodLink "NeedleHomesModel" (307 : Nat) ({ cls := "NeedleHomesModel", name := "choices", desc := "(II)J" } : Jvm.MethodName)) ∈ TB := TB_t7 186 rfl rfl
theorem wt7_187 : (Jvm.Cond.static ({ cls := "NeedleHomesModel", name := "choices", desc := "(II)J" } : Jvm.MethodName)) ∈ TB := TB_t7 187 rfl rfl
theorem wt7_188 : (Jvm.Cond.code ({ cls := "NeedleHomesModel", name := "choices", desc := "(II)J" } : Jvm.MethodName) prog_14_method_77_code (5 : Nat) (Option.some Jvm.ClassFile.FieldType.long)) ∈ TB := TB_t7 188 rfl rfl
theorem wt7_189 : (Jvm.Cond.constantLong "NeedleHomesModel" (311 : Nat) (1000 : Int64)) ∈ TB := TB_t7 189 rfl rfl
theorem wt7_19 : (Jvm.Cond.code ({ cls := "NeedleHomesModel", name := "aTest", desc := "()V" } : Jvm.MethodName) prog_14_method_37_code (1 : Nat) (Option.none : Option Jvm.ClassFile.FieldType)) ∈ TB := TB_t7 19 rfl rfl
theorem wt7_193 : (Jvm.Cond.code ({ cls := "NeedleHomesModel", name := "time", desc := "(II)Z" } : Jvm.MethodName) prog_14_method_79_code (3 : Nat) (Option.some Jvm.ClassFile.FieldType.boolean)) ∈ TB := TB_t7 193 rfl rfl
theorem wt7_197 : (Jvm.Cond.code ({ cls := "NeedleHomesModel", name := "even", desc := "(III)I" } : Jvm.MethodName) prog_14_method_81_code (10 : Nat) (Option.some Jvm.ClassFile.FieldType.int)) ∈ TB := TB_t7 197 rfl rfl
theorem wt7_198 : (Jvm.Cond.methodLink "NeedleHomesModel" (313 : Nat) ({ cls := "NeedleHomesModel", name := "changes", desc := "(II)I" } : Jvm.MethodName)) ∈ TB := TB_t7 198 rfl rfl
theorem wt7_20 : (Jvm.Cond.methodLink "NeedleHomesModel" (195 : Nat) ({ cls := "NeedleHomesModel", name := "puts", desc := "(II)V" } : Jvm.MethodName)) ∈ TB := TB_t7 20 rfl rfl
theorem wt7_200 : (Jvm.Cond.instanceMethod ({ cls := "NeedleHomesModel", name := "changes", desc := "(II)I" } : Jvm.MethodName)) ∈ TB := TB_t7 200 rfl rfl
theorem wt7_201 : (Jvm.Cond.code ({ cls := "NeedleHomesModel", name := "changes", desc := "(II)I" } : Jvm.MethodName) prog_14_method_80_code (8 : Nat) (Option.some Jvm.ClassFile.FieldType.int)) ∈ TB := TB_t7 201 rfl rfl
theorem wt7_205 : (Jvm.Cond.code ({ cls := "NeedleHomesModel", name := "count", desc := "(I)I" } : Jvm.MethodName) prog_14_method_82_code (7 : Nat) (Option.some Jvm.ClassFile.FieldType.int)) ∈ TB := TB_t7 205 rfl rfl
theorem wt7_209 : (Jvm.Cond.code ({ cls := "NeedleHomesModel", name := "image", desc := "(I)Z" } : Jvm.MethodName) prog_14_method_83_code (3 : Nat) (Option.some Jvm.ClassFile.FieldType.boolean)) ∈ TB := TB_t7 209 rfl rfl
theorem wt7_213 : (Jvm.Cond.code ({ cls := "NeedleHomesModel", name := "again", desc := "(I)Z" } : Jvm.MethodName) prog_14_method_84_code (3 : Nat) (Option.some Jvm.ClassFile.FieldType.boolean)) ∈ TB := TB_t7 213 rfl rfl
theorem wt7_214 : (Jvm.Cond.fieldLink "java/lang/String" (9 : Nat) "java/lang/String" "value" "[B") ∈ TB := TB_t7 214 rfl rfl
theorem wt7_215 : (Jvm.Cond.fieldLink "java/lang/String" (15 : Nat) "java/lang/String" "coder" "B") ∈ TB := TB_t7 215 rfl rfl
theorem wt7_22 : (Jvm.Cond.instanceMethod ({ cls := "NeedleHomesModel", name := "puts", desc := "(II)V" } : Jvm.MethodName)) ∈ TB := TB_t7 22 rfl rfl
theorem wt7_23 : (Jvm.Cond.code ({ cls := "NeedleHomesModel", name := "puts", desc := "(II)V" } : Jvm.MethodName) prog_14_method_38_code (3 : Nat) (Option.none : Option Jvm.ClassFile.FieldType)) ∈ TB := TB_t7 23 rfl rfl
theorem wt7_27 : (Jvm.Cond.code ({ cls := "NeedleHomesModel", name := "lists", desc := "(III)I" } : Jvm.MethodName) prog_14_method_42_code (4 : Nat) (Option.some Jvm.ClassFile.FieldType.int)) ∈ TB := TB_t7 27 rfl rfl
theorem wt7_28 : (Jvm.Cond.methodLink "NeedleHomesModel" (201 : Nat) ({ cls := "NeedleHomesModel", name := "listOf", desc := "(III)I" } : Jvm.MethodName)) ∈ TB := TB_t7 28 rfl rfl
theorem wt7_30 : (Jvm.Cond.instanceMethod ({ cls := "NeedleHomesModel", name := "listOf", desc := "(III)I" } : Jvm.MethodName)) ∈ TB := TB_t7 30 rfl rfl
theorem wt7_31 : (Jvm.Cond.code ({ cls := "NeedleHomesModel", name := "listOf", desc := "(III)I" } : Jvm.MethodName) prog_14_method_41_code (7 : Nat) (Option.some Jvm.ClassFile.FieldType.int)) ∈ TB := TB_t7 31 rfl rfl
theorem wt7_35 : (Jvm.Cond.code ({ cls := "NeedleHomesModel", name := "day", desc := "(I)Z" } : Jvm.MethodName) prog_14_method_43_code (2 : Nat) (Option.some Jvm.ClassFile.FieldType.boolean)) ∈ TB := TB_t7 35 rfl rfl
theorem wt7_39 : (Jvm.Cond.code ({ cls := "NeedleHomesModel", name := "term", desc := "(IIIIII)I" } : Jvm.MethodName) prog_14_method_49_code (7 : Nat) (Option.some Jvm.ClassFile.FieldType.int)) ∈ TB := TB_t7 39 rfl rfl
theorem wt7_4 : (Jvm.Cond.code ({ cls := "NeedleHomesModel", name := "about", desc := "(II)I" } : Jvm.MethodName) prog_14_method_35_code (6 : Nat) (Option.some Jvm.ClassFile.FieldType.int)) ∈ TB := TB_t7 4 rfl rfl
theorem wt7_40 : (Jvm.Cond.methodLink "NeedleHomesModel" (244 : Nat) ({ cls := "NeedleHomesModel", name := "week", desc := "()I" } : Jvm.MethodName)) ∈ TB := TB_t7 40 rfl rfl
theorem wt7_42 : (Jvm.Cond.instanceMethod ({ cls := "NeedleHomesModel", name := "week", desc := "()I" } : Jvm.MethodName)) ∈ TB := TB_t7 42 rfl rfl
theorem wt7_43 : (Jvm.Cond.code ({ cls := "NeedleHomesModel", name := "week", desc := "()I" } : Jvm.MethodName) prog_14_method_7_code (1 : Nat) (Option.some Jvm.ClassFile.FieldType.int)) ∈ TB := TB_t7 43 rfl rfl
theorem wt7_44 : (Jvm.Cond.methodLink "NeedleHomesModel" (247 : Nat) ({ cls := "NeedleHomesModel", name := "asks", desc := "(IIII)V" } : Jvm.MethodName)) ∈ TB := TB_t7 44 rfl rfl
theorem wt7_46 : (Jvm.Cond.instanceMethod ({ cls := "NeedleHomesModel", name := "asks", desc := "(IIII)V" } : Jvm.MethodName)) ∈ TB := TB_t7 46 rfl rfl
theorem wt7_47 : (Jvm.Cond.code ({ cls := "NeedleHomesModel", name := "asks", desc := "(IIII)V" } : Jvm.MethodName) prog_14_method_44_code (5 : Nat) (Option.none : Option Jvm.ClassFile.FieldType)) ∈ TB := TB_t7 47 rfl rfl
theorem wt7_48 : (Jvm.Cond.methodLink "NeedleHomesModel" (211 : Nat) ({ cls := "NeedleHomesModel", name := "handOf", desc := "(II)I" } : Jvm.MethodName)) ∈ TB := TB_t7 48 rfl rfl
theorem wt7_5 : (Jvm.Cond.methodLink "NeedleHomesModel" (186 : Nat) ({ cls := "NeedleHomesModel", name := "ones", desc := "(I)I" } : Jvm.MethodName)) ∈ TB := TB_t7 5 rfl rfl
theorem wt7_50 : (Jvm.Cond.instanceMethod ({ cls := "NeedleHomesModel", name := "handOf", desc := "(II)I" } : Jvm.MethodName)) ∈ TB := TB_t7 50 rfl rfl
theorem wt7_51 : (Jvm.Cond.code ({ cls := "NeedleHomesModel", name := "handOf", desc := "(II)I" } : Jvm.MethodName) prog_14_method_5_code (3 : Nat) (Option.some Jvm.ClassFile.FieldType.int)) ∈ TB := TB_t7 51 rfl rfl
theorem wt7_52 : (Jvm.Cond.methodLink "NeedleHomesModel" (223 : Nat) ({ cls := "NeedleHomesModel", name := "hasHay", desc := "(II)Z" } : Jvm.MethodName)) ∈ TB := TB_t7 52 rfl rfl
theorem wt7_54 : (Jvm.Cond.instanceMethod ({ cls := "NeedleHomesModel", name := "hasHay", desc := "(II)Z" } : Jvm.MethodName)) ∈ TB := TB_t7 54 rfl rfl
theorem wt7_55 : (Jvm.Cond.code ({ cls := "NeedleHomesModel", name := "hasHay", desc := "(II)Z" } : Jvm.MethodName) prog_14_method_53_code (3 : Nat) (Option.some Jvm.ClassFile.FieldType.boolean)) ∈ TB := TB_t7 55 rfl rfl
theorem wt7_56 : (Jvm.Cond.methodLink "NeedleHomesModel" (251 : Nat) ({ cls := "NeedleHomesModel", name := "termOf", desc := "(IIII)I" } : Jvm.MethodName)) ∈ TB := TB_t7 56 rfl rfl
theorem wt7_58 : (Jvm.Cond.instanceMethod ({ cls := "NeedleHomesModel", name := "termOf", desc := "(IIII)I" } : Jvm.MethodName)) ∈ TB := TB_t7 58 rfl rfl
theorem wt7_59 : (Jvm.Cond.code ({ cls := "NeedleHomesModel", name := "termOf", desc := "(IIII)I" } : Jvm.MethodName) prog_14_method_48_code (8 : Nat) (Option.some Jvm.ClassFile.FieldType.int)) ∈ TB := TB_t7 59 rfl rfl
theorem wt7_6 : (Jvm.Cond.static ({ cls := "NeedleHomesModel", name := "ones", desc := "(I)I" } : Jvm.MethodName)) ∈ TB := TB_t7 6 rfl rfl
theorem wt7_60 : (Jvm.Cond.methodLink "NeedleHomesModel" (238 : Nat) ({ cls := "NeedleHomesModel", name := "without", desc := "(I)I" } : Jvm.MethodName)) ∈ TB := TB_t7 60 rfl rfl
theorem wt7_61 : (Jvm.Cond.static ({ cls := "NeedleHomesModel", name := "without", desc := "(I)I" } : Jvm.MethodName)) ∈ TB := TB_t7 61 rfl rfl
theorem wt7_62 : (Jvm.Cond.code ({ cls := "NeedleHomesModel", name := "without", desc := "(I)I" } : Jvm.MethodName) prog_14_method_47_code (1 : Nat) (Option.some Jvm.ClassFile.FieldType.int)) ∈ TB := TB_t7 62 rfl rfl
theorem wt7_63 : (Jvm.Cond.methodLink "NeedleHomesModel" (241 : Nat) ({ cls := "NeedleHomesModel", name := "holds", desc := "(I)Z" } : Jvm.MethodName)) ∈ TB := TB_t7 63 rfl rfl
theorem wt7_65 : (Jvm.Cond.instanceMethod ({ cls := "NeedleHomesModel", name := "holds", desc := "(I)Z" } : Jvm.MethodName)) ∈ TB := TB_t7 65 rfl rfl
theorem wt7_66 : (Jvm.Cond.code ({ cls := "NeedleHomesModel", name := "holds", desc := "(I)Z" } : Jvm.MethodName) prog_14_method_46_code (8 : Nat) (Option.some Jvm.ClassFile.FieldType.boolean)) ∈ TB := TB_t7 66 rfl rfl
theorem wt7_67 : (Jvm.Cond.methodLink "NeedleHomesModel" (235 : Nat) ({ cls := "NeedleHomesModel", name := "asked", desc := "(I)I" } : Jvm.MethodName)) ∈ TB := TB_t7 67 rfl rfl
theorem wt7_69 : (Jvm.Cond.instanceMethod ({ cls := "NeedleHomesModel", name := "asked", desc := "(I)I" } : Jvm.MethodName)) ∈ TB := TB_t7 69 rfl rfl
theorem wt7_7 : (Jvm.Cond.code ({ cls := "NeedleHomesModel", name := "ones", desc := "(I)I" } : Jvm.MethodName) prog_14_method_36_code (3 : Nat) (Option.some Jvm.ClassFile.FieldType.int)) ∈ TB := TB_t7 7 rfl rfl
theorem wt7_70 : (Jvm.Cond.code ({ cls := "NeedleHomesModel", name := "asked", desc := "(I)I" } : Jvm.MethodName) prog_14_method_45_code (2 : Nat) (Option.some Jvm.ClassFile.FieldType.int)) ∈ TB := TB_t7 70 rfl rfl
theorem wt7_74 : (Jvm.Cond.code ({ cls := "NeedleHomesModel", name := "hand", desc := "(III)I" } : Jvm.MethodName) prog_14_method_50_code (6 : Nat) (Option.some Jvm.ClassFile.FieldType.int)) ∈ TB := TB_t7 74 rfl rfl
theorem wt7_78 : (Jvm.Cond.code ({ cls := "NeedleHomesModel", name := "habit", desc := "(III)Z" } : Jvm.MethodName) prog_14_method_51_code (4 : Nat) (Option.some Jvm.ClassFile.FieldType.boolean)) ∈ TB := TB_t7 78 rfl rfl
theorem wt7_82 : (Jvm.Cond.code ({ cls := "NeedleHomesModel", name := "hay", desc := "(IIZ)Z" } : Jvm.MethodName) prog_14_method_52_code (4 : Nat) (Option.some Jvm.ClassFile.FieldType.boolean)) ∈ TB := TB_t7 82 rfl rfl
theorem wt7_86 : (Jvm.Cond.code ({ cls := "NeedleHomesModel", name := "advance", desc := "(II)I" } : Jvm.MethodName) prog_14_method_54_code (3 : Nat) (Option.some Jvm.ClassFile.FieldType.int)) ∈ TB := TB_t7 86 rfl rfl
theorem wt7_87 : (Jvm.Cond.constant "NeedleHomesModel" (255 : Nat) (100000 : Int32)) ∈ TB := TB_t7 87 rfl rfl
theorem wt7_91 : (Jvm.Cond.code ({ cls := "NeedleHomesModel", name := "tell", desc := "(II)I" } : Jvm.MethodName) prog_14_method_55_code (5 : Nat) (Option.some Jvm.ClassFile.FieldType.int)) ∈ TB := TB_t7 91 rfl rfl
theorem wt7_92 : (Jvm.Cond.methodLink "NeedleHomesModel" (256 : Nat) ({ cls := "NeedleHomesModel", name := "pieceOf", desc := "(II)I" } : Jvm.MethodName)) ∈ TB := TB_t7 92 rfl rfl
theorem wt7_94 : (Jvm.Cond.instanceMethod ({ cls := "NeedleHomesModel", name := "pieceOf", desc := "(II)I" } : Jvm.MethodName)) ∈ TB := TB_t7 94 rfl rfl
theorem wt7_95 : (Jvm.Cond.code ({ cls := "NeedleHomesModel", name := "pieceOf", desc := "(II)I" } : Jvm.MethodName) prog_14_method_6_code (3 : Nat) (Option.some Jvm.ClassFile.FieldType.int)) ∈ TB := TB_t7 95 rfl rfl
theorem wt7_99 : (Jvm.Cond.code ({ cls := "NeedleHomesModel", name := "out", desc := "(III)I" } : Jvm.MethodName) prog_14_method_56_code (6 : Nat) (Option.some Jvm.ClassFile.FieldType.int)) ∈ TB := TB_t7 99 rfl rfl
theorem ci_X0 : CI 0 RX0 TX0 7 tyX0 := ⟨rfl, by decide, rfl, CI_in (by decide +kernel) [225, 227, 229, 231, 233, 235, 237] (by decide +kernel), tyX0_ok, nmX0, wt1_208, wt1_7, by decide +kernel⟩
theorem ci_X1 : CI 1 RX1 TX1 6 tyX1 := ⟨rfl, by decide, rfl, CI_in (by decide +kernel) [285, 287, 289, 291, 293, 295] (by decide +kernel), tyX1_ok, nmX1, wt2_32, wt1_9, by decide +kernel⟩
theorem ci_X2 : CI 2 RX2 TX2 7 tyX2 := ⟨rfl, by decide, rfl, CI_in (by decide +kernel) [750, 752, 754, 756, 758, 760, 762] (by decide +kernel), tyX2_ok, nmX2, wt4_4, wt1_19, by decide +kernel⟩
theorem ci_X3 : CI 3 RX3 TX3 6 tyX3 := ⟨rfl, by decide, rfl, CI_in (by decide +kernel) [194, 196, 198, 200, 202, 204] (by decide +kernel), tyX3_ok, nmX3, wt1_175, wt1_6, by decide +kernel⟩
theorem ci_X4 : CI 4 RX4 TX4 7 tyX4 := ⟨rfl, by decide, rfl, CI_in (by decide +kernel) [256, 258, 260, 262, 264, 266, 268] (by decide +kernel), tyX4_ok, nmX4, wt2_1, wt1_8, by decide +kernel⟩
theorem ci_X5 : CI 5 RX5 TX5 4 tyX5 := ⟨rfl, by decide, rfl, CI_in (by decide +kernel) [478, 480, 482, 484] (by decide +kernel), tyX5_ok, nmX5, wt2_224, wt1_12, by decide +kernel⟩
theorem ci_X6 : CI 6 RX6 TX6 5 tyX6 := ⟨rfl, by decide, rfl, CI_in (by decide +kernel) [163, 165, 167, 169, 171] (by decide +kernel), tyX6_ok, nmX6, wt1_112, wt1_4, by decide +kernel⟩
theorem ci_X7 : CI 7 RX7 TX7 12 tyX7 := ⟨rfl, by decide, rfl, CI_in (by decide +kernel) [891, 893, 895, 897, 899, 901, 903, 905, 907, 909, 911, 913] (by decide +kernel), tyX7_ok, nmX7, wt4_131, wt1_20, by decide +kernel⟩
theorem ci_X8 : CI 8 RX8 TX8 8 tyX8 := ⟨rfl, by decide, rfl, CI_in (by decide +kernel) [140, 142, 144, 146, 148, 150, 152, 154] (by decide +kernel), tyX8_ok, nmX8, wt1_118, wt1_5, by decide +kernel⟩
theorem ci_X9 : CI 9 RX9 TX9 8 tyX9 := ⟨rfl, by decide, rfl, CI_in (by decide +kernel) [643, 645, 647, 649, 651, 653, 655, 657] (by decide +kernel), tyX9_ok, nmX9, wt3_131, wt1_17, by decide +kernel⟩
theorem ci_X10 : CI 10 RX10 TX10 15 tyX10 := ⟨rfl, by decide, rfl, CI_in (by decide +kernel) [77, 79, 81, 83, 85, 87, 89, 91, 93, 95, 97, 99, 101, 103, 105] (by decide +kernel), tyX10_ok, nmX10, wt1_31, wt1_2, by decide +kernel⟩
theorem ci_X11 : CI 11 RX11 TX11 8 tyX11 := ⟨rfl, by decide, rfl, CI_in (by decide +kernel) [306, 308, 310, 312, 314, 316, 318, 320] (by decide +kernel), tyX11_ok, nmX11, wt1_23, wt1_1, by decide +kernel⟩
theorem ci_X12 : CI 12 RX12 TX12 38 tyX12 := ⟨rfl, by decide, rfl, CI_in (by decide +kernel) [1242, 1244, 1246, 1248, 1250, 1252, 1254, 1256, 1258, 1260, 1262, 1264, 1266, 1268, 1270, 1272, 1274, 1276, 1278, 1280, 1282, 1284, 1286, 1288, 1290, 1292, 1294, 1296, 1298, 1300, 1302, 1304, 1306, 1308, 1310, 1312, 1314, 1316] (by decide +kernel), tyX12_ok, nmX12, wt5_239, wt1_10, by decide +kernel⟩
theorem flX0_102 : FL RX0 102 7 4 RX7 TX7 12 tyX7 := ⟨ci_X7, by decide, wt4_154⟩
theorem flX0_15 : FL RX0 15 0 0 RX0 TX0 7 tyX0 := ⟨ci_X0, by decide, wt1_213⟩
theorem flX0_19 : FL RX0 19 0 1 RX0 TX0 7 tyX0 := ⟨ci_X0, by decide, wt1_215⟩
theorem flX0_22 : FL RX0 22 7 3 RX7 TX7 12 tyX7 := ⟨ci_X7, by decide, wt4_150⟩
theorem flX0_27 : FL RX0 27 0 2 RX0 TX0 7 tyX0 := ⟨ci_X0, by decide, wt1_217⟩
theorem flX0_30 : FL RX0 30 0 3 RX0 TX0 7 tyX0 := ⟨ci_X0, by decide, wt1_219⟩
theorem flX0_33 : FL RX0 33 0 4 RX0 TX0 7 tyX0 := ⟨ci_X0, by decide, wt1_221⟩
theorem flX0_36 : FL RX0 36 7 1 RX7 TX7 12 tyX7 := ⟨ci_X7, by decide, wt4_142⟩
theorem flX0_45 : FL RX0 45 7 2 RX7 TX7 12 tyX7 := ⟨ci_X7, by decide, wt4_146⟩
theorem flX0_56 : FL RX0 56 7 0 RX7 TX7 12 tyX7 := ⟨ci_X7, by decide, wt4_138⟩
theorem flX0_67 : FL RX0 67 0 5 RX0 TX0 7 tyX0 := ⟨ci_X0, by decide, wt1_223⟩
theorem flX0_71 : FL RX0 71 7 5 RX7 TX7 12 tyX7 := ⟨ci_X7, by decide, wt4_157⟩
theorem flX0_9 : FL RX0 9 0 6 RX0 TX0 7 tyX0 := ⟨ci_X0, by decide, wt1_224⟩
theorem flX10_100 : FL RX10 100 2 2 RX2 TX2 7 tyX2 := ⟨ci_X2, by decide, wt4_18⟩
theorem flX10_110 : FL RX10 110 10 12 RX10 TX10 15 tyX10 := ⟨ci_X10, by decide, wt1_70⟩
theorem flX10_117 : FL RX10 117 7 0 RX7 TX7 12 tyX7 := ⟨ci_X7, by decide, wt4_139⟩
theorem flX10_120 : FL RX10 120 7 1 RX7 TX7 12 tyX7 := ⟨ci_X7, by decide, wt4_143⟩
theorem flX10_123 : FL RX10 123 7 2 RX7 TX7 12 tyX7 := ⟨ci_X7, by decide, wt4_147⟩
theorem flX10_126 : FL RX10 126 7 3 RX7 TX7 12 tyX7 := ⟨ci_X7, by decide, wt4_151⟩
theorem flX10_135 : FL RX10 135 8 3 RX8 TX8 8 tyX8 := ⟨ci_X8, by decide, wt1_134⟩
theorem flX10_138 : FL RX10 138 8 4 RX8 TX8 8 tyX8 := ⟨ci_X8, by decide, wt1_136⟩
theorem flX10_147 : FL RX10 147 9 0 RX9 TX9 8 tyX9 := ⟨ci_X9, by decide, wt3_153⟩
theorem flX10_148 : FL RX10 148 9 2 RX9 TX9 8 tyX9 := ⟨ci_X9, by decide, wt3_157⟩
theorem flX10_15 : FL RX10 15 10 3 RX10 TX10 15 tyX10 := ⟨ci_X10, by decide, wt1_53⟩
theorem flX10_151 : FL RX10 151 9 1 RX9 TX9 8 tyX9 := ⟨ci_X9, by decide, wt3_155⟩
theorem flX10_162 : FL RX10 162 2 3 RX2 TX2 7 tyX2 := ⟨ci_X2, by decide, wt4_22⟩
theorem flX10_165 : FL RX10 165 2 4 RX2 TX2 7 tyX2 := ⟨ci_X2, by decide, wt4_25⟩
theorem flX10_21 : FL RX10 21 10 5 RX10 TX10 15 tyX10 := ⟨ci_X10, by decide, wt1_59⟩
theorem flX10_27 : FL RX10 27 10 7 RX10 TX10 15 tyX10 := ⟨ci_X10, by decide, wt1_62⟩
theorem flX10_33 : FL RX10 33 10 9 RX10 TX10 15 tyX10 := ⟨ci_X10, by decide, wt1_65⟩
theorem flX10_39 : FL RX10 39 10 11 RX10 TX10 15 tyX10 := ⟨ci_X10, by decide, wt1_69⟩
theorem flX10_43 : FL RX10 43 10 13 RX10 TX10 15 tyX10 := ⟨ci_X10, by decide, wt1_72⟩
theorem flX10_47 : FL RX10 47 10 14 RX10 TX10 15 tyX10 := ⟨ci_X10, by decide, wt1_75⟩
theorem flX10_62 : FL RX10 62 10 1 RX10 TX10 15 tyX10 := ⟨ci_X10, by decide, wt1_50⟩
theorem flX10_65 : FL RX10 65 10 2 RX10 TX10 15 tyX10 := ⟨ci_X10, by decide, wt1_51⟩
theorem flX10_68 : FL RX10 68 10 4 RX10 TX10 15 tyX10 := ⟨ci_X10, by decide, wt1_55⟩
theorem flX10_81 : FL RX10 81 10 6 RX10 TX10 15 tyX10 := ⟨ci_X10, by decide, wt1_60⟩
theorem flX10_84 : FL RX10 84 10 8 RX10 TX10 15 tyX10 := ⟨ci_X10, by decide, wt1_63⟩
theorem flX10_87 : FL RX10 87 10 10 RX10 TX10 15 tyX10 := ⟨ci_X10, by decide, wt1_67⟩
theorem flX10_9 : FL RX10 9 10 0 RX10 TX10 15 tyX10 := ⟨ci_X10, by decide, wt1_47⟩
theorem flX10_94 : FL RX10 94 2 0 RX2 TX2 7 tyX2 := ⟨ci_X2, by decide, wt4_12⟩
theorem flX10_97 : FL RX10 97 2 1 RX2 TX2 7 tyX2 := ⟨ci_X2, by decide, wt4_15⟩
theorem flX11_107 : FL RX11 107 10 8 RX10 TX10 15 tyX10 := ⟨ci_X10, by decide, wt1_64⟩
theorem flX11_115 : FL RX11 115 3 0 RX3 TX3 6 tyX3 := ⟨ci_X3, by decide, wt1_183⟩
theorem flX11_118 : FL RX11 118 10 4 RX10 TX10 15 tyX10 := ⟨ci_X10, by decide, wt1_58⟩
theorem flX11_12 : FL RX11 12 11 0 RX11 TX11 8 tyX11 := ⟨ci_X11, by decide, wt2_58⟩
theorem flX11_128 : FL RX11 128 10 3 RX10 TX10 15 tyX10 := ⟨ci_X10, by decide, wt1_54⟩
theorem flX11_145 : FL RX11 145 5 0 RX5 TX5 4 tyX5 := ⟨ci_X5, by decide, wt2_231⟩
theorem flX11_148 : FL RX11 148 5 1 RX5 TX5 4 tyX5 := ⟨ci_X5, by decide, wt2_233⟩
theorem flX11_151 : FL RX11 151 5 2 RX5 TX5 4 tyX5 := ⟨ci_X5, by decide, wt2_236⟩
theorem flX11_16 : FL RX11 16 11 1 RX11 TX11 8 tyX11 := ⟨ci_X11, by decide, wt2_59⟩
theorem flX11_167 : FL RX11 167 10 10 RX10 TX10 15 tyX10 := ⟨ci_X10, by decide, wt1_68⟩
theorem flX11_183 : FL RX11 183 2 5 RX2 TX2 7 tyX2 := ⟨ci_X2, by decide, wt4_28⟩
theorem flX11_191 : FL RX11 191 2 3 RX2 TX2 7 tyX2 := ⟨ci_X2, by decide, wt4_21⟩
theorem flX11_194 : FL RX11 194 2 0 RX2 TX2 7 tyX2 := ⟨ci_X2, by decide, wt4_13⟩
theorem flX11_197 : FL RX11 197 2 1 RX2 TX2 7 tyX2 := ⟨ci_X2, by decide, wt4_16⟩
theorem flX11_200 : FL RX11 200 2 2 RX2 TX2 7 tyX2 := ⟨ci_X2, by decide, wt4_19⟩
theorem flX11_203 : FL RX11 203 2 4 RX2 TX2 7 tyX2 := ⟨ci_X2, by decide, wt4_24⟩
theorem flX11_225 : FL RX11 225 10 12 RX10 TX10 15 tyX10 := ⟨ci_X10, by decide, wt1_71⟩
theorem flX11_23 : FL RX11 23 11 2 RX11 TX11 8 tyX11 := ⟨ci_X11, by decide, wt2_60⟩
theorem flX11_245 : FL RX11 245 7 2 RX7 TX7 12 tyX7 := ⟨ci_X7, by decide, wt4_148⟩
theorem flX11_248 : FL RX11 248 7 3 RX7 TX7 12 tyX7 := ⟨ci_X7, by decide, wt4_152⟩
theorem flX11_255 : FL RX11 255 0 0 RX0 TX0 7 tyX0 := ⟨ci_X0, by decide, wt1_214⟩
theorem flX11_265 : FL RX11 265 7 8 RX7 TX7 12 tyX7 := ⟨ci_X7, by decide, wt4_164⟩
theorem flX11_266 : FL RX11 266 7 0 RX7 TX7 12 tyX7 := ⟨ci_X7, by decide, wt4_140⟩
theorem flX11_269 : FL RX11 269 7 1 RX7 TX7 12 tyX7 := ⟨ci_X7, by decide, wt4_144⟩
theorem flX11_272 : FL RX11 272 7 4 RX7 TX7 12 tyX7 := ⟨ci_X7, by decide, wt4_155⟩
theorem flX11_275 : FL RX11 275 7 5 RX7 TX7 12 tyX7 := ⟨ci_X7, by decide, wt4_158⟩
theorem flX11_278 : FL RX11 278 7 6 RX7 TX7 12 tyX7 := ⟨ci_X7, by decide, wt4_160⟩
theorem flX11_281 : FL RX11 281 7 7 RX7 TX7 12 tyX7 := ⟨ci_X7, by decide, wt4_162⟩
theorem flX11_284 : FL RX11 284 0 1 RX0 TX0 7 tyX0 := ⟨ci_X0, by decide, wt1_216⟩
theorem flX11_287 : FL RX11 287 0 2 RX0 TX0 7 tyX0 := ⟨ci_X0, by decide, wt1_218⟩
theorem flX11_290 : FL RX11 290 0 3 RX0 TX0 7 tyX0 := ⟨ci_X0, by decide, wt1_220⟩
theorem flX11_293 : FL RX11 293 0 4 RX0 TX0 7 tyX0 := ⟨ci_X0, by decide, wt1_222⟩
theorem flX11_30 : FL RX11 30 11 3 RX11 TX11 8 tyX11 := ⟨ci_X11, by decide, wt2_61⟩
theorem flX11_300 : FL RX11 300 10 14 RX10 TX10 15 tyX10 := ⟨ci_X10, by decide, wt1_76⟩
theorem flX11_303 : FL RX11 303 7 9 RX7 TX7 12 tyX7 := ⟨ci_X7, by decide, wt4_166⟩
theorem flX11_312 : FL RX11 312 4 0 RX4 TX4 7 tyX4 := ⟨ci_X4, by decide, wt2_7⟩
theorem flX11_315 : FL RX11 315 4 1 RX4 TX4 7 tyX4 := ⟨ci_X4, by decide, wt2_9⟩
theorem flX11_318 : FL RX11 318 4 2 RX4 TX4 7 tyX4 := ⟨ci_X4, by decide, wt2_11⟩
theorem flX11_324 : FL RX11 324 7 10 RX7 TX7 12 tyX7 := ⟨ci_X7, by decide, wt4_168⟩
theorem flX11_327 : FL RX11 327 7 11 RX7 TX7 12 tyX7 := ⟨ci_X7, by decide, wt4_170⟩
theorem flX11_348 : FL RX11 348 10 13 RX10 TX10 15 tyX10 := ⟨ci_X10, by decide, wt1_74⟩
theorem flX11_355 : FL RX11 355 1 0 RX1 TX1 6 tyX1 := ⟨ci_X1, by decide, wt2_38⟩
theorem flX11_358 : FL RX11 358 1 1 RX1 TX1 6 tyX1 := ⟨ci_X1, by decide, wt2_40⟩
theorem flX11_37 : FL RX11 37 11 4 RX11 TX11 8 tyX11 := ⟨ci_X11, by decide, wt2_62⟩
theorem flX11_44 : FL RX11 44 11 5 RX11 TX11 8 tyX11 := ⟨ci_X11, by decide, wt2_63⟩
theorem flX11_51 : FL RX11 51 11 6 RX11 TX11 8 tyX11 := ⟨ci_X11, by decide, wt2_64⟩
theorem flX11_55 : FL RX11 55 11 7 RX11 TX11 8 tyX11 := ⟨ci_X11, by decide, wt2_65⟩
theorem flX11_59 : FL RX11 59 10 1 RX10 TX10 15 tyX10 := ⟨ci_X10, by decide, wt1_49⟩
theorem flX11_75 : FL RX11 75 10 6 RX10 TX10 15 tyX10 := ⟨ci_X10, by decide, wt1_61⟩
theorem flX11_79 : FL RX11 79 10 0 RX10 TX10 15 tyX10 := ⟨ci_X10, by decide, wt1_48⟩
theorem flX11_87 : FL RX11 87 6 0 RX6 TX6 5 tyX6 := ⟨ci_X6, by decide, wt1_158⟩
theorem flX11_95 : FL RX11 95 10 2 RX10 TX10 15 tyX10 := ⟨ci_X10, by decide, wt1_52⟩
theorem flX12_104 : FL RX12 104 12 8 RX12 TX12 38 tyX12 := ⟨ci_X12, by decide, wt6_12⟩
theorem flX12_110 : FL RX12 110 12 6 RX12 TX12 38 tyX12 := ⟨ci_X12, by decide, wt6_10⟩
theorem flX12_113 : FL RX12 113 12 7 RX12 TX12 38 tyX12 := ⟨ci_X12, by decide, wt6_11⟩
theorem flX12_119 : FL RX12 119 12 9 RX12 TX12 38 tyX12 := ⟨ci_X12, by decide, wt6_13⟩
theorem flX12_13 : FL RX12 13 12 1 RX12 TX12 38 tyX12 := ⟨ci_X12, by decide, wt6_5⟩
theorem flX12_134 : FL RX12 134 12 14 RX12 TX12 38 tyX12 := ⟨ci_X12, by decide, wt6_18⟩
theorem flX12_17 : FL RX12 17 12 10 RX12 TX12 38 tyX12 := ⟨ci_X12, by decide, wt6_14⟩
theorem flX12_189 : FL RX12 189 12 15 RX12 TX12 38 tyX12 := ⟨ci_X12, by decide, wt6_19⟩
theorem flX12_205 : FL RX12 205 12 20 RX12 TX12 38 tyX12 := ⟨ci_X12, by decide, wt6_24⟩
theorem flX12_208 : FL RX12 208 12 21 RX12 TX12 38 tyX12 := ⟨ci_X12, by decide, wt6_25⟩
theorem flX12_21 : FL RX12 21 12 11 RX12 TX12 38 tyX12 := ⟨ci_X12, by decide, wt6_15⟩
theorem flX12_214 : FL RX12 214 12 22 RX12 TX12 38 tyX12 := ⟨ci_X12, by decide, wt6_26⟩
theorem flX12_217 : FL RX12 217 12 23 RX12 TX12 38 tyX12 := ⟨ci_X12, by decide, wt6_27⟩
theorem flX12_220 : FL RX12 220 12 24 RX12 TX12 38 tyX12 := ⟨ci_X12, by decide, wt6_28⟩
theorem flX12_226 : FL RX12 226 12 25 RX12 TX12 38 tyX12 := ⟨ci_X12, by decide, wt6_29⟩
theorem flX12_229 : FL RX12 229 12 18 RX12 TX12 38 tyX12 := ⟨ci_X12, by decide, wt6_22⟩
theorem flX12_232 : FL RX12 232 12 19 RX12 TX12 38 tyX12 := ⟨ci_X12, by decide, wt6_23⟩
theorem flX12_24 : FL RX12 24 12 12 RX12 TX12 38 tyX12 := ⟨ci_X12, by decide, wt6_16⟩
theorem flX12_259 : FL RX12 259 12 26 RX12 TX12 38 tyX12 := ⟨ci_X12, by decide, wt6_30⟩
theorem flX12_262 : FL RX12 262 12 27 RX12 TX12 38 tyX12 := ⟨ci_X12, by decide, wt6_31⟩
theorem flX12_267 : FL RX12 267 12 28 RX12 TX12 38 tyX12 := ⟨ci_X12, by decide, wt6_32⟩
theorem flX12_27 : FL RX12 27 12 13 RX12 TX12 38 tyX12 := ⟨ci_X12, by decide, wt6_17⟩
theorem flX12_270 : FL RX12 270 12 29 RX12 TX12 38 tyX12 := ⟨ci_X12, by decide, wt6_33⟩
theorem flX12_273 : FL RX12 273 12 30 RX12 TX12 38 tyX12 := ⟨ci_X12, by decide, wt6_34⟩
theorem flX12_289 : FL RX12 289 12 33 RX12 TX12 38 tyX12 := ⟨ci_X12, by decide, wt6_37⟩
theorem flX12_292 : FL RX12 292 12 34 RX12 TX12 38 tyX12 := ⟨ci_X12, by decide, wt6_38⟩
theorem flX12_30 : FL RX12 30 12 16 RX12 TX12 38 tyX12 := ⟨ci_X12, by decide, wt6_20⟩
theorem flX12_33 : FL RX12 33 12 17 RX12 TX12 38 tyX12 := ⟨ci_X12, by decide, wt6_21⟩
theorem flX12_36 : FL RX12 36 12 31 RX12 TX12 38 tyX12 := ⟨ci_X12, by decide, wt6_35⟩
theorem flX12_39 : FL RX12 39 12 32 RX12 TX12 38 tyX12 := ⟨ci_X12, by decide, wt6_36⟩
theorem flX12_42 : FL RX12 42 12 35 RX12 TX12 38 tyX12 := ⟨ci_X12, by decide, wt6_39⟩
theorem flX12_45 : FL RX12 45 12 36 RX12 TX12 38 tyX12 := ⟨ci_X12, by decide, wt6_40⟩
theorem flX12_48 : FL RX12 48 12 37 RX12 TX12 38 tyX12 := ⟨ci_X12, by decide, wt6_41⟩
theorem flX12_55 : FL RX12 55 12 2 RX12 TX12 38 tyX12 := ⟨ci_X12, by decide, wt6_6⟩
theorem flX12_7 : FL RX12 7 12 0 RX12 TX12 38 tyX12 := ⟨ci_X12, by decide, wt6_4⟩
theorem flX12_83 : FL RX12 83 12 3 RX12 TX12 38 tyX12 := ⟨ci_X12, by decide, wt6_7⟩
theorem flX12_90 : FL RX12 90 12 4 RX12 TX12 38 tyX12 := ⟨ci_X12, by decide, wt6_8⟩
theorem flX12_93 : FL RX12 93 12 5 RX12 TX12 38 tyX12 := ⟨ci_X12, by decide, wt6_9⟩
theorem flX1_15 : FL RX1 15 1 4 RX1 TX1 6 tyX1 := ⟨ci_X1, by decide, wt2_43⟩
theorem flX1_18 : FL RX1 18 1 5 RX1 TX1 6 tyX1 := ⟨ci_X1, by decide, wt2_44⟩
theorem flX1_21 : FL RX1 21 1 2 RX1 TX1 6 tyX1 := ⟨ci_X1, by decide, wt2_41⟩
theorem flX1_29 : FL RX1 29 1 0 RX1 TX1 6 tyX1 := ⟨ci_X1, by decide, wt2_37⟩
theorem flX1_32 : FL RX1 32 1 1 RX1 TX1 6 tyX1 := ⟨ci_X1, by decide, wt2_39⟩
theorem flX1_49 : FL RX1 49 10 4 RX10 TX10 15 tyX10 := ⟨ci_X10, by decide, wt1_57⟩
theorem flX1_75 : FL RX1 75 10 13 RX10 TX10 15 tyX10 := ⟨ci_X10, by decide, wt1_73⟩
theorem flX1_9 : FL RX1 9 1 3 RX1 TX1 6 tyX1 := ⟨ci_X1, by decide, wt2_42⟩
theorem flX2_15 : FL RX2 15 2 6 RX2 TX2 7 tyX2 := ⟨ci_X2, by decide, wt4_29⟩
theorem flX2_18 : FL RX2 18 2 0 RX2 TX2 7 tyX2 := ⟨ci_X2, by decide, wt4_10⟩
theorem flX2_22 : FL RX2 22 2 1 RX2 TX2 7 tyX2 := ⟨ci_X2, by decide, wt4_14⟩
theorem flX2_25 : FL RX2 25 2 2 RX2 TX2 7 tyX2 := ⟨ci_X2, by decide, wt4_17⟩
theorem flX2_34 : FL RX2 34 2 3 RX2 TX2 7 tyX2 := ⟨ci_X2, by decide, wt4_20⟩
theorem flX2_37 : FL RX2 37 2 4 RX2 TX2 7 tyX2 := ⟨ci_X2, by decide, wt4_23⟩
theorem flX2_9 : FL RX2 9 2 5 RX2 TX2 7 tyX2 := ⟨ci_X2, by decide, wt4_26⟩
theorem flX3_102 : FL RX3 102 8 1 RX8 TX8 8 tyX8 := ⟨ci_X8, by decide, wt1_128⟩
theorem flX3_12 : FL RX3 12 3 0 RX3 TX3 6 tyX3 := ⟨ci_X3, by decide, wt1_182⟩
theorem flX3_18 : FL RX3 18 3 2 RX3 TX3 6 tyX3 := ⟨ci_X3, by decide, wt1_186⟩
theorem flX3_22 : FL RX3 22 3 3 RX3 TX3 6 tyX3 := ⟨ci_X3, by decide, wt1_188⟩
theorem flX3_25 : FL RX3 25 3 4 RX3 TX3 6 tyX3 := ⟨ci_X3, by decide, wt1_190⟩
theorem flX3_30 : FL RX3 30 3 5 RX3 TX3 6 tyX3 := ⟨ci_X3, by decide, wt1_192⟩
theorem flX3_37 : FL RX3 37 3 1 RX3 TX3 6 tyX3 := ⟨ci_X3, by decide, wt1_185⟩
theorem flX3_41 : FL RX3 41 8 0 RX8 TX8 8 tyX8 := ⟨ci_X8, by decide, wt1_123⟩
theorem flX3_56 : FL RX3 56 8 2 RX8 TX8 8 tyX8 := ⟨ci_X8, by decide, wt1_129⟩
theorem flX4_15 : FL RX4 15 4 5 RX4 TX4 7 tyX4 := ⟨ci_X4, by decide, wt2_14⟩
theorem flX4_18 : FL RX4 18 4 6 RX4 TX4 7 tyX4 := ⟨ci_X4, by decide, wt2_15⟩
theorem flX4_21 : FL RX4 21 10 10 RX10 TX10 15 tyX10 := ⟨ci_X10, by decide, wt1_66⟩
theorem flX4_33 : FL RX4 33 4 3 RX4 TX4 7 tyX4 := ⟨ci_X4, by decide, wt2_12⟩
theorem flX4_38 : FL RX4 38 2 0 RX2 TX2 7 tyX2 := ⟨ci_X2, by decide, wt4_11⟩
theorem flX4_43 : FL RX4 43 5 2 RX5 TX5 4 tyX5 := ⟨ci_X5, by decide, wt2_235⟩
theorem flX4_48 : FL RX4 48 10 4 RX10 TX10 15 tyX10 := ⟨ci_X10, by decide, wt1_56⟩
theorem flX4_60 : FL RX4 60 4 0 RX4 TX4 7 tyX4 := ⟨ci_X4, by decide, wt2_6⟩
theorem flX4_78 : FL RX4 78 4 2 RX4 TX4 7 tyX4 := ⟨ci_X4, by decide, wt2_10⟩
theorem flX4_81 : FL RX4 81 4 1 RX4 TX4 7 tyX4 := ⟨ci_X4, by decide, wt2_8⟩
theorem flX4_9 : FL RX4 9 4 4 RX4 TX4 7 tyX4 := ⟨ci_X4, by decide, wt2_13⟩
theorem flX5_15 : FL RX5 15 5 0 RX5 TX5 4 tyX5 := ⟨ci_X5, by decide, wt2_230⟩
theorem flX5_19 : FL RX5 19 5 1 RX5 TX5 4 tyX5 := ⟨ci_X5, by decide, wt2_232⟩
theorem flX5_28 : FL RX5 28 5 2 RX5 TX5 4 tyX5 := ⟨ci_X5, by decide, wt2_234⟩
theorem flX5_9 : FL RX5 9 5 3 RX5 TX5 4 tyX5 := ⟨ci_X5, by decide, wt2_237⟩
theorem flX6_101 : FL RX6 101 8 3 RX8 TX8 8 tyX8 := ⟨ci_X8, by decide, wt1_133⟩
theorem flX6_14 : FL RX6 14 6 0 RX6 TX6 5 tyX6 := ⟨ci_X6, by decide, wt1_157⟩
theorem flX6_18 : FL RX6 18 6 2 RX6 TX6 5 tyX6 := ⟨ci_X6, by decide, wt1_160⟩
theorem flX6_22 : FL RX6 22 6 3 RX6 TX6 5 tyX6 := ⟨ci_X6, by decide, wt1_161⟩
theorem flX6_25 : FL RX6 25 6 4 RX6 TX6 5 tyX6 := ⟨ci_X6, by decide, wt1_162⟩
theorem flX6_32 : FL RX6 32 6 1 RX6 TX6 5 tyX6 := ⟨ci_X6, by decide, wt1_159⟩
theorem flX6_40 : FL RX6 40 8 0 RX8 TX8 8 tyX8 := ⟨ci_X8, by decide, wt1_124⟩
theorem flX6_82 : FL RX6 82 8 1 RX8 TX8 8 tyX8 := ⟨ci_X8, by decide, wt1_127⟩
theorem flX6_88 : FL RX6 88 8 2 RX8 TX8 8 tyX8 := ⟨ci_X8, by decide, wt1_131⟩
theorem flX7_15 : FL RX7 15 7 9 RX7 TX7 12 tyX7 := ⟨ci_X7, by decide, wt4_165⟩
theorem flX7_19 : FL RX7 19 7 10 RX7 TX7 12 tyX7 := ⟨ci_X7, by decide, wt4_167⟩
theorem flX7_22 : FL RX7 22 7 11 RX7 TX7 12 tyX7 := ⟨ci_X7, by decide, wt4_169⟩
theorem flX7_25 : FL RX7 25 7 0 RX7 TX7 12 tyX7 := ⟨ci_X7, by decide, wt4_137⟩
theorem flX7_28 : FL RX7 28 7 1 RX7 TX7 12 tyX7 := ⟨ci_X7, by decide, wt4_141⟩
theorem flX7_31 : FL RX7 31 7 2 RX7 TX7 12 tyX7 := ⟨ci_X7, by decide, wt4_145⟩
theorem flX7_34 : FL RX7 34 7 3 RX7 TX7 12 tyX7 := ⟨ci_X7, by decide, wt4_149⟩
theorem flX7_43 : FL RX7 43 7 5 RX7 TX7 12 tyX7 := ⟨ci_X7, by decide, wt4_156⟩
theorem flX7_46 : FL RX7 46 7 6 RX7 TX7 12 tyX7 := ⟨ci_X7, by decide, wt4_159⟩
theorem flX7_49 : FL RX7 49 7 7 RX7 TX7 12 tyX7 := ⟨ci_X7, by decide, wt4_161⟩
theorem flX7_52 : FL RX7 52 7 8 RX7 TX7 12 tyX7 := ⟨ci_X7, by decide, wt4_163⟩
theorem flX7_61 : FL RX7 61 2 5 RX2 TX2 7 tyX2 := ⟨ci_X2, by decide, wt4_27⟩
theorem flX7_9 : FL RX7 9 7 4 RX7 TX7 12 tyX7 := ⟨ci_X7, by decide, wt4_153⟩
theorem flX8_24 : FL RX8 24 8 6 RX8 TX8 8 tyX8 := ⟨ci_X8, by decide, wt1_138⟩
theorem flX8_28 : FL RX8 28 8 7 RX8 TX8 8 tyX8 := ⟨ci_X8, by decide, wt1_139⟩
theorem flX8_31 : FL RX8 31 8 3 RX8 TX8 8 tyX8 := ⟨ci_X8, by decide, wt1_132⟩
theorem flX8_34 : FL RX8 34 8 4 RX8 TX8 8 tyX8 := ⟨ci_X8, by decide, wt1_135⟩
theorem flX8_44 : FL RX8 44 8 2 RX8 TX8 8 tyX8 := ⟨ci_X8, by decide, wt1_130⟩
theorem flX8_47 : FL RX8 47 8 1 RX8 TX8 8 tyX8 := ⟨ci_X8, by decide, wt1_126⟩
theorem flX8_50 : FL RX8 50 8 0 RX8 TX8 8 tyX8 := ⟨ci_X8, by decide, wt1_125⟩
theorem flX8_9 : FL RX8 9 8 5 RX8 TX8 8 tyX8 := ⟨ci_X8, by decide, wt1_137⟩
theorem flX9_11 : FL RX9 11 9 0 RX9 TX9 8 tyX9 := ⟨ci_X9, by decide, wt3_152⟩
theorem flX9_15 : FL RX9 15 9 1 RX9 TX9 8 tyX9 := ⟨ci_X9, by decide, wt3_154⟩
theorem flX9_18 : FL RX9 18 9 2 RX9 TX9 8 tyX9 := ⟨ci_X9, by decide, wt3_156⟩
theorem flX9_21 : FL RX9 21 3 1 RX3 TX3 6 tyX3 := ⟨ci_X3, by decide, wt1_184⟩
theorem flX9_35 : FL RX9 35 9 3 RX9 TX9 8 tyX9 := ⟨ci_X9, by decide, wt3_158⟩
theorem flX9_36 : FL RX9 36 3 2 RX3 TX3 6 tyX3 := ⟨ci_X3, by decide, wt1_187⟩
theorem flX9_46 : FL RX9 46 9 4 RX9 TX9 8 tyX9 := ⟨ci_X9, by decide, wt3_159⟩
theorem flX9_47 : FL RX9 47 3 3 RX3 TX3 6 tyX3 := ⟨ci_X3, by decide, wt1_189⟩
theorem flX9_50 : FL RX9 50 9 5 RX9 TX9 8 tyX9 := ⟨ci_X9, by decide, wt3_160⟩
theorem flX9_51 : FL RX9 51 3 4 RX3 TX3 6 tyX3 := ⟨ci_X3, by decide, wt1_191⟩
theorem flX9_54 : FL RX9 54 9 6 RX9 TX9 8 tyX9 := ⟨ci_X9, by decide, wt3_161⟩
theorem flX9_55 : FL RX9 55 3 5 RX3 TX3 6 tyX3 := ⟨ci_X3, by decide, wt1_193⟩
theorem flX9_58 : FL RX9 58 9 7 RX9 TX9 8 tyX9 := ⟨ci_X9, by decide, wt3_162⟩
