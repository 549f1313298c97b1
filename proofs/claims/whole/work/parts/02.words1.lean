theorem mw_s0 : (Jvm.Cond.selects "UnaskedName$Law" ({ cls := "UnaskedName$Law", name := "holds", desc := "(II)Z" } : Jvm.MethodName) ({ cls := "UnaskedName$Law", name := "holds", desc := "(II)Z" } : Jvm.MethodName)) ∈ Gw := gw_s 0 rfl rfl
theorem mw_s1 : (Jvm.Cond.selects "UnaskedName$Tale" ({ cls := "UnaskedName$Tale", name := "crumbsFrom", desc := "(II)I" } : Jvm.MethodName) ({ cls := "UnaskedName$Tale", name := "crumbsFrom", desc := "(II)I" } : Jvm.MethodName)) ∈ Gw := gw_s 1 rfl rfl
theorem mw_s2 : (Jvm.Cond.selects "UnaskedName$Past" ({ cls := "UnaskedName$Past", name := "newestRow", desc := "()LUnaskedName$Mind;" } : Jvm.MethodName) ({ cls := "UnaskedName$Past", name := "newestRow", desc := "()LUnaskedName$Mind;" } : Jvm.MethodName)) ∈ Gw := gw_s 2 rfl rfl
theorem mw_s3 : (Jvm.Cond.selects "UnaskedName$Tape" ({ cls := "UnaskedName$Tape", name := "byteAt", desc := "(I)I" } : Jvm.MethodName) ({ cls := "UnaskedName$Tape", name := "byteAt", desc := "(I)I" } : Jvm.MethodName)) ∈ Gw := gw_s 3 rfl rfl
theorem mw_s4 : (Jvm.Cond.selects "UnaskedName" ({ cls := "UnaskedName", name := "useTapeUp", desc := "(Z)V" } : Jvm.MethodName) ({ cls := "UnaskedName", name := "useTapeUp", desc := "(Z)V" } : Jvm.MethodName)) ∈ Gw := gw_s 4 rfl rfl
theorem mw_s5 : (Jvm.Cond.selects "java/lang/Throwable" ({ cls := "java/lang/Throwable", name := "fillInStackTrace", desc := "(I)Ljava/lang/Throwable;" } : Jvm.MethodName) ({ cls := "java/lang/Throwable", name := "fillInStackTrace", desc := "(I)Ljava/lang/Throwable;" } : Jvm.MethodName)) ∈ Gw := gw_s 5 rfl rfl
theorem mw_s6 : (Jvm.Cond.selects "UnaskedName$LawReader" ({ cls := "UnaskedName$LawReader", name := "takes", desc := "(LUnaskedName$Tape;LUnaskedName$Law;)Z" } : Jvm.MethodName) ({ cls := "UnaskedName$LawReader", name := "takes", desc := "(LUnaskedName$Tape;LUnaskedName$Law;)Z" } : Jvm.MethodName)) ∈ Gw := gw_s 6 rfl rfl
theorem mw_s7 : (Jvm.Cond.selects "UnaskedName$LawReader" ({ cls := "UnaskedName$LawReader", name := "takesKind", desc := "(LUnaskedName$Tape;)Z" } : Jvm.MethodName) ({ cls := "UnaskedName$LawReader", name := "takesKind", desc := "(LUnaskedName$Tape;)Z" } : Jvm.MethodName)) ∈ Gw := gw_s 7 rfl rfl
theorem mw_s8 : (Jvm.Cond.selects "UnaskedName$LawReader" ({ cls := "UnaskedName$LawReader", name := "endsLine", desc := "(LUnaskedName$Law;)Z" } : Jvm.MethodName) ({ cls := "UnaskedName$LawReader", name := "endsLine", desc := "(LUnaskedName$Law;)Z" } : Jvm.MethodName)) ∈ Gw := gw_s 8 rfl rfl
theorem mw_s9 : (Jvm.Cond.selects "UnaskedName$LawReader" ({ cls := "UnaskedName$LawReader", name := "endAtom", desc := "(LUnaskedName$Law;)V" } : Jvm.MethodName) ({ cls := "UnaskedName$LawReader", name := "endAtom", desc := "(LUnaskedName$Law;)V" } : Jvm.MethodName)) ∈ Gw := gw_s 9 rfl rfl
theorem mw_s10 : (Jvm.Cond.selects "UnaskedName$LawReader" ({ cls := "UnaskedName$LawReader", name := "topWaiting", desc := "()I" } : Jvm.MethodName) ({ cls := "UnaskedName$LawReader", name := "topWaiting", desc := "()I" } : Jvm.MethodName)) ∈ Gw := gw_s 10 rfl rfl
theorem mw_s11 : (Jvm.Cond.selects "UnaskedName$LawReader" ({ cls := "UnaskedName$LawReader", name := "release", desc := "(LUnaskedName$Law;I)V" } : Jvm.MethodName) ({ cls := "UnaskedName$LawReader", name := "release", desc := "(LUnaskedName$Law;I)V" } : Jvm.MethodName)) ∈ Gw := gw_s 11 rfl rfl
theorem mw_s12 : (Jvm.Cond.selects "UnaskedName$LawReader" ({ cls := "UnaskedName$LawReader", name := "takesAtom", desc := "(LUnaskedName$Tape;LUnaskedName$Law;)Z" } : Jvm.MethodName) ({ cls := "UnaskedName$LawReader", name := "takesAtom", desc := "(LUnaskedName$Tape;LUnaskedName$Law;)Z" } : Jvm.MethodName)) ∈ Gw := gw_s 12 rfl rfl
theorem mw_s13 : (Jvm.Cond.selects "UnaskedName$LawReader" ({ cls := "UnaskedName$LawReader", name := "pushWaiting", desc := "(I)V" } : Jvm.MethodName) ({ cls := "UnaskedName$LawReader", name := "pushWaiting", desc := "(I)V" } : Jvm.MethodName)) ∈ Gw := gw_s 13 rfl rfl
theorem mw_s14 : (Jvm.Cond.selects "UnaskedName$LawReader" ({ cls := "UnaskedName$LawReader", name := "takesPart", desc := "(LUnaskedName$Tape;LUnaskedName$Law;)Z" } : Jvm.MethodName) ({ cls := "UnaskedName$LawReader", name := "takesPart", desc := "(LUnaskedName$Tape;LUnaskedName$Law;)Z" } : Jvm.MethodName)) ∈ Gw := gw_s 14 rfl rfl
theorem mw_s15 : (Jvm.Cond.selects "UnaskedName$LawReader" ({ cls := "UnaskedName$LawReader", name := "takesComparison", desc := "(LUnaskedName$Tape;LUnaskedName$Law;)Z" } : Jvm.MethodName) ({ cls := "UnaskedName$LawReader", name := "takesComparison", desc := "(LUnaskedName$Tape;LUnaskedName$Law;)Z" } : Jvm.MethodName)) ∈ Gw := gw_s 15 rfl rfl
theorem mw_s16 : (Jvm.Cond.selects "UnaskedName$LawReader" ({ cls := "UnaskedName$LawReader", name := "takesJoint", desc := "(LUnaskedName$Tape;LUnaskedName$Law;)Z" } : Jvm.MethodName) ({ cls := "UnaskedName$LawReader", name := "takesJoint", desc := "(LUnaskedName$Tape;LUnaskedName$Law;)Z" } : Jvm.MethodName)) ∈ Gw := gw_s 16 rfl rfl
theorem mw_s17 : (Jvm.Cond.selects "UnaskedName" ({ cls := "UnaskedName", name := "needName", desc := "(I)V" } : Jvm.MethodName) ({ cls := "UnaskedName", name := "needName", desc := "(I)V" } : Jvm.MethodName)) ∈ Gw := gw_s 17 rfl rfl
theorem mw_s18 : (Jvm.Cond.selects "UnaskedName" ({ cls := "UnaskedName", name := "beliefIn", desc := "(I)I" } : Jvm.MethodName) ({ cls := "UnaskedName", name := "beliefIn", desc := "(I)I" } : Jvm.MethodName)) ∈ Gw := gw_s 18 rfl rfl
theorem mw_s19 : (Jvm.Cond.selects "UnaskedName" ({ cls := "UnaskedName", name := "needWho", desc := "(I)V" } : Jvm.MethodName) ({ cls := "UnaskedName", name := "needWho", desc := "(I)V" } : Jvm.MethodName)) ∈ Gw := gw_s 19 rfl rfl
theorem mw_s20 : (Jvm.Cond.selects "UnaskedName" ({ cls := "UnaskedName", name := "needWord", desc := "(I)V" } : Jvm.MethodName) ({ cls := "UnaskedName", name := "needWord", desc := "(I)V" } : Jvm.MethodName)) ∈ Gw := gw_s 20 rfl rfl
theorem mw_s21 : (Jvm.Cond.selects "UnaskedName" ({ cls := "UnaskedName", name := "needDeed", desc := "(I)V" } : Jvm.MethodName) ({ cls := "UnaskedName", name := "needDeed", desc := "(I)V" } : Jvm.MethodName)) ∈ Gw := gw_s 21 rfl rfl
theorem mw_s22 : (Jvm.Cond.selects "UnaskedName" ({ cls := "UnaskedName", name := "needTrait", desc := "(I)V" } : Jvm.MethodName) ({ cls := "UnaskedName", name := "needTrait", desc := "(I)V" } : Jvm.MethodName)) ∈ Gw := gw_s 22 rfl rfl
theorem mw_s23 : (Jvm.Cond.selects "UnaskedName" ({ cls := "UnaskedName", name := "need", desc := "(Z)V" } : Jvm.MethodName) ({ cls := "UnaskedName", name := "need", desc := "(Z)V" } : Jvm.MethodName)) ∈ Gw := gw_s 23 rfl rfl
theorem mw_s24 : (Jvm.Cond.selects "UnaskedName$World" ({ cls := "UnaskedName$World", name := "canNightCome", desc := "(LUnaskedName$Mind;)Z" } : Jvm.MethodName) ({ cls := "UnaskedName$World", name := "canNightCome", desc := "(LUnaskedName$Mind;)Z" } : Jvm.MethodName)) ∈ Gw := gw_s 24 rfl rfl
theorem mw_s25 : (Jvm.Cond.selects "UnaskedName" ({ cls := "UnaskedName", name := "needDeedOrNone", desc := "(I)V" } : Jvm.MethodName) ({ cls := "UnaskedName", name := "needDeedOrNone", desc := "(I)V" } : Jvm.MethodName)) ∈ Gw := gw_s 25 rfl rfl
theorem mw_s26 : (Jvm.Cond.selects "UnaskedName$Siege" ({ cls := "UnaskedName$Siege", name := "open", desc := "(LUnaskedName$World;I)V" } : Jvm.MethodName) ({ cls := "UnaskedName$Siege", name := "open", desc := "(LUnaskedName$World;I)V" } : Jvm.MethodName)) ∈ Gw := gw_s 26 rfl rfl
theorem mw_s27 : (Jvm.Cond.selects "UnaskedName$Siege" ({ cls := "UnaskedName$Siege", name := "fewestFrom", desc := "(LUnaskedName$World;II)I" } : Jvm.MethodName) ({ cls := "UnaskedName$Siege", name := "fewestFrom", desc := "(LUnaskedName$World;II)I" } : Jvm.MethodName)) ∈ Gw := gw_s 27 rfl rfl
theorem mw_s28 : (Jvm.Cond.selects "UnaskedName$Siege" ({ cls := "UnaskedName$Siege", name := "latestBehind", desc := "(LUnaskedName$World;II)I" } : Jvm.MethodName) ({ cls := "UnaskedName$Siege", name := "latestBehind", desc := "(LUnaskedName$World;II)I" } : Jvm.MethodName)) ∈ Gw := gw_s 28 rfl rfl
theorem mw_s29 : (Jvm.Cond.selects "UnaskedName$Siege" ({ cls := "UnaskedName$Siege", name := "easedOn", desc := "(LUnaskedName$World;III)I" } : Jvm.MethodName) ({ cls := "UnaskedName$Siege", name := "easedOn", desc := "(LUnaskedName$World;III)I" } : Jvm.MethodName)) ∈ Gw := gw_s 29 rfl rfl
theorem mw_s30 : (Jvm.Cond.selects "UnaskedName$Siege" ({ cls := "UnaskedName$Siege", name := "fewestWith", desc := "(LUnaskedName$World;IIII)I" } : Jvm.MethodName) ({ cls := "UnaskedName$Siege", name := "fewestWith", desc := "(LUnaskedName$World;IIII)I" } : Jvm.MethodName)) ∈ Gw := gw_s 30 rfl rfl
theorem mw_s31 : (Jvm.Cond.selects "UnaskedName$Rows" ({ cls := "UnaskedName$Rows", name := "open", desc := "(LUnaskedName$Mind;)V" } : Jvm.MethodName) ({ cls := "UnaskedName$Rows", name := "open", desc := "(LUnaskedName$Mind;)V" } : Jvm.MethodName)) ∈ Gw := gw_s 31 rfl rfl
theorem mw_s32 : (Jvm.Cond.selects "UnaskedName$Rows" ({ cls := "UnaskedName$Rows", name := "oneWordMore", desc := "(LUnaskedName$World;I)Z" } : Jvm.MethodName) ({ cls := "UnaskedName$Rows", name := "oneWordMore", desc := "(LUnaskedName$World;I)Z" } : Jvm.MethodName)) ∈ Gw := gw_s 32 rfl rfl
theorem mw_s33 : (Jvm.Cond.selects "UnaskedName$Rows" ({ cls := "UnaskedName$Rows", name := "asksFrom", desc := "(LUnaskedName$World;III)Z" } : Jvm.MethodName) ({ cls := "UnaskedName$Rows", name := "asksFrom", desc := "(LUnaskedName$World;III)Z" } : Jvm.MethodName)) ∈ Gw := gw_s 33 rfl rfl
theorem mw_s34 : (Jvm.Cond.selects "UnaskedName$Rows" ({ cls := "UnaskedName$Rows", name := "toldWith", desc := "(LUnaskedName$World;II)I" } : Jvm.MethodName) ({ cls := "UnaskedName$Rows", name := "toldWith", desc := "(LUnaskedName$World;II)I" } : Jvm.MethodName)) ∈ Gw := gw_s 34 rfl rfl
theorem mw_s35 : (Jvm.Cond.selects "UnaskedName$Rows" ({ cls := "UnaskedName$Rows", name := "reach", desc := "(II)V" } : Jvm.MethodName) ({ cls := "UnaskedName$Rows", name := "reach", desc := "(II)V" } : Jvm.MethodName)) ∈ Gw := gw_s 35 rfl rfl
theorem mw_s36 : (Jvm.Cond.selects "UnaskedName" ({ cls := "UnaskedName", name := "staysQuiet", desc := "(II)Z" } : Jvm.MethodName) ({ cls := "UnaskedName", name := "staysQuiet", desc := "(II)Z" } : Jvm.MethodName)) ∈ Gw := gw_s 36 rfl rfl
theorem mw_s37 : (Jvm.Cond.selects "UnaskedName" ({ cls := "UnaskedName", name := "doubtBehind", desc := "(I)I" } : Jvm.MethodName) ({ cls := "UnaskedName", name := "doubtBehind", desc := "(I)I" } : Jvm.MethodName)) ∈ Gw := gw_s 37 rfl rfl
theorem mw_s38 : (Jvm.Cond.selects "UnaskedName" ({ cls := "UnaskedName", name := "tryNights", desc := "(II)V" } : Jvm.MethodName) ({ cls := "UnaskedName", name := "tryNights", desc := "(II)V" } : Jvm.MethodName)) ∈ Gw := gw_s 38 rfl rfl
theorem mw_s39 : (Jvm.Cond.selects "UnaskedNameModel" ({ cls := "UnaskedNameModel", name := "readAll", desc := "(Z)I" } : Jvm.MethodName) ({ cls := "UnaskedNameModel", name := "readAll", desc := "(Z)I" } : Jvm.MethodName)) ∈ Gw := gw_s 39 rfl rfl
theorem mw_s40 : (Jvm.Cond.selects "UnaskedNameModel" ({ cls := "UnaskedNameModel", name := "uses", desc := "()V" } : Jvm.MethodName) ({ cls := "UnaskedNameModel", name := "uses", desc := "()V" } : Jvm.MethodName)) ∈ Gw := gw_s 40 rfl rfl
theorem mw_s41 : (Jvm.Cond.selects "UnaskedNameModel" ({ cls := "UnaskedNameModel", name := "blanks", desc := "()V" } : Jvm.MethodName) ({ cls := "UnaskedNameModel", name := "blanks", desc := "()V" } : Jvm.MethodName)) ∈ Gw := gw_s 41 rfl rfl
theorem mw_s42 : (Jvm.Cond.selects "UnaskedNameModel" ({ cls := "UnaskedNameModel", name := "isAt", desc := "(II)Z" } : Jvm.MethodName) ({ cls := "UnaskedNameModel", name := "isAt", desc := "(II)Z" } : Jvm.MethodName)) ∈ Gw := gw_s 42 rfl rfl
theorem mw_s43 : (Jvm.Cond.selects "UnaskedNameModel" ({ cls := "UnaskedNameModel", name := "readLine", desc := "(ZI)Z" } : Jvm.MethodName) ({ cls := "UnaskedNameModel", name := "readLine", desc := "(ZI)Z" } : Jvm.MethodName)) ∈ Gw := gw_s 43 rfl rfl
theorem mw_s44 : (Jvm.Cond.selects "UnaskedNameModel" ({ cls := "UnaskedNameModel", name := "letters", desc := "()V" } : Jvm.MethodName) ({ cls := "UnaskedNameModel", name := "letters", desc := "()V" } : Jvm.MethodName)) ∈ Gw := gw_s 44 rfl rfl
theorem mw_s45 : (Jvm.Cond.selects "UnaskedNameModel" ({ cls := "UnaskedNameModel", name := "readStoryLine", desc := "()Z" } : Jvm.MethodName) ({ cls := "UnaskedNameModel", name := "readStoryLine", desc := "()Z" } : Jvm.MethodName)) ∈ Gw := gw_s 45 rfl rfl
theorem mw_s46 : (Jvm.Cond.selects "UnaskedNameModel" ({ cls := "UnaskedNameModel", name := "isWord", desc := "(Ljava/lang/String;)Z" } : Jvm.MethodName) ({ cls := "UnaskedNameModel", name := "isWord", desc := "(Ljava/lang/String;)Z" } : Jvm.MethodName)) ∈ Gw := gw_s 46 rfl rfl
theorem mw_s47 : (Jvm.Cond.selects "UnaskedNameModel" ({ cls := "UnaskedNameModel", name := "readName", desc := "()Z" } : Jvm.MethodName) ({ cls := "UnaskedNameModel", name := "readName", desc := "()Z" } : Jvm.MethodName)) ∈ Gw := gw_s 47 rfl rfl
theorem mw_s48 : (Jvm.Cond.selects "UnaskedNameModel" ({ cls := "UnaskedNameModel", name := "names", desc := "()I" } : Jvm.MethodName) ({ cls := "UnaskedNameModel", name := "names", desc := "()I" } : Jvm.MethodName)) ∈ Gw := gw_s 48 rfl rfl
theorem mw_s49 : (Jvm.Cond.selects "UnaskedNameModel" ({ cls := "UnaskedNameModel", name := "lettersTold", desc := "()I" } : Jvm.MethodName) ({ cls := "UnaskedNameModel", name := "lettersTold", desc := "()I" } : Jvm.MethodName)) ∈ Gw := gw_s 49 rfl rfl
theorem mw_s50 : (Jvm.Cond.selects "UnaskedNameModel" ({ cls := "UnaskedNameModel", name := "after", desc := "(Ljava/lang/String;II)I" } : Jvm.MethodName) ({ cls := "UnaskedNameModel", name := "after", desc := "(Ljava/lang/String;II)I" } : Jvm.MethodName)) ∈ Gw := gw_s 50 rfl rfl
theorem mw_s51 : (Jvm.Cond.selects "UnaskedNameModel" ({ cls := "UnaskedNameModel", name := "number", desc := "(II)I" } : Jvm.MethodName) ({ cls := "UnaskedNameModel", name := "number", desc := "(II)I" } : Jvm.MethodName)) ∈ Gw := gw_s 51 rfl rfl
theorem mw_s52 : (Jvm.Cond.selects "UnaskedNameModel" ({ cls := "UnaskedNameModel", name := "readWord", desc := "()Z" } : Jvm.MethodName) ({ cls := "UnaskedNameModel", name := "readWord", desc := "()Z" } : Jvm.MethodName)) ∈ Gw := gw_s 52 rfl rfl
theorem mw_s53 : (Jvm.Cond.selects "UnaskedNameModel" ({ cls := "UnaskedNameModel", name := "words", desc := "()I" } : Jvm.MethodName) ({ cls := "UnaskedNameModel", name := "words", desc := "()I" } : Jvm.MethodName)) ∈ Gw := gw_s 53 rfl rfl
theorem mw_s54 : (Jvm.Cond.selects "UnaskedNameModel" ({ cls := "UnaskedNameModel", name := "passes", desc := "(Ljava/lang/String;)Z" } : Jvm.MethodName) ({ cls := "UnaskedNameModel", name := "passes", desc := "(Ljava/lang/String;)Z" } : Jvm.MethodName)) ∈ Gw := gw_s 54 rfl rfl
theorem mw_s55 : (Jvm.Cond.selects "UnaskedNameModel" ({ cls := "UnaskedNameModel", name := "readDeed", desc := "()Z" } : Jvm.MethodName) ({ cls := "UnaskedNameModel", name := "readDeed", desc := "()Z" } : Jvm.MethodName)) ∈ Gw := gw_s 55 rfl rfl
theorem mw_s56 : (Jvm.Cond.selects "UnaskedNameModel" ({ cls := "UnaskedNameModel", name := "deeds", desc := "()I" } : Jvm.MethodName) ({ cls := "UnaskedNameModel", name := "deeds", desc := "()I" } : Jvm.MethodName)) ∈ Gw := gw_s 56 rfl rfl
theorem mw_s57 : (Jvm.Cond.selects "UnaskedNameModel" ({ cls := "UnaskedNameModel", name := "readWho", desc := "(I)Z" } : Jvm.MethodName) ({ cls := "UnaskedNameModel", name := "readWho", desc := "(I)Z" } : Jvm.MethodName)) ∈ Gw := gw_s 57 rfl rfl
theorem mw_s58 : (Jvm.Cond.selects "UnaskedNameModel" ({ cls := "UnaskedNameModel", name := "courtiers", desc := "()I" } : Jvm.MethodName) ({ cls := "UnaskedNameModel", name := "courtiers", desc := "()I" } : Jvm.MethodName)) ∈ Gw := gw_s 58 rfl rfl
theorem mw_s59 : (Jvm.Cond.selects "UnaskedNameModel" ({ cls := "UnaskedNameModel", name := "readDuty", desc := "()Z" } : Jvm.MethodName) ({ cls := "UnaskedNameModel", name := "readDuty", desc := "()Z" } : Jvm.MethodName)) ∈ Gw := gw_s 59 rfl rfl
theorem mw_s60 : (Jvm.Cond.selects "UnaskedNameModel" ({ cls := "UnaskedNameModel", name := "duties", desc := "()I" } : Jvm.MethodName) ({ cls := "UnaskedNameModel", name := "duties", desc := "()I" } : Jvm.MethodName)) ∈ Gw := gw_s 60 rfl rfl
theorem mw_s61 : (Jvm.Cond.selects "UnaskedNameModel" ({ cls := "UnaskedNameModel", name := "readNumber", desc := "(III)Z" } : Jvm.MethodName) ({ cls := "UnaskedNameModel", name := "readNumber", desc := "(III)Z" } : Jvm.MethodName)) ∈ Gw := gw_s 61 rfl rfl
theorem mw_s62 : (Jvm.Cond.selects "UnaskedNameModel" ({ cls := "UnaskedNameModel", name := "readHis", desc := "()Z" } : Jvm.MethodName) ({ cls := "UnaskedNameModel", name := "readHis", desc := "()Z" } : Jvm.MethodName)) ∈ Gw := gw_s 62 rfl rfl
theorem mw_s63 : (Jvm.Cond.selects "UnaskedNameModel" ({ cls := "UnaskedNameModel", name := "isNow", desc := "(I)V" } : Jvm.MethodName) ({ cls := "UnaskedNameModel", name := "isNow", desc := "(I)V" } : Jvm.MethodName)) ∈ Gw := gw_s 63 rfl rfl
theorem mw_s64 : (Jvm.Cond.selects "UnaskedNameModel" ({ cls := "UnaskedNameModel", name := "readLawLine", desc := "(I)Z" } : Jvm.MethodName) ({ cls := "UnaskedNameModel", name := "readLawLine", desc := "(I)Z" } : Jvm.MethodName)) ∈ Gw := gw_s 64 rfl rfl
theorem mw_s65 : (Jvm.Cond.selects "UnaskedNameModel" ({ cls := "UnaskedNameModel", name := "readCond", desc := "()Z" } : Jvm.MethodName) ({ cls := "UnaskedNameModel", name := "readCond", desc := "()Z" } : Jvm.MethodName)) ∈ Gw := gw_s 65 rfl rfl
theorem mw_s66 : (Jvm.Cond.selects "UnaskedNameModel" ({ cls := "UnaskedNameModel", name := "readAllOf", desc := "()Z" } : Jvm.MethodName) ({ cls := "UnaskedNameModel", name := "readAllOf", desc := "()Z" } : Jvm.MethodName)) ∈ Gw := gw_s 66 rfl rfl
theorem mw_s67 : (Jvm.Cond.selects "UnaskedNameModel" ({ cls := "UnaskedNameModel", name := "readAtom", desc := "()Z" } : Jvm.MethodName) ({ cls := "UnaskedNameModel", name := "readAtom", desc := "()Z" } : Jvm.MethodName)) ∈ Gw := gw_s 67 rfl rfl
theorem mw_s68 : (Jvm.Cond.selects "UnaskedNameModel" ({ cls := "UnaskedNameModel", name := "sign", desc := "(I)Z" } : Jvm.MethodName) ({ cls := "UnaskedNameModel", name := "sign", desc := "(I)Z" } : Jvm.MethodName)) ∈ Gw := gw_s 68 rfl rfl
theorem mw_s69 : (Jvm.Cond.selects "UnaskedNameModel" ({ cls := "UnaskedNameModel", name := "emits", desc := "(II)V" } : Jvm.MethodName) ({ cls := "UnaskedNameModel", name := "emits", desc := "(II)V" } : Jvm.MethodName)) ∈ Gw := gw_s 69 rfl rfl
theorem mw_s70 : (Jvm.Cond.selects "UnaskedNameModel" ({ cls := "UnaskedNameModel", name := "readTag", desc := "()Z" } : Jvm.MethodName) ({ cls := "UnaskedNameModel", name := "readTag", desc := "()Z" } : Jvm.MethodName)) ∈ Gw := gw_s 70 rfl rfl
theorem mw_s71 : (Jvm.Cond.selects "UnaskedNameModel" ({ cls := "UnaskedNameModel", name := "readSum", desc := "()Z" } : Jvm.MethodName) ({ cls := "UnaskedNameModel", name := "readSum", desc := "()Z" } : Jvm.MethodName)) ∈ Gw := gw_s 71 rfl rfl
theorem mw_s72 : (Jvm.Cond.selects "UnaskedNameModel" ({ cls := "UnaskedNameModel", name := "readPart", desc := "()Z" } : Jvm.MethodName) ({ cls := "UnaskedNameModel", name := "readPart", desc := "()Z" } : Jvm.MethodName)) ∈ Gw := gw_s 72 rfl rfl
theorem mw_s73 : (Jvm.Cond.selects "UnaskedNameModel" ({ cls := "UnaskedNameModel", name := "throwsIf", desc := "(ZI)Z" } : Jvm.MethodName) ({ cls := "UnaskedNameModel", name := "throwsIf", desc := "(ZI)Z" } : Jvm.MethodName)) ∈ Gw := gw_s 73 rfl rfl
theorem mw_s74 : (Jvm.Cond.selects "UnaskedNameModel" ({ cls := "UnaskedNameModel", name := "noWho", desc := "(I)Z" } : Jvm.MethodName) ({ cls := "UnaskedNameModel", name := "noWho", desc := "(I)Z" } : Jvm.MethodName)) ∈ Gw := gw_s 74 rfl rfl
theorem mw_s75 : (Jvm.Cond.selects "UnaskedNameModel" ({ cls := "UnaskedNameModel", name := "noWord", desc := "(I)Z" } : Jvm.MethodName) ({ cls := "UnaskedNameModel", name := "noWord", desc := "(I)Z" } : Jvm.MethodName)) ∈ Gw := gw_s 75 rfl rfl
theorem mw_s76 : (Jvm.Cond.selects "UnaskedNameModel" ({ cls := "UnaskedNameModel", name := "looksNow", desc := "()V" } : Jvm.MethodName) ({ cls := "UnaskedNameModel", name := "looksNow", desc := "()V" } : Jvm.MethodName)) ∈ Gw := gw_s 76 rfl rfl
theorem mw_s77 : (Jvm.Cond.selects "UnaskedNameModel" ({ cls := "UnaskedNameModel", name := "howMany", desc := "()I" } : Jvm.MethodName) ({ cls := "UnaskedNameModel", name := "howMany", desc := "()I" } : Jvm.MethodName)) ∈ Gw := gw_s 77 rfl rfl
theorem mw_s78 : (Jvm.Cond.selects "UnaskedNameModel" ({ cls := "UnaskedNameModel", name := "looks", desc := "(III)V" } : Jvm.MethodName) ({ cls := "UnaskedNameModel", name := "looks", desc := "(III)V" } : Jvm.MethodName)) ∈ Gw := gw_s 78 rfl rfl
theorem mw_s79 : (Jvm.Cond.selects "UnaskedNameModel" ({ cls := "UnaskedNameModel", name := "stingsBy", desc := "(II)I" } : Jvm.MethodName) ({ cls := "UnaskedNameModel", name := "stingsBy", desc := "(II)I" } : Jvm.MethodName)) ∈ Gw := gw_s 79 rfl rfl
theorem mw_s80 : (Jvm.Cond.selects "UnaskedNameModel" ({ cls := "UnaskedNameModel", name := "ofWord", desc := "(II)I" } : Jvm.MethodName) ({ cls := "UnaskedNameModel", name := "ofWord", desc := "(II)I" } : Jvm.MethodName)) ∈ Gw := gw_s 80 rfl rfl
theorem mw_s81 : (Jvm.Cond.selects "UnaskedNameModel" ({ cls := "UnaskedNameModel", name := "traitsOfHis", desc := "()I" } : Jvm.MethodName) ({ cls := "UnaskedNameModel", name := "traitsOfHis", desc := "()I" } : Jvm.MethodName)) ∈ Gw := gw_s 81 rfl rfl
theorem mw_s82 : (Jvm.Cond.selects "UnaskedNameModel" ({ cls := "UnaskedNameModel", name := "ofName", desc := "(II)I" } : Jvm.MethodName) ({ cls := "UnaskedNameModel", name := "ofName", desc := "(II)I" } : Jvm.MethodName)) ∈ Gw := gw_s 82 rfl rfl
theorem mw_s83 : (Jvm.Cond.selects "UnaskedNameModel" ({ cls := "UnaskedNameModel", name := "sumOf", desc := "(I)I" } : Jvm.MethodName) ({ cls := "UnaskedNameModel", name := "sumOf", desc := "(I)I" } : Jvm.MethodName)) ∈ Gw := gw_s 83 rfl rfl
theorem mw_s84 : (Jvm.Cond.selects "UnaskedNameModel" ({ cls := "UnaskedNameModel", name := "holdsLine", desc := "(I)Z" } : Jvm.MethodName) ({ cls := "UnaskedNameModel", name := "holdsLine", desc := "(I)Z" } : Jvm.MethodName)) ∈ Gw := gw_s 84 rfl rfl
theorem mw_s85 : (Jvm.Cond.selects "UnaskedNameModel" ({ cls := "UnaskedNameModel", name := "factOf", desc := "(II)I" } : Jvm.MethodName) ({ cls := "UnaskedNameModel", name := "factOf", desc := "(II)I" } : Jvm.MethodName)) ∈ Gw := gw_s 85 rfl rfl
theorem mw_s86 : (Jvm.Cond.selects "UnaskedNameModel" ({ cls := "UnaskedNameModel", name := "possibleBehind", desc := "(II)I" } : Jvm.MethodName) ({ cls := "UnaskedNameModel", name := "possibleBehind", desc := "(II)I" } : Jvm.MethodName)) ∈ Gw := gw_s 86 rfl rfl
theorem mw_s87 : (Jvm.Cond.selects "UnaskedNameModel" ({ cls := "UnaskedNameModel", name := "staysOf", desc := "(II)I" } : Jvm.MethodName) ({ cls := "UnaskedNameModel", name := "staysOf", desc := "(II)I" } : Jvm.MethodName)) ∈ Gw := gw_s 87 rfl rfl
theorem mw_s88 : (Jvm.Cond.selects "UnaskedNameModel" ({ cls := "UnaskedNameModel", name := "behindWord", desc := "(II)I" } : Jvm.MethodName) ({ cls := "UnaskedNameModel", name := "behindWord", desc := "(II)I" } : Jvm.MethodName)) ∈ Gw := gw_s 88 rfl rfl
theorem mw_s89 : (Jvm.Cond.selects "UnaskedNameModel" ({ cls := "UnaskedNameModel", name := "noDeed", desc := "(I)Z" } : Jvm.MethodName) ({ cls := "UnaskedNameModel", name := "noDeed", desc := "(I)Z" } : Jvm.MethodName)) ∈ Gw := gw_s 89 rfl rfl
theorem mw_s90 : (Jvm.Cond.selects "UnaskedNameModel" ({ cls := "UnaskedNameModel", name := "easesBy", desc := "(I)I" } : Jvm.MethodName) ({ cls := "UnaskedNameModel", name := "easesBy", desc := "(I)I" } : Jvm.MethodName)) ∈ Gw := gw_s 90 rfl rfl
theorem mw_s91 : (Jvm.Cond.selects "UnaskedNameModel" ({ cls := "UnaskedNameModel", name := "ofDeed", desc := "(II)I" } : Jvm.MethodName) ({ cls := "UnaskedNameModel", name := "ofDeed", desc := "(II)I" } : Jvm.MethodName)) ∈ Gw := gw_s 91 rfl rfl
theorem mw_s92 : (Jvm.Cond.selects "UnaskedNameModel" ({ cls := "UnaskedNameModel", name := "ofWho", desc := "(II)I" } : Jvm.MethodName) ({ cls := "UnaskedNameModel", name := "ofWho", desc := "(II)I" } : Jvm.MethodName)) ∈ Gw := gw_s 92 rfl rfl
theorem mw_s93 : (Jvm.Cond.selects "UnaskedNameModel" ({ cls := "UnaskedNameModel", name := "isGone", desc := "()Z" } : Jvm.MethodName) ({ cls := "UnaskedNameModel", name := "isGone", desc := "()Z" } : Jvm.MethodName)) ∈ Gw := gw_s 93 rfl rfl
theorem mw_s94 : (Jvm.Cond.selects "UnaskedNameModel" ({ cls := "UnaskedNameModel", name := "isNear", desc := "(I)Z" } : Jvm.MethodName) ({ cls := "UnaskedNameModel", name := "isNear", desc := "(I)Z" } : Jvm.MethodName)) ∈ Gw := gw_s 94 rfl rfl
theorem mw_s95 : (Jvm.Cond.selects "UnaskedNameModel" ({ cls := "UnaskedNameModel", name := "remembers", desc := "()V" } : Jvm.MethodName) ({ cls := "UnaskedNameModel", name := "remembers", desc := "()V" } : Jvm.MethodName)) ∈ Gw := gw_s 95 rfl rfl
theorem mw_s96 : (Jvm.Cond.selects "UnaskedNameModel" ({ cls := "UnaskedNameModel", name := "says", desc := "(II)V" } : Jvm.MethodName) ({ cls := "UnaskedNameModel", name := "says", desc := "(II)V" } : Jvm.MethodName)) ∈ Gw := gw_s 96 rfl rfl
theorem mw_s97 : (Jvm.Cond.selects "UnaskedNameModel" ({ cls := "UnaskedNameModel", name := "tells", desc := "(II)V" } : Jvm.MethodName) ({ cls := "UnaskedNameModel", name := "tells", desc := "(II)V" } : Jvm.MethodName)) ∈ Gw := gw_s 97 rfl rfl
theorem mw_s98 : (Jvm.Cond.selects "UnaskedNameModel" ({ cls := "UnaskedNameModel", name := "isDone", desc := "(I)V" } : Jvm.MethodName) ({ cls := "UnaskedNameModel", name := "isDone", desc := "(I)V" } : Jvm.MethodName)) ∈ Gw := gw_s 98 rfl rfl
theorem mw_s99 : (Jvm.Cond.selects "UnaskedNameModel" ({ cls := "UnaskedNameModel", name := "behindDeed", desc := "(I)I" } : Jvm.MethodName) ({ cls := "UnaskedNameModel", name := "behindDeed", desc := "(I)I" } : Jvm.MethodName)) ∈ Gw := gw_s 99 rfl rfl
theorem mw_s100 : (Jvm.Cond.selects "UnaskedNameModel" ({ cls := "UnaskedNameModel", name := "noName", desc := "(I)Z" } : Jvm.MethodName) ({ cls := "UnaskedNameModel", name := "noName", desc := "(I)Z" } : Jvm.MethodName)) ∈ Gw := gw_s 100 rfl rfl
theorem mw_s101 : (Jvm.Cond.selects "UnaskedNameModel" ({ cls := "UnaskedNameModel", name := "goesBy", desc := "(I)I" } : Jvm.MethodName) ({ cls := "UnaskedNameModel", name := "goesBy", desc := "(I)I" } : Jvm.MethodName)) ∈ Gw := gw_s 101 rfl rfl
theorem mw_s102 : (Jvm.Cond.selects "UnaskedNameModel" ({ cls := "UnaskedNameModel", name := "isOver", desc := "()Z" } : Jvm.MethodName) ({ cls := "UnaskedNameModel", name := "isOver", desc := "()Z" } : Jvm.MethodName)) ∈ Gw := gw_s 102 rfl rfl
theorem mw_s103 : (Jvm.Cond.selects "UnaskedNameModel" ({ cls := "UnaskedNameModel", name := "oneNight", desc := "()V" } : Jvm.MethodName) ({ cls := "UnaskedNameModel", name := "oneNight", desc := "()V" } : Jvm.MethodName)) ∈ Gw := gw_s 103 rfl rfl
theorem mw_s104 : (Jvm.Cond.selects "UnaskedNameModel" ({ cls := "UnaskedNameModel", name := "drawn", desc := "(I)I" } : Jvm.MethodName) ({ cls := "UnaskedNameModel", name := "drawn", desc := "(I)I" } : Jvm.MethodName)) ∈ Gw := gw_s 104 rfl rfl
theorem mw_s105 : (Jvm.Cond.selects "UnaskedNameModel" ({ cls := "UnaskedNameModel", name := "noDeedTold", desc := "(I)Z" } : Jvm.MethodName) ({ cls := "UnaskedNameModel", name := "noDeedTold", desc := "(I)Z" } : Jvm.MethodName)) ∈ Gw := gw_s 105 rfl rfl
theorem mw_s106 : (Jvm.Cond.selects "UnaskedNameModel" ({ cls := "UnaskedNameModel", name := "keepsAll", desc := "()V" } : Jvm.MethodName) ({ cls := "UnaskedNameModel", name := "keepsAll", desc := "()V" } : Jvm.MethodName)) ∈ Gw := gw_s 106 rfl rfl
theorem mw_s107 : (Jvm.Cond.selects "UnaskedNameModel" ({ cls := "UnaskedNameModel", name := "calmNight", desc := "(I)V" } : Jvm.MethodName) ({ cls := "UnaskedNameModel", name := "calmNight", desc := "(I)V" } : Jvm.MethodName)) ∈ Gw := gw_s 107 rfl rfl
theorem mw_s108 : (Jvm.Cond.selects "UnaskedNameModel" ({ cls := "UnaskedNameModel", name := "bringsBack", desc := "()V" } : Jvm.MethodName) ({ cls := "UnaskedNameModel", name := "bringsBack", desc := "()V" } : Jvm.MethodName)) ∈ Gw := gw_s 108 rfl rfl
theorem mw_s109 : (Jvm.Cond.selects "UnaskedNameModel" ({ cls := "UnaskedNameModel", name := "nearOnes", desc := "()I" } : Jvm.MethodName) ({ cls := "UnaskedNameModel", name := "nearOnes", desc := "()I" } : Jvm.MethodName)) ∈ Gw := gw_s 109 rfl rfl
theorem mw_s110 : (Jvm.Cond.selects "UnaskedNameModel" ({ cls := "UnaskedNameModel", name := "siegeOf", desc := "(I)I" } : Jvm.MethodName) ({ cls := "UnaskedNameModel", name := "siegeOf", desc := "(I)I" } : Jvm.MethodName)) ∈ Gw := gw_s 110 rfl rfl
theorem mw_s111 : (Jvm.Cond.selects "UnaskedNameModel" ({ cls := "UnaskedNameModel", name := "laysTill", desc := "(II)V" } : Jvm.MethodName) ({ cls := "UnaskedNameModel", name := "laysTill", desc := "(II)V" } : Jvm.MethodName)) ∈ Gw := gw_s 111 rfl rfl
theorem mw_s112 : (Jvm.Cond.selects "UnaskedNameModel" ({ cls := "UnaskedNameModel", name := "leastTill", desc := "(II)I" } : Jvm.MethodName) ({ cls := "UnaskedNameModel", name := "leastTill", desc := "(II)I" } : Jvm.MethodName)) ∈ Gw := gw_s 112 rfl rfl
theorem mw_s113 : (Jvm.Cond.selects "UnaskedNameModel" ({ cls := "UnaskedNameModel", name := "behindDeeds", desc := "(II)I" } : Jvm.MethodName) ({ cls := "UnaskedNameModel", name := "behindDeeds", desc := "(II)I" } : Jvm.MethodName)) ∈ Gw := gw_s 113 rfl rfl
theorem mw_s114 : (Jvm.Cond.selects "UnaskedNameModel" ({ cls := "UnaskedNameModel", name := "tillOf", desc := "(II)I" } : Jvm.MethodName) ({ cls := "UnaskedNameModel", name := "tillOf", desc := "(II)I" } : Jvm.MethodName)) ∈ Gw := gw_s 114 rfl rfl
theorem mw_s115 : (Jvm.Cond.selects "UnaskedNameModel" ({ cls := "UnaskedNameModel", name := "isEnemy", desc := "(I)Z" } : Jvm.MethodName) ({ cls := "UnaskedNameModel", name := "isEnemy", desc := "(I)Z" } : Jvm.MethodName)) ∈ Gw := gw_s 115 rfl rfl
theorem mw_s116 : (Jvm.Cond.selects "UnaskedNameModel" ({ cls := "UnaskedNameModel", name := "tillBy", desc := "(IIII)I" } : Jvm.MethodName) ({ cls := "UnaskedNameModel", name := "tillBy", desc := "(IIII)I" } : Jvm.MethodName)) ∈ Gw := gw_s 116 rfl rfl
theorem mw_s117 : (Jvm.Cond.selects "UnaskedNameModel" ({ cls := "UnaskedNameModel", name := "bestDeed", desc := "(II)I" } : Jvm.MethodName) ({ cls := "UnaskedNameModel", name := "bestDeed", desc := "(II)I" } : Jvm.MethodName)) ∈ Gw := gw_s 117 rfl rfl
theorem mw_s118 : (Jvm.Cond.selects "UnaskedNameModel" ({ cls := "UnaskedNameModel", name := "asksBy", desc := "(III)Z" } : Jvm.MethodName) ({ cls := "UnaskedNameModel", name := "asksBy", desc := "(III)Z" } : Jvm.MethodName)) ∈ Gw := gw_s 118 rfl rfl
theorem mw_s119 : (Jvm.Cond.selects "UnaskedNameModel" ({ cls := "UnaskedNameModel", name := "possibleBy", desc := "(I)I" } : Jvm.MethodName) ({ cls := "UnaskedNameModel", name := "possibleBy", desc := "(I)I" } : Jvm.MethodName)) ∈ Gw := gw_s 119 rfl rfl
theorem mw_s120 : (Jvm.Cond.selects "UnaskedNameModel" ({ cls := "UnaskedNameModel", name := "beliefOf", desc := "(I)I" } : Jvm.MethodName) ({ cls := "UnaskedNameModel", name := "beliefOf", desc := "(I)I" } : Jvm.MethodName)) ∈ Gw := gw_s 120 rfl rfl
theorem mw_s121 : (Jvm.Cond.selects "UnaskedNameModel" ({ cls := "UnaskedNameModel", name := "creditOf", desc := "(I)I" } : Jvm.MethodName) ({ cls := "UnaskedNameModel", name := "creditOf", desc := "(I)I" } : Jvm.MethodName)) ∈ Gw := gw_s 121 rfl rfl
theorem mw_s122 : (Jvm.Cond.selects "UnaskedNameModel" ({ cls := "UnaskedNameModel", name := "whoHave", desc := "(I)I" } : Jvm.MethodName) ({ cls := "UnaskedNameModel", name := "whoHave", desc := "(I)I" } : Jvm.MethodName)) ∈ Gw := gw_s 122 rfl rfl
theorem mw_s123 : (Jvm.Cond.selects "UnaskedNameModel" ({ cls := "UnaskedNameModel", name := "crumbsOf", desc := "(I)I" } : Jvm.MethodName) ({ cls := "UnaskedNameModel", name := "crumbsOf", desc := "(I)I" } : Jvm.MethodName)) ∈ Gw := gw_s 123 rfl rfl
theorem mw_s124 : (Jvm.Cond.selects "UnaskedNameModel" ({ cls := "UnaskedNameModel", name := "doneBy", desc := "(I)I" } : Jvm.MethodName) ({ cls := "UnaskedNameModel", name := "doneBy", desc := "(I)I" } : Jvm.MethodName)) ∈ Gw := gw_s 124 rfl rfl
theorem mw_s125 : (Jvm.Cond.selects "UnaskedNameModel" ({ cls := "UnaskedNameModel", name := "allDuties", desc := "()I" } : Jvm.MethodName) ({ cls := "UnaskedNameModel", name := "allDuties", desc := "()I" } : Jvm.MethodName)) ∈ Gw := gw_s 125 rfl rfl
theorem mw_s126 : (Jvm.Cond.selects "UnaskedNameModel" ({ cls := "UnaskedNameModel", name := "ofLog", desc := "(II)I" } : Jvm.MethodName) ({ cls := "UnaskedNameModel", name := "ofLog", desc := "(II)I" } : Jvm.MethodName)) ∈ Gw := gw_s 126 rfl rfl
theorem mw_s127 : (Jvm.Cond.selects "UnaskedNameModel" ({ cls := "UnaskedNameModel", name := "recordsOf", desc := "(I)I" } : Jvm.MethodName) ({ cls := "UnaskedNameModel", name := "recordsOf", desc := "(I)I" } : Jvm.MethodName)) ∈ Gw := gw_s 127 rfl rfl
theorem mw_0 : (Jvm.Cond.initialized "UnaskedNameLaw") ∈ Gw := gw_c tin_1 0 rfl rfl
theorem mw_1 : (Jvm.Cond.initialized "UnaskedName") ∈ Gw := gw_c tin_1 1 rfl rfl
theorem mw_2 : (Jvm.Cond.initialized "UnaskedName$Tape") ∈ Gw := gw_c tin_1 2 rfl rfl
theorem mw_3 : (Jvm.Cond.initialized "UnaskedName$World") ∈ Gw := gw_c tin_1 3 rfl rfl
theorem mw_4 : (Jvm.Cond.initialized "UnaskedName$Tale") ∈ Gw := gw_c tin_1 4 rfl rfl
theorem mw_5 : (Jvm.Cond.initialized "UnaskedName$Law") ∈ Gw := gw_c tin_1 5 rfl rfl
theorem mw_6 : (Jvm.Cond.initialized "UnaskedName$Mind") ∈ Gw := gw_c tin_1 6 rfl rfl
theorem mw_7 : (Jvm.Cond.initialized "UnaskedName$Log") ∈ Gw := gw_c tin_1 7 rfl rfl
theorem mw_8 : (Jvm.Cond.initialized "UnaskedName$Past") ∈ Gw := gw_c tin_1 8 rfl rfl
theorem mw_9 : (Jvm.Cond.initialized "UnaskedName$Siege") ∈ Gw := gw_c tin_1 9 rfl rfl
theorem mw_10 : (Jvm.Cond.initialized "UnaskedName$Rows") ∈ Gw := gw_c tin_1 10 rfl rfl
theorem mw_11 : (Jvm.Cond.initialized "UnaskedName$LawReader") ∈ Gw := gw_c tin_1 11 rfl rfl
theorem mw_12 : (Jvm.Cond.initialized "UnaskedNameModel") ∈ Gw := gw_c tin_1 12 rfl rfl
theorem mw_13 : (Jvm.Cond.initialized "java/lang/System") ∈ Gw := gw_c tin_1 13 rfl rfl
theorem mw_14 : (Jvm.Cond.initialized "UnaskedName$StoryReader") ∈ Gw := gw_c tin_1 14 rfl rfl
theorem mw_15 : (Jvm.Cond.initialized "java/lang/String") ∈ Gw := gw_c tin_1 15 rfl rfl
theorem mw_16 : (Jvm.Cond.initialized "java/lang/StringLatin1") ∈ Gw := gw_c tin_1 16 rfl rfl
theorem mw_17 : (Jvm.Cond.initialized "jdk/internal/util/Preconditions") ∈ Gw := gw_c tin_1 17 rfl rfl
theorem mw_18 : (Jvm.Cond.initialized "java/lang/StringUTF16") ∈ Gw := gw_c tin_1 18 rfl rfl
theorem mw_19 : (Jvm.Cond.initialized "java/lang/Math") ∈ Gw := gw_c tin_1 19 rfl rfl
theorem mw_20 : (Jvm.Cond.initialized "java/lang/Throwable") ∈ Gw := gw_c tin_1 20 rfl rfl
theorem mw_21 : (Jvm.Cond.initialized "java/lang/Exception") ∈ Gw := gw_c tin_1 21 rfl rfl
theorem mw_22 : (Jvm.Cond.initialized "java/lang/RuntimeException") ∈ Gw := gw_c tin_1 22 rfl rfl
theorem mw_23 : (Jvm.Cond.initialized "java/lang/IllegalArgumentException") ∈ Gw := gw_c tin_1 23 rfl rfl
theorem mw_24 : (Jvm.Cond.initialized "java/lang/UnsupportedOperationException") ∈ Gw := gw_c tin_1 24 rfl rfl
theorem mw_25 : (Jvm.Cond.initialized "java/lang/Integer") ∈ Gw := gw_c tin_1 25 rfl rfl
theorem mw_26 : (Jvm.Cond.initialized "java/lang/IndexOutOfBoundsException") ∈ Gw := gw_c tin_1 26 rfl rfl
theorem mw_27 : (Jvm.Cond.initialized "java/util/NoSuchElementException") ∈ Gw := gw_c tin_1 27 rfl rfl
theorem mw_28 : (Jvm.Cond.initialized "java/lang/IllegalStateException") ∈ Gw := gw_c tin_1 28 rfl rfl
theorem mw_29 : (Jvm.Cond.classLink "UnaskedNameLaw" (8 : Nat) "UnaskedName") ∈ Gw := gw_c tin_1 29 rfl rfl
theorem mw_30 : (Jvm.Cond.instantiable "UnaskedName" (11 : Nat)) ∈ Gw := gw_c tin_1 30 rfl rfl
theorem mw_31 : (Jvm.Cond.methodLink "UnaskedNameLaw" (121 : Nat) ({ cls := "UnaskedName", name := "<init>", desc := "()V" } : Jvm.MethodName)) ∈ Gw := gw_c tin_1 31 rfl rfl
theorem mw_32 : (Jvm.Cond.instanceMethod ({ cls := "UnaskedName", name := "<init>", desc := "()V" } : Jvm.MethodName)) ∈ Gw := gw_c tin_1 32 rfl rfl
theorem mw_33 : (Jvm.Cond.code ({ cls := "UnaskedName", name := "<init>", desc := "()V" } : Jvm.MethodName) prog_1_method_1_code (1 : Nat) (Option.none : Option Jvm.ClassFile.FieldType)) ∈ Gw := gw_c tin_1 33 rfl rfl
theorem mw_34 : (Jvm.Cond.methodLink "UnaskedName" (1 : Nat) ({ cls := "java/lang/Object", name := "<init>", desc := "()V" } : Jvm.MethodName)) ∈ Gw := gw_c tin_1 34 rfl rfl
theorem mw_35 : (Jvm.Cond.instanceMethod ({ cls := "java/lang/Object", name := "<init>", desc := "()V" } : Jvm.MethodName)) ∈ Gw := gw_c tin_1 35 rfl rfl
theorem mw_36 : (Jvm.Cond.code ({ cls := "java/lang/Object", name := "<init>", desc := "()V" } : Jvm.MethodName) object_method_1_code (1 : Nat) (Option.none : Option Jvm.ClassFile.FieldType)) ∈ Gw := gw_c tin_1 36 rfl rfl
theorem mw_37 : (Jvm.Cond.classLink "UnaskedName" (7 : Nat) "UnaskedName$Tape") ∈ Gw := gw_c tin_1 37 rfl rfl
theorem mw_38 : (Jvm.Cond.instantiable "UnaskedName$Tape" (6 : Nat)) ∈ Gw := gw_c tin_1 38 rfl rfl
theorem mw_40 : (Jvm.Cond.instanceMethod ({ cls := "UnaskedName$Tape", name := "<init>", desc := "()V" } : Jvm.MethodName)) ∈ Gw := gw_c tin_1 40 rfl rfl
theorem mw_41 : (Jvm.Cond.code ({ cls := "UnaskedName$Tape", name := "<init>", desc := "()V" } : Jvm.MethodName) prog_11_method_1_code (1 : Nat) (Option.none : Option Jvm.ClassFile.FieldType)) ∈ Gw := gw_c tin_1 41 rfl rfl
theorem mw_42 : (Jvm.Cond.methodLink "UnaskedName$Tape" (3 : Nat) ({ cls := "java/lang/Object", name := "<init>", desc := "()V" } : Jvm.MethodName)) ∈ Gw := gw_c tin_1 42 rfl rfl
theorem mw_43 : (Jvm.Cond.fieldLink "UnaskedName$Tape" (9 : Nat) "UnaskedName$Tape" "length" "I") ∈ Gw := gw_c tin_1 43 rfl rfl
theorem mw_44 : (Jvm.Cond.fieldLink "UnaskedName" (80 : Nat) "UnaskedName$Tape" "length" "I") ∈ Gw := gw_c tin_1 44 rfl rfl
theorem mw_45 : (Jvm.Cond.fieldLink "UnaskedName$Tape" (15 : Nat) "UnaskedName$Tape" "kind" "I") ∈ Gw := gw_c tin_1 45 rfl rfl
theorem mw_46 : (Jvm.Cond.fieldLink "UnaskedName$StoryReader" (14 : Nat) "UnaskedName$Tape" "kind" "I") ∈ Gw := gw_c tin_1 46 rfl rfl
theorem mw_47 : (Jvm.Cond.fieldLink "UnaskedName$LawReader" (47 : Nat) "UnaskedName$Tape" "kind" "I") ∈ Gw := gw_c tin_1 47 rfl rfl
theorem mw_48 : (Jvm.Cond.fieldLink "UnaskedName$Tape" (18 : Nat) "UnaskedName$Tape" "from" "I") ∈ Gw := gw_c tin_1 48 rfl rfl
theorem mw_49 : (Jvm.Cond.fieldLink "UnaskedName" (138 : Nat) "UnaskedName$Tape" "from" "I") ∈ Gw := gw_c tin_1 49 rfl rfl
theorem mw_50 : (Jvm.Cond.fieldLink "UnaskedName$Tape" (21 : Nat) "UnaskedName$Tape" "next" "I") ∈ Gw := gw_c tin_1 50 rfl rfl
theorem mw_51 : (Jvm.Cond.fieldLink "UnaskedName$Tape" (24 : Nat) "UnaskedName$Tape" "value" "I") ∈ Gw := gw_c tin_1 51 rfl rfl
theorem mw_52 : (Jvm.Cond.fieldLink "UnaskedName$Tape" (27 : Nat) "UnaskedName$Tape" "bytes" "[B") ∈ Gw := gw_c tin_1 52 rfl rfl
theorem mw_66 : (Jvm.Cond.arrayClass Jvm.ClassFile.FieldType.byte) ∈ Gw := gw_c tin_1 66 rfl rfl
theorem mw_67 : (Jvm.Cond.classLink "UnaskedName" (16 : Nat) "UnaskedName$World") ∈ Gw := gw_c tin_1 67 rfl rfl
theorem mw_68 : (Jvm.Cond.instantiable "UnaskedName$World" (3 : Nat)) ∈ Gw := gw_c tin_1 68 rfl rfl
theorem mw_70 : (Jvm.Cond.instanceMethod ({ cls := "UnaskedName$World", name := "<init>", desc := "()V" } : Jvm.MethodName)) ∈ Gw := gw_c tin_1 70 rfl rfl
theorem mw_71 : (Jvm.Cond.code ({ cls := "UnaskedName$World", name := "<init>", desc := "()V" } : Jvm.MethodName) prog_12_method_1_code (1 : Nat) (Option.none : Option Jvm.ClassFile.FieldType)) ∈ Gw := gw_c tin_1 71 rfl rfl
theorem mw_72 : (Jvm.Cond.methodLink "UnaskedName$World" (3 : Nat) ({ cls := "java/lang/Object", name := "<init>", desc := "()V" } : Jvm.MethodName)) ∈ Gw := gw_c tin_1 72 rfl rfl
theorem mw_73 : (Jvm.Cond.classLink "UnaskedName$World" (9 : Nat) "UnaskedName$Tale") ∈ Gw := gw_c tin_1 73 rfl rfl
theorem mw_74 : (Jvm.Cond.instantiable "UnaskedName$Tale" (18 : Nat)) ∈ Gw := gw_c tin_1 74 rfl rfl
theorem mw_76 : (Jvm.Cond.instanceMethod ({ cls := "UnaskedName$Tale", name := "<init>", desc := "()V" } : Jvm.MethodName)) ∈ Gw := gw_c tin_1 76 rfl rfl
theorem mw_77 : (Jvm.Cond.code ({ cls := "UnaskedName$Tale", name := "<init>", desc := "()V" } : Jvm.MethodName) prog_10_method_1_code (1 : Nat) (Option.none : Option Jvm.ClassFile.FieldType)) ∈ Gw := gw_c tin_1 77 rfl rfl
theorem mw_78 : (Jvm.Cond.methodLink "UnaskedName$Tale" (3 : Nat) ({ cls := "java/lang/Object", name := "<init>", desc := "()V" } : Jvm.MethodName)) ∈ Gw := gw_c tin_1 78 rfl rfl
theorem mw_79 : (Jvm.Cond.fieldLink "UnaskedName$Tale" (9 : Nat) "UnaskedName$Tale" "texts" "I") ∈ Gw := gw_c tin_1 79 rfl rfl
theorem mw_80 : (Jvm.Cond.fieldLink "UnaskedName" (108 : Nat) "UnaskedName$Tale" "texts" "I") ∈ Gw := gw_c tin_1 80 rfl rfl
theorem mw_81 : (Jvm.Cond.fieldLink "UnaskedName$Tale" (15 : Nat) "UnaskedName$Tale" "names" "I") ∈ Gw := gw_c tin_1 81 rfl rfl
theorem mw_82 : (Jvm.Cond.fieldLink "UnaskedName$StoryReader" (70 : Nat) "UnaskedName$Tale" "names" "I") ∈ Gw := gw_c tin_1 82 rfl rfl
theorem mw_83 : (Jvm.Cond.fieldLink "UnaskedName" (248 : Nat) "UnaskedName$Tale" "names" "I") ∈ Gw := gw_c tin_1 83 rfl rfl
theorem mw_84 : (Jvm.Cond.fieldLink "UnaskedName$Tale" (18 : Nat) "UnaskedName$Tale" "words" "I") ∈ Gw := gw_c tin_1 84 rfl rfl
theorem mw_85 : (Jvm.Cond.fieldLink "UnaskedName$Siege" (59 : Nat) "UnaskedName$Tale" "words" "I") ∈ Gw := gw_c tin_1 85 rfl rfl
theorem mw_86 : (Jvm.Cond.fieldLink "UnaskedName$StoryReader" (112 : Nat) "UnaskedName$Tale" "words" "I") ∈ Gw := gw_c tin_1 86 rfl rfl
theorem mw_87 : (Jvm.Cond.fieldLink "UnaskedName$Rows" (74 : Nat) "UnaskedName$Tale" "words" "I") ∈ Gw := gw_c tin_1 87 rfl rfl
theorem mw_88 : (Jvm.Cond.fieldLink "UnaskedName" (313 : Nat) "UnaskedName$Tale" "words" "I") ∈ Gw := gw_c tin_1 88 rfl rfl
theorem mw_89 : (Jvm.Cond.fieldLink "UnaskedName$Tale" (21 : Nat) "UnaskedName$Tale" "deeds" "I") ∈ Gw := gw_c tin_1 89 rfl rfl
theorem mw_90 : (Jvm.Cond.fieldLink "UnaskedName$Siege" (75 : Nat) "UnaskedName$Tale" "deeds" "I") ∈ Gw := gw_c tin_1 90 rfl rfl
theorem mw_91 : (Jvm.Cond.fieldLink "UnaskedName$StoryReader" (123 : Nat) "UnaskedName$Tale" "deeds" "I") ∈ Gw := gw_c tin_1 91 rfl rfl
theorem mw_92 : (Jvm.Cond.fieldLink "UnaskedName$World" (152 : Nat) "UnaskedName$Tale" "deeds" "I") ∈ Gw := gw_c tin_1 92 rfl rfl
theorem mw_93 : (Jvm.Cond.fieldLink "UnaskedName" (322 : Nat) "UnaskedName$Tale" "deeds" "I") ∈ Gw := gw_c tin_1 93 rfl rfl
theorem mw_94 : (Jvm.Cond.fieldLink "UnaskedName$Tale" (24 : Nat) "UnaskedName$Tale" "members" "I") ∈ Gw := gw_c tin_1 94 rfl rfl
theorem mw_95 : (Jvm.Cond.fieldLink "UnaskedName$Siege" (64 : Nat) "UnaskedName$Tale" "members" "I") ∈ Gw := gw_c tin_1 95 rfl rfl
theorem mw_96 : (Jvm.Cond.fieldLink "UnaskedName$StoryReader" (131 : Nat) "UnaskedName$Tale" "members" "I") ∈ Gw := gw_c tin_1 96 rfl rfl
theorem mw_97 : (Jvm.Cond.fieldLink "UnaskedName$World" (129 : Nat) "UnaskedName$Tale" "members" "I") ∈ Gw := gw_c tin_1 97 rfl rfl
theorem mw_98 : (Jvm.Cond.fieldLink "UnaskedName" (310 : Nat) "UnaskedName$Tale" "members" "I") ∈ Gw := gw_c tin_1 98 rfl rfl
theorem mw_99 : (Jvm.Cond.fieldLink "UnaskedName$Tale" (27 : Nat) "UnaskedName$Tale" "duties" "I") ∈ Gw := gw_c tin_1 99 rfl rfl
theorem mw_100 : (Jvm.Cond.fieldLink "UnaskedName$StoryReader" (144 : Nat) "UnaskedName$Tale" "duties" "I") ∈ Gw := gw_c tin_1 100 rfl rfl
theorem mw_101 : (Jvm.Cond.fieldLink "UnaskedName" (349 : Nat) "UnaskedName$Tale" "duties" "I") ∈ Gw := gw_c tin_1 101 rfl rfl
theorem mw_102 : (Jvm.Cond.fieldLink "UnaskedName$Tale" (30 : Nat) "UnaskedName$Tale" "limit" "I") ∈ Gw := gw_c tin_1 102 rfl rfl
theorem mw_103 : (Jvm.Cond.fieldLink "UnaskedName$World" (112 : Nat) "UnaskedName$Tale" "limit" "I") ∈ Gw := gw_c tin_1 103 rfl rfl
theorem mw_104 : (Jvm.Cond.fieldLink "UnaskedName$Rows" (87 : Nat) "UnaskedName$Tale" "limit" "I") ∈ Gw := gw_c tin_1 104 rfl rfl
theorem mw_105 : (Jvm.Cond.fieldLink "UnaskedName$Siege" (99 : Nat) "UnaskedName$Tale" "limit" "I") ∈ Gw := gw_c tin_1 105 rfl rfl
theorem mw_106 : (Jvm.Cond.fieldLink "UnaskedName$StoryReader" (152 : Nat) "UnaskedName$Tale" "limit" "I") ∈ Gw := gw_c tin_1 106 rfl rfl
theorem mw_107 : (Jvm.Cond.fieldLink "UnaskedName" (367 : Nat) "UnaskedName$Tale" "limit" "I") ∈ Gw := gw_c tin_1 107 rfl rfl
theorem mw_108 : (Jvm.Cond.fieldLink "UnaskedName$Tale" (33 : Nat) "UnaskedName$Tale" "year" "I") ∈ Gw := gw_c tin_1 108 rfl rfl
theorem mw_109 : (Jvm.Cond.fieldLink "UnaskedName$World" (122 : Nat) "UnaskedName$Tale" "year" "I") ∈ Gw := gw_c tin_1 109 rfl rfl
theorem mw_110 : (Jvm.Cond.fieldLink "UnaskedName$StoryReader" (156 : Nat) "UnaskedName$Tale" "year" "I") ∈ Gw := gw_c tin_1 110 rfl rfl
theorem mw_111 : (Jvm.Cond.fieldLink "UnaskedName" (392 : Nat) "UnaskedName$Tale" "year" "I") ∈ Gw := gw_c tin_1 111 rfl rfl
theorem mw_112 : (Jvm.Cond.fieldLink "UnaskedName$Tale" (36 : Nat) "UnaskedName$Tale" "talk" "I") ∈ Gw := gw_c tin_1 112 rfl rfl
theorem mw_113 : (Jvm.Cond.fieldLink "UnaskedName$World" (149 : Nat) "UnaskedName$Tale" "talk" "I") ∈ Gw := gw_c tin_1 113 rfl rfl
theorem mw_114 : (Jvm.Cond.fieldLink "UnaskedName$StoryReader" (160 : Nat) "UnaskedName$Tale" "talk" "I") ∈ Gw := gw_c tin_1 114 rfl rfl
theorem mw_115 : (Jvm.Cond.fieldLink "UnaskedName" (395 : Nat) "UnaskedName$Tale" "talk" "I") ∈ Gw := gw_c tin_1 115 rfl rfl
theorem mw_116 : (Jvm.Cond.fieldLink "UnaskedName$Tale" (39 : Nat) "UnaskedName$Tale" "traits" "[I") ∈ Gw := gw_c tin_1 116 rfl rfl
theorem mw_117 : (Jvm.Cond.fieldLink "UnaskedName" (144 : Nat) "UnaskedName$Tale" "traits" "[I") ∈ Gw := gw_c tin_1 117 rfl rfl
theorem mw_118 : (Jvm.Cond.fieldLink "UnaskedName$Tale" (43 : Nat) "UnaskedName$Tale" "credit" "[I") ∈ Gw := gw_c tin_1 118 rfl rfl
theorem mw_119 : (Jvm.Cond.fieldLink "UnaskedName" (152 : Nat) "UnaskedName$Tale" "credit" "[I") ∈ Gw := gw_c tin_1 119 rfl rfl
theorem mw_120 : (Jvm.Cond.fieldLink "UnaskedName$Tale" (46 : Nat) "UnaskedName$Tale" "bearers" "[I") ∈ Gw := gw_c tin_1 120 rfl rfl
theorem mw_121 : (Jvm.Cond.fieldLink "UnaskedName$World" (54 : Nat) "UnaskedName$Tale" "bearers" "[I") ∈ Gw := gw_c tin_1 121 rfl rfl
theorem mw_122 : (Jvm.Cond.fieldLink "UnaskedName" (343 : Nat) "UnaskedName$Tale" "bearers" "[I") ∈ Gw := gw_c tin_1 122 rfl rfl
theorem mw_123 : (Jvm.Cond.fieldLink "UnaskedName$Tale" (49 : Nat) "UnaskedName$Tale" "sting" "[I") ∈ Gw := gw_c tin_1 123 rfl rfl
theorem mw_124 : (Jvm.Cond.fieldLink "UnaskedName$World" (65 : Nat) "UnaskedName$Tale" "sting" "[I") ∈ Gw := gw_c tin_1 124 rfl rfl
theorem mw_125 : (Jvm.Cond.fieldLink "UnaskedName" (194 : Nat) "UnaskedName$Tale" "sting" "[I") ∈ Gw := gw_c tin_1 125 rfl rfl
theorem mw_126 : (Jvm.Cond.fieldLink "UnaskedName$Tale" (52 : Nat) "UnaskedName$Tale" "tells" "[I") ∈ Gw := gw_c tin_1 126 rfl rfl
theorem mw_127 : (Jvm.Cond.fieldLink "UnaskedName$World" (42 : Nat) "UnaskedName$Tale" "tells" "[I") ∈ Gw := gw_c tin_1 127 rfl rfl
theorem mw_128 : (Jvm.Cond.fieldLink "UnaskedName$Rows" (98 : Nat) "UnaskedName$Tale" "tells" "[I") ∈ Gw := gw_c tin_1 128 rfl rfl
theorem mw_129 : (Jvm.Cond.fieldLink "UnaskedName" (191 : Nat) "UnaskedName$Tale" "tells" "[I") ∈ Gw := gw_c tin_1 129 rfl rfl
theorem mw_130 : (Jvm.Cond.fieldLink "UnaskedName$Tale" (55 : Nat) "UnaskedName$Tale" "soothes" "[I") ∈ Gw := gw_c tin_1 130 rfl rfl
theorem mw_131 : (Jvm.Cond.fieldLink "UnaskedName$World" (78 : Nat) "UnaskedName$Tale" "soothes" "[I") ∈ Gw := gw_c tin_1 131 rfl rfl
theorem mw_132 : (Jvm.Cond.fieldLink "UnaskedName" (200 : Nat) "UnaskedName$Tale" "soothes" "[I") ∈ Gw := gw_c tin_1 132 rfl rfl
theorem mw_133 : (Jvm.Cond.fieldLink "UnaskedName$Tale" (58 : Nat) "UnaskedName$Tale" "costs" "[I") ∈ Gw := gw_c tin_1 133 rfl rfl
theorem mw_134 : (Jvm.Cond.fieldLink "UnaskedName" (203 : Nat) "UnaskedName$Tale" "costs" "[I") ∈ Gw := gw_c tin_1 134 rfl rfl
theorem mw_135 : (Jvm.Cond.fieldLink "UnaskedName$Tale" (61 : Nat) "UnaskedName$Tale" "side" "[I") ∈ Gw := gw_c tin_1 135 rfl rfl
theorem mw_136 : (Jvm.Cond.fieldLink "UnaskedName" (177 : Nat) "UnaskedName$Tale" "side" "[I") ∈ Gw := gw_c tin_1 136 rfl rfl
theorem mw_137 : (Jvm.Cond.fieldLink "UnaskedName$Siege" (109 : Nat) "UnaskedName$Tale" "side" "[I") ∈ Gw := gw_c tin_1 137 rfl rfl
theorem mw_138 : (Jvm.Cond.fieldLink "UnaskedName$Tale" (64 : Nat) "UnaskedName$Tale" "doers" "[I") ∈ Gw := gw_c tin_1 138 rfl rfl
theorem mw_139 : (Jvm.Cond.fieldLink "UnaskedName" (357 : Nat) "UnaskedName$Tale" "doers" "[I") ∈ Gw := gw_c tin_1 139 rfl rfl
theorem mw_177 : (Jvm.Cond.arrayClass Jvm.ClassFile.FieldType.int) ∈ Gw := gw_c tin_1 177 rfl rfl
theorem mw_178 : (Jvm.Cond.classLink "UnaskedName$World" (18 : Nat) "UnaskedName$Law") ∈ Gw := gw_c tin_1 178 rfl rfl
theorem mw_179 : (Jvm.Cond.instantiable "UnaskedName$Law" (8 : Nat)) ∈ Gw := gw_c tin_1 179 rfl rfl
theorem mw_181 : (Jvm.Cond.instanceMethod ({ cls := "UnaskedName$Law", name := "<init>", desc := "()V" } : Jvm.MethodName)) ∈ Gw := gw_c tin_1 181 rfl rfl
theorem mw_182 : (Jvm.Cond.code ({ cls := "UnaskedName$Law", name := "<init>", desc := "()V" } : Jvm.MethodName) prog_2_method_1_code (1 : Nat) (Option.none : Option Jvm.ClassFile.FieldType)) ∈ Gw := gw_c tin_1 182 rfl rfl
theorem mw_183 : (Jvm.Cond.methodLink "UnaskedName$Law" (5 : Nat) ({ cls := "java/lang/Object", name := "<init>", desc := "()V" } : Jvm.MethodName)) ∈ Gw := gw_c tin_1 183 rfl rfl
theorem mw_184 : (Jvm.Cond.fieldLink "UnaskedName$Law" (11 : Nat) "UnaskedName$Law" "lines" "I") ∈ Gw := gw_c tin_1 184 rfl rfl
theorem mw_185 : (Jvm.Cond.fieldLink "UnaskedName$LawReader" (59 : Nat) "UnaskedName$Law" "lines" "I") ∈ Gw := gw_c tin_1 185 rfl rfl
theorem mw_186 : (Jvm.Cond.fieldLink "UnaskedName" (135 : Nat) "UnaskedName$Law" "lines" "I") ∈ Gw := gw_c tin_1 186 rfl rfl
theorem mw_187 : (Jvm.Cond.fieldLink "UnaskedName$Law" (17 : Nat) "UnaskedName$Law" "size" "I") ∈ Gw := gw_c tin_1 187 rfl rfl
theorem mw_188 : (Jvm.Cond.fieldLink "UnaskedName$Law" (20 : Nat) "UnaskedName$Law" "kinds" "[I") ∈ Gw := gw_c tin_1 188 rfl rfl
theorem mw_189 : (Jvm.Cond.fieldLink "UnaskedName$Law" (24 : Nat) "UnaskedName$Law" "amounts" "[I") ∈ Gw := gw_c tin_1 189 rfl rfl
theorem mw_190 : (Jvm.Cond.fieldLink "UnaskedName$Law" (27 : Nat) "UnaskedName$Law" "ends" "[I") ∈ Gw := gw_c tin_1 190 rfl rfl
theorem mw_191 : (Jvm.Cond.fieldLink "UnaskedName$Law" (30 : Nat) "UnaskedName$Law" "steps" "[I") ∈ Gw := gw_c tin_1 191 rfl rfl
theorem mw_192 : (Jvm.Cond.fieldLink "UnaskedName$Law" (33 : Nat) "UnaskedName$Law" "sight" "[I") ∈ Gw := gw_c tin_1 192 rfl rfl
theorem mw_193 : (Jvm.Cond.fieldLink "UnaskedName$Law" (36 : Nat) "UnaskedName$Law" "tellsTrue" "Z") ∈ Gw := gw_c tin_1 193 rfl rfl
theorem mw_211 : (Jvm.Cond.classLink "UnaskedName$World" (25 : Nat) "UnaskedName$Mind") ∈ Gw := gw_c tin_1 211 rfl rfl
theorem mw_212 : (Jvm.Cond.instantiable "UnaskedName$Mind" (9 : Nat)) ∈ Gw := gw_c tin_1 212 rfl rfl
theorem mw_214 : (Jvm.Cond.instanceMethod ({ cls := "UnaskedName$Mind", name := "<init>", desc := "()V" } : Jvm.MethodName)) ∈ Gw := gw_c tin_1 214 rfl rfl
theorem mw_215 : (Jvm.Cond.code ({ cls := "UnaskedName$Mind", name := "<init>", desc := "()V" } : Jvm.MethodName) prog_5_method_1_code (1 : Nat) (Option.none : Option Jvm.ClassFile.FieldType)) ∈ Gw := gw_c tin_1 215 rfl rfl
theorem mw_216 : (Jvm.Cond.methodLink "UnaskedName$Mind" (3 : Nat) ({ cls := "java/lang/Object", name := "<init>", desc := "()V" } : Jvm.MethodName)) ∈ Gw := gw_c tin_1 216 rfl rfl
theorem mw_217 : (Jvm.Cond.classLink "UnaskedName$Mind" (38 : Nat) "UnaskedName$Log") ∈ Gw := gw_c tin_1 217 rfl rfl
theorem mw_218 : (Jvm.Cond.instantiable "UnaskedName$Log" (3 : Nat)) ∈ Gw := gw_c tin_1 218 rfl rfl
theorem mw_220 : (Jvm.Cond.instanceMethod ({ cls := "UnaskedName$Log", name := "<init>", desc := "()V" } : Jvm.MethodName)) ∈ Gw := gw_c tin_1 220 rfl rfl
theorem mw_221 : (Jvm.Cond.code ({ cls := "UnaskedName$Log", name := "<init>", desc := "()V" } : Jvm.MethodName) prog_4_method_1_code (1 : Nat) (Option.none : Option Jvm.ClassFile.FieldType)) ∈ Gw := gw_c tin_1 221 rfl rfl
theorem mw_222 : (Jvm.Cond.methodLink "UnaskedName$Log" (3 : Nat) ({ cls := "java/lang/Object", name := "<init>", desc := "()V" } : Jvm.MethodName)) ∈ Gw := gw_c tin_1 222 rfl rfl
theorem mw_223 : (Jvm.Cond.fieldLink "UnaskedName$Log" (9 : Nat) "UnaskedName$Log" "size" "I") ∈ Gw := gw_c tin_1 223 rfl rfl
theorem mw_224 : (Jvm.Cond.fieldLink "UnaskedName" (401 : Nat) "UnaskedName$Log" "size" "I") ∈ Gw := gw_c tin_1 224 rfl rfl
theorem mw_225 : (Jvm.Cond.fieldLink "UnaskedName$Log" (15 : Nat) "UnaskedName$Log" "newest" "I") ∈ Gw := gw_c tin_1 225 rfl rfl
theorem mw_226 : (Jvm.Cond.fieldLink "UnaskedName$Log" (18 : Nat) "UnaskedName$Log" "packed" "[I") ∈ Gw := gw_c tin_1 226 rfl rfl
theorem mw_234 : (Jvm.Cond.fieldLink "UnaskedName$Mind" (9 : Nat) "UnaskedName$Mind" "doubt" "I") ∈ Gw := gw_c tin_1 234 rfl rfl
theorem mw_235 : (Jvm.Cond.fieldLink "UnaskedName$Siege" (41 : Nat) "UnaskedName$Mind" "doubt" "I") ∈ Gw := gw_c tin_1 235 rfl rfl
theorem mw_236 : (Jvm.Cond.fieldLink "UnaskedName$Rows" (50 : Nat) "UnaskedName$Mind" "doubt" "I") ∈ Gw := gw_c tin_1 236 rfl rfl
theorem mw_237 : (Jvm.Cond.fieldLink "UnaskedName$Log" (33 : Nat) "UnaskedName$Mind" "doubt" "I") ∈ Gw := gw_c tin_1 237 rfl rfl
theorem mw_238 : (Jvm.Cond.fieldLink "UnaskedName$World" (81 : Nat) "UnaskedName$Mind" "doubt" "I") ∈ Gw := gw_c tin_1 238 rfl rfl
theorem mw_239 : (Jvm.Cond.fieldLink "UnaskedName$Law" (46 : Nat) "UnaskedName$Mind" "doubt" "I") ∈ Gw := gw_c tin_1 239 rfl rfl
theorem mw_240 : (Jvm.Cond.fieldLink "UnaskedName$StoryReader" (164 : Nat) "UnaskedName$Mind" "doubt" "I") ∈ Gw := gw_c tin_2 0 rfl rfl
theorem mw_241 : (Jvm.Cond.fieldLink "UnaskedName" (232 : Nat) "UnaskedName$Mind" "doubt" "I") ∈ Gw := gw_c tin_2 1 rfl rfl
theorem mw_242 : (Jvm.Cond.fieldLink "UnaskedName$Mind" (15 : Nat) "UnaskedName$Mind" "night" "I") ∈ Gw := gw_c tin_2 2 rfl rfl
theorem mw_243 : (Jvm.Cond.fieldLink "UnaskedName$Log" (28 : Nat) "UnaskedName$Mind" "night" "I") ∈ Gw := gw_c tin_2 3 rfl rfl
theorem mw_244 : (Jvm.Cond.fieldLink "UnaskedName$Siege" (86 : Nat) "UnaskedName$Mind" "night" "I") ∈ Gw := gw_c tin_2 4 rfl rfl
theorem mw_245 : (Jvm.Cond.fieldLink "UnaskedName$Law" (51 : Nat) "UnaskedName$Mind" "night" "I") ∈ Gw := gw_c tin_2 5 rfl rfl
theorem mw_246 : (Jvm.Cond.fieldLink "UnaskedName$World" (119 : Nat) "UnaskedName$Mind" "night" "I") ∈ Gw := gw_c tin_2 6 rfl rfl
theorem mw_247 : (Jvm.Cond.fieldLink "UnaskedName" (389 : Nat) "UnaskedName$Mind" "night" "I") ∈ Gw := gw_c tin_2 7 rfl rfl
theorem mw_248 : (Jvm.Cond.fieldLink "UnaskedName$Mind" (18 : Nat) "UnaskedName$Mind" "bearer" "I") ∈ Gw := gw_c tin_2 8 rfl rfl
theorem mw_249 : (Jvm.Cond.fieldLink "UnaskedName$World" (50 : Nat) "UnaskedName$Mind" "bearer" "I") ∈ Gw := gw_c tin_2 9 rfl rfl
theorem mw_250 : (Jvm.Cond.fieldLink "UnaskedName$StoryReader" (100 : Nat) "UnaskedName$Mind" "bearer" "I") ∈ Gw := gw_c tin_2 10 rfl rfl
theorem mw_251 : (Jvm.Cond.fieldLink "UnaskedName$Rows" (65 : Nat) "UnaskedName$Mind" "bearer" "I") ∈ Gw := gw_c tin_2 11 rfl rfl
theorem mw_252 : (Jvm.Cond.fieldLink "UnaskedName" (245 : Nat) "UnaskedName$Mind" "bearer" "I") ∈ Gw := gw_c tin_2 12 rfl rfl
theorem mw_253 : (Jvm.Cond.fieldLink "UnaskedName$Mind" (21 : Nat) "UnaskedName$Mind" "possible" "I") ∈ Gw := gw_c tin_2 13 rfl rfl
theorem mw_254 : (Jvm.Cond.fieldLink "UnaskedName$Log" (36 : Nat) "UnaskedName$Mind" "possible" "I") ∈ Gw := gw_c tin_2 14 rfl rfl
theorem mw_255 : (Jvm.Cond.fieldLink "UnaskedName$StoryReader" (95 : Nat) "UnaskedName$Mind" "possible" "I") ∈ Gw := gw_c tin_2 15 rfl rfl
theorem mw_256 : (Jvm.Cond.fieldLink "UnaskedName$Rows" (62 : Nat) "UnaskedName$Mind" "possible" "I") ∈ Gw := gw_c tin_2 16 rfl rfl
theorem mw_257 : (Jvm.Cond.fieldLink "UnaskedName$World" (91 : Nat) "UnaskedName$Mind" "possible" "I") ∈ Gw := gw_c tin_2 17 rfl rfl
theorem mw_258 : (Jvm.Cond.fieldLink "UnaskedName$Law" (54 : Nat) "UnaskedName$Mind" "possible" "I") ∈ Gw := gw_c tin_2 18 rfl rfl
theorem mw_259 : (Jvm.Cond.fieldLink "UnaskedName" (158 : Nat) "UnaskedName$Mind" "possible" "I") ∈ Gw := gw_c tin_2 19 rfl rfl
theorem mw_260 : (Jvm.Cond.fieldLink "UnaskedName$Mind" (24 : Nat) "UnaskedName$Mind" "near" "I") ∈ Gw := gw_c tin_2 20 rfl rfl
theorem mw_261 : (Jvm.Cond.fieldLink "UnaskedName$StoryReader" (134 : Nat) "UnaskedName$Mind" "near" "I") ∈ Gw := gw_c tin_2 21 rfl rfl
theorem mw_262 : (Jvm.Cond.fieldLink "UnaskedName$World" (132 : Nat) "UnaskedName$Mind" "near" "I") ∈ Gw := gw_c tin_2 22 rfl rfl
theorem mw_263 : (Jvm.Cond.fieldLink "UnaskedName" (183 : Nat) "UnaskedName$Mind" "near" "I") ∈ Gw := gw_c tin_2 23 rfl rfl
theorem mw_264 : (Jvm.Cond.fieldLink "UnaskedName$Siege" (116 : Nat) "UnaskedName$Mind" "near" "I") ∈ Gw := gw_c tin_2 24 rfl rfl
theorem mw_265 : (Jvm.Cond.fieldLink "UnaskedName$Mind" (27 : Nat) "UnaskedName$Mind" "draws" "I") ∈ Gw := gw_c tin_2 25 rfl rfl
theorem mw_266 : (Jvm.Cond.fieldLink "UnaskedName" (287 : Nat) "UnaskedName$Mind" "draws" "I") ∈ Gw := gw_c tin_2 26 rfl rfl
theorem mw_267 : (Jvm.Cond.fieldLink "UnaskedName$Mind" (30 : Nat) "UnaskedName$Mind" "asked" "Z") ∈ Gw := gw_c tin_2 27 rfl rfl
theorem mw_268 : (Jvm.Cond.fieldLink "UnaskedName$World" (108 : Nat) "UnaskedName$Mind" "asked" "Z") ∈ Gw := gw_c tin_2 28 rfl rfl
theorem mw_269 : (Jvm.Cond.fieldLink "UnaskedName" (216 : Nat) "UnaskedName$Mind" "asked" "Z") ∈ Gw := gw_c tin_2 29 rfl rfl
theorem mw_270 : (Jvm.Cond.fieldLink "UnaskedName$Mind" (34 : Nat) "UnaskedName$Mind" "habits" "[I") ∈ Gw := gw_c tin_2 30 rfl rfl
theorem mw_271 : (Jvm.Cond.fieldLink "UnaskedName$World" (135 : Nat) "UnaskedName$Mind" "habits" "[I") ∈ Gw := gw_c tin_2 31 rfl rfl
theorem mw_272 : (Jvm.Cond.fieldLink "UnaskedName" (180 : Nat) "UnaskedName$Mind" "habits" "[I") ∈ Gw := gw_c tin_2 32 rfl rfl
theorem mw_273 : (Jvm.Cond.fieldLink "UnaskedName$Mind" (41 : Nat) "UnaskedName$Mind" "spoken" "LUnaskedName$Log;") ∈ Gw := gw_c tin_2 33 rfl rfl
theorem mw_274 : (Jvm.Cond.fieldLink "UnaskedName$World" (98 : Nat) "UnaskedName$Mind" "spoken" "LUnaskedName$Log;") ∈ Gw := gw_c tin_2 34 rfl rfl
theorem mw_275 : (Jvm.Cond.fieldLink "UnaskedName" (363 : Nat) "UnaskedName$Mind" "spoken" "LUnaskedName$Log;") ∈ Gw := gw_c tin_2 35 rfl rfl
theorem mw_295 : (Jvm.Cond.fieldLink "UnaskedName$World" (12 : Nat) "UnaskedName$World" "tale" "LUnaskedName$Tale;") ∈ Gw := gw_c tin_2 55 rfl rfl
theorem mw_296 : (Jvm.Cond.fieldLink "UnaskedName$StoryReader" (39 : Nat) "UnaskedName$World" "tale" "LUnaskedName$Tale;") ∈ Gw := gw_c tin_2 56 rfl rfl
theorem mw_297 : (Jvm.Cond.fieldLink "UnaskedName$Siege" (55 : Nat) "UnaskedName$World" "tale" "LUnaskedName$Tale;") ∈ Gw := gw_c tin_2 57 rfl rfl
theorem mw_298 : (Jvm.Cond.fieldLink "UnaskedName" (104 : Nat) "UnaskedName$World" "tale" "LUnaskedName$Tale;") ∈ Gw := gw_c tin_2 58 rfl rfl
theorem mw_299 : (Jvm.Cond.fieldLink "UnaskedName$Rows" (58 : Nat) "UnaskedName$World" "tale" "LUnaskedName$Tale;") ∈ Gw := gw_c tin_2 59 rfl rfl
theorem mw_300 : (Jvm.Cond.fieldLink "UnaskedName$World" (21 : Nat) "UnaskedName$World" "law" "LUnaskedName$Law;") ∈ Gw := gw_c tin_2 60 rfl rfl
theorem mw_301 : (Jvm.Cond.fieldLink "UnaskedName" (121 : Nat) "UnaskedName$World" "law" "LUnaskedName$Law;") ∈ Gw := gw_c tin_2 61 rfl rfl
theorem mw_302 : (Jvm.Cond.fieldLink "UnaskedName$World" (28 : Nat) "UnaskedName$World" "mind" "LUnaskedName$Mind;") ∈ Gw := gw_c tin_2 62 rfl rfl
theorem mw_303 : (Jvm.Cond.fieldLink "UnaskedName$Rows" (28 : Nat) "UnaskedName$World" "mind" "LUnaskedName$Mind;") ∈ Gw := gw_c tin_2 63 rfl rfl
theorem mw_304 : (Jvm.Cond.fieldLink "UnaskedName$Siege" (36 : Nat) "UnaskedName$World" "mind" "LUnaskedName$Mind;") ∈ Gw := gw_c tin_2 64 rfl rfl
theorem mw_305 : (Jvm.Cond.fieldLink "UnaskedName$StoryReader" (91 : Nat) "UnaskedName$World" "mind" "LUnaskedName$Mind;") ∈ Gw := gw_c tin_2 65 rfl rfl
theorem mw_306 : (Jvm.Cond.fieldLink "UnaskedName" (155 : Nat) "UnaskedName$World" "mind" "LUnaskedName$Mind;") ∈ Gw := gw_c tin_2 66 rfl rfl
theorem mw_314 : (Jvm.Cond.classLink "UnaskedName" (29 : Nat) "UnaskedName$Past") ∈ Gw := gw_c tin_2 74 rfl rfl
theorem mw_315 : (Jvm.Cond.instantiable "UnaskedName$Past" (3 : Nat)) ∈ Gw := gw_c tin_2 75 rfl rfl
theorem mw_316 : (Jvm.Cond.methodLink "UnaskedName" (31 : Nat) ({ cls := "UnaskedName$Past", name := "<init>", desc := "()V" } : Jvm.MethodName)) ∈ Gw := gw_c tin_2 76 rfl rfl
theorem mw_317 : (Jvm.Cond.instanceMethod ({ cls := "UnaskedName$Past", name := "<init>", desc := "()V" } : Jvm.MethodName)) ∈ Gw := gw_c tin_2 77 rfl rfl
theorem mw_318 : (Jvm.Cond.code ({ cls := "UnaskedName$Past", name := "<init>", desc := "()V" } : Jvm.MethodName) prog_6_method_1_code (2 : Nat) (Option.none : Option Jvm.ClassFile.FieldType)) ∈ Gw := gw_c tin_2 78 rfl rfl
theorem mw_319 : (Jvm.Cond.methodLink "UnaskedName$Past" (1 : Nat) ({ cls := "java/lang/Object", name := "<init>", desc := "()V" } : Jvm.MethodName)) ∈ Gw := gw_c tin_2 79 rfl rfl
theorem mw_320 : (Jvm.Cond.classLink "UnaskedName$Past" (16 : Nat) "UnaskedName$Mind") ∈ Gw := gw_c tin_2 80 rfl rfl
theorem mw_323 : (Jvm.Cond.fieldLink "UnaskedName$Past" (7 : Nat) "UnaskedName$Past" "size" "I") ∈ Gw := gw_c tin_2 83 rfl rfl
theorem mw_324 : (Jvm.Cond.fieldLink "UnaskedName" (404 : Nat) "UnaskedName$Past" "size" "I") ∈ Gw := gw_c tin_2 84 rfl rfl
theorem mw_325 : (Jvm.Cond.fieldLink "UnaskedName$Past" (13 : Nat) "UnaskedName$Past" "newest" "I") ∈ Gw := gw_c tin_2 85 rfl rfl
theorem mw_326 : (Jvm.Cond.fieldLink "UnaskedName$Past" (18 : Nat) "UnaskedName$Past" "before" "[LUnaskedName$Mind;") ∈ Gw := gw_c tin_2 86 rfl rfl
theorem mw_334 : (Jvm.Cond.classLink "UnaskedName" (36 : Nat) "UnaskedName$Mind") ∈ Gw := gw_c tin_2 94 rfl rfl
theorem mw_336 : (Jvm.Cond.classLink "UnaskedName" (43 : Nat) "UnaskedName$Siege") ∈ Gw := gw_c tin_2 96 rfl rfl
theorem mw_337 : (Jvm.Cond.instantiable "UnaskedName$Siege" (5 : Nat)) ∈ Gw := gw_c tin_2 97 rfl rfl
theorem mw_339 : (Jvm.Cond.instanceMethod ({ cls := "UnaskedName$Siege", name := "<init>", desc := "()V" } : Jvm.MethodName)) ∈ Gw := gw_c tin_2 99 rfl rfl
theorem mw_340 : (Jvm.Cond.code ({ cls := "UnaskedName$Siege", name := "<init>", desc := "()V" } : Jvm.MethodName) prog_8_method_1_code (1 : Nat) (Option.none : Option Jvm.ClassFile.FieldType)) ∈ Gw := gw_c tin_2 100 rfl rfl
theorem mw_341 : (Jvm.Cond.methodLink "UnaskedName$Siege" (3 : Nat) ({ cls := "java/lang/Object", name := "<init>", desc := "()V" } : Jvm.MethodName)) ∈ Gw := gw_c tin_2 101 rfl rfl
theorem mw_342 : (Jvm.Cond.classLink "UnaskedName$Siege" (9 : Nat) "UnaskedName$Mind") ∈ Gw := gw_c tin_2 102 rfl rfl
theorem mw_344 : (Jvm.Cond.fieldLink "UnaskedName$Siege" (12 : Nat) "UnaskedName$Siege" "dream" "LUnaskedName$Mind;") ∈ Gw := gw_c tin_2 104 rfl rfl
theorem mw_345 : (Jvm.Cond.fieldLink "UnaskedName$Siege" (18 : Nat) "UnaskedName$Siege" "sureFrom" "[I") ∈ Gw := gw_c tin_2 105 rfl rfl
theorem mw_346 : (Jvm.Cond.fieldLink "UnaskedName$Siege" (22 : Nat) "UnaskedName$Siege" "sureBehind" "[I") ∈ Gw := gw_c tin_2 106 rfl rfl
theorem mw_347 : (Jvm.Cond.fieldLink "UnaskedName$Siege" (25 : Nat) "UnaskedName$Siege" "today" "I") ∈ Gw := gw_c tin_2 107 rfl rfl
theorem mw_348 : (Jvm.Cond.fieldLink "UnaskedName$Siege" (29 : Nat) "UnaskedName$Siege" "nightCount" "I") ∈ Gw := gw_c tin_2 108 rfl rfl
theorem mw_360 : (Jvm.Cond.classLink "UnaskedName" (50 : Nat) "UnaskedName$Rows") ∈ Gw := gw_c tin_2 120 rfl rfl
theorem mw_361 : (Jvm.Cond.instantiable "UnaskedName$Rows" (4 : Nat)) ∈ Gw := gw_c tin_2 121 rfl rfl
theorem mw_363 : (Jvm.Cond.instanceMethod ({ cls := "UnaskedName$Rows", name := "<init>", desc := "()V" } : Jvm.MethodName)) ∈ Gw := gw_c tin_2 123 rfl rfl
theorem mw_364 : (Jvm.Cond.code ({ cls := "UnaskedName$Rows", name := "<init>", desc := "()V" } : Jvm.MethodName) prog_7_method_1_code (1 : Nat) (Option.none : Option Jvm.ClassFile.FieldType)) ∈ Gw := gw_c tin_2 124 rfl rfl
theorem mw_365 : (Jvm.Cond.methodLink "UnaskedName$Rows" (3 : Nat) ({ cls := "java/lang/Object", name := "<init>", desc := "()V" } : Jvm.MethodName)) ∈ Gw := gw_c tin_2 125 rfl rfl
theorem mw_366 : (Jvm.Cond.classLink "UnaskedName$Rows" (9 : Nat) "UnaskedName$Mind") ∈ Gw := gw_c tin_2 126 rfl rfl
theorem mw_368 : (Jvm.Cond.fieldLink "UnaskedName$Rows" (12 : Nat) "UnaskedName$Rows" "dream" "LUnaskedName$Mind;") ∈ Gw := gw_c tin_2 128 rfl rfl
theorem mw_369 : (Jvm.Cond.fieldLink "UnaskedName$Rows" (18 : Nat) "UnaskedName$Rows" "seen" "[J") ∈ Gw := gw_c tin_2 129 rfl rfl
theorem mw_370 : (Jvm.Cond.fieldLink "UnaskedName$Rows" (22 : Nat) "UnaskedName$Rows" "reached" "[J") ∈ Gw := gw_c tin_2 130 rfl rfl
theorem mw_371 : (Jvm.Cond.fieldLink "UnaskedName$Rows" (25 : Nat) "UnaskedName$Rows" "next" "[J") ∈ Gw := gw_c tin_2 131 rfl rfl
theorem mw_381 : (Jvm.Cond.arrayClass Jvm.ClassFile.FieldType.long) ∈ Gw := gw_c tin_2 141 rfl rfl
theorem mw_382 : (Jvm.Cond.classLink "UnaskedName" (57 : Nat) "UnaskedName$LawReader") ∈ Gw := gw_c tin_2 142 rfl rfl
theorem mw_383 : (Jvm.Cond.instantiable "UnaskedName$LawReader" (8 : Nat)) ∈ Gw := gw_c tin_2 143 rfl rfl
theorem mw_385 : (Jvm.Cond.instanceMethod ({ cls := "UnaskedName$LawReader", name := "<init>", desc := "()V" } : Jvm.MethodName)) ∈ Gw := gw_c tin_2 145 rfl rfl
theorem mw_386 : (Jvm.Cond.code ({ cls := "UnaskedName$LawReader", name := "<init>", desc := "()V" } : Jvm.MethodName) prog_3_method_1_code (1 : Nat) (Option.none : Option Jvm.ClassFile.FieldType)) ∈ Gw := gw_c tin_2 146 rfl rfl
theorem mw_387 : (Jvm.Cond.methodLink "UnaskedName$LawReader" (5 : Nat) ({ cls := "java/lang/Object", name := "<init>", desc := "()V" } : Jvm.MethodName)) ∈ Gw := gw_c tin_2 147 rfl rfl
theorem mw_388 : (Jvm.Cond.fieldLink "UnaskedName$LawReader" (11 : Nat) "UnaskedName$LawReader" "state" "I") ∈ Gw := gw_c tin_2 148 rfl rfl
theorem mw_389 : (Jvm.Cond.fieldLink "UnaskedName$LawReader" (17 : Nat) "UnaskedName$LawReader" "kind" "I") ∈ Gw := gw_c tin_2 149 rfl rfl
theorem mw_390 : (Jvm.Cond.fieldLink "UnaskedName$LawReader" (20 : Nat) "UnaskedName$LawReader" "signOfAmount" "I") ∈ Gw := gw_c tin_2 150 rfl rfl
theorem mw_391 : (Jvm.Cond.fieldLink "UnaskedName$LawReader" (23 : Nat) "UnaskedName$LawReader" "amount" "I") ∈ Gw := gw_c tin_2 151 rfl rfl
theorem mw_392 : (Jvm.Cond.fieldLink "UnaskedName$LawReader" (26 : Nat) "UnaskedName$LawReader" "comparison" "I") ∈ Gw := gw_c tin_2 152 rfl rfl
theorem mw_393 : (Jvm.Cond.fieldLink "UnaskedName$LawReader" (29 : Nat) "UnaskedName$LawReader" "depth" "I") ∈ Gw := gw_c tin_2 153 rfl rfl
theorem mw_394 : (Jvm.Cond.fieldLink "UnaskedName$LawReader" (32 : Nat) "UnaskedName$LawReader" "waitingCount" "I") ∈ Gw := gw_c tin_2 154 rfl rfl
theorem mw_395 : (Jvm.Cond.fieldLink "UnaskedName$LawReader" (35 : Nat) "UnaskedName$LawReader" "waiting" "[I") ∈ Gw := gw_c tin_2 155 rfl rfl
theorem mw_413 : (Jvm.Cond.fieldLink "UnaskedName" (10 : Nat) "UnaskedName" "tape" "LUnaskedName$Tape;") ∈ Gw := gw_c tin_2 173 rfl rfl
theorem mw_414 : (Jvm.Cond.fieldLink "UnaskedName" (19 : Nat) "UnaskedName" "world" "LUnaskedName$World;") ∈ Gw := gw_c tin_2 174 rfl rfl
theorem mw_415 : (Jvm.Cond.fieldLink "UnaskedName" (23 : Nat) "UnaskedName" "draft" "LUnaskedName$World;") ∈ Gw := gw_c tin_2 175 rfl rfl
theorem mw_416 : (Jvm.Cond.fieldLink "UnaskedName" (26 : Nat) "UnaskedName" "kept" "LUnaskedName$World;") ∈ Gw := gw_c tin_2 176 rfl rfl
theorem mw_417 : (Jvm.Cond.fieldLink "UnaskedName" (32 : Nat) "UnaskedName" "past" "LUnaskedName$Past;") ∈ Gw := gw_c tin_2 177 rfl rfl
theorem mw_418 : (Jvm.Cond.fieldLink "UnaskedName" (39 : Nat) "UnaskedName" "dream" "LUnaskedName$Mind;") ∈ Gw := gw_c tin_2 178 rfl rfl
theorem mw_419 : (Jvm.Cond.fieldLink "UnaskedName" (46 : Nat) "UnaskedName" "enemies" "LUnaskedName$Siege;") ∈ Gw := gw_c tin_2 179 rfl rfl
theorem mw_420 : (Jvm.Cond.fieldLink "UnaskedName" (53 : Nat) "UnaskedName" "rows" "LUnaskedName$Rows;") ∈ Gw := gw_c tin_2 180 rfl rfl
theorem mw_421 : (Jvm.Cond.fieldLink "UnaskedName" (60 : Nat) "UnaskedName" "lawReader" "LUnaskedName$LawReader;") ∈ Gw := gw_c tin_2 181 rfl rfl
theorem mw_422 : (Jvm.Cond.fieldLink "UnaskedName" (64 : Nat) "UnaskedName" "wrongByte" "I") ∈ Gw := gw_c tin_2 182 rfl rfl
theorem mw_423 : (Jvm.Cond.fieldLink "UnaskedName" (68 : Nat) "UnaskedName" "hasKept" "Z") ∈ Gw := gw_c tin_2 183 rfl rfl
theorem mw_447 : (Jvm.Cond.methodLink "UnaskedNameLaw" (125 : Nat) ({ cls := "UnaskedName", name := "feed", desc := "(IIIII)I" } : Jvm.MethodName)) ∈ Gw := gw_c tin_2 207 rfl rfl
theorem mw_448 : (Jvm.Cond.instanceMethod ({ cls := "UnaskedName", name := "feed", desc := "(IIIII)I" } : Jvm.MethodName)) ∈ Gw := gw_c tin_2 208 rfl rfl
theorem mw_449 : (Jvm.Cond.selects "UnaskedName" ({ cls := "UnaskedName", name := "feed", desc := "(IIIII)I" } : Jvm.MethodName) ({ cls := "UnaskedName", name := "feed", desc := "(IIIII)I" } : Jvm.MethodName)) ∈ Gw := gw_c tin_2 209 rfl rfl
theorem mw_450 : (Jvm.Cond.code ({ cls := "UnaskedName", name := "feed", desc := "(IIIII)I" } : Jvm.MethodName) prog_1_method_2_code (6 : Nat) (Option.some Jvm.ClassFile.FieldType.int)) ∈ Gw := gw_c tin_2 210 rfl rfl
theorem mw_451 : (Jvm.Cond.methodLink "UnaskedName" (72 : Nat) ({ cls := "UnaskedName$Tape", name := "hasRoomForFeed", desc := "()Z" } : Jvm.MethodName)) ∈ Gw := gw_c tin_2 211 rfl rfl
theorem mw_452 : (Jvm.Cond.instanceMethod ({ cls := "UnaskedName$Tape", name := "hasRoomForFeed", desc := "()Z" } : Jvm.MethodName)) ∈ Gw := gw_c tin_2 212 rfl rfl
theorem mw_453 : (Jvm.Cond.selects "UnaskedName$Tape" ({ cls := "UnaskedName$Tape", name := "hasRoomForFeed", desc := "()Z" } : Jvm.MethodName) ({ cls := "UnaskedName$Tape", name := "hasRoomForFeed", desc := "()Z" } : Jvm.MethodName)) ∈ Gw := gw_c tin_2 213 rfl rfl
theorem mw_454 : (Jvm.Cond.code ({ cls := "UnaskedName$Tape", name := "hasRoomForFeed", desc := "()Z" } : Jvm.MethodName) prog_11_method_2_code (1 : Nat) (Option.some Jvm.ClassFile.FieldType.boolean)) ∈ Gw := gw_c tin_2 214 rfl rfl
theorem mw_455 : (Jvm.Cond.methodLink "UnaskedName" (76 : Nat) ({ cls := "UnaskedName$Tape", name := "put", desc := "(I)V" } : Jvm.MethodName)) ∈ Gw := gw_c tin_2 215 rfl rfl
theorem mw_456 : (Jvm.Cond.instanceMethod ({ cls := "UnaskedName$Tape", name := "put", desc := "(I)V" } : Jvm.MethodName)) ∈ Gw := gw_c tin_2 216 rfl rfl
theorem mw_457 : (Jvm.Cond.selects "UnaskedName$Tape" ({ cls := "UnaskedName$Tape", name := "put", desc := "(I)V" } : Jvm.MethodName) ({ cls := "UnaskedName$Tape", name := "put", desc := "(I)V" } : Jvm.MethodName)) ∈ Gw := gw_c tin_2 217 rfl rfl
theorem mw_458 : (Jvm.Cond.code ({ cls := "UnaskedName$Tape", name := "put", desc := "(I)V" } : Jvm.MethodName) prog_11_method_3_code (3 : Nat) (Option.none : Option Jvm.ClassFile.FieldType)) ∈ Gw := gw_c tin_2 218 rfl rfl
theorem mw_459 : (Jvm.Cond.methodLink "UnaskedNameLaw" (130 : Nat) ({ cls := "UnaskedName", name := "end", desc := "(I)Z" } : Jvm.MethodName)) ∈ Gw := gw_c tin_2 219 rfl rfl
theorem mw_460 : (Jvm.Cond.instanceMethod ({ cls := "UnaskedName", name := "end", desc := "(I)Z" } : Jvm.MethodName)) ∈ Gw := gw_c tin_2 220 rfl rfl
theorem mw_461 : (Jvm.Cond.selects "UnaskedName" ({ cls := "UnaskedName", name := "end", desc := "(I)Z" } : Jvm.MethodName) ({ cls := "UnaskedName", name := "end", desc := "(I)Z" } : Jvm.MethodName)) ∈ Gw := gw_c tin_2 221 rfl rfl
theorem mw_462 : (Jvm.Cond.code ({ cls := "UnaskedName", name := "end", desc := "(I)Z" } : Jvm.MethodName) prog_1_method_3_code (2 : Nat) (Option.some Jvm.ClassFile.FieldType.boolean)) ∈ Gw := gw_c tin_2 222 rfl rfl
theorem mw_463 : (Jvm.Cond.methodLink "UnaskedNameLaw" (147 : Nat) ({ cls := "UnaskedName", name := "fault", desc := "()I" } : Jvm.MethodName)) ∈ Gw := gw_c tin_2 223 rfl rfl
theorem mw_464 : (Jvm.Cond.instanceMethod ({ cls := "UnaskedName", name := "fault", desc := "()I" } : Jvm.MethodName)) ∈ Gw := gw_c tin_2 224 rfl rfl
theorem mw_465 : (Jvm.Cond.selects "UnaskedName" ({ cls := "UnaskedName", name := "fault", desc := "()I" } : Jvm.MethodName) ({ cls := "UnaskedName", name := "fault", desc := "()I" } : Jvm.MethodName)) ∈ Gw := gw_c tin_2 225 rfl rfl
theorem mw_466 : (Jvm.Cond.code ({ cls := "UnaskedName", name := "fault", desc := "()I" } : Jvm.MethodName) prog_1_method_7_code (1 : Nat) (Option.some Jvm.ClassFile.FieldType.int)) ∈ Gw := gw_c tin_2 226 rfl rfl
theorem mw_467 : (Jvm.Cond.methodLink "UnaskedNameLaw" (265 : Nat) ({ cls := "UnaskedName", name := "fits", desc := "(I)I" } : Jvm.MethodName)) ∈ Gw := gw_c tin_2 227 rfl rfl
theorem mw_468 : (Jvm.Cond.instanceMethod ({ cls := "UnaskedName", name := "fits", desc := "(I)I" } : Jvm.MethodName)) ∈ Gw := gw_c tin_2 228 rfl rfl
theorem mw_469 : (Jvm.Cond.selects "UnaskedName" ({ cls := "UnaskedName", name := "fits", desc := "(I)I" } : Jvm.MethodName) ({ cls := "UnaskedName", name := "fits", desc := "(I)I" } : Jvm.MethodName)) ∈ Gw := gw_c tin_2 229 rfl rfl
theorem mw_470 : (Jvm.Cond.code ({ cls := "UnaskedName", name := "fits", desc := "(I)I" } : Jvm.MethodName) prog_1_method_33_code (6 : Nat) (Option.some Jvm.ClassFile.FieldType.int)) ∈ Gw := gw_c tin_2 230 rfl rfl
theorem mw_471 : (Jvm.Cond.methodLink "UnaskedName" (212 : Nat) ({ cls := "UnaskedName$World", name := "stingOf", desc := "(LUnaskedName$Mind;II)I" } : Jvm.MethodName)) ∈ Gw := gw_c tin_2 231 rfl rfl
theorem mw_472 : (Jvm.Cond.instanceMethod ({ cls := "UnaskedName$World", name := "stingOf", desc := "(LUnaskedName$Mind;II)I" } : Jvm.MethodName)) ∈ Gw := gw_c tin_2 232 rfl rfl
theorem mw_473 : (Jvm.Cond.selects "UnaskedName$World" ({ cls := "UnaskedName$World", name := "stingOf", desc := "(LUnaskedName$Mind;II)I" } : Jvm.MethodName) ({ cls := "UnaskedName$World", name := "stingOf", desc := "(LUnaskedName$Mind;II)I" } : Jvm.MethodName)) ∈ Gw := gw_c tin_2 233 rfl rfl
theorem mw_474 : (Jvm.Cond.code ({ cls := "UnaskedName$World", name := "stingOf", desc := "(LUnaskedName$Mind;II)I" } : Jvm.MethodName) prog_12_method_3_code (6 : Nat) (Option.some Jvm.ClassFile.FieldType.int)) ∈ Gw := gw_c tin_2 234 rfl rfl
theorem mw_476 : (Jvm.Cond.static ({ cls := "UnaskedName", name := "at", desc := "([II)I" } : Jvm.MethodName)) ∈ Gw := gw_c tin_2 236 rfl rfl
theorem mw_477 : (Jvm.Cond.code ({ cls := "UnaskedName", name := "at", desc := "([II)I" } : Jvm.MethodName) prog_1_method_67_code (2 : Nat) (Option.some Jvm.ClassFile.FieldType.int)) ∈ Gw := gw_c tin_2 237 rfl rfl
theorem mw_479 : (Jvm.Cond.static ({ cls := "UnaskedName", name := "has", desc := "(II)Z" } : Jvm.MethodName)) ∈ Gw := gw_c tin_2 239 rfl rfl
theorem mw_480 : (Jvm.Cond.code ({ cls := "UnaskedName", name := "has", desc := "(II)Z" } : Jvm.MethodName) prog_1_method_68_code (2 : Nat) (Option.some Jvm.ClassFile.FieldType.boolean)) ∈ Gw := gw_c tin_3 0 rfl rfl
theorem mw_481 : (Jvm.Cond.methodLink "UnaskedName$World" (61 : Nat) ({ cls := "UnaskedName$Law", name := "lookAt", desc := "(LUnaskedName$Mind;IIIZ)V" } : Jvm.MethodName)) ∈ Gw := gw_c tin_3 1 rfl rfl
theorem mw_482 : (Jvm.Cond.instanceMethod ({ cls := "UnaskedName$Law", name := "lookAt", desc := "(LUnaskedName$Mind;IIIZ)V" } : Jvm.MethodName)) ∈ Gw := gw_c tin_3 2 rfl rfl
theorem mw_483 : (Jvm.Cond.selects "UnaskedName$Law" ({ cls := "UnaskedName$Law", name := "lookAt", desc := "(LUnaskedName$Mind;IIIZ)V" } : Jvm.MethodName) ({ cls := "UnaskedName$Law", name := "lookAt", desc := "(LUnaskedName$Mind;IIIZ)V" } : Jvm.MethodName)) ∈ Gw := gw_c tin_3 3 rfl rfl
theorem mw_484 : (Jvm.Cond.code ({ cls := "UnaskedName$Law", name := "lookAt", desc := "(LUnaskedName$Mind;IIIZ)V" } : Jvm.MethodName) prog_2_method_6_code (6 : Nat) (Option.none : Option Jvm.ClassFile.FieldType)) ∈ Gw := gw_c tin_3 4 rfl rfl
theorem mw_485 : (Jvm.Cond.methodLink "UnaskedName$Law" (57 : Nat) ({ cls := "java/lang/Integer", name := "bitCount", desc := "(I)I" } : Jvm.MethodName)) ∈ Gw := gw_c tin_3 5 rfl rfl
theorem mw_486 : (Jvm.Cond.static ({ cls := "java/lang/Integer", name := "bitCount", desc := "(I)I" } : Jvm.MethodName)) ∈ Gw := gw_c tin_3 6 rfl rfl
theorem mw_487 : (Jvm.Cond.code ({ cls := "java/lang/Integer", name := "bitCount", desc := "(I)I" } : Jvm.MethodName) prog_22_method_49_code (1 : Nat) (Option.some Jvm.ClassFile.FieldType.int)) ∈ Gw := gw_c tin_3 7 rfl rfl
theorem mw_488 : (Jvm.Cond.constant "java/lang/Integer" (265 : Nat) (1431655765 : Int32)) ∈ Gw := gw_c tin_3 8 rfl rfl
theorem mw_489 : (Jvm.Cond.constant "java/lang/Integer" (266 : Nat) (858993459 : Int32)) ∈ Gw := gw_c tin_3 9 rfl rfl
theorem mw_490 : (Jvm.Cond.constant "java/lang/Integer" (267 : Nat) (252645135 : Int32)) ∈ Gw := gw_c tin_3 10 rfl rfl
theorem mw_491 : (Jvm.Cond.methodLink "UnaskedName$World" (68 : Nat) ({ cls := "UnaskedName$Law", name := "sumOf", desc := "(I)I" } : Jvm.MethodName)) ∈ Gw := gw_c tin_3 11 rfl rfl
theorem mw_492 : (Jvm.Cond.instanceMethod ({ cls := "UnaskedName$Law", name := "sumOf", desc := "(I)I" } : Jvm.MethodName)) ∈ Gw := gw_c tin_3 12 rfl rfl
theorem mw_493 : (Jvm.Cond.selects "UnaskedName$Law" ({ cls := "UnaskedName$Law", name := "sumOf", desc := "(I)I" } : Jvm.MethodName) ({ cls := "UnaskedName$Law", name := "sumOf", desc := "(I)I" } : Jvm.MethodName)) ∈ Gw := gw_c tin_3 13 rfl rfl
theorem mw_494 : (Jvm.Cond.code ({ cls := "UnaskedName$Law", name := "sumOf", desc := "(I)I" } : Jvm.MethodName) prog_2_method_7_code (5 : Nat) (Option.some Jvm.ClassFile.FieldType.int)) ∈ Gw := gw_c tin_3 14 rfl rfl
theorem mw_495 : (Jvm.Cond.methodLink "UnaskedName$Law" (63 : Nat) ({ cls := "UnaskedName$Law", name := "holds", desc := "(II)Z" } : Jvm.MethodName)) ∈ Gw := gw_c tin_3 15 rfl rfl
theorem mw_497 : (Jvm.Cond.instanceMethod ({ cls := "UnaskedName$Law", name := "holds", desc := "(II)Z" } : Jvm.MethodName)) ∈ Gw := gw_c tin_3 17 rfl rfl
theorem mw_498 : (Jvm.Cond.code ({ cls := "UnaskedName$Law", name := "holds", desc := "(II)Z" } : Jvm.MethodName) prog_2_method_8_code (9 : Nat) (Option.some Jvm.ClassFile.FieldType.boolean)) ∈ Gw := gw_c tin_3 18 rfl rfl
theorem mw_499 : (Jvm.Cond.methodLink "UnaskedName$World" (72 : Nat) ({ cls := "java/lang/Math", name := "max", desc := "(II)I" } : Jvm.MethodName)) ∈ Gw := gw_c tin_3 19 rfl rfl
theorem mw_500 : (Jvm.Cond.static ({ cls := "java/lang/Math", name := "max", desc := "(II)I" } : Jvm.MethodName)) ∈ Gw := gw_c tin_3 20 rfl rfl
theorem mw_501 : (Jvm.Cond.code ({ cls := "java/lang/Math", name := "max", desc := "(II)I" } : Jvm.MethodName) prog_23_method_65_code (2 : Nat) (Option.some Jvm.ClassFile.FieldType.int)) ∈ Gw := gw_c tin_3 21 rfl rfl
theorem mw_502 : (Jvm.Cond.methodLink "UnaskedName" (316 : Nat) ({ cls := "java/lang/Math", name := "min", desc := "(II)I" } : Jvm.MethodName)) ∈ Gw := gw_c tin_3 22 rfl rfl
theorem mw_503 : (Jvm.Cond.static ({ cls := "java/lang/Math", name := "min", desc := "(II)I" } : Jvm.MethodName)) ∈ Gw := gw_c tin_3 23 rfl rfl
theorem mw_504 : (Jvm.Cond.code ({ cls := "java/lang/Math", name := "min", desc := "(II)I" } : Jvm.MethodName) prog_23_method_69_code (2 : Nat) (Option.some Jvm.ClassFile.FieldType.int)) ∈ Gw := gw_c tin_3 24 rfl rfl
theorem mw_505 : (Jvm.Cond.methodLink "UnaskedNameLaw" (215 : Nat) ({ cls := "UnaskedName", name := "best", desc := "()I" } : Jvm.MethodName)) ∈ Gw := gw_c tin_3 25 rfl rfl
theorem mw_506 : (Jvm.Cond.instanceMethod ({ cls := "UnaskedName", name := "best", desc := "()I" } : Jvm.MethodName)) ∈ Gw := gw_c tin_3 26 rfl rfl
theorem mw_507 : (Jvm.Cond.selects "UnaskedName" ({ cls := "UnaskedName", name := "best", desc := "()I" } : Jvm.MethodName) ({ cls := "UnaskedName", name := "best", desc := "()I" } : Jvm.MethodName)) ∈ Gw := gw_c tin_3 27 rfl rfl
theorem mw_508 : (Jvm.Cond.code ({ cls := "UnaskedName", name := "best", desc := "()I" } : Jvm.MethodName) prog_1_method_37_code (1 : Nat) (Option.some Jvm.ClassFile.FieldType.int)) ∈ Gw := gw_c tin_3 28 rfl rfl
theorem mw_509 : (Jvm.Cond.methodLink "UnaskedName" (331 : Nat) ({ cls := "UnaskedName$Tale", name := "partingTrait", desc := "(I)I" } : Jvm.MethodName)) ∈ Gw := gw_c tin_3 29 rfl rfl
theorem mw_510 : (Jvm.Cond.instanceMethod ({ cls := "UnaskedName$Tale", name := "partingTrait", desc := "(I)I" } : Jvm.MethodName)) ∈ Gw := gw_c tin_3 30 rfl rfl
theorem mw_511 : (Jvm.Cond.selects "UnaskedName$Tale" ({ cls := "UnaskedName$Tale", name := "partingTrait", desc := "(I)I" } : Jvm.MethodName) ({ cls := "UnaskedName$Tale", name := "partingTrait", desc := "(I)I" } : Jvm.MethodName)) ∈ Gw := gw_c tin_3 31 rfl rfl
theorem mw_512 : (Jvm.Cond.code ({ cls := "UnaskedName$Tale", name := "partingTrait", desc := "(I)I" } : Jvm.MethodName) prog_10_method_9_code (7 : Nat) (Option.some Jvm.ClassFile.FieldType.int)) ∈ Gw := gw_c tin_3 32 rfl rfl
theorem mw_513 : (Jvm.Cond.methodLink "UnaskedName$Tale" (81 : Nat) ({ cls := "java/lang/Integer", name := "bitCount", desc := "(I)I" } : Jvm.MethodName)) ∈ Gw := gw_c tin_3 33 rfl rfl
theorem mw_515 : (Jvm.Cond.methodLink "UnaskedName$Tale" (87 : Nat) ({ cls := "java/lang/Math", name := "max", desc := "(II)I" } : Jvm.MethodName)) ∈ Gw := gw_c tin_3 35 rfl rfl
theorem mw_516 : (Jvm.Cond.methodLink "UnaskedNameLaw" (219 : Nat) ({ cls := "UnaskedName", name := "learns", desc := "()I" } : Jvm.MethodName)) ∈ Gw := gw_c tin_3 36 rfl rfl
theorem mw_517 : (Jvm.Cond.instanceMethod ({ cls := "UnaskedName", name := "learns", desc := "()I" } : Jvm.MethodName)) ∈ Gw := gw_c tin_3 37 rfl rfl
theorem mw_518 : (Jvm.Cond.selects "UnaskedName" ({ cls := "UnaskedName", name := "learns", desc := "()I" } : Jvm.MethodName) ({ cls := "UnaskedName", name := "learns", desc := "()I" } : Jvm.MethodName)) ∈ Gw := gw_c tin_3 38 rfl rfl
theorem mw_519 : (Jvm.Cond.code ({ cls := "UnaskedName", name := "learns", desc := "()I" } : Jvm.MethodName) prog_1_method_38_code (1 : Nat) (Option.some Jvm.ClassFile.FieldType.int)) ∈ Gw := gw_c tin_3 39 rfl rfl
theorem mw_520 : (Jvm.Cond.methodLink "UnaskedName" (334 : Nat) ({ cls := "UnaskedName$Tale", name := "tellingTraits", desc := "(II)I" } : Jvm.MethodName)) ∈ Gw := gw_c tin_3 40 rfl rfl
theorem mw_521 : (Jvm.Cond.instanceMethod ({ cls := "UnaskedName$Tale", name := "tellingTraits", desc := "(II)I" } : Jvm.MethodName)) ∈ Gw := gw_c tin_3 41 rfl rfl
theorem mw_522 : (Jvm.Cond.selects "UnaskedName$Tale" ({ cls := "UnaskedName$Tale", name := "tellingTraits", desc := "(II)I" } : Jvm.MethodName) ({ cls := "UnaskedName$Tale", name := "tellingTraits", desc := "(II)I" } : Jvm.MethodName)) ∈ Gw := gw_c tin_3 42 rfl rfl
theorem mw_523 : (Jvm.Cond.code ({ cls := "UnaskedName$Tale", name := "tellingTraits", desc := "(II)I" } : Jvm.MethodName) prog_10_method_10_code (6 : Nat) (Option.some Jvm.ClassFile.FieldType.int)) ∈ Gw := gw_c tin_3 43 rfl rfl
theorem mw_524 : (Jvm.Cond.methodLink "UnaskedName$Tale" (93 : Nat) ({ cls := "UnaskedName$Tale", name := "narrowedByAll", desc := "(III)I" } : Jvm.MethodName)) ∈ Gw := gw_c tin_3 44 rfl rfl
theorem mw_525 : (Jvm.Cond.instanceMethod ({ cls := "UnaskedName$Tale", name := "narrowedByAll", desc := "(III)I" } : Jvm.MethodName)) ∈ Gw := gw_c tin_3 45 rfl rfl
theorem mw_526 : (Jvm.Cond.selects "UnaskedName$Tale" ({ cls := "UnaskedName$Tale", name := "narrowedByAll", desc := "(III)I" } : Jvm.MethodName) ({ cls := "UnaskedName$Tale", name := "narrowedByAll", desc := "(III)I" } : Jvm.MethodName)) ∈ Gw := gw_c tin_3 46 rfl rfl
theorem mw_527 : (Jvm.Cond.code ({ cls := "UnaskedName$Tale", name := "narrowedByAll", desc := "(III)I" } : Jvm.MethodName) prog_10_method_11_code (6 : Nat) (Option.some Jvm.ClassFile.FieldType.int)) ∈ Gw := gw_c tin_3 47 rfl rfl
theorem mw_529 : (Jvm.Cond.methodLink "UnaskedName$Tale" (97 : Nat) ({ cls := "UnaskedName$Tale", name := "narrowed", desc := "(III)I" } : Jvm.MethodName)) ∈ Gw := gw_c tin_3 49 rfl rfl
theorem mw_530 : (Jvm.Cond.instanceMethod ({ cls := "UnaskedName$Tale", name := "narrowed", desc := "(III)I" } : Jvm.MethodName)) ∈ Gw := gw_c tin_3 50 rfl rfl
theorem mw_531 : (Jvm.Cond.selects "UnaskedName$Tale" ({ cls := "UnaskedName$Tale", name := "narrowed", desc := "(III)I" } : Jvm.MethodName) ({ cls := "UnaskedName$Tale", name := "narrowed", desc := "(III)I" } : Jvm.MethodName)) ∈ Gw := gw_c tin_3 51 rfl rfl
theorem mw_532 : (Jvm.Cond.code ({ cls := "UnaskedName$Tale", name := "narrowed", desc := "(III)I" } : Jvm.MethodName) prog_10_method_8_code (5 : Nat) (Option.some Jvm.ClassFile.FieldType.int)) ∈ Gw := gw_c tin_3 52 rfl rfl
theorem mw_533 : (Jvm.Cond.methodLink "UnaskedNameLaw" (223 : Nat) ({ cls := "UnaskedName", name := "worst", desc := "()I" } : Jvm.MethodName)) ∈ Gw := gw_c tin_3 53 rfl rfl
theorem mw_534 : (Jvm.Cond.instanceMethod ({ cls := "UnaskedName", name := "worst", desc := "()I" } : Jvm.MethodName)) ∈ Gw := gw_c tin_3 54 rfl rfl
theorem mw_535 : (Jvm.Cond.selects "UnaskedName" ({ cls := "UnaskedName", name := "worst", desc := "()I" } : Jvm.MethodName) ({ cls := "UnaskedName", name := "worst", desc := "()I" } : Jvm.MethodName)) ∈ Gw := gw_c tin_3 55 rfl rfl
theorem mw_536 : (Jvm.Cond.code ({ cls := "UnaskedName", name := "worst", desc := "()I" } : Jvm.MethodName) prog_1_method_39_code (1 : Nat) (Option.some Jvm.ClassFile.FieldType.int)) ∈ Gw := gw_c tin_3 56 rfl rfl
theorem mw_537 : (Jvm.Cond.methodLink "UnaskedName" (337 : Nat) ({ cls := "UnaskedName$Tale", name := "crumbsFor", desc := "(I)I" } : Jvm.MethodName)) ∈ Gw := gw_c tin_3 57 rfl rfl
theorem mw_538 : (Jvm.Cond.instanceMethod ({ cls := "UnaskedName$Tale", name := "crumbsFor", desc := "(I)I" } : Jvm.MethodName)) ∈ Gw := gw_c tin_3 58 rfl rfl
theorem mw_539 : (Jvm.Cond.selects "UnaskedName$Tale" ({ cls := "UnaskedName$Tale", name := "crumbsFor", desc := "(I)I" } : Jvm.MethodName) ({ cls := "UnaskedName$Tale", name := "crumbsFor", desc := "(I)I" } : Jvm.MethodName)) ∈ Gw := gw_c tin_3 59 rfl rfl
theorem mw_540 : (Jvm.Cond.code ({ cls := "UnaskedName$Tale", name := "crumbsFor", desc := "(I)I" } : Jvm.MethodName) prog_10_method_12_code (2 : Nat) (Option.some Jvm.ClassFile.FieldType.int)) ∈ Gw := gw_c tin_3 60 rfl rfl
theorem mw_541 : (Jvm.Cond.methodLink "UnaskedName$Tale" (100 : Nat) ({ cls := "UnaskedName$Tale", name := "crumbsFrom", desc := "(II)I" } : Jvm.MethodName)) ∈ Gw := gw_c tin_3 61 rfl rfl
theorem mw_543 : (Jvm.Cond.instanceMethod ({ cls := "UnaskedName$Tale", name := "crumbsFrom", desc := "(II)I" } : Jvm.MethodName)) ∈ Gw := gw_c tin_3 63 rfl rfl
theorem mw_544 : (Jvm.Cond.code ({ cls := "UnaskedName$Tale", name := "crumbsFrom", desc := "(II)I" } : Jvm.MethodName) prog_10_method_13_code (7 : Nat) (Option.some Jvm.ClassFile.FieldType.int)) ∈ Gw := gw_c tin_3 64 rfl rfl
theorem mw_545 : (Jvm.Cond.methodLink "UnaskedName$Tale" (103 : Nat) ({ cls := "java/lang/Math", name := "min", desc := "(II)I" } : Jvm.MethodName)) ∈ Gw := gw_c tin_3 65 rfl rfl
theorem mw_546 : (Jvm.Cond.methodLink "UnaskedName" (297 : Nat) ({ cls := "UnaskedName", name := "orNone", desc := "(I)I" } : Jvm.MethodName)) ∈ Gw := gw_c tin_3 66 rfl rfl
theorem mw_547 : (Jvm.Cond.static ({ cls := "UnaskedName", name := "orNone", desc := "(I)I" } : Jvm.MethodName)) ∈ Gw := gw_c tin_3 67 rfl rfl
theorem mw_548 : (Jvm.Cond.code ({ cls := "UnaskedName", name := "orNone", desc := "(I)I" } : Jvm.MethodName) prog_1_method_69_code (1 : Nat) (Option.some Jvm.ClassFile.FieldType.int)) ∈ Gw := gw_c tin_3 68 rfl rfl
theorem mw_549 : (Jvm.Cond.methodLink "UnaskedNameLaw" (227 : Nat) ({ cls := "UnaskedName", name := "hides", desc := "()I" } : Jvm.MethodName)) ∈ Gw := gw_c tin_3 69 rfl rfl
theorem mw_550 : (Jvm.Cond.instanceMethod ({ cls := "UnaskedName", name := "hides", desc := "()I" } : Jvm.MethodName)) ∈ Gw := gw_c tin_3 70 rfl rfl
theorem mw_551 : (Jvm.Cond.selects "UnaskedName" ({ cls := "UnaskedName", name := "hides", desc := "()I" } : Jvm.MethodName) ({ cls := "UnaskedName", name := "hides", desc := "()I" } : Jvm.MethodName)) ∈ Gw := gw_c tin_3 71 rfl rfl
theorem mw_552 : (Jvm.Cond.code ({ cls := "UnaskedName", name := "hides", desc := "()I" } : Jvm.MethodName) prog_1_method_40_code (3 : Nat) (Option.some Jvm.ClassFile.FieldType.int)) ∈ Gw := gw_c tin_3 72 rfl rfl
theorem mw_553 : (Jvm.Cond.methodLink "UnaskedName" (259 : Nat) ({ cls := "UnaskedName$Tale", name := "narrowed", desc := "(III)I" } : Jvm.MethodName)) ∈ Gw := gw_c tin_3 73 rfl rfl
theorem mw_554 : (Jvm.Cond.methodLink "UnaskedNameLaw" (231 : Nat) ({ cls := "UnaskedName", name := "alike", desc := "()I" } : Jvm.MethodName)) ∈ Gw := gw_c tin_3 74 rfl rfl
theorem mw_555 : (Jvm.Cond.instanceMethod ({ cls := "UnaskedName", name := "alike", desc := "()I" } : Jvm.MethodName)) ∈ Gw := gw_c tin_3 75 rfl rfl
theorem mw_556 : (Jvm.Cond.selects "UnaskedName" ({ cls := "UnaskedName", name := "alike", desc := "()I" } : Jvm.MethodName) ({ cls := "UnaskedName", name := "alike", desc := "()I" } : Jvm.MethodName)) ∈ Gw := gw_c tin_3 76 rfl rfl
theorem mw_557 : (Jvm.Cond.code ({ cls := "UnaskedName", name := "alike", desc := "()I" } : Jvm.MethodName) prog_1_method_41_code (4 : Nat) (Option.some Jvm.ClassFile.FieldType.int)) ∈ Gw := gw_c tin_3 77 rfl rfl
theorem mw_558 : (Jvm.Cond.methodLink "UnaskedName" (340 : Nat) ({ cls := "UnaskedName$Tale", name := "difference", desc := "(II)I" } : Jvm.MethodName)) ∈ Gw := gw_c tin_3 78 rfl rfl
theorem mw_559 : (Jvm.Cond.instanceMethod ({ cls := "UnaskedName$Tale", name := "difference", desc := "(II)I" } : Jvm.MethodName)) ∈ Gw := gw_c tin_3 79 rfl rfl
theorem mw_560 : (Jvm.Cond.selects "UnaskedName$Tale" ({ cls := "UnaskedName$Tale", name := "difference", desc := "(II)I" } : Jvm.MethodName) ({ cls := "UnaskedName$Tale", name := "difference", desc := "(II)I" } : Jvm.MethodName)) ∈ Gw := gw_c tin_3 80 rfl rfl
theorem mw_561 : (Jvm.Cond.code ({ cls := "UnaskedName$Tale", name := "difference", desc := "(II)I" } : Jvm.MethodName) prog_10_method_14_code (3 : Nat) (Option.some Jvm.ClassFile.FieldType.int)) ∈ Gw := gw_c tin_3 81 rfl rfl
theorem mw_562 : (Jvm.Cond.methodLink "UnaskedNameLaw" (238 : Nat) ({ cls := "UnaskedName", name := "likeliest", desc := "()I" } : Jvm.MethodName)) ∈ Gw := gw_c tin_3 82 rfl rfl
theorem mw_563 : (Jvm.Cond.instanceMethod ({ cls := "UnaskedName", name := "likeliest", desc := "()I" } : Jvm.MethodName)) ∈ Gw := gw_c tin_3 83 rfl rfl
theorem mw_564 : (Jvm.Cond.selects "UnaskedName" ({ cls := "UnaskedName", name := "likeliest", desc := "()I" } : Jvm.MethodName) ({ cls := "UnaskedName", name := "likeliest", desc := "()I" } : Jvm.MethodName)) ∈ Gw := gw_c tin_3 84 rfl rfl
theorem mw_565 : (Jvm.Cond.code ({ cls := "UnaskedName", name := "likeliest", desc := "()I" } : Jvm.MethodName) prog_1_method_44_code (4 : Nat) (Option.some Jvm.ClassFile.FieldType.int)) ∈ Gw := gw_c tin_3 85 rfl rfl
theorem mw_566 : (Jvm.Cond.methodLink "UnaskedName" (161 : Nat) ({ cls := "UnaskedName", name := "has", desc := "(II)Z" } : Jvm.MethodName)) ∈ Gw := gw_c tin_3 86 rfl rfl
theorem mw_567 : (Jvm.Cond.methodLink "UnaskedName" (148 : Nat) ({ cls := "UnaskedName", name := "at", desc := "([II)I" } : Jvm.MethodName)) ∈ Gw := gw_c tin_3 87 rfl rfl
theorem mw_568 : (Jvm.Cond.methodLink "UnaskedNameLaw" (275 : Nat) ({ cls := "UnaskedName", name := "shared", desc := "()I" } : Jvm.MethodName)) ∈ Gw := gw_c tin_3 88 rfl rfl
theorem mw_569 : (Jvm.Cond.instanceMethod ({ cls := "UnaskedName", name := "shared", desc := "()I" } : Jvm.MethodName)) ∈ Gw := gw_c tin_3 89 rfl rfl
theorem mw_570 : (Jvm.Cond.selects "UnaskedName" ({ cls := "UnaskedName", name := "shared", desc := "()I" } : Jvm.MethodName) ({ cls := "UnaskedName", name := "shared", desc := "()I" } : Jvm.MethodName)) ∈ Gw := gw_c tin_3 90 rfl rfl
theorem mw_571 : (Jvm.Cond.code ({ cls := "UnaskedName", name := "shared", desc := "()I" } : Jvm.MethodName) prog_1_method_45_code (3 : Nat) (Option.some Jvm.ClassFile.FieldType.int)) ∈ Gw := gw_c tin_3 91 rfl rfl
theorem mw_572 : (Jvm.Cond.methodLink "UnaskedNameLaw" (245 : Nat) ({ cls := "UnaskedName", name := "cover", desc := "()I" } : Jvm.MethodName)) ∈ Gw := gw_c tin_3 92 rfl rfl
theorem mw_573 : (Jvm.Cond.instanceMethod ({ cls := "UnaskedName", name := "cover", desc := "()I" } : Jvm.MethodName)) ∈ Gw := gw_c tin_3 93 rfl rfl
theorem mw_574 : (Jvm.Cond.selects "UnaskedName" ({ cls := "UnaskedName", name := "cover", desc := "()I" } : Jvm.MethodName) ({ cls := "UnaskedName", name := "cover", desc := "()I" } : Jvm.MethodName)) ∈ Gw := gw_c tin_3 94 rfl rfl
theorem mw_575 : (Jvm.Cond.code ({ cls := "UnaskedName", name := "cover", desc := "()I" } : Jvm.MethodName) prog_1_method_48_code (4 : Nat) (Option.some Jvm.ClassFile.FieldType.int)) ∈ Gw := gw_c tin_3 95 rfl rfl
theorem mw_576 : (Jvm.Cond.methodLink "UnaskedName" (263 : Nat) ({ cls := "java/lang/Integer", name := "bitCount", desc := "(I)I" } : Jvm.MethodName)) ∈ Gw := gw_c tin_3 96 rfl rfl
theorem mw_577 : (Jvm.Cond.methodLink "UnaskedName" (360 : Nat) ({ cls := "UnaskedName$Tale", name := "dutiesDone", desc := "(I)I" } : Jvm.MethodName)) ∈ Gw := gw_c tin_3 97 rfl rfl
theorem mw_578 : (Jvm.Cond.instanceMethod ({ cls := "UnaskedName$Tale", name := "dutiesDone", desc := "(I)I" } : Jvm.MethodName)) ∈ Gw := gw_c tin_3 98 rfl rfl
theorem mw_579 : (Jvm.Cond.selects "UnaskedName$Tale" ({ cls := "UnaskedName$Tale", name := "dutiesDone", desc := "(I)I" } : Jvm.MethodName) ({ cls := "UnaskedName$Tale", name := "dutiesDone", desc := "(I)I" } : Jvm.MethodName)) ∈ Gw := gw_c tin_3 99 rfl rfl
theorem mw_580 : (Jvm.Cond.code ({ cls := "UnaskedName$Tale", name := "dutiesDone", desc := "(I)I" } : Jvm.MethodName) prog_10_method_17_code (4 : Nat) (Option.some Jvm.ClassFile.FieldType.int)) ∈ Gw := gw_c tin_3 100 rfl rfl
theorem mw_581 : (Jvm.Cond.methodLink "UnaskedNameLaw" (249 : Nat) ({ cls := "UnaskedName", name := "alone", desc := "()I" } : Jvm.MethodName)) ∈ Gw := gw_c tin_3 101 rfl rfl
theorem mw_582 : (Jvm.Cond.instanceMethod ({ cls := "UnaskedName", name := "alone", desc := "()I" } : Jvm.MethodName)) ∈ Gw := gw_c tin_3 102 rfl rfl
theorem mw_583 : (Jvm.Cond.selects "UnaskedName" ({ cls := "UnaskedName", name := "alone", desc := "()I" } : Jvm.MethodName) ({ cls := "UnaskedName", name := "alone", desc := "()I" } : Jvm.MethodName)) ∈ Gw := gw_c tin_3 103 rfl rfl
theorem mw_584 : (Jvm.Cond.code ({ cls := "UnaskedName", name := "alone", desc := "()I" } : Jvm.MethodName) prog_1_method_49_code (4 : Nat) (Option.some Jvm.ClassFile.FieldType.int)) ∈ Gw := gw_c tin_3 104 rfl rfl
theorem mw_585 : (Jvm.Cond.methodLink "UnaskedNameLaw" (253 : Nat) ({ cls := "UnaskedName", name := "seals", desc := "(I)I" } : Jvm.MethodName)) ∈ Gw := gw_c tin_3 105 rfl rfl
theorem mw_586 : (Jvm.Cond.instanceMethod ({ cls := "UnaskedName", name := "seals", desc := "(I)I" } : Jvm.MethodName)) ∈ Gw := gw_c tin_3 106 rfl rfl
theorem mw_587 : (Jvm.Cond.selects "UnaskedName" ({ cls := "UnaskedName", name := "seals", desc := "(I)I" } : Jvm.MethodName) ({ cls := "UnaskedName", name := "seals", desc := "(I)I" } : Jvm.MethodName)) ∈ Gw := gw_c tin_3 107 rfl rfl
theorem mw_588 : (Jvm.Cond.code ({ cls := "UnaskedName", name := "seals", desc := "(I)I" } : Jvm.MethodName) prog_1_method_50_code (2 : Nat) (Option.some Jvm.ClassFile.FieldType.int)) ∈ Gw := gw_c tin_3 108 rfl rfl
theorem mw_589 : (Jvm.Cond.methodLink "UnaskedNameLaw" (257 : Nat) ({ cls := "UnaskedName", name := "began", desc := "()I" } : Jvm.MethodName)) ∈ Gw := gw_c tin_3 109 rfl rfl
theorem mw_590 : (Jvm.Cond.instanceMethod ({ cls := "UnaskedName", name := "began", desc := "()I" } : Jvm.MethodName)) ∈ Gw := gw_c tin_3 110 rfl rfl
theorem mw_591 : (Jvm.Cond.selects "UnaskedName" ({ cls := "UnaskedName", name := "began", desc := "()I" } : Jvm.MethodName) ({ cls := "UnaskedName", name := "began", desc := "()I" } : Jvm.MethodName)) ∈ Gw := gw_c tin_3 111 rfl rfl
theorem mw_592 : (Jvm.Cond.code ({ cls := "UnaskedName", name := "began", desc := "()I" } : Jvm.MethodName) prog_1_method_51_code (1 : Nat) (Option.some Jvm.ClassFile.FieldType.int)) ∈ Gw := gw_c tin_3 112 rfl rfl
theorem mw_593 : (Jvm.Cond.methodLink "UnaskedName" (370 : Nat) ({ cls := "UnaskedName$Log", name := "streakAbove", desc := "(I)I" } : Jvm.MethodName)) ∈ Gw := gw_c tin_3 113 rfl rfl
theorem mw_594 : (Jvm.Cond.instanceMethod ({ cls := "UnaskedName$Log", name := "streakAbove", desc := "(I)I" } : Jvm.MethodName)) ∈ Gw := gw_c tin_3 114 rfl rfl
theorem mw_595 : (Jvm.Cond.selects "UnaskedName$Log" ({ cls := "UnaskedName$Log", name := "streakAbove", desc := "(I)I" } : Jvm.MethodName) ({ cls := "UnaskedName$Log", name := "streakAbove", desc := "(I)I" } : Jvm.MethodName)) ∈ Gw := gw_c tin_3 115 rfl rfl
theorem mw_596 : (Jvm.Cond.code ({ cls := "UnaskedName$Log", name := "streakAbove", desc := "(I)I" } : Jvm.MethodName) prog_4_method_5_code (4 : Nat) (Option.some Jvm.ClassFile.FieldType.int)) ∈ Gw := gw_c tin_3 116 rfl rfl
theorem mw_597 : (Jvm.Cond.methodLink "UnaskedName$Log" (49 : Nat) ({ cls := "UnaskedName$Log", name := "part", desc := "(II)I" } : Jvm.MethodName)) ∈ Gw := gw_c tin_3 117 rfl rfl
theorem mw_598 : (Jvm.Cond.instanceMethod ({ cls := "UnaskedName$Log", name := "part", desc := "(II)I" } : Jvm.MethodName)) ∈ Gw := gw_c tin_3 118 rfl rfl
theorem mw_599 : (Jvm.Cond.selects "UnaskedName$Log" ({ cls := "UnaskedName$Log", name := "part", desc := "(II)I" } : Jvm.MethodName) ({ cls := "UnaskedName$Log", name := "part", desc := "(II)I" } : Jvm.MethodName)) ∈ Gw := gw_c tin_3 119 rfl rfl
theorem mw_600 : (Jvm.Cond.code ({ cls := "UnaskedName$Log", name := "part", desc := "(II)I" } : Jvm.MethodName) prog_4_method_4_code (4 : Nat) (Option.some Jvm.ClassFile.FieldType.int)) ∈ Gw := gw_c tin_3 120 rfl rfl
theorem mw_602 : (Jvm.Cond.methodLink "UnaskedNameLaw" (261 : Nat) ({ cls := "UnaskedName", name := "loudest", desc := "()I" } : Jvm.MethodName)) ∈ Gw := gw_c tin_3 122 rfl rfl
theorem mw_603 : (Jvm.Cond.instanceMethod ({ cls := "UnaskedName", name := "loudest", desc := "()I" } : Jvm.MethodName)) ∈ Gw := gw_c tin_3 123 rfl rfl
theorem mw_604 : (Jvm.Cond.selects "UnaskedName" ({ cls := "UnaskedName", name := "loudest", desc := "()I" } : Jvm.MethodName) ({ cls := "UnaskedName", name := "loudest", desc := "()I" } : Jvm.MethodName)) ∈ Gw := gw_c tin_3 124 rfl rfl
theorem mw_605 : (Jvm.Cond.code ({ cls := "UnaskedName", name := "loudest", desc := "()I" } : Jvm.MethodName) prog_1_method_52_code (6 : Nat) (Option.some Jvm.ClassFile.FieldType.int)) ∈ Gw := gw_c tin_3 125 rfl rfl
theorem mw_606 : (Jvm.Cond.methodLink "UnaskedName" (375 : Nat) ({ cls := "UnaskedName$Log", name := "recordsOf", desc := "(I)I" } : Jvm.MethodName)) ∈ Gw := gw_c tin_3 126 rfl rfl
theorem mw_607 : (Jvm.Cond.instanceMethod ({ cls := "UnaskedName$Log", name := "recordsOf", desc := "(I)I" } : Jvm.MethodName)) ∈ Gw := gw_c tin_3 127 rfl rfl
theorem mw_608 : (Jvm.Cond.selects "UnaskedName$Log" ({ cls := "UnaskedName$Log", name := "recordsOf", desc := "(I)I" } : Jvm.MethodName) ({ cls := "UnaskedName$Log", name := "recordsOf", desc := "(I)I" } : Jvm.MethodName)) ∈ Gw := gw_c tin_3 128 rfl rfl
theorem mw_609 : (Jvm.Cond.code ({ cls := "UnaskedName$Log", name := "recordsOf", desc := "(I)I" } : Jvm.MethodName) prog_4_method_6_code (5 : Nat) (Option.some Jvm.ClassFile.FieldType.int)) ∈ Gw := gw_c tin_3 129 rfl rfl
theorem mw_610 : (Jvm.Cond.methodLink "UnaskedNameLaw" (297 : Nat) ({ cls := "UnaskedName", name := "seed", desc := "(I)I" } : Jvm.MethodName)) ∈ Gw := gw_c tin_3 130 rfl rfl
theorem mw_611 : (Jvm.Cond.instanceMethod ({ cls := "UnaskedName", name := "seed", desc := "(I)I" } : Jvm.MethodName)) ∈ Gw := gw_c tin_3 131 rfl rfl
theorem mw_612 : (Jvm.Cond.selects "UnaskedName" ({ cls := "UnaskedName", name := "seed", desc := "(I)I" } : Jvm.MethodName) ({ cls := "UnaskedName", name := "seed", desc := "(I)I" } : Jvm.MethodName)) ∈ Gw := gw_c tin_3 132 rfl rfl
theorem mw_613 : (Jvm.Cond.code ({ cls := "UnaskedName", name := "seed", desc := "(I)I" } : Jvm.MethodName) prog_1_method_55_code (3 : Nat) (Option.some Jvm.ClassFile.FieldType.int)) ∈ Gw := gw_c tin_3 133 rfl rfl
theorem mw_614 : (Jvm.Cond.methodLink "UnaskedNameLaw" (301 : Nat) ({ cls := "UnaskedName", name := "undo", desc := "()Z" } : Jvm.MethodName)) ∈ Gw := gw_c tin_3 134 rfl rfl
theorem mw_615 : (Jvm.Cond.instanceMethod ({ cls := "UnaskedName", name := "undo", desc := "()Z" } : Jvm.MethodName)) ∈ Gw := gw_c tin_3 135 rfl rfl
theorem mw_616 : (Jvm.Cond.selects "UnaskedName" ({ cls := "UnaskedName", name := "undo", desc := "()Z" } : Jvm.MethodName) ({ cls := "UnaskedName", name := "undo", desc := "()Z" } : Jvm.MethodName)) ∈ Gw := gw_c tin_3 136 rfl rfl
theorem mw_617 : (Jvm.Cond.code ({ cls := "UnaskedName", name := "undo", desc := "()Z" } : Jvm.MethodName) prog_1_method_56_code (1 : Nat) (Option.some Jvm.ClassFile.FieldType.boolean)) ∈ Gw := gw_c tin_3 137 rfl rfl
theorem mw_618 : (Jvm.Cond.methodLink "UnaskedName" (386 : Nat) ({ cls := "UnaskedName$Past", name := "recall", desc := "(LUnaskedName$Mind;)Z" } : Jvm.MethodName)) ∈ Gw := gw_c tin_3 138 rfl rfl
theorem mw_619 : (Jvm.Cond.instanceMethod ({ cls := "UnaskedName$Past", name := "recall", desc := "(LUnaskedName$Mind;)Z" } : Jvm.MethodName)) ∈ Gw := gw_c tin_3 139 rfl rfl
theorem mw_620 : (Jvm.Cond.selects "UnaskedName$Past" ({ cls := "UnaskedName$Past", name := "recall", desc := "(LUnaskedName$Mind;)Z" } : Jvm.MethodName) ({ cls := "UnaskedName$Past", name := "recall", desc := "(LUnaskedName$Mind;)Z" } : Jvm.MethodName)) ∈ Gw := gw_c tin_3 140 rfl rfl
theorem mw_621 : (Jvm.Cond.code ({ cls := "UnaskedName$Past", name := "recall", desc := "(LUnaskedName$Mind;)Z" } : Jvm.MethodName) prog_6_method_4_code (3 : Nat) (Option.some Jvm.ClassFile.FieldType.boolean)) ∈ Gw := gw_c tin_3 141 rfl rfl
theorem mw_622 : (Jvm.Cond.methodLink "UnaskedName$Past" (23 : Nat) ({ cls := "UnaskedName$Past", name := "newestRow", desc := "()LUnaskedName$Mind;" } : Jvm.MethodName)) ∈ Gw := gw_c tin_3 142 rfl rfl
theorem mw_624 : (Jvm.Cond.instanceMethod ({ cls := "UnaskedName$Past", name := "newestRow", desc := "()LUnaskedName$Mind;" } : Jvm.MethodName)) ∈ Gw := gw_c tin_3 144 rfl rfl
theorem mw_625 : (Jvm.Cond.code ({ cls := "UnaskedName$Past", name := "newestRow", desc := "()LUnaskedName$Mind;" } : Jvm.MethodName) prog_6_method_5_code (1 : Nat) (Option.some (Jvm.ClassFile.FieldType.object "UnaskedName$Mind"))) ∈ Gw := gw_c tin_3 145 rfl rfl
theorem mw_626 : (Jvm.Cond.methodLink "UnaskedName$Past" (27 : Nat) ({ cls := "UnaskedName$Mind", name := "copyFrom", desc := "(LUnaskedName$Mind;)V" } : Jvm.MethodName)) ∈ Gw := gw_c tin_3 146 rfl rfl
theorem mw_627 : (Jvm.Cond.instanceMethod ({ cls := "UnaskedName$Mind", name := "copyFrom", desc := "(LUnaskedName$Mind;)V" } : Jvm.MethodName)) ∈ Gw := gw_c tin_3 147 rfl rfl
theorem mw_628 : (Jvm.Cond.selects "UnaskedName$Mind" ({ cls := "UnaskedName$Mind", name := "copyFrom", desc := "(LUnaskedName$Mind;)V" } : Jvm.MethodName) ({ cls := "UnaskedName$Mind", name := "copyFrom", desc := "(LUnaskedName$Mind;)V" } : Jvm.MethodName)) ∈ Gw := gw_c tin_3 148 rfl rfl
theorem mw_629 : (Jvm.Cond.code ({ cls := "UnaskedName$Mind", name := "copyFrom", desc := "(LUnaskedName$Mind;)V" } : Jvm.MethodName) prog_5_method_2_code (2 : Nat) (Option.none : Option Jvm.ClassFile.FieldType)) ∈ Gw := gw_c tin_3 149 rfl rfl
theorem mw_630 : (Jvm.Cond.methodLink "UnaskedName$Mind" (45 : Nat) ({ cls := "UnaskedName$Mind", name := "copyThoughtFrom", desc := "(LUnaskedName$Mind;)V" } : Jvm.MethodName)) ∈ Gw := gw_c tin_3 150 rfl rfl
theorem mw_631 : (Jvm.Cond.instanceMethod ({ cls := "UnaskedName$Mind", name := "copyThoughtFrom", desc := "(LUnaskedName$Mind;)V" } : Jvm.MethodName)) ∈ Gw := gw_c tin_3 151 rfl rfl
theorem mw_632 : (Jvm.Cond.selects "UnaskedName$Mind" ({ cls := "UnaskedName$Mind", name := "copyThoughtFrom", desc := "(LUnaskedName$Mind;)V" } : Jvm.MethodName) ({ cls := "UnaskedName$Mind", name := "copyThoughtFrom", desc := "(LUnaskedName$Mind;)V" } : Jvm.MethodName)) ∈ Gw := gw_c tin_3 152 rfl rfl
theorem mw_633 : (Jvm.Cond.code ({ cls := "UnaskedName$Mind", name := "copyThoughtFrom", desc := "(LUnaskedName$Mind;)V" } : Jvm.MethodName) prog_5_method_3_code (2 : Nat) (Option.none : Option Jvm.ClassFile.FieldType)) ∈ Gw := gw_c tin_3 153 rfl rfl
theorem mw_634 : (Jvm.Cond.methodLink "UnaskedName$Mind" (53 : Nat) ({ cls := "java/lang/System", name := "arraycopy", desc := "(Ljava/lang/Object;ILjava/lang/Object;II)V" } : Jvm.MethodName)) ∈ Gw := gw_c tin_3 154 rfl rfl
theorem mw_635 : (Jvm.Cond.static ({ cls := "java/lang/System", name := "arraycopy", desc := "(Ljava/lang/Object;ILjava/lang/Object;II)V" } : Jvm.MethodName)) ∈ Gw := gw_c tin_3 155 rfl rfl
theorem mw_636 : (Jvm.Cond.native ({ cls := "java/lang/System", name := "arraycopy", desc := "(Ljava/lang/Object;ILjava/lang/Object;II)V" } : Jvm.MethodName)) ∈ Gw := gw_c tin_3 156 rfl rfl
theorem mw_637 : (Jvm.Cond.methodLink "UnaskedName$Mind" (49 : Nat) ({ cls := "UnaskedName$Log", name := "copyFrom", desc := "(LUnaskedName$Log;)V" } : Jvm.MethodName)) ∈ Gw := gw_c tin_3 157 rfl rfl
theorem mw_638 : (Jvm.Cond.instanceMethod ({ cls := "UnaskedName$Log", name := "copyFrom", desc := "(LUnaskedName$Log;)V" } : Jvm.MethodName)) ∈ Gw := gw_c tin_3 158 rfl rfl
theorem mw_639 : (Jvm.Cond.selects "UnaskedName$Log" ({ cls := "UnaskedName$Log", name := "copyFrom", desc := "(LUnaskedName$Log;)V" } : Jvm.MethodName) ({ cls := "UnaskedName$Log", name := "copyFrom", desc := "(LUnaskedName$Log;)V" } : Jvm.MethodName)) ∈ Gw := gw_c tin_3 159 rfl rfl
theorem mw_640 : (Jvm.Cond.code ({ cls := "UnaskedName$Log", name := "copyFrom", desc := "(LUnaskedName$Log;)V" } : Jvm.MethodName) prog_4_method_2_code (2 : Nat) (Option.none : Option Jvm.ClassFile.FieldType)) ∈ Gw := gw_c tin_3 160 rfl rfl
theorem mw_641 : (Jvm.Cond.methodLink "UnaskedName$Log" (22 : Nat) ({ cls := "java/lang/System", name := "arraycopy", desc := "(Ljava/lang/Object;ILjava/lang/Object;II)V" } : Jvm.MethodName)) ∈ Gw := gw_c tin_3 161 rfl rfl
theorem mw_642 : (Jvm.Cond.methodLink "UnaskedNameLaw" (306 : Nat) ({ cls := "UnaskedName", name := "image", desc := "()V" } : Jvm.MethodName)) ∈ Gw := gw_c tin_3 162 rfl rfl
theorem mw_643 : (Jvm.Cond.instanceMethod ({ cls := "UnaskedName", name := "image", desc := "()V" } : Jvm.MethodName)) ∈ Gw := gw_c tin_3 163 rfl rfl
theorem mw_644 : (Jvm.Cond.selects "UnaskedName" ({ cls := "UnaskedName", name := "image", desc := "()V" } : Jvm.MethodName) ({ cls := "UnaskedName", name := "image", desc := "()V" } : Jvm.MethodName)) ∈ Gw := gw_c tin_3 164 rfl rfl
theorem mw_645 : (Jvm.Cond.code ({ cls := "UnaskedName", name := "image", desc := "()V" } : Jvm.MethodName) prog_1_method_57_code (1 : Nat) (Option.none : Option Jvm.ClassFile.FieldType)) ∈ Gw := gw_c tin_3 165 rfl rfl
theorem mw_646 : (Jvm.Cond.methodLink "UnaskedName" (83 : Nat) ({ cls := "UnaskedName$World", name := "copyFrom", desc := "(LUnaskedName$World;)V" } : Jvm.MethodName)) ∈ Gw := gw_c tin_3 166 rfl rfl
theorem mw_647 : (Jvm.Cond.instanceMethod ({ cls := "UnaskedName$World", name := "copyFrom", desc := "(LUnaskedName$World;)V" } : Jvm.MethodName)) ∈ Gw := gw_c tin_3 167 rfl rfl
theorem mw_648 : (Jvm.Cond.selects "UnaskedName$World" ({ cls := "UnaskedName$World", name := "copyFrom", desc := "(LUnaskedName$World;)V" } : Jvm.MethodName) ({ cls := "UnaskedName$World", name := "copyFrom", desc := "(LUnaskedName$World;)V" } : Jvm.MethodName)) ∈ Gw := gw_c tin_3 168 rfl rfl
theorem mw_649 : (Jvm.Cond.code ({ cls := "UnaskedName$World", name := "copyFrom", desc := "(LUnaskedName$World;)V" } : Jvm.MethodName) prog_12_method_2_code (2 : Nat) (Option.none : Option Jvm.ClassFile.FieldType)) ∈ Gw := gw_c tin_3 169 rfl rfl
theorem mw_650 : (Jvm.Cond.methodLink "UnaskedName$World" (32 : Nat) ({ cls := "UnaskedName$Tale", name := "copyFrom", desc := "(LUnaskedName$Tale;)V" } : Jvm.MethodName)) ∈ Gw := gw_c tin_3 170 rfl rfl
theorem mw_651 : (Jvm.Cond.instanceMethod ({ cls := "UnaskedName$Tale", name := "copyFrom", desc := "(LUnaskedName$Tale;)V" } : Jvm.MethodName)) ∈ Gw := gw_c tin_3 171 rfl rfl
theorem mw_652 : (Jvm.Cond.selects "UnaskedName$Tale" ({ cls := "UnaskedName$Tale", name := "copyFrom", desc := "(LUnaskedName$Tale;)V" } : Jvm.MethodName) ({ cls := "UnaskedName$Tale", name := "copyFrom", desc := "(LUnaskedName$Tale;)V" } : Jvm.MethodName)) ∈ Gw := gw_c tin_3 172 rfl rfl
theorem mw_653 : (Jvm.Cond.code ({ cls := "UnaskedName$Tale", name := "copyFrom", desc := "(LUnaskedName$Tale;)V" } : Jvm.MethodName) prog_10_method_2_code (2 : Nat) (Option.none : Option Jvm.ClassFile.FieldType)) ∈ Gw := gw_c tin_3 173 rfl rfl
theorem mw_654 : (Jvm.Cond.methodLink "UnaskedName$Tale" (67 : Nat) ({ cls := "java/lang/System", name := "arraycopy", desc := "(Ljava/lang/Object;ILjava/lang/Object;II)V" } : Jvm.MethodName)) ∈ Gw := gw_c tin_3 174 rfl rfl
theorem mw_655 : (Jvm.Cond.methodLink "UnaskedName$World" (36 : Nat) ({ cls := "UnaskedName$Law", name := "copyFrom", desc := "(LUnaskedName$Law;)V" } : Jvm.MethodName)) ∈ Gw := gw_c tin_3 175 rfl rfl
theorem mw_656 : (Jvm.Cond.instanceMethod ({ cls := "UnaskedName$Law", name := "copyFrom", desc := "(LUnaskedName$Law;)V" } : Jvm.MethodName)) ∈ Gw := gw_c tin_3 176 rfl rfl
theorem mw_657 : (Jvm.Cond.selects "UnaskedName$Law" ({ cls := "UnaskedName$Law", name := "copyFrom", desc := "(LUnaskedName$Law;)V" } : Jvm.MethodName) ({ cls := "UnaskedName$Law", name := "copyFrom", desc := "(LUnaskedName$Law;)V" } : Jvm.MethodName)) ∈ Gw := gw_c tin_3 177 rfl rfl
theorem mw_658 : (Jvm.Cond.code ({ cls := "UnaskedName$Law", name := "copyFrom", desc := "(LUnaskedName$Law;)V" } : Jvm.MethodName) prog_2_method_2_code (2 : Nat) (Option.none : Option Jvm.ClassFile.FieldType)) ∈ Gw := gw_c tin_3 178 rfl rfl
theorem mw_659 : (Jvm.Cond.methodLink "UnaskedName$Law" (40 : Nat) ({ cls := "java/lang/System", name := "arraycopy", desc := "(Ljava/lang/Object;ILjava/lang/Object;II)V" } : Jvm.MethodName)) ∈ Gw := gw_c tin_3 179 rfl rfl
theorem mw_660 : (Jvm.Cond.methodLink "UnaskedName$World" (39 : Nat) ({ cls := "UnaskedName$Mind", name := "copyFrom", desc := "(LUnaskedName$Mind;)V" } : Jvm.MethodName)) ∈ Gw := gw_c tin_3 180 rfl rfl
theorem mw_661 : (Jvm.Cond.methodLink "UnaskedNameLaw" (310 : Nat) ({ cls := "UnaskedName", name := "back", desc := "()Z" } : Jvm.MethodName)) ∈ Gw := gw_c tin_3 181 rfl rfl
theorem mw_662 : (Jvm.Cond.instanceMethod ({ cls := "UnaskedName", name := "back", desc := "()Z" } : Jvm.MethodName)) ∈ Gw := gw_c tin_3 182 rfl rfl
theorem mw_663 : (Jvm.Cond.selects "UnaskedName" ({ cls := "UnaskedName", name := "back", desc := "()Z" } : Jvm.MethodName) ({ cls := "UnaskedName", name := "back", desc := "()Z" } : Jvm.MethodName)) ∈ Gw := gw_c tin_3 183 rfl rfl
theorem mw_664 : (Jvm.Cond.code ({ cls := "UnaskedName", name := "back", desc := "()Z" } : Jvm.MethodName) prog_1_method_58_code (1 : Nat) (Option.some Jvm.ClassFile.FieldType.boolean)) ∈ Gw := gw_c tin_3 184 rfl rfl
theorem mw_665 : (Jvm.Cond.methodLink "UnaskedName" (118 : Nat) ({ cls := "UnaskedName$Past", name := "forget", desc := "()V" } : Jvm.MethodName)) ∈ Gw := gw_c tin_3 185 rfl rfl
theorem mw_666 : (Jvm.Cond.instanceMethod ({ cls := "UnaskedName$Past", name := "forget", desc := "()V" } : Jvm.MethodName)) ∈ Gw := gw_c tin_3 186 rfl rfl
theorem mw_667 : (Jvm.Cond.selects "UnaskedName$Past" ({ cls := "UnaskedName$Past", name := "forget", desc := "()V" } : Jvm.MethodName) ({ cls := "UnaskedName$Past", name := "forget", desc := "()V" } : Jvm.MethodName)) ∈ Gw := gw_c tin_3 187 rfl rfl
theorem mw_668 : (Jvm.Cond.code ({ cls := "UnaskedName$Past", name := "forget", desc := "()V" } : Jvm.MethodName) prog_6_method_2_code (1 : Nat) (Option.none : Option Jvm.ClassFile.FieldType)) ∈ Gw := gw_c tin_3 188 rfl rfl
theorem mw_669 : (Jvm.Cond.methodLink "UnaskedNameLaw" (314 : Nat) ({ cls := "UnaskedName", name := "count", desc := "(I)I" } : Jvm.MethodName)) ∈ Gw := gw_c tin_3 189 rfl rfl
theorem mw_670 : (Jvm.Cond.instanceMethod ({ cls := "UnaskedName", name := "count", desc := "(I)I" } : Jvm.MethodName)) ∈ Gw := gw_c tin_3 190 rfl rfl
theorem mw_671 : (Jvm.Cond.selects "UnaskedName" ({ cls := "UnaskedName", name := "count", desc := "(I)I" } : Jvm.MethodName) ({ cls := "UnaskedName", name := "count", desc := "(I)I" } : Jvm.MethodName)) ∈ Gw := gw_c tin_3 191 rfl rfl
theorem mw_672 : (Jvm.Cond.code ({ cls := "UnaskedName", name := "count", desc := "(I)I" } : Jvm.MethodName) prog_1_method_59_code (4 : Nat) (Option.some Jvm.ClassFile.FieldType.int)) ∈ Gw := gw_c tin_3 192 rfl rfl
theorem mw_673 : (Jvm.Cond.methodLink "UnaskedName" (398 : Nat) ({ cls := "java/lang/Math", name := "max", desc := "(II)I" } : Jvm.MethodName)) ∈ Gw := gw_c tin_3 193 rfl rfl
theorem mw_674 : (Jvm.Cond.methodLink "UnaskedNameLaw" (135 : Nat) ({ cls := "UnaskedNameLaw", name := "story", desc := "(LUnaskedName;[J)I" } : Jvm.MethodName)) ∈ Gw := gw_c tin_3 194 rfl rfl
theorem mw_675 : (Jvm.Cond.static ({ cls := "UnaskedNameLaw", name := "story", desc := "(LUnaskedName;[J)I" } : Jvm.MethodName)) ∈ Gw := gw_c tin_3 195 rfl rfl
theorem mw_677 : (Jvm.Cond.classLink "UnaskedNameLaw" (13 : Nat) "java/lang/IllegalArgumentException") ∈ Gw := gw_c tin_3 197 rfl rfl
theorem mw_678 : (Jvm.Cond.classLink "UnaskedNameLaw" (15 : Nat) "java/lang/UnsupportedOperationException") ∈ Gw := gw_c tin_3 198 rfl rfl
theorem mw_679 : (Jvm.Cond.methodLink "UnaskedNameLaw" (7 : Nat) ({ cls := "UnaskedName", name := "story", desc := "()I" } : Jvm.MethodName)) ∈ Gw := gw_c tin_3 199 rfl rfl
theorem mw_680 : (Jvm.Cond.instanceMethod ({ cls := "UnaskedName", name := "story", desc := "()I" } : Jvm.MethodName)) ∈ Gw := gw_c tin_3 200 rfl rfl
theorem mw_681 : (Jvm.Cond.selects "UnaskedName" ({ cls := "UnaskedName", name := "story", desc := "()I" } : Jvm.MethodName) ({ cls := "UnaskedName", name := "story", desc := "()I" } : Jvm.MethodName)) ∈ Gw := gw_c tin_3 201 rfl rfl
theorem mw_682 : (Jvm.Cond.code ({ cls := "UnaskedName", name := "story", desc := "()I" } : Jvm.MethodName) prog_1_method_4_code (2 : Nat) (Option.some Jvm.ClassFile.FieldType.int)) ∈ Gw := gw_c tin_3 202 rfl rfl
theorem mw_683 : (Jvm.Cond.methodLink "UnaskedName" (87 : Nat) ({ cls := "UnaskedName$StoryReader", name := "reads", desc := "(LUnaskedName$Tape;LUnaskedName$World;)Z" } : Jvm.MethodName)) ∈ Gw := gw_c tin_3 203 rfl rfl
theorem mw_684 : (Jvm.Cond.static ({ cls := "UnaskedName$StoryReader", name := "reads", desc := "(LUnaskedName$Tape;LUnaskedName$World;)Z" } : Jvm.MethodName)) ∈ Gw := gw_c tin_3 204 rfl rfl
theorem mw_685 : (Jvm.Cond.code ({ cls := "UnaskedName$StoryReader", name := "reads", desc := "(LUnaskedName$Tape;LUnaskedName$World;)Z" } : Jvm.MethodName) prog_9_method_2_code (3 : Nat) (Option.some Jvm.ClassFile.FieldType.boolean)) ∈ Gw := gw_c tin_3 205 rfl rfl
theorem mw_686 : (Jvm.Cond.methodLink "UnaskedName$StoryReader" (9 : Nat) ({ cls := "UnaskedName$Tape", name := "open", desc := "()V" } : Jvm.MethodName)) ∈ Gw := gw_c tin_3 206 rfl rfl
theorem mw_687 : (Jvm.Cond.instanceMethod ({ cls := "UnaskedName$Tape", name := "open", desc := "()V" } : Jvm.MethodName)) ∈ Gw := gw_c tin_3 207 rfl rfl
theorem mw_688 : (Jvm.Cond.selects "UnaskedName$Tape" ({ cls := "UnaskedName$Tape", name := "open", desc := "()V" } : Jvm.MethodName) ({ cls := "UnaskedName$Tape", name := "open", desc := "()V" } : Jvm.MethodName)) ∈ Gw := gw_c tin_3 208 rfl rfl
theorem mw_689 : (Jvm.Cond.code ({ cls := "UnaskedName$Tape", name := "open", desc := "()V" } : Jvm.MethodName) prog_11_method_4_code (1 : Nat) (Option.none : Option Jvm.ClassFile.FieldType)) ∈ Gw := gw_c tin_3 209 rfl rfl
theorem mw_690 : (Jvm.Cond.methodLink "UnaskedName$Tape" (31 : Nat) ({ cls := "UnaskedName$Tape", name := "advance", desc := "()V" } : Jvm.MethodName)) ∈ Gw := gw_c tin_3 210 rfl rfl
theorem mw_691 : (Jvm.Cond.instanceMethod ({ cls := "UnaskedName$Tape", name := "advance", desc := "()V" } : Jvm.MethodName)) ∈ Gw := gw_c tin_3 211 rfl rfl
theorem mw_692 : (Jvm.Cond.selects "UnaskedName$Tape" ({ cls := "UnaskedName$Tape", name := "advance", desc := "()V" } : Jvm.MethodName) ({ cls := "UnaskedName$Tape", name := "advance", desc := "()V" } : Jvm.MethodName)) ∈ Gw := gw_c tin_3 212 rfl rfl
theorem mw_693 : (Jvm.Cond.code ({ cls := "UnaskedName$Tape", name := "advance", desc := "()V" } : Jvm.MethodName) prog_11_method_5_code (2 : Nat) (Option.none : Option Jvm.ClassFile.FieldType)) ∈ Gw := gw_c tin_3 213 rfl rfl
theorem mw_694 : (Jvm.Cond.methodLink "UnaskedName$Tape" (34 : Nat) ({ cls := "UnaskedName$Tape", name := "byteAt", desc := "(I)I" } : Jvm.MethodName)) ∈ Gw := gw_c tin_3 214 rfl rfl
theorem mw_696 : (Jvm.Cond.instanceMethod ({ cls := "UnaskedName$Tape", name := "byteAt", desc := "(I)I" } : Jvm.MethodName)) ∈ Gw := gw_c tin_3 216 rfl rfl
theorem mw_697 : (Jvm.Cond.code ({ cls := "UnaskedName$Tape", name := "byteAt", desc := "(I)I" } : Jvm.MethodName) prog_11_method_6_code (2 : Nat) (Option.some Jvm.ClassFile.FieldType.int)) ∈ Gw := gw_c tin_3 217 rfl rfl
theorem mw_698 : (Jvm.Cond.methodLink "UnaskedName$Tape" (38 : Nat) ({ cls := "UnaskedName$Tape", name := "kindOf", desc := "(I)I" } : Jvm.MethodName)) ∈ Gw := gw_c tin_3 218 rfl rfl
theorem mw_699 : (Jvm.Cond.static ({ cls := "UnaskedName$Tape", name := "kindOf", desc := "(I)I" } : Jvm.MethodName)) ∈ Gw := gw_c tin_3 219 rfl rfl
theorem mw_700 : (Jvm.Cond.code ({ cls := "UnaskedName$Tape", name := "kindOf", desc := "(I)I" } : Jvm.MethodName) prog_11_method_7_code (1 : Nat) (Option.some Jvm.ClassFile.FieldType.int)) ∈ Gw := gw_c tin_3 220 rfl rfl
theorem mw_701 : (Jvm.Cond.methodLink "UnaskedName$StoryReader" (20 : Nat) ({ cls := "UnaskedName$StoryReader", name := "readsLine", desc := "(LUnaskedName$Tape;LUnaskedName$World;)Z" } : Jvm.MethodName)) ∈ Gw := gw_c tin_3 221 rfl rfl
theorem mw_702 : (Jvm.Cond.static ({ cls := "UnaskedName$StoryReader", name := "readsLine", desc := "(LUnaskedName$Tape;LUnaskedName$World;)Z" } : Jvm.MethodName)) ∈ Gw := gw_c tin_3 222 rfl rfl
theorem mw_703 : (Jvm.Cond.code ({ cls := "UnaskedName$StoryReader", name := "readsLine", desc := "(LUnaskedName$Tape;LUnaskedName$World;)Z" } : Jvm.MethodName) prog_9_method_3_code (2 : Nat) (Option.some Jvm.ClassFile.FieldType.boolean)) ∈ Gw := gw_c tin_3 223 rfl rfl
theorem mw_705 : (Jvm.Cond.methodLink "UnaskedName$StoryReader" (30 : Nat) ({ cls := "UnaskedName$Tape", name := "isWord", desc := "(Ljava/lang/String;)Z" } : Jvm.MethodName)) ∈ Gw := gw_c tin_3 225 rfl rfl
theorem mw_706 : (Jvm.Cond.instanceMethod ({ cls := "UnaskedName$Tape", name := "isWord", desc := "(Ljava/lang/String;)Z" } : Jvm.MethodName)) ∈ Gw := gw_c tin_3 226 rfl rfl
theorem mw_707 : (Jvm.Cond.selects "UnaskedName$Tape" ({ cls := "UnaskedName$Tape", name := "isWord", desc := "(Ljava/lang/String;)Z" } : Jvm.MethodName) ({ cls := "UnaskedName$Tape", name := "isWord", desc := "(Ljava/lang/String;)Z" } : Jvm.MethodName)) ∈ Gw := gw_c tin_3 227 rfl rfl
theorem mw_708 : (Jvm.Cond.code ({ cls := "UnaskedName$Tape", name := "isWord", desc := "(Ljava/lang/String;)Z" } : Jvm.MethodName) prog_11_method_8_code (3 : Nat) (Option.some Jvm.ClassFile.FieldType.boolean)) ∈ Gw := gw_c tin_3 228 rfl rfl
theorem mw_709 : (Jvm.Cond.methodLink "UnaskedName$Tape" (41 : Nat) ({ cls := "java/lang/String", name := "length", desc := "()I" } : Jvm.MethodName)) ∈ Gw := gw_c tin_3 229 rfl rfl
theorem mw_710 : (Jvm.Cond.instanceMethod ({ cls := "java/lang/String", name := "length", desc := "()I" } : Jvm.MethodName)) ∈ Gw := gw_c tin_3 230 rfl rfl
theorem mw_711 : (Jvm.Cond.selects "java/lang/String" ({ cls := "java/lang/String", name := "length", desc := "()I" } : Jvm.MethodName) ({ cls := "java/lang/String", name := "length", desc := "()I" } : Jvm.MethodName)) ∈ Gw := gw_c tin_3 231 rfl rfl
theorem mw_712 : (Jvm.Cond.code ({ cls := "java/lang/String", name := "length", desc := "()I" } : Jvm.MethodName) prog_25_method_54_code (1 : Nat) (Option.some Jvm.ClassFile.FieldType.int)) ∈ Gw := gw_c tin_3 232 rfl rfl
theorem mw_713 : (Jvm.Cond.methodLink "java/lang/String" (335 : Nat) ({ cls := "java/lang/String", name := "coder", desc := "()B" } : Jvm.MethodName)) ∈ Gw := gw_c tin_3 233 rfl rfl
theorem mw_714 : (Jvm.Cond.instanceMethod ({ cls := "java/lang/String", name := "coder", desc := "()B" } : Jvm.MethodName)) ∈ Gw := gw_c tin_3 234 rfl rfl
theorem mw_715 : (Jvm.Cond.selects "java/lang/String" ({ cls := "java/lang/String", name := "coder", desc := "()B" } : Jvm.MethodName) ({ cls := "java/lang/String", name := "coder", desc := "()B" } : Jvm.MethodName)) ∈ Gw := gw_c tin_3 235 rfl rfl
theorem mw_716 : (Jvm.Cond.code ({ cls := "java/lang/String", name := "coder", desc := "()B" } : Jvm.MethodName) prog_25_method_152_code (1 : Nat) (Option.some Jvm.ClassFile.FieldType.byte)) ∈ Gw := gw_c tin_3 236 rfl rfl
theorem mw_717 : (Jvm.Cond.fieldLink "java/lang/String" (38 : Nat) "java/lang/String" "COMPACT_STRINGS" "Z") ∈ Gw := gw_c tin_3 237 rfl rfl
theorem mw_719 : (Jvm.Cond.methodLink "UnaskedName$Tape" (46 : Nat) ({ cls := "java/lang/String", name := "charAt", desc := "(I)C" } : Jvm.MethodName)) ∈ Gw := gw_c tin_3 239 rfl rfl
theorem mw_720 : (Jvm.Cond.instanceMethod ({ cls := "java/lang/String", name := "charAt", desc := "(I)C" } : Jvm.MethodName)) ∈ Gw := gw_c tin_4 0 rfl rfl
theorem mw_721 : (Jvm.Cond.selects "java/lang/String" ({ cls := "java/lang/String", name := "charAt", desc := "(I)C" } : Jvm.MethodName) ({ cls := "java/lang/String", name := "charAt", desc := "(I)C" } : Jvm.MethodName)) ∈ Gw := gw_c tin_4 1 rfl rfl
theorem mw_722 : (Jvm.Cond.code ({ cls := "java/lang/String", name := "charAt", desc := "(I)C" } : Jvm.MethodName) prog_25_method_56_code (2 : Nat) (Option.some Jvm.ClassFile.FieldType.char)) ∈ Gw := gw_c tin_4 2 rfl rfl
theorem mw_723 : (Jvm.Cond.methodLink "java/lang/String" (492 : Nat) ({ cls := "java/lang/String", name := "isLatin1", desc := "()Z" } : Jvm.MethodName)) ∈ Gw := gw_c tin_4 3 rfl rfl
theorem mw_724 : (Jvm.Cond.instanceMethod ({ cls := "java/lang/String", name := "isLatin1", desc := "()Z" } : Jvm.MethodName)) ∈ Gw := gw_c tin_4 4 rfl rfl
theorem mw_725 : (Jvm.Cond.selects "java/lang/String" ({ cls := "java/lang/String", name := "isLatin1", desc := "()Z" } : Jvm.MethodName) ({ cls := "java/lang/String", name := "isLatin1", desc := "()Z" } : Jvm.MethodName)) ∈ Gw := gw_c tin_4 5 rfl rfl
theorem mw_726 : (Jvm.Cond.code ({ cls := "java/lang/String", name := "isLatin1", desc := "()Z" } : Jvm.MethodName) prog_25_method_154_code (1 : Nat) (Option.some Jvm.ClassFile.FieldType.boolean)) ∈ Gw := gw_c tin_4 6 rfl rfl
theorem mw_727 : (Jvm.Cond.methodLink "java/lang/String" (495 : Nat) ({ cls := "java/lang/StringLatin1", name := "charAt", desc := "([BI)C" } : Jvm.MethodName)) ∈ Gw := gw_c tin_4 7 rfl rfl
theorem mw_728 : (Jvm.Cond.static ({ cls := "java/lang/StringLatin1", name := "charAt", desc := "([BI)C" } : Jvm.MethodName)) ∈ Gw := gw_c tin_4 8 rfl rfl
theorem mw_729 : (Jvm.Cond.code ({ cls := "java/lang/StringLatin1", name := "charAt", desc := "([BI)C" } : Jvm.MethodName) prog_26_method_2_code (2 : Nat) (Option.some Jvm.ClassFile.FieldType.char)) ∈ Gw := gw_c tin_4 9 rfl rfl
theorem mw_730 : (Jvm.Cond.methodLink "java/lang/StringLatin1" (9 : Nat) ({ cls := "java/lang/String", name := "checkIndex", desc := "(II)V" } : Jvm.MethodName)) ∈ Gw := gw_c tin_4 10 rfl rfl
theorem mw_731 : (Jvm.Cond.static ({ cls := "java/lang/String", name := "checkIndex", desc := "(II)V" } : Jvm.MethodName)) ∈ Gw := gw_c tin_4 11 rfl rfl
theorem mw_732 : (Jvm.Cond.code ({ cls := "java/lang/String", name := "checkIndex", desc := "(II)V" } : Jvm.MethodName) prog_25_method_155_code (2 : Nat) (Option.none : Option Jvm.ClassFile.FieldType)) ∈ Gw := gw_c tin_4 12 rfl rfl
theorem mw_733 : (Jvm.Cond.fieldLink "java/lang/String" (1053 : Nat) "jdk/internal/util/Preconditions" "SIOOBE_FORMATTER" "Ljava/util/function/BiFunction;") ∈ Gw := gw_c tin_4 13 rfl rfl
theorem mw_735 : (Jvm.Cond.methodLink "java/lang/String" (1059 : Nat) ({ cls := "jdk/internal/util/Preconditions", name := "checkIndex", desc := "(IILjava/util/function/BiFunction;)I" } : Jvm.MethodName)) ∈ Gw := gw_c tin_4 15 rfl rfl
theorem mw_736 : (Jvm.Cond.static ({ cls := "jdk/internal/util/Preconditions", name := "checkIndex", desc := "(IILjava/util/function/BiFunction;)I" } : Jvm.MethodName)) ∈ Gw := gw_c tin_4 16 rfl rfl
theorem mw_737 : (Jvm.Cond.code ({ cls := "jdk/internal/util/Preconditions", name := "checkIndex", desc := "(IILjava/util/function/BiFunction;)I" } : Jvm.MethodName) prog_34_method_11_code (3 : Nat) (Option.some Jvm.ClassFile.FieldType.int)) ∈ Gw := gw_c tin_4 17 rfl rfl
theorem mw_738 : (Jvm.Cond.methodLink "java/lang/String" (498 : Nat) ({ cls := "java/lang/StringUTF16", name := "charAt", desc := "([BI)C" } : Jvm.MethodName)) ∈ Gw := gw_c tin_4 18 rfl rfl
theorem mw_739 : (Jvm.Cond.static ({ cls := "java/lang/StringUTF16", name := "charAt", desc := "([BI)C" } : Jvm.MethodName)) ∈ Gw := gw_c tin_4 19 rfl rfl
theorem mw_740 : (Jvm.Cond.code ({ cls := "java/lang/StringUTF16", name := "charAt", desc := "([BI)C" } : Jvm.MethodName) prog_27_method_83_code (2 : Nat) (Option.some Jvm.ClassFile.FieldType.char)) ∈ Gw := gw_c tin_4 20 rfl rfl
theorem mw_741 : (Jvm.Cond.methodLink "java/lang/StringUTF16" (67 : Nat) ({ cls := "java/lang/StringUTF16", name := "checkIndex", desc := "(I[B)V" } : Jvm.MethodName)) ∈ Gw := gw_c tin_4 21 rfl rfl
theorem mw_742 : (Jvm.Cond.static ({ cls := "java/lang/StringUTF16", name := "checkIndex", desc := "(I[B)V" } : Jvm.MethodName)) ∈ Gw := gw_c tin_4 22 rfl rfl
theorem mw_743 : (Jvm.Cond.code ({ cls := "java/lang/StringUTF16", name := "checkIndex", desc := "(I[B)V" } : Jvm.MethodName) prog_27_method_91_code (2 : Nat) (Option.none : Option Jvm.ClassFile.FieldType)) ∈ Gw := gw_c tin_4 23 rfl rfl
theorem mw_744 : (Jvm.Cond.methodLink "java/lang/StringUTF16" (48 : Nat) ({ cls := "java/lang/StringUTF16", name := "length", desc := "([B)I" } : Jvm.MethodName)) ∈ Gw := gw_c tin_4 24 rfl rfl
theorem mw_745 : (Jvm.Cond.static ({ cls := "java/lang/StringUTF16", name := "length", desc := "([B)I" } : Jvm.MethodName)) ∈ Gw := gw_c tin_4 25 rfl rfl
theorem mw_746 : (Jvm.Cond.code ({ cls := "java/lang/StringUTF16", name := "length", desc := "([B)I" } : Jvm.MethodName) prog_27_method_6_code (1 : Nat) (Option.some Jvm.ClassFile.FieldType.int)) ∈ Gw := gw_c tin_4 26 rfl rfl
theorem mw_747 : (Jvm.Cond.methodLink "java/lang/StringUTF16" (414 : Nat) ({ cls := "java/lang/String", name := "checkIndex", desc := "(II)V" } : Jvm.MethodName)) ∈ Gw := gw_c tin_4 27 rfl rfl
theorem mw_748 : (Jvm.Cond.methodLink "java/lang/StringUTF16" (71 : Nat) ({ cls := "java/lang/StringUTF16", name := "getChar", desc := "([BI)C" } : Jvm.MethodName)) ∈ Gw := gw_c tin_4 28 rfl rfl
theorem mw_749 : (Jvm.Cond.static ({ cls := "java/lang/StringUTF16", name := "getChar", desc := "([BI)C" } : Jvm.MethodName)) ∈ Gw := gw_c tin_4 29 rfl rfl
theorem mw_750 : (Jvm.Cond.code ({ cls := "java/lang/StringUTF16", name := "getChar", desc := "([BI)C" } : Jvm.MethodName) prog_27_method_5_code (2 : Nat) (Option.some Jvm.ClassFile.FieldType.char)) ∈ Gw := gw_c tin_4 30 rfl rfl
theorem mw_751 : (Jvm.Cond.fieldLink "java/lang/StringUTF16" (44 : Nat) "java/lang/StringUTF16" "$assertionsDisabled" "Z") ∈ Gw := gw_c tin_4 31 rfl rfl
theorem mw_753 : (Jvm.Cond.fieldLink "java/lang/StringUTF16" (59 : Nat) "java/lang/StringUTF16" "HI_BYTE_SHIFT" "I") ∈ Gw := gw_c tin_4 33 rfl rfl
theorem mw_755 : (Jvm.Cond.fieldLink "java/lang/StringUTF16" (63 : Nat) "java/lang/StringUTF16" "LO_BYTE_SHIFT" "I") ∈ Gw := gw_c tin_4 35 rfl rfl
theorem mw_757 : (Jvm.Cond.methodLink "UnaskedName$StoryReader" (34 : Nat) ({ cls := "UnaskedName$StoryReader", name := "readsName", desc := "(LUnaskedName$Tape;LUnaskedName$World;)Z" } : Jvm.MethodName)) ∈ Gw := gw_c tin_4 37 rfl rfl
theorem mw_758 : (Jvm.Cond.static ({ cls := "UnaskedName$StoryReader", name := "readsName", desc := "(LUnaskedName$Tape;LUnaskedName$World;)Z" } : Jvm.MethodName)) ∈ Gw := gw_c tin_4 38 rfl rfl
theorem mw_759 : (Jvm.Cond.code ({ cls := "UnaskedName$StoryReader", name := "readsName", desc := "(LUnaskedName$Tape;LUnaskedName$World;)Z" } : Jvm.MethodName) prog_9_method_4_code (4 : Nat) (Option.some Jvm.ClassFile.FieldType.boolean)) ∈ Gw := gw_c tin_4 39 rfl rfl
theorem mw_760 : (Jvm.Cond.methodLink "UnaskedName$StoryReader" (75 : Nat) ({ cls := "UnaskedName$Tape", name := "advance", desc := "()V" } : Jvm.MethodName)) ∈ Gw := gw_c tin_4 40 rfl rfl
theorem mw_761 : (Jvm.Cond.methodLink "UnaskedName$StoryReader" (78 : Nat) ({ cls := "UnaskedName$Tape", name := "passLetters", desc := "()I" } : Jvm.MethodName)) ∈ Gw := gw_c tin_4 41 rfl rfl
theorem mw_762 : (Jvm.Cond.instanceMethod ({ cls := "UnaskedName$Tape", name := "passLetters", desc := "()I" } : Jvm.MethodName)) ∈ Gw := gw_c tin_4 42 rfl rfl
theorem mw_763 : (Jvm.Cond.selects "UnaskedName$Tape" ({ cls := "UnaskedName$Tape", name := "passLetters", desc := "()I" } : Jvm.MethodName) ({ cls := "UnaskedName$Tape", name := "passLetters", desc := "()I" } : Jvm.MethodName)) ∈ Gw := gw_c tin_4 43 rfl rfl
theorem mw_764 : (Jvm.Cond.code ({ cls := "UnaskedName$Tape", name := "passLetters", desc := "()I" } : Jvm.MethodName) prog_11_method_14_code (4 : Nat) (Option.some Jvm.ClassFile.FieldType.int)) ∈ Gw := gw_c tin_4 44 rfl rfl
theorem mw_767 : (Jvm.Cond.methodLink "UnaskedName$StoryReader" (84 : Nat) ({ cls := "UnaskedName$Tape", name := "passWord", desc := "(Ljava/lang/String;)Z" } : Jvm.MethodName)) ∈ Gw := gw_c tin_4 47 rfl rfl
theorem mw_768 : (Jvm.Cond.instanceMethod ({ cls := "UnaskedName$Tape", name := "passWord", desc := "(Ljava/lang/String;)Z" } : Jvm.MethodName)) ∈ Gw := gw_c tin_4 48 rfl rfl
theorem mw_769 : (Jvm.Cond.selects "UnaskedName$Tape" ({ cls := "UnaskedName$Tape", name := "passWord", desc := "(Ljava/lang/String;)Z" } : Jvm.MethodName) ({ cls := "UnaskedName$Tape", name := "passWord", desc := "(Ljava/lang/String;)Z" } : Jvm.MethodName)) ∈ Gw := gw_c tin_4 49 rfl rfl
theorem mw_770 : (Jvm.Cond.code ({ cls := "UnaskedName$Tape", name := "passWord", desc := "(Ljava/lang/String;)Z" } : Jvm.MethodName) prog_11_method_10_code (3 : Nat) (Option.some Jvm.ClassFile.FieldType.boolean)) ∈ Gw := gw_c tin_4 50 rfl rfl
theorem mw_771 : (Jvm.Cond.methodLink "UnaskedName$Tape" (50 : Nat) ({ cls := "UnaskedName$Tape", name := "isWord", desc := "(Ljava/lang/String;)Z" } : Jvm.MethodName)) ∈ Gw := gw_c tin_4 51 rfl rfl
theorem mw_772 : (Jvm.Cond.methodLink "UnaskedName$StoryReader" (87 : Nat) ({ cls := "UnaskedName$Tape", name := "passNumber", desc := "(II)I" } : Jvm.MethodName)) ∈ Gw := gw_c tin_4 52 rfl rfl
theorem mw_773 : (Jvm.Cond.instanceMethod ({ cls := "UnaskedName$Tape", name := "passNumber", desc := "(II)I" } : Jvm.MethodName)) ∈ Gw := gw_c tin_4 53 rfl rfl
theorem mw_774 : (Jvm.Cond.selects "UnaskedName$Tape" ({ cls := "UnaskedName$Tape", name := "passNumber", desc := "(II)I" } : Jvm.MethodName) ({ cls := "UnaskedName$Tape", name := "passNumber", desc := "(II)I" } : Jvm.MethodName)) ∈ Gw := gw_c tin_4 54 rfl rfl
theorem mw_775 : (Jvm.Cond.code ({ cls := "UnaskedName$Tape", name := "passNumber", desc := "(II)I" } : Jvm.MethodName) prog_11_method_13_code (4 : Nat) (Option.some Jvm.ClassFile.FieldType.int)) ∈ Gw := gw_c tin_4 55 rfl rfl
theorem mw_776 : (Jvm.Cond.methodLink "UnaskedName$Tape" (58 : Nat) ({ cls := "UnaskedName$Tape", name := "numberIn", desc := "(II)I" } : Jvm.MethodName)) ∈ Gw := gw_c tin_4 56 rfl rfl
theorem mw_777 : (Jvm.Cond.instanceMethod ({ cls := "UnaskedName$Tape", name := "numberIn", desc := "(II)I" } : Jvm.MethodName)) ∈ Gw := gw_c tin_4 57 rfl rfl
theorem mw_778 : (Jvm.Cond.selects "UnaskedName$Tape" ({ cls := "UnaskedName$Tape", name := "numberIn", desc := "(II)I" } : Jvm.MethodName) ({ cls := "UnaskedName$Tape", name := "numberIn", desc := "(II)I" } : Jvm.MethodName)) ∈ Gw := gw_c tin_4 58 rfl rfl
theorem mw_779 : (Jvm.Cond.code ({ cls := "UnaskedName$Tape", name := "numberIn", desc := "(II)I" } : Jvm.MethodName) prog_11_method_12_code (3 : Nat) (Option.some Jvm.ClassFile.FieldType.int)) ∈ Gw := gw_c tin_4 59 rfl rfl
theorem mw_780 : (Jvm.Cond.methodLink "UnaskedName$StoryReader" (103 : Nat) ({ cls := "java/lang/Math", name := "max", desc := "(II)I" } : Jvm.MethodName)) ∈ Gw := gw_c tin_4 60 rfl rfl
theorem mw_781 : (Jvm.Cond.methodLink "UnaskedName$StoryReader" (108 : Nat) ({ cls := "UnaskedName$Tale", name := "addName", desc := "(II)V" } : Jvm.MethodName)) ∈ Gw := gw_c tin_4 61 rfl rfl
theorem mw_782 : (Jvm.Cond.instanceMethod ({ cls := "UnaskedName$Tale", name := "addName", desc := "(II)V" } : Jvm.MethodName)) ∈ Gw := gw_c tin_4 62 rfl rfl
theorem mw_783 : (Jvm.Cond.selects "UnaskedName$Tale" ({ cls := "UnaskedName$Tale", name := "addName", desc := "(II)V" } : Jvm.MethodName) ({ cls := "UnaskedName$Tale", name := "addName", desc := "(II)V" } : Jvm.MethodName)) ∈ Gw := gw_c tin_4 63 rfl rfl
theorem mw_784 : (Jvm.Cond.code ({ cls := "UnaskedName$Tale", name := "addName", desc := "(II)V" } : Jvm.MethodName) prog_10_method_3_code (4 : Nat) (Option.none : Option Jvm.ClassFile.FieldType)) ∈ Gw := gw_c tin_4 64 rfl rfl
theorem mw_786 : (Jvm.Cond.methodLink "UnaskedName$StoryReader" (45 : Nat) ({ cls := "UnaskedName$StoryReader", name := "readsWord", desc := "(LUnaskedName$Tape;LUnaskedName$Tale;)Z" } : Jvm.MethodName)) ∈ Gw := gw_c tin_4 66 rfl rfl
theorem mw_787 : (Jvm.Cond.static ({ cls := "UnaskedName$StoryReader", name := "readsWord", desc := "(LUnaskedName$Tape;LUnaskedName$Tale;)Z" } : Jvm.MethodName)) ∈ Gw := gw_c tin_4 67 rfl rfl
theorem mw_788 : (Jvm.Cond.code ({ cls := "UnaskedName$StoryReader", name := "readsWord", desc := "(LUnaskedName$Tape;LUnaskedName$Tale;)Z" } : Jvm.MethodName) prog_9_method_5_code (4 : Nat) (Option.some Jvm.ClassFile.FieldType.boolean)) ∈ Gw := gw_c tin_4 68 rfl rfl
theorem mw_790 : (Jvm.Cond.methodLink "UnaskedName$StoryReader" (117 : Nat) ({ cls := "UnaskedName$Tape", name := "passLetter", desc := "()I" } : Jvm.MethodName)) ∈ Gw := gw_c tin_4 70 rfl rfl
theorem mw_791 : (Jvm.Cond.instanceMethod ({ cls := "UnaskedName$Tape", name := "passLetter", desc := "()I" } : Jvm.MethodName)) ∈ Gw := gw_c tin_4 71 rfl rfl
theorem mw_792 : (Jvm.Cond.selects "UnaskedName$Tape" ({ cls := "UnaskedName$Tape", name := "passLetter", desc := "()I" } : Jvm.MethodName) ({ cls := "UnaskedName$Tape", name := "passLetter", desc := "()I" } : Jvm.MethodName)) ∈ Gw := gw_c tin_4 72 rfl rfl
theorem mw_793 : (Jvm.Cond.code ({ cls := "UnaskedName$Tape", name := "passLetter", desc := "()I" } : Jvm.MethodName) prog_11_method_15_code (2 : Nat) (Option.some Jvm.ClassFile.FieldType.int)) ∈ Gw := gw_c tin_4 73 rfl rfl
theorem mw_794 : (Jvm.Cond.methodLink "UnaskedName$StoryReader" (120 : Nat) ({ cls := "UnaskedName$Tale", name := "addWord", desc := "(II)V" } : Jvm.MethodName)) ∈ Gw := gw_c tin_4 74 rfl rfl
theorem mw_795 : (Jvm.Cond.instanceMethod ({ cls := "UnaskedName$Tale", name := "addWord", desc := "(II)V" } : Jvm.MethodName)) ∈ Gw := gw_c tin_4 75 rfl rfl
theorem mw_796 : (Jvm.Cond.selects "UnaskedName$Tale" ({ cls := "UnaskedName$Tale", name := "addWord", desc := "(II)V" } : Jvm.MethodName) ({ cls := "UnaskedName$Tale", name := "addWord", desc := "(II)V" } : Jvm.MethodName)) ∈ Gw := gw_c tin_4 76 rfl rfl
theorem mw_797 : (Jvm.Cond.code ({ cls := "UnaskedName$Tale", name := "addWord", desc := "(II)V" } : Jvm.MethodName) prog_10_method_4_code (3 : Nat) (Option.none : Option Jvm.ClassFile.FieldType)) ∈ Gw := gw_c tin_4 77 rfl rfl
theorem mw_799 : (Jvm.Cond.methodLink "UnaskedName$StoryReader" (51 : Nat) ({ cls := "UnaskedName$StoryReader", name := "readsDeed", desc := "(LUnaskedName$Tape;LUnaskedName$Tale;)Z" } : Jvm.MethodName)) ∈ Gw := gw_c tin_4 79 rfl rfl
theorem mw_800 : (Jvm.Cond.static ({ cls := "UnaskedName$StoryReader", name := "readsDeed", desc := "(LUnaskedName$Tape;LUnaskedName$Tale;)Z" } : Jvm.MethodName)) ∈ Gw := gw_c tin_4 80 rfl rfl
theorem mw_801 : (Jvm.Cond.code ({ cls := "UnaskedName$StoryReader", name := "readsDeed", desc := "(LUnaskedName$Tape;LUnaskedName$Tale;)Z" } : Jvm.MethodName) prog_9_method_6_code (4 : Nat) (Option.some Jvm.ClassFile.FieldType.boolean)) ∈ Gw := gw_c tin_4 81 rfl rfl
theorem mw_803 : (Jvm.Cond.methodLink "UnaskedName$StoryReader" (128 : Nat) ({ cls := "UnaskedName$Tale", name := "addDeed", desc := "(II)V" } : Jvm.MethodName)) ∈ Gw := gw_c tin_4 83 rfl rfl
theorem mw_804 : (Jvm.Cond.instanceMethod ({ cls := "UnaskedName$Tale", name := "addDeed", desc := "(II)V" } : Jvm.MethodName)) ∈ Gw := gw_c tin_4 84 rfl rfl
theorem mw_805 : (Jvm.Cond.selects "UnaskedName$Tale" ({ cls := "UnaskedName$Tale", name := "addDeed", desc := "(II)V" } : Jvm.MethodName) ({ cls := "UnaskedName$Tale", name := "addDeed", desc := "(II)V" } : Jvm.MethodName)) ∈ Gw := gw_c tin_4 85 rfl rfl
theorem mw_806 : (Jvm.Cond.code ({ cls := "UnaskedName$Tale", name := "addDeed", desc := "(II)V" } : Jvm.MethodName) prog_10_method_5_code (3 : Nat) (Option.none : Option Jvm.ClassFile.FieldType)) ∈ Gw := gw_c tin_4 86 rfl rfl
theorem mw_808 : (Jvm.Cond.methodLink "UnaskedName$StoryReader" (56 : Nat) ({ cls := "UnaskedName$StoryReader", name := "readsMember", desc := "(LUnaskedName$Tape;LUnaskedName$World;I)Z" } : Jvm.MethodName)) ∈ Gw := gw_c tin_4 88 rfl rfl
theorem mw_809 : (Jvm.Cond.static ({ cls := "UnaskedName$StoryReader", name := "readsMember", desc := "(LUnaskedName$Tape;LUnaskedName$World;I)Z" } : Jvm.MethodName)) ∈ Gw := gw_c tin_4 89 rfl rfl
theorem mw_810 : (Jvm.Cond.code ({ cls := "UnaskedName$StoryReader", name := "readsMember", desc := "(LUnaskedName$Tape;LUnaskedName$World;I)Z" } : Jvm.MethodName) prog_9_method_7_code (5 : Nat) (Option.some Jvm.ClassFile.FieldType.boolean)) ∈ Gw := gw_c tin_4 90 rfl rfl
theorem mw_811 : (Jvm.Cond.methodLink "UnaskedName$StoryReader" (137 : Nat) ({ cls := "UnaskedName$Mind", name := "setHabit", desc := "(II)V" } : Jvm.MethodName)) ∈ Gw := gw_c tin_4 91 rfl rfl
theorem mw_812 : (Jvm.Cond.instanceMethod ({ cls := "UnaskedName$Mind", name := "setHabit", desc := "(II)V" } : Jvm.MethodName)) ∈ Gw := gw_c tin_4 92 rfl rfl
theorem mw_813 : (Jvm.Cond.selects "UnaskedName$Mind" ({ cls := "UnaskedName$Mind", name := "setHabit", desc := "(II)V" } : Jvm.MethodName) ({ cls := "UnaskedName$Mind", name := "setHabit", desc := "(II)V" } : Jvm.MethodName)) ∈ Gw := gw_c tin_4 93 rfl rfl
theorem mw_814 : (Jvm.Cond.code ({ cls := "UnaskedName$Mind", name := "setHabit", desc := "(II)V" } : Jvm.MethodName) prog_5_method_4_code (3 : Nat) (Option.none : Option Jvm.ClassFile.FieldType)) ∈ Gw := gw_c tin_4 94 rfl rfl
theorem mw_815 : (Jvm.Cond.methodLink "UnaskedName$StoryReader" (140 : Nat) ({ cls := "UnaskedName$Tale", name := "addMember", desc := "(I)V" } : Jvm.MethodName)) ∈ Gw := gw_c tin_4 95 rfl rfl
theorem mw_816 : (Jvm.Cond.instanceMethod ({ cls := "UnaskedName$Tale", name := "addMember", desc := "(I)V" } : Jvm.MethodName)) ∈ Gw := gw_c tin_4 96 rfl rfl
theorem mw_817 : (Jvm.Cond.selects "UnaskedName$Tale" ({ cls := "UnaskedName$Tale", name := "addMember", desc := "(I)V" } : Jvm.MethodName) ({ cls := "UnaskedName$Tale", name := "addMember", desc := "(I)V" } : Jvm.MethodName)) ∈ Gw := gw_c tin_4 97 rfl rfl
theorem mw_818 : (Jvm.Cond.code ({ cls := "UnaskedName$Tale", name := "addMember", desc := "(I)V" } : Jvm.MethodName) prog_10_method_6_code (2 : Nat) (Option.none : Option Jvm.ClassFile.FieldType)) ∈ Gw := gw_c tin_4 98 rfl rfl
theorem mw_821 : (Jvm.Cond.methodLink "UnaskedName$StoryReader" (64 : Nat) ({ cls := "UnaskedName$StoryReader", name := "readsDuty", desc := "(LUnaskedName$Tape;LUnaskedName$Tale;)Z" } : Jvm.MethodName)) ∈ Gw := gw_c tin_4 101 rfl rfl
theorem mw_822 : (Jvm.Cond.static ({ cls := "UnaskedName$StoryReader", name := "readsDuty", desc := "(LUnaskedName$Tape;LUnaskedName$Tale;)Z" } : Jvm.MethodName)) ∈ Gw := gw_c tin_4 102 rfl rfl
theorem mw_823 : (Jvm.Cond.code ({ cls := "UnaskedName$StoryReader", name := "readsDuty", desc := "(LUnaskedName$Tape;LUnaskedName$Tale;)Z" } : Jvm.MethodName) prog_9_method_8_code (3 : Nat) (Option.some Jvm.ClassFile.FieldType.boolean)) ∈ Gw := gw_c tin_4 103 rfl rfl
theorem mw_824 : (Jvm.Cond.methodLink "UnaskedName$StoryReader" (147 : Nat) ({ cls := "UnaskedName$Tale", name := "addDuty", desc := "(I)V" } : Jvm.MethodName)) ∈ Gw := gw_c tin_4 104 rfl rfl
theorem mw_825 : (Jvm.Cond.instanceMethod ({ cls := "UnaskedName$Tale", name := "addDuty", desc := "(I)V" } : Jvm.MethodName)) ∈ Gw := gw_c tin_4 105 rfl rfl
theorem mw_826 : (Jvm.Cond.selects "UnaskedName$Tale" ({ cls := "UnaskedName$Tale", name := "addDuty", desc := "(I)V" } : Jvm.MethodName) ({ cls := "UnaskedName$Tale", name := "addDuty", desc := "(I)V" } : Jvm.MethodName)) ∈ Gw := gw_c tin_4 106 rfl rfl
theorem mw_827 : (Jvm.Cond.code ({ cls := "UnaskedName$Tale", name := "addDuty", desc := "(I)V" } : Jvm.MethodName) prog_10_method_7_code (2 : Nat) (Option.none : Option Jvm.ClassFile.FieldType)) ∈ Gw := gw_c tin_4 107 rfl rfl
theorem mw_828 : (Jvm.Cond.methodLink "UnaskedName$StoryReader" (67 : Nat) ({ cls := "UnaskedName$StoryReader", name := "readsSetting", desc := "(LUnaskedName$Tape;LUnaskedName$World;)Z" } : Jvm.MethodName)) ∈ Gw := gw_c tin_4 108 rfl rfl
theorem mw_829 : (Jvm.Cond.static ({ cls := "UnaskedName$StoryReader", name := "readsSetting", desc := "(LUnaskedName$Tape;LUnaskedName$World;)Z" } : Jvm.MethodName)) ∈ Gw := gw_c tin_4 109 rfl rfl
theorem mw_830 : (Jvm.Cond.code ({ cls := "UnaskedName$StoryReader", name := "readsSetting", desc := "(LUnaskedName$Tape;LUnaskedName$World;)Z" } : Jvm.MethodName) prog_9_method_9_code (3 : Nat) (Option.some Jvm.ClassFile.FieldType.boolean)) ∈ Gw := gw_c tin_4 110 rfl rfl
theorem mw_836 : (Jvm.Cond.methodLink "UnaskedName$StoryReader" (168 : Nat) ({ cls := "UnaskedName$Mind", name := "tellBearer", desc := "(II)V" } : Jvm.MethodName)) ∈ Gw := gw_c tin_4 116 rfl rfl
theorem mw_837 : (Jvm.Cond.instanceMethod ({ cls := "UnaskedName$Mind", name := "tellBearer", desc := "(II)V" } : Jvm.MethodName)) ∈ Gw := gw_c tin_4 117 rfl rfl
theorem mw_838 : (Jvm.Cond.selects "UnaskedName$Mind" ({ cls := "UnaskedName$Mind", name := "tellBearer", desc := "(II)V" } : Jvm.MethodName) ({ cls := "UnaskedName$Mind", name := "tellBearer", desc := "(II)V" } : Jvm.MethodName)) ∈ Gw := gw_c tin_4 118 rfl rfl
theorem mw_839 : (Jvm.Cond.code ({ cls := "UnaskedName$Mind", name := "tellBearer", desc := "(II)V" } : Jvm.MethodName) prog_5_method_5_code (3 : Nat) (Option.none : Option Jvm.ClassFile.FieldType)) ∈ Gw := gw_c tin_4 119 rfl rfl
theorem mw_841 : (Jvm.Cond.methodLink "UnaskedName$StoryReader" (24 : Nat) ({ cls := "UnaskedName$Tape", name := "passSign", desc := "(C)Z" } : Jvm.MethodName)) ∈ Gw := gw_c tin_4 121 rfl rfl
theorem mw_842 : (Jvm.Cond.instanceMethod ({ cls := "UnaskedName$Tape", name := "passSign", desc := "(C)Z" } : Jvm.MethodName)) ∈ Gw := gw_c tin_4 122 rfl rfl
theorem mw_843 : (Jvm.Cond.selects "UnaskedName$Tape" ({ cls := "UnaskedName$Tape", name := "passSign", desc := "(C)Z" } : Jvm.MethodName) ({ cls := "UnaskedName$Tape", name := "passSign", desc := "(C)Z" } : Jvm.MethodName)) ∈ Gw := gw_c tin_4 123 rfl rfl
theorem mw_844 : (Jvm.Cond.code ({ cls := "UnaskedName$Tape", name := "passSign", desc := "(C)Z" } : Jvm.MethodName) prog_11_method_11_code (3 : Nat) (Option.some Jvm.ClassFile.FieldType.boolean)) ∈ Gw := gw_c tin_4 124 rfl rfl
theorem mw_845 : (Jvm.Cond.methodLink "UnaskedName$Tape" (54 : Nat) ({ cls := "UnaskedName$Tape", name := "isSign", desc := "(C)Z" } : Jvm.MethodName)) ∈ Gw := gw_c tin_4 125 rfl rfl
theorem mw_846 : (Jvm.Cond.instanceMethod ({ cls := "UnaskedName$Tape", name := "isSign", desc := "(C)Z" } : Jvm.MethodName)) ∈ Gw := gw_c tin_4 126 rfl rfl
theorem mw_847 : (Jvm.Cond.selects "UnaskedName$Tape" ({ cls := "UnaskedName$Tape", name := "isSign", desc := "(C)Z" } : Jvm.MethodName) ({ cls := "UnaskedName$Tape", name := "isSign", desc := "(C)Z" } : Jvm.MethodName)) ∈ Gw := gw_c tin_4 127 rfl rfl
theorem mw_848 : (Jvm.Cond.code ({ cls := "UnaskedName$Tape", name := "isSign", desc := "(C)Z" } : Jvm.MethodName) prog_11_method_9_code (2 : Nat) (Option.some Jvm.ClassFile.FieldType.boolean)) ∈ Gw := gw_c tin_4 128 rfl rfl
theorem mw_849 : (Jvm.Cond.methodLink "UnaskedName" (93 : Nat) ({ cls := "UnaskedName", name := "useTapeUp", desc := "(Z)V" } : Jvm.MethodName)) ∈ Gw := gw_c tin_4 129 rfl rfl
theorem mw_851 : (Jvm.Cond.instanceMethod ({ cls := "UnaskedName", name := "useTapeUp", desc := "(Z)V" } : Jvm.MethodName)) ∈ Gw := gw_c tin_4 131 rfl rfl
theorem mw_852 : (Jvm.Cond.code ({ cls := "UnaskedName", name := "useTapeUp", desc := "(Z)V" } : Jvm.MethodName) prog_1_method_6_code (2 : Nat) (Option.none : Option Jvm.ClassFile.FieldType)) ∈ Gw := gw_c tin_4 132 rfl rfl
theorem mw_853 : (Jvm.Cond.classLink "UnaskedName" (97 : Nat) "java/lang/IllegalArgumentException") ∈ Gw := gw_c tin_4 133 rfl rfl
theorem mw_854 : (Jvm.Cond.instantiable "java/lang/IllegalArgumentException" (6 : Nat)) ∈ Gw := gw_c tin_4 134 rfl rfl
theorem mw_862 : (Jvm.Cond.selects "java/lang/IllegalArgumentException" ({ cls := "java/lang/Throwable", name := "fillInStackTrace", desc := "(I)Ljava/lang/Throwable;" } : Jvm.MethodName) ({ cls := "java/lang/Throwable", name := "fillInStackTrace", desc := "(I)Ljava/lang/Throwable;" } : Jvm.MethodName)) ∈ Gw := gw_c tin_4 142 rfl rfl
theorem mw_863 : (Jvm.Cond.selects "java/lang/IllegalArgumentException" ({ cls := "java/lang/Throwable", name := "fillInStackTrace", desc := "()Ljava/lang/Throwable;" } : Jvm.MethodName) ({ cls := "java/lang/Throwable", name := "fillInStackTrace", desc := "()Ljava/lang/Throwable;" } : Jvm.MethodName)) ∈ Gw := gw_c tin_4 143 rfl rfl
theorem mw_874 : (Jvm.Cond.fieldLink "java/lang/Throwable" (198 : Nat) "java/lang/Throwable" "backtrace" "Ljava/lang/Object;") ∈ Gw := gw_c tin_4 154 rfl rfl
theorem mw_876 : (Jvm.Cond.instanceMethod ({ cls := "java/lang/Throwable", name := "<init>", desc := "()V" } : Jvm.MethodName)) ∈ Gw := gw_c tin_4 156 rfl rfl
theorem mw_877 : (Jvm.Cond.code ({ cls := "java/lang/Throwable", name := "<init>", desc := "()V" } : Jvm.MethodName) prog_29_method_1_code (1 : Nat) (Option.none : Option Jvm.ClassFile.FieldType)) ∈ Gw := gw_c tin_4 157 rfl rfl
theorem mw_878 : (Jvm.Cond.methodLink "java/lang/Throwable" (1 : Nat) ({ cls := "java/lang/Object", name := "<init>", desc := "()V" } : Jvm.MethodName)) ∈ Gw := gw_c tin_4 158 rfl rfl
theorem mw_879 : (Jvm.Cond.fieldLink "java/lang/Throwable" (13 : Nat) "java/lang/Throwable" "UNASSIGNED_STACK" "[Ljava/lang/StackTraceElement;") ∈ Gw := gw_c tin_4 159 rfl rfl
theorem mw_881 : (Jvm.Cond.fieldLink "java/lang/Throwable" (20 : Nat) "java/lang/Throwable" "SUPPRESSED_SENTINEL" "Ljava/util/List;") ∈ Gw := gw_c tin_4 161 rfl rfl
theorem mw_883 : (Jvm.Cond.methodLink "java/lang/Throwable" (27 : Nat) ({ cls := "java/lang/Throwable", name := "fillInStackTrace", desc := "()Ljava/lang/Throwable;" } : Jvm.MethodName)) ∈ Gw := gw_c tin_4 163 rfl rfl
theorem mw_884 : (Jvm.Cond.instanceMethod ({ cls := "java/lang/Throwable", name := "fillInStackTrace", desc := "()Ljava/lang/Throwable;" } : Jvm.MethodName)) ∈ Gw := gw_c tin_4 164 rfl rfl
theorem mw_886 : (Jvm.Cond.selects "java/lang/IllegalStateException" ({ cls := "java/lang/Throwable", name := "fillInStackTrace", desc := "()Ljava/lang/Throwable;" } : Jvm.MethodName) ({ cls := "java/lang/Throwable", name := "fillInStackTrace", desc := "()Ljava/lang/Throwable;" } : Jvm.MethodName)) ∈ Gw := gw_c tin_4 166 rfl rfl
theorem mw_887 : (Jvm.Cond.selects "java/lang/IndexOutOfBoundsException" ({ cls := "java/lang/Throwable", name := "fillInStackTrace", desc := "()Ljava/lang/Throwable;" } : Jvm.MethodName) ({ cls := "java/lang/Throwable", name := "fillInStackTrace", desc := "()Ljava/lang/Throwable;" } : Jvm.MethodName)) ∈ Gw := gw_c tin_4 167 rfl rfl
theorem mw_888 : (Jvm.Cond.selects "java/lang/UnsupportedOperationException" ({ cls := "java/lang/Throwable", name := "fillInStackTrace", desc := "()Ljava/lang/Throwable;" } : Jvm.MethodName) ({ cls := "java/lang/Throwable", name := "fillInStackTrace", desc := "()Ljava/lang/Throwable;" } : Jvm.MethodName)) ∈ Gw := gw_c tin_4 168 rfl rfl
theorem mw_889 : (Jvm.Cond.selects "java/util/NoSuchElementException" ({ cls := "java/lang/Throwable", name := "fillInStackTrace", desc := "()Ljava/lang/Throwable;" } : Jvm.MethodName) ({ cls := "java/lang/Throwable", name := "fillInStackTrace", desc := "()Ljava/lang/Throwable;" } : Jvm.MethodName)) ∈ Gw := gw_c tin_4 169 rfl rfl
theorem mw_891 : (Jvm.Cond.methodLink "java/lang/Throwable" (202 : Nat) ({ cls := "java/lang/Throwable", name := "fillInStackTrace", desc := "(I)Ljava/lang/Throwable;" } : Jvm.MethodName)) ∈ Gw := gw_c tin_4 171 rfl rfl
theorem mw_893 : (Jvm.Cond.instanceMethod ({ cls := "java/lang/Throwable", name := "fillInStackTrace", desc := "(I)Ljava/lang/Throwable;" } : Jvm.MethodName)) ∈ Gw := gw_c tin_4 173 rfl rfl
theorem mw_894 : (Jvm.Cond.instantiable "java/lang/Throwable" (6 : Nat)) ∈ Gw := gw_c tin_4 174 rfl rfl
theorem mw_895 : (Jvm.Cond.native ({ cls := "java/lang/Throwable", name := "fillInStackTrace", desc := "(I)Ljava/lang/Throwable;" } : Jvm.MethodName)) ∈ Gw := gw_c tin_4 175 rfl rfl
theorem mw_897 : (Jvm.Cond.methodLink "UnaskedName" (101 : Nat) ({ cls := "java/lang/IllegalArgumentException", name := "<init>", desc := "(Ljava/lang/String;)V" } : Jvm.MethodName)) ∈ Gw := gw_c tin_4 177 rfl rfl
theorem mw_898 : (Jvm.Cond.instanceMethod ({ cls := "java/lang/IllegalArgumentException", name := "<init>", desc := "(Ljava/lang/String;)V" } : Jvm.MethodName)) ∈ Gw := gw_c tin_4 178 rfl rfl
theorem mw_899 : (Jvm.Cond.code ({ cls := "java/lang/IllegalArgumentException", name := "<init>", desc := "(Ljava/lang/String;)V" } : Jvm.MethodName) prog_19_method_2_code (2 : Nat) (Option.none : Option Jvm.ClassFile.FieldType)) ∈ Gw := gw_c tin_4 179 rfl rfl
theorem mw_900 : (Jvm.Cond.methodLink "java/lang/IllegalArgumentException" (7 : Nat) ({ cls := "java/lang/RuntimeException", name := "<init>", desc := "(Ljava/lang/String;)V" } : Jvm.MethodName)) ∈ Gw := gw_c tin_4 180 rfl rfl
theorem mw_901 : (Jvm.Cond.instanceMethod ({ cls := "java/lang/RuntimeException", name := "<init>", desc := "(Ljava/lang/String;)V" } : Jvm.MethodName)) ∈ Gw := gw_c tin_4 181 rfl rfl
theorem mw_902 : (Jvm.Cond.code ({ cls := "java/lang/RuntimeException", name := "<init>", desc := "(Ljava/lang/String;)V" } : Jvm.MethodName) prog_24_method_2_code (2 : Nat) (Option.none : Option Jvm.ClassFile.FieldType)) ∈ Gw := gw_c tin_4 182 rfl rfl
theorem mw_903 : (Jvm.Cond.methodLink "java/lang/RuntimeException" (7 : Nat) ({ cls := "java/lang/Exception", name := "<init>", desc := "(Ljava/lang/String;)V" } : Jvm.MethodName)) ∈ Gw := gw_c tin_4 183 rfl rfl
theorem mw_904 : (Jvm.Cond.instanceMethod ({ cls := "java/lang/Exception", name := "<init>", desc := "(Ljava/lang/String;)V" } : Jvm.MethodName)) ∈ Gw := gw_c tin_4 184 rfl rfl
theorem mw_905 : (Jvm.Cond.code ({ cls := "java/lang/Exception", name := "<init>", desc := "(Ljava/lang/String;)V" } : Jvm.MethodName) prog_18_method_2_code (2 : Nat) (Option.none : Option Jvm.ClassFile.FieldType)) ∈ Gw := gw_c tin_4 185 rfl rfl
theorem mw_906 : (Jvm.Cond.methodLink "java/lang/Exception" (7 : Nat) ({ cls := "java/lang/Throwable", name := "<init>", desc := "(Ljava/lang/String;)V" } : Jvm.MethodName)) ∈ Gw := gw_c tin_4 186 rfl rfl
theorem mw_907 : (Jvm.Cond.instanceMethod ({ cls := "java/lang/Throwable", name := "<init>", desc := "(Ljava/lang/String;)V" } : Jvm.MethodName)) ∈ Gw := gw_c tin_4 187 rfl rfl
theorem mw_908 : (Jvm.Cond.code ({ cls := "java/lang/Throwable", name := "<init>", desc := "(Ljava/lang/String;)V" } : Jvm.MethodName) prog_29_method_2_code (2 : Nat) (Option.none : Option Jvm.ClassFile.FieldType)) ∈ Gw := gw_c tin_4 188 rfl rfl
theorem mw_910 : (Jvm.Cond.fieldLink "java/lang/Throwable" (31 : Nat) "java/lang/Throwable" "detailMessage" "Ljava/lang/String;") ∈ Gw := gw_c tin_4 190 rfl rfl
theorem mw_911 : (Jvm.Cond.fieldLink "java/lang/Throwable" (7 : Nat) "java/lang/Throwable" "cause" "Ljava/lang/Throwable;") ∈ Gw := gw_c tin_4 191 rfl rfl
theorem mw_912 : (Jvm.Cond.fieldLink "java/lang/Throwable" (17 : Nat) "java/lang/Throwable" "stackTrace" "[Ljava/lang/StackTraceElement;") ∈ Gw := gw_c tin_4 192 rfl rfl
theorem mw_913 : (Jvm.Cond.fieldLink "java/lang/Throwable" (24 : Nat) "java/lang/Throwable" "suppressedExceptions" "Ljava/util/List;") ∈ Gw := gw_c tin_4 193 rfl rfl
theorem mw_922 : (Jvm.Cond.classLink "UnaskedName" (113 : Nat) "java/lang/UnsupportedOperationException") ∈ Gw := gw_c tin_4 202 rfl rfl
theorem mw_923 : (Jvm.Cond.instantiable "java/lang/UnsupportedOperationException" (6 : Nat)) ∈ Gw := gw_c tin_4 203 rfl rfl
theorem mw_925 : (Jvm.Cond.selects "java/lang/UnsupportedOperationException" ({ cls := "java/lang/Throwable", name := "fillInStackTrace", desc := "(I)Ljava/lang/Throwable;" } : Jvm.MethodName) ({ cls := "java/lang/Throwable", name := "fillInStackTrace", desc := "(I)Ljava/lang/Throwable;" } : Jvm.MethodName)) ∈ Gw := gw_c tin_4 205 rfl rfl
theorem mw_932 : (Jvm.Cond.methodLink "UnaskedName" (117 : Nat) ({ cls := "java/lang/UnsupportedOperationException", name := "<init>", desc := "(Ljava/lang/String;)V" } : Jvm.MethodName)) ∈ Gw := gw_c tin_4 212 rfl rfl
theorem mw_933 : (Jvm.Cond.instanceMethod ({ cls := "java/lang/UnsupportedOperationException", name := "<init>", desc := "(Ljava/lang/String;)V" } : Jvm.MethodName)) ∈ Gw := gw_c tin_4 213 rfl rfl
theorem mw_934 : (Jvm.Cond.code ({ cls := "java/lang/UnsupportedOperationException", name := "<init>", desc := "(Ljava/lang/String;)V" } : Jvm.MethodName) prog_30_method_2_code (2 : Nat) (Option.none : Option Jvm.ClassFile.FieldType)) ∈ Gw := gw_c tin_4 214 rfl rfl
theorem mw_935 : (Jvm.Cond.methodLink "java/lang/UnsupportedOperationException" (7 : Nat) ({ cls := "java/lang/RuntimeException", name := "<init>", desc := "(Ljava/lang/String;)V" } : Jvm.MethodName)) ∈ Gw := gw_c tin_4 215 rfl rfl
theorem mw_938 : (Jvm.Cond.methodLink "UnaskedNameLaw" (144 : Nat) ({ cls := "UnaskedNameLaw", name := "law", desc := "(LUnaskedName;[J)I" } : Jvm.MethodName)) ∈ Gw := gw_c tin_4 218 rfl rfl
theorem mw_939 : (Jvm.Cond.static ({ cls := "UnaskedNameLaw", name := "law", desc := "(LUnaskedName;[J)I" } : Jvm.MethodName)) ∈ Gw := gw_c tin_4 219 rfl rfl
theorem mw_941 : (Jvm.Cond.methodLink "UnaskedNameLaw" (17 : Nat) ({ cls := "UnaskedName", name := "law", desc := "()I" } : Jvm.MethodName)) ∈ Gw := gw_c tin_4 221 rfl rfl
theorem mw_942 : (Jvm.Cond.instanceMethod ({ cls := "UnaskedName", name := "law", desc := "()I" } : Jvm.MethodName)) ∈ Gw := gw_c tin_4 222 rfl rfl
theorem mw_943 : (Jvm.Cond.selects "UnaskedName" ({ cls := "UnaskedName", name := "law", desc := "()I" } : Jvm.MethodName) ({ cls := "UnaskedName", name := "law", desc := "()I" } : Jvm.MethodName)) ∈ Gw := gw_c tin_4 223 rfl rfl
theorem mw_944 : (Jvm.Cond.code ({ cls := "UnaskedName", name := "law", desc := "()I" } : Jvm.MethodName) prog_1_method_5_code (2 : Nat) (Option.some Jvm.ClassFile.FieldType.int)) ∈ Gw := gw_c tin_4 224 rfl rfl
theorem mw_945 : (Jvm.Cond.methodLink "UnaskedName" (125 : Nat) ({ cls := "UnaskedName$LawReader", name := "reads", desc := "(LUnaskedName$Tape;LUnaskedName$Law;)Z" } : Jvm.MethodName)) ∈ Gw := gw_c tin_4 225 rfl rfl
theorem mw_946 : (Jvm.Cond.instanceMethod ({ cls := "UnaskedName$LawReader", name := "reads", desc := "(LUnaskedName$Tape;LUnaskedName$Law;)Z" } : Jvm.MethodName)) ∈ Gw := gw_c tin_4 226 rfl rfl
theorem mw_947 : (Jvm.Cond.selects "UnaskedName$LawReader" ({ cls := "UnaskedName$LawReader", name := "reads", desc := "(LUnaskedName$Tape;LUnaskedName$Law;)Z" } : Jvm.MethodName) ({ cls := "UnaskedName$LawReader", name := "reads", desc := "(LUnaskedName$Tape;LUnaskedName$Law;)Z" } : Jvm.MethodName)) ∈ Gw := gw_c tin_4 227 rfl rfl
theorem mw_948 : (Jvm.Cond.code ({ cls := "UnaskedName$LawReader", name := "reads", desc := "(LUnaskedName$Tape;LUnaskedName$Law;)Z" } : Jvm.MethodName) prog_3_method_2_code (4 : Nat) (Option.some Jvm.ClassFile.FieldType.boolean)) ∈ Gw := gw_c tin_4 228 rfl rfl
theorem mw_949 : (Jvm.Cond.methodLink "UnaskedName$LawReader" (39 : Nat) ({ cls := "UnaskedName$Law", name := "clear", desc := "()V" } : Jvm.MethodName)) ∈ Gw := gw_c tin_4 229 rfl rfl
theorem mw_950 : (Jvm.Cond.instanceMethod ({ cls := "UnaskedName$Law", name := "clear", desc := "()V" } : Jvm.MethodName)) ∈ Gw := gw_c tin_4 230 rfl rfl
theorem mw_951 : (Jvm.Cond.selects "UnaskedName$Law" ({ cls := "UnaskedName$Law", name := "clear", desc := "()V" } : Jvm.MethodName) ({ cls := "UnaskedName$Law", name := "clear", desc := "()V" } : Jvm.MethodName)) ∈ Gw := gw_c tin_4 231 rfl rfl
theorem mw_952 : (Jvm.Cond.code ({ cls := "UnaskedName$Law", name := "clear", desc := "()V" } : Jvm.MethodName) prog_2_method_3_code (1 : Nat) (Option.none : Option Jvm.ClassFile.FieldType)) ∈ Gw := gw_c tin_4 232 rfl rfl
theorem mw_953 : (Jvm.Cond.methodLink "UnaskedName$LawReader" (42 : Nat) ({ cls := "UnaskedName$Tape", name := "open", desc := "()V" } : Jvm.MethodName)) ∈ Gw := gw_c tin_4 233 rfl rfl
theorem mw_954 : (Jvm.Cond.methodLink "UnaskedName$LawReader" (48 : Nat) ({ cls := "UnaskedName$LawReader", name := "takes", desc := "(LUnaskedName$Tape;LUnaskedName$Law;)Z" } : Jvm.MethodName)) ∈ Gw := gw_c tin_4 234 rfl rfl
theorem mw_956 : (Jvm.Cond.instanceMethod ({ cls := "UnaskedName$LawReader", name := "takes", desc := "(LUnaskedName$Tape;LUnaskedName$Law;)Z" } : Jvm.MethodName)) ∈ Gw := gw_c tin_4 236 rfl rfl
theorem mw_957 : (Jvm.Cond.code ({ cls := "UnaskedName$LawReader", name := "takes", desc := "(LUnaskedName$Tape;LUnaskedName$Law;)Z" } : Jvm.MethodName) prog_3_method_3_code (3 : Nat) (Option.some Jvm.ClassFile.FieldType.boolean)) ∈ Gw := gw_c tin_4 237 rfl rfl
theorem mw_958 : (Jvm.Cond.methodLink "UnaskedName$LawReader" (62 : Nat) ({ cls := "UnaskedName$LawReader", name := "takesKind", desc := "(LUnaskedName$Tape;)Z" } : Jvm.MethodName)) ∈ Gw := gw_c tin_4 238 rfl rfl
theorem mw_960 : (Jvm.Cond.instanceMethod ({ cls := "UnaskedName$LawReader", name := "takesKind", desc := "(LUnaskedName$Tape;)Z" } : Jvm.MethodName)) ∈ Gw := gw_c tin_5 0 rfl rfl
theorem mw_961 : (Jvm.Cond.code ({ cls := "UnaskedName$LawReader", name := "takesKind", desc := "(LUnaskedName$Tape;)Z" } : Jvm.MethodName) prog_3_method_4_code (4 : Nat) (Option.some Jvm.ClassFile.FieldType.boolean)) ∈ Gw := gw_c tin_5 1 rfl rfl
theorem mw_963 : (Jvm.Cond.methodLink "UnaskedName$LawReader" (72 : Nat) ({ cls := "UnaskedName$Tape", name := "isWord", desc := "(Ljava/lang/String;)Z" } : Jvm.MethodName)) ∈ Gw := gw_c tin_5 3 rfl rfl
theorem mw_966 : (Jvm.Cond.methodLink "UnaskedName$LawReader" (66 : Nat) ({ cls := "UnaskedName$Tape", name := "numberIn", desc := "(II)I" } : Jvm.MethodName)) ∈ Gw := gw_c tin_5 6 rfl rfl
theorem mw_968 : (Jvm.Cond.methodLink "UnaskedName$LawReader" (76 : Nat) ({ cls := "UnaskedName$Tape", name := "isSign", desc := "(C)Z" } : Jvm.MethodName)) ∈ Gw := gw_c tin_5 8 rfl rfl
theorem mw_969 : (Jvm.Cond.methodLink "UnaskedName$LawReader" (55 : Nat) ({ cls := "UnaskedName$LawReader", name := "endsLine", desc := "(LUnaskedName$Law;)Z" } : Jvm.MethodName)) ∈ Gw := gw_c tin_5 9 rfl rfl
theorem mw_971 : (Jvm.Cond.instanceMethod ({ cls := "UnaskedName$LawReader", name := "endsLine", desc := "(LUnaskedName$Law;)Z" } : Jvm.MethodName)) ∈ Gw := gw_c tin_5 11 rfl rfl
theorem mw_972 : (Jvm.Cond.code ({ cls := "UnaskedName$LawReader", name := "endsLine", desc := "(LUnaskedName$Law;)Z" } : Jvm.MethodName) prog_3_method_12_code (2 : Nat) (Option.some Jvm.ClassFile.FieldType.boolean)) ∈ Gw := gw_c tin_5 12 rfl rfl
theorem mw_973 : (Jvm.Cond.methodLink "UnaskedName$LawReader" (89 : Nat) ({ cls := "UnaskedName$LawReader", name := "endAtom", desc := "(LUnaskedName$Law;)V" } : Jvm.MethodName)) ∈ Gw := gw_c tin_5 13 rfl rfl
theorem mw_975 : (Jvm.Cond.instanceMethod ({ cls := "UnaskedName$LawReader", name := "endAtom", desc := "(LUnaskedName$Law;)V" } : Jvm.MethodName)) ∈ Gw := gw_c tin_5 15 rfl rfl
theorem mw_976 : (Jvm.Cond.code ({ cls := "UnaskedName$LawReader", name := "endAtom", desc := "(LUnaskedName$Law;)V" } : Jvm.MethodName) prog_3_method_11_code (3 : Nat) (Option.none : Option Jvm.ClassFile.FieldType)) ∈ Gw := gw_c tin_5 16 rfl rfl
theorem mw_977 : (Jvm.Cond.methodLink "UnaskedName$LawReader" (112 : Nat) ({ cls := "UnaskedName$Law", name := "addStep", desc := "(I)V" } : Jvm.MethodName)) ∈ Gw := gw_c tin_5 17 rfl rfl
theorem mw_978 : (Jvm.Cond.instanceMethod ({ cls := "UnaskedName$Law", name := "addStep", desc := "(I)V" } : Jvm.MethodName)) ∈ Gw := gw_c tin_5 18 rfl rfl
theorem mw_979 : (Jvm.Cond.selects "UnaskedName$Law" ({ cls := "UnaskedName$Law", name := "addStep", desc := "(I)V" } : Jvm.MethodName) ({ cls := "UnaskedName$Law", name := "addStep", desc := "(I)V" } : Jvm.MethodName)) ∈ Gw := gw_c tin_5 19 rfl rfl
theorem mw_980 : (Jvm.Cond.code ({ cls := "UnaskedName$Law", name := "addStep", desc := "(I)V" } : Jvm.MethodName) prog_2_method_4_code (2 : Nat) (Option.none : Option Jvm.ClassFile.FieldType)) ∈ Gw := gw_c tin_5 20 rfl rfl
theorem mw_981 : (Jvm.Cond.methodLink "UnaskedName$LawReader" (139 : Nat) ({ cls := "UnaskedName$LawReader", name := "topWaiting", desc := "()I" } : Jvm.MethodName)) ∈ Gw := gw_c tin_5 21 rfl rfl
theorem mw_983 : (Jvm.Cond.instanceMethod ({ cls := "UnaskedName$LawReader", name := "topWaiting", desc := "()I" } : Jvm.MethodName)) ∈ Gw := gw_c tin_5 23 rfl rfl
theorem mw_984 : (Jvm.Cond.code ({ cls := "UnaskedName$LawReader", name := "topWaiting", desc := "()I" } : Jvm.MethodName) prog_3_method_14_code (2 : Nat) (Option.some Jvm.ClassFile.FieldType.int)) ∈ Gw := gw_c tin_5 24 rfl rfl
theorem mw_985 : (Jvm.Cond.methodLink "UnaskedName$LawReader" (133 : Nat) ({ cls := "UnaskedName$LawReader", name := "release", desc := "(LUnaskedName$Law;I)V" } : Jvm.MethodName)) ∈ Gw := gw_c tin_5 25 rfl rfl
theorem mw_987 : (Jvm.Cond.instanceMethod ({ cls := "UnaskedName$LawReader", name := "release", desc := "(LUnaskedName$Law;I)V" } : Jvm.MethodName)) ∈ Gw := gw_c tin_5 27 rfl rfl
theorem mw_988 : (Jvm.Cond.code ({ cls := "UnaskedName$LawReader", name := "release", desc := "(LUnaskedName$Law;I)V" } : Jvm.MethodName) prog_3_method_10_code (3 : Nat) (Option.none : Option Jvm.ClassFile.FieldType)) ∈ Gw := gw_c tin_5 28 rfl rfl
theorem mw_989 : (Jvm.Cond.methodLink "UnaskedName$LawReader" (143 : Nat) ({ cls := "UnaskedName$Law", name := "addLine", desc := "(II)V" } : Jvm.MethodName)) ∈ Gw := gw_c tin_5 29 rfl rfl
theorem mw_990 : (Jvm.Cond.instanceMethod ({ cls := "UnaskedName$Law", name := "addLine", desc := "(II)V" } : Jvm.MethodName)) ∈ Gw := gw_c tin_5 30 rfl rfl
theorem mw_991 : (Jvm.Cond.selects "UnaskedName$Law" ({ cls := "UnaskedName$Law", name := "addLine", desc := "(II)V" } : Jvm.MethodName) ({ cls := "UnaskedName$Law", name := "addLine", desc := "(II)V" } : Jvm.MethodName)) ∈ Gw := gw_c tin_5 31 rfl rfl
theorem mw_992 : (Jvm.Cond.code ({ cls := "UnaskedName$Law", name := "addLine", desc := "(II)V" } : Jvm.MethodName) prog_2_method_5_code (3 : Nat) (Option.none : Option Jvm.ClassFile.FieldType)) ∈ Gw := gw_c tin_5 32 rfl rfl
theorem mw_993 : (Jvm.Cond.methodLink "UnaskedName$LawReader" (80 : Nat) ({ cls := "UnaskedName$LawReader", name := "takesAtom", desc := "(LUnaskedName$Tape;LUnaskedName$Law;)Z" } : Jvm.MethodName)) ∈ Gw := gw_c tin_5 33 rfl rfl
theorem mw_995 : (Jvm.Cond.instanceMethod ({ cls := "UnaskedName$LawReader", name := "takesAtom", desc := "(LUnaskedName$Tape;LUnaskedName$Law;)Z" } : Jvm.MethodName)) ∈ Gw := gw_c tin_5 35 rfl rfl
theorem mw_996 : (Jvm.Cond.code ({ cls := "UnaskedName$LawReader", name := "takesAtom", desc := "(LUnaskedName$Tape;LUnaskedName$Law;)Z" } : Jvm.MethodName) prog_3_method_5_code (5 : Nat) (Option.some Jvm.ClassFile.FieldType.boolean)) ∈ Gw := gw_c tin_5 36 rfl rfl
theorem mw_998 : (Jvm.Cond.methodLink "UnaskedName$LawReader" (104 : Nat) ({ cls := "UnaskedName$LawReader", name := "pushWaiting", desc := "(I)V" } : Jvm.MethodName)) ∈ Gw := gw_c tin_5 38 rfl rfl
theorem mw_1000 : (Jvm.Cond.instanceMethod ({ cls := "UnaskedName$LawReader", name := "pushWaiting", desc := "(I)V" } : Jvm.MethodName)) ∈ Gw := gw_c tin_5 40 rfl rfl
theorem mw_1001 : (Jvm.Cond.code ({ cls := "UnaskedName$LawReader", name := "pushWaiting", desc := "(I)V" } : Jvm.MethodName) prog_3_method_13_code (2 : Nat) (Option.none : Option Jvm.ClassFile.FieldType)) ∈ Gw := gw_c tin_5 41 rfl rfl
theorem mw_1004 : (Jvm.Cond.methodLink "UnaskedName$LawReader" (83 : Nat) ({ cls := "UnaskedName$LawReader", name := "takesPart", desc := "(LUnaskedName$Tape;LUnaskedName$Law;)Z" } : Jvm.MethodName)) ∈ Gw := gw_c tin_5 44 rfl rfl
theorem mw_1006 : (Jvm.Cond.instanceMethod ({ cls := "UnaskedName$LawReader", name := "takesPart", desc := "(LUnaskedName$Tape;LUnaskedName$Law;)Z" } : Jvm.MethodName)) ∈ Gw := gw_c tin_5 46 rfl rfl
theorem mw_1007 : (Jvm.Cond.code ({ cls := "UnaskedName$LawReader", name := "takesPart", desc := "(LUnaskedName$Tape;LUnaskedName$Law;)Z" } : Jvm.MethodName) prog_3_method_6_code (5 : Nat) (Option.some Jvm.ClassFile.FieldType.boolean)) ∈ Gw := gw_c tin_5 47 rfl rfl
theorem mw_1008 : (Jvm.Cond.methodLink "UnaskedName$LawReader" (115 : Nat) ({ cls := "UnaskedName$LawReader", name := "partAt", desc := "(LUnaskedName$Tape;)I" } : Jvm.MethodName)) ∈ Gw := gw_c tin_5 48 rfl rfl
theorem mw_1009 : (Jvm.Cond.static ({ cls := "UnaskedName$LawReader", name := "partAt", desc := "(LUnaskedName$Tape;)I" } : Jvm.MethodName)) ∈ Gw := gw_c tin_5 49 rfl rfl
theorem mw_1010 : (Jvm.Cond.code ({ cls := "UnaskedName$LawReader", name := "partAt", desc := "(LUnaskedName$Tape;)I" } : Jvm.MethodName) prog_3_method_7_code (1 : Nat) (Option.some Jvm.ClassFile.FieldType.int)) ∈ Gw := gw_c tin_5 50 rfl rfl
theorem mw_1017 : (Jvm.Cond.methodLink "UnaskedName$LawReader" (86 : Nat) ({ cls := "UnaskedName$LawReader", name := "takesComparison", desc := "(LUnaskedName$Tape;LUnaskedName$Law;)Z" } : Jvm.MethodName)) ∈ Gw := gw_c tin_5 57 rfl rfl
theorem mw_1019 : (Jvm.Cond.instanceMethod ({ cls := "UnaskedName$LawReader", name := "takesComparison", desc := "(LUnaskedName$Tape;LUnaskedName$Law;)Z" } : Jvm.MethodName)) ∈ Gw := gw_c tin_5 59 rfl rfl
theorem mw_1020 : (Jvm.Cond.code ({ cls := "UnaskedName$LawReader", name := "takesComparison", desc := "(LUnaskedName$Tape;LUnaskedName$Law;)Z" } : Jvm.MethodName) prog_3_method_8_code (4 : Nat) (Option.some Jvm.ClassFile.FieldType.boolean)) ∈ Gw := gw_c tin_5 60 rfl rfl
theorem mw_1021 : (Jvm.Cond.methodLink "UnaskedName$LawReader" (93 : Nat) ({ cls := "UnaskedName$LawReader", name := "takesJoint", desc := "(LUnaskedName$Tape;LUnaskedName$Law;)Z" } : Jvm.MethodName)) ∈ Gw := gw_c tin_5 61 rfl rfl
theorem mw_1023 : (Jvm.Cond.instanceMethod ({ cls := "UnaskedName$LawReader", name := "takesJoint", desc := "(LUnaskedName$Tape;LUnaskedName$Law;)Z" } : Jvm.MethodName)) ∈ Gw := gw_c tin_5 63 rfl rfl
theorem mw_1024 : (Jvm.Cond.code ({ cls := "UnaskedName$LawReader", name := "takesJoint", desc := "(LUnaskedName$Tape;LUnaskedName$Law;)Z" } : Jvm.MethodName) prog_3_method_9_code (5 : Nat) (Option.some Jvm.ClassFile.FieldType.boolean)) ∈ Gw := gw_c tin_5 64 rfl rfl
theorem mw_1027 : (Jvm.Cond.methodLink "UnaskedName$LawReader" (52 : Nat) ({ cls := "UnaskedName$Tape", name := "advance", desc := "()V" } : Jvm.MethodName)) ∈ Gw := gw_c tin_5 67 rfl rfl
theorem mw_1029 : (Jvm.Cond.methodLink "UnaskedName" (130 : Nat) ({ cls := "UnaskedName$Law", name := "copyFrom", desc := "(LUnaskedName$Law;)V" } : Jvm.MethodName)) ∈ Gw := gw_c tin_5 69 rfl rfl
theorem mw_1030 : (Jvm.Cond.methodLink "UnaskedNameLaw" (151 : Nat) ({ cls := "UnaskedNameLaw", name := "name", desc := "(LUnaskedName;II[J)I" } : Jvm.MethodName)) ∈ Gw := gw_c tin_5 70 rfl rfl
theorem mw_1031 : (Jvm.Cond.static ({ cls := "UnaskedNameLaw", name := "name", desc := "(LUnaskedName;II[J)I" } : Jvm.MethodName)) ∈ Gw := gw_c tin_5 71 rfl rfl
theorem mw_1033 : (Jvm.Cond.classLink "UnaskedNameLaw" (24 : Nat) "java/lang/IndexOutOfBoundsException") ∈ Gw := gw_c tin_5 73 rfl rfl
theorem mw_1034 : (Jvm.Cond.classLink "UnaskedNameLaw" (26 : Nat) "java/util/NoSuchElementException") ∈ Gw := gw_c tin_5 74 rfl rfl
theorem mw_1035 : (Jvm.Cond.methodLink "UnaskedNameLaw" (20 : Nat) ({ cls := "UnaskedName", name := "name", desc := "(II)I" } : Jvm.MethodName)) ∈ Gw := gw_c tin_5 75 rfl rfl
theorem mw_1036 : (Jvm.Cond.instanceMethod ({ cls := "UnaskedName", name := "name", desc := "(II)I" } : Jvm.MethodName)) ∈ Gw := gw_c tin_5 76 rfl rfl
theorem mw_1037 : (Jvm.Cond.selects "UnaskedName" ({ cls := "UnaskedName", name := "name", desc := "(II)I" } : Jvm.MethodName) ({ cls := "UnaskedName", name := "name", desc := "(II)I" } : Jvm.MethodName)) ∈ Gw := gw_c tin_5 77 rfl rfl
theorem mw_1038 : (Jvm.Cond.code ({ cls := "UnaskedName", name := "name", desc := "(II)I" } : Jvm.MethodName) prog_1_method_8_code (3 : Nat) (Option.some Jvm.ClassFile.FieldType.int)) ∈ Gw := gw_c tin_5 78 rfl rfl
theorem mw_1039 : (Jvm.Cond.methodLink "UnaskedName" (141 : Nat) ({ cls := "UnaskedName", name := "needName", desc := "(I)V" } : Jvm.MethodName)) ∈ Gw := gw_c tin_5 79 rfl rfl
theorem mw_1041 : (Jvm.Cond.instanceMethod ({ cls := "UnaskedName", name := "needName", desc := "(I)V" } : Jvm.MethodName)) ∈ Gw := gw_c tin_5 81 rfl rfl
theorem mw_1042 : (Jvm.Cond.code ({ cls := "UnaskedName", name := "needName", desc := "(I)V" } : Jvm.MethodName) prog_1_method_60_code (2 : Nat) (Option.none : Option Jvm.ClassFile.FieldType)) ∈ Gw := gw_c tin_5 82 rfl rfl
theorem mw_1043 : (Jvm.Cond.classLink "UnaskedName" (352 : Nat) "java/lang/IndexOutOfBoundsException") ∈ Gw := gw_c tin_5 83 rfl rfl
theorem mw_1044 : (Jvm.Cond.instantiable "java/lang/IndexOutOfBoundsException" (6 : Nat)) ∈ Gw := gw_c tin_5 84 rfl rfl
theorem mw_1046 : (Jvm.Cond.selects "java/lang/IndexOutOfBoundsException" ({ cls := "java/lang/Throwable", name := "fillInStackTrace", desc := "(I)Ljava/lang/Throwable;" } : Jvm.MethodName) ({ cls := "java/lang/Throwable", name := "fillInStackTrace", desc := "(I)Ljava/lang/Throwable;" } : Jvm.MethodName)) ∈ Gw := gw_c tin_5 86 rfl rfl
theorem mw_1053 : (Jvm.Cond.methodLink "UnaskedName" (356 : Nat) ({ cls := "java/lang/IndexOutOfBoundsException", name := "<init>", desc := "(Ljava/lang/String;)V" } : Jvm.MethodName)) ∈ Gw := gw_c tin_5 93 rfl rfl
theorem mw_1054 : (Jvm.Cond.instanceMethod ({ cls := "java/lang/IndexOutOfBoundsException", name := "<init>", desc := "(Ljava/lang/String;)V" } : Jvm.MethodName)) ∈ Gw := gw_c tin_5 94 rfl rfl
theorem mw_1055 : (Jvm.Cond.code ({ cls := "java/lang/IndexOutOfBoundsException", name := "<init>", desc := "(Ljava/lang/String;)V" } : Jvm.MethodName) prog_21_method_2_code (2 : Nat) (Option.none : Option Jvm.ClassFile.FieldType)) ∈ Gw := gw_c tin_5 95 rfl rfl
theorem mw_1056 : (Jvm.Cond.methodLink "java/lang/IndexOutOfBoundsException" (7 : Nat) ({ cls := "java/lang/RuntimeException", name := "<init>", desc := "(Ljava/lang/String;)V" } : Jvm.MethodName)) ∈ Gw := gw_c tin_5 96 rfl rfl
theorem mw_1059 : (Jvm.Cond.methodLink "UnaskedName" (165 : Nat) ({ cls := "UnaskedName", name := "beliefIn", desc := "(I)I" } : Jvm.MethodName)) ∈ Gw := gw_c tin_5 99 rfl rfl
theorem mw_1061 : (Jvm.Cond.instanceMethod ({ cls := "UnaskedName", name := "beliefIn", desc := "(I)I" } : Jvm.MethodName)) ∈ Gw := gw_c tin_5 101 rfl rfl
theorem mw_1062 : (Jvm.Cond.code ({ cls := "UnaskedName", name := "beliefIn", desc := "(I)I" } : Jvm.MethodName) prog_1_method_43_code (4 : Nat) (Option.some Jvm.ClassFile.FieldType.int)) ∈ Gw := gw_c tin_5 102 rfl rfl
theorem mw_1063 : (Jvm.Cond.methodLink "UnaskedName" (346 : Nat) ({ cls := "UnaskedName$Tale", name := "creditOf", desc := "(I)I" } : Jvm.MethodName)) ∈ Gw := gw_c tin_5 103 rfl rfl
theorem mw_1064 : (Jvm.Cond.instanceMethod ({ cls := "UnaskedName$Tale", name := "creditOf", desc := "(I)I" } : Jvm.MethodName)) ∈ Gw := gw_c tin_5 104 rfl rfl
theorem mw_1065 : (Jvm.Cond.selects "UnaskedName$Tale" ({ cls := "UnaskedName$Tale", name := "creditOf", desc := "(I)I" } : Jvm.MethodName) ({ cls := "UnaskedName$Tale", name := "creditOf", desc := "(I)I" } : Jvm.MethodName)) ∈ Gw := gw_c tin_5 105 rfl rfl
theorem mw_1066 : (Jvm.Cond.code ({ cls := "UnaskedName$Tale", name := "creditOf", desc := "(I)I" } : Jvm.MethodName) prog_10_method_15_code (4 : Nat) (Option.some Jvm.ClassFile.FieldType.int)) ∈ Gw := gw_c tin_5 106 rfl rfl
