theorem tj_1 : ∀ w ∈ tables_1_1, w ∈ tables_1 := fun w h => List.mem_append_left _ h
theorem tj_2 : ∀ w ∈ tables_1_2, w ∈ tables_1 := fun w h => List.mem_append_right _ (List.mem_append_left _ h)
theorem tj_3 : ∀ w ∈ tables_1_3, w ∈ tables_1 := fun w h => List.mem_append_right _ (List.mem_append_right _ (List.mem_append_left _ h))
theorem tj_4 : ∀ w ∈ tables_1_4, w ∈ tables_1 := fun w h => List.mem_append_right _ (List.mem_append_right _ (List.mem_append_right _ (List.mem_append_left _ h)))
theorem tj_5 : ∀ w ∈ tables_1_5, w ∈ tables_1 := fun w h => List.mem_append_right _ (List.mem_append_right _ (List.mem_append_right _ (List.mem_append_right _ (List.mem_append_left _ h))))
theorem tj_6 : ∀ w ∈ tables_1_6, w ∈ tables_1 := fun w h => List.mem_append_right _ (List.mem_append_right _ (List.mem_append_right _ (List.mem_append_right _ (List.mem_append_right _ (List.mem_append_left _ h)))))
theorem tj_7 : ∀ w ∈ tables_1_7, w ∈ tables_1 := fun w h => List.mem_append_right _ (List.mem_append_right _ (List.mem_append_right _ (List.mem_append_right _ (List.mem_append_right _ (List.mem_append_right _ (List.mem_append_left _ h))))))
theorem tj_8 : ∀ w ∈ tables_1_8, w ∈ tables_1 := fun w h => List.mem_append_right _ (List.mem_append_right _ (List.mem_append_right _ (List.mem_append_right _ (List.mem_append_right _ (List.mem_append_right _ (List.mem_append_right _ (List.mem_append_left _ h)))))))
theorem tj_9 : ∀ w ∈ tables_1_9, w ∈ tables_1 := fun w h => List.mem_append_right _ (List.mem_append_right _ (List.mem_append_right _ (List.mem_append_right _ (List.mem_append_right _ (List.mem_append_right _ (List.mem_append_right _ (List.mem_append_right _ (List.mem_append_left _ h))))))))
theorem tj_10 : ∀ w ∈ tables_1_10, w ∈ tables_1 := fun w h => List.mem_append_right _ (List.mem_append_right _ (List.mem_append_right _ (List.mem_append_right _ (List.mem_append_right _ (List.mem_append_right _ (List.mem_append_right _ (List.mem_append_right _ (List.mem_append_right _ (h)))))))))
theorem tn_0 : ("UnaskedName" : String) ≠ "java/lang/invoke/MethodHandle" ∧ ("UnaskedName" : String) ≠ "java/lang/invoke/VarHandle" := ⟨by decide +kernel, by decide +kernel⟩
theorem tn_1 : ("UnaskedName$Law" : String) ≠ "java/lang/invoke/MethodHandle" ∧ ("UnaskedName$Law" : String) ≠ "java/lang/invoke/VarHandle" := ⟨by decide +kernel, by decide +kernel⟩
theorem tn_2 : ("UnaskedName$LawReader" : String) ≠ "java/lang/invoke/MethodHandle" ∧ ("UnaskedName$LawReader" : String) ≠ "java/lang/invoke/VarHandle" := ⟨by decide +kernel, by decide +kernel⟩
theorem tn_3 : ("UnaskedName$Past" : String) ≠ "java/lang/invoke/MethodHandle" ∧ ("UnaskedName$Past" : String) ≠ "java/lang/invoke/VarHandle" := ⟨by decide +kernel, by decide +kernel⟩
theorem tn_4 : ("UnaskedName$Rows" : String) ≠ "java/lang/invoke/MethodHandle" ∧ ("UnaskedName$Rows" : String) ≠ "java/lang/invoke/VarHandle" := ⟨by decide +kernel, by decide +kernel⟩
theorem tn_5 : ("UnaskedName$Siege" : String) ≠ "java/lang/invoke/MethodHandle" ∧ ("UnaskedName$Siege" : String) ≠ "java/lang/invoke/VarHandle" := ⟨by decide +kernel, by decide +kernel⟩
theorem tn_6 : ("UnaskedName$Tale" : String) ≠ "java/lang/invoke/MethodHandle" ∧ ("UnaskedName$Tale" : String) ≠ "java/lang/invoke/VarHandle" := ⟨by decide +kernel, by decide +kernel⟩
theorem tn_7 : ("UnaskedName$Tape" : String) ≠ "java/lang/invoke/MethodHandle" ∧ ("UnaskedName$Tape" : String) ≠ "java/lang/invoke/VarHandle" := ⟨by decide +kernel, by decide +kernel⟩
theorem tn_8 : ("UnaskedName$World" : String) ≠ "java/lang/invoke/MethodHandle" ∧ ("UnaskedName$World" : String) ≠ "java/lang/invoke/VarHandle" := ⟨by decide +kernel, by decide +kernel⟩
theorem tn_9 : ("UnaskedNameModel" : String) ≠ "java/lang/invoke/MethodHandle" ∧ ("UnaskedNameModel" : String) ≠ "java/lang/invoke/VarHandle" := ⟨by decide +kernel, by decide +kernel⟩
theorem tn_10 : ("java/lang/Throwable" : String) ≠ "java/lang/invoke/MethodHandle" ∧ ("java/lang/Throwable" : String) ≠ "java/lang/invoke/VarHandle" := ⟨by decide +kernel, by decide +kernel⟩
-- ===== PART A: goes FIRST, ahead of the names: the tables' words, and 'selects' of the private methods out of them =====
/-- a private method of a class that the tables say can be made, by its rows of tables_1 -/
def lw_okq (q : MethodName × Nat) : Prop := (q.1.cls ≠ "java/lang/invoke/MethodHandle" ∧ q.1.cls ≠ "java/lang/invoke/VarHandle") ∧ Cond.instantiable q.1.cls q.2 ∈ tables_1 ∧ Cond.privateMethod q.1 ∈ tables_1 ∧ Cond.instanceMethod q.1 ∈ tables_1
theorem lw_p0 : lw_okq (⟨"UnaskedName$Law", "holds", "(II)Z"⟩, 8) := ⟨tn_1, tj_1 _ (List.mem_of_getElem? (i := 179) rfl), tj_3 _ (List.mem_of_getElem? (i := 16) rfl), tj_3 _ (List.mem_of_getElem? (i := 17) rfl)⟩
theorem lw_p1 : lw_okq (⟨"UnaskedName$Tale", "crumbsFrom", "(II)I"⟩, 18) := ⟨tn_6, tj_1 _ (List.mem_of_getElem? (i := 74) rfl), tj_3 _ (List.mem_of_getElem? (i := 62) rfl), tj_3 _ (List.mem_of_getElem? (i := 63) rfl)⟩
theorem lw_p2 : lw_okq (⟨"UnaskedName$Past", "newestRow", "()LUnaskedName$Mind;"⟩, 3) := ⟨tn_3, tj_2 _ (List.mem_of_getElem? (i := 75) rfl), tj_3 _ (List.mem_of_getElem? (i := 143) rfl), tj_3 _ (List.mem_of_getElem? (i := 144) rfl)⟩
theorem lw_p3 : lw_okq (⟨"UnaskedName$Tape", "byteAt", "(I)I"⟩, 6) := ⟨tn_7, tj_1 _ (List.mem_of_getElem? (i := 38) rfl), tj_3 _ (List.mem_of_getElem? (i := 215) rfl), tj_3 _ (List.mem_of_getElem? (i := 216) rfl)⟩
theorem lw_p4 : lw_okq (⟨"UnaskedName", "useTapeUp", "(Z)V"⟩, 11) := ⟨tn_0, tj_1 _ (List.mem_of_getElem? (i := 30) rfl), tj_4 _ (List.mem_of_getElem? (i := 130) rfl), tj_4 _ (List.mem_of_getElem? (i := 131) rfl)⟩
theorem lw_p5 : lw_okq (⟨"java/lang/Throwable", "fillInStackTrace", "(I)Ljava/lang/Throwable;"⟩, 6) := ⟨tn_10, tj_4 _ (List.mem_of_getElem? (i := 174) rfl), tj_4 _ (List.mem_of_getElem? (i := 172) rfl), tj_4 _ (List.mem_of_getElem? (i := 173) rfl)⟩
theorem lw_p6 : lw_okq (⟨"UnaskedName$LawReader", "takes", "(LUnaskedName$Tape;LUnaskedName$Law;)Z"⟩, 8) := ⟨tn_2, tj_2 _ (List.mem_of_getElem? (i := 143) rfl), tj_4 _ (List.mem_of_getElem? (i := 235) rfl), tj_4 _ (List.mem_of_getElem? (i := 236) rfl)⟩
theorem lw_p7 : lw_okq (⟨"UnaskedName$LawReader", "takesKind", "(LUnaskedName$Tape;)Z"⟩, 8) := ⟨tn_2, tj_2 _ (List.mem_of_getElem? (i := 143) rfl), tj_4 _ (List.mem_of_getElem? (i := 239) rfl), tj_5 _ (List.mem_of_getElem? (i := 0) rfl)⟩
theorem lw_p8 : lw_okq (⟨"UnaskedName$LawReader", "endsLine", "(LUnaskedName$Law;)Z"⟩, 8) := ⟨tn_2, tj_2 _ (List.mem_of_getElem? (i := 143) rfl), tj_5 _ (List.mem_of_getElem? (i := 10) rfl), tj_5 _ (List.mem_of_getElem? (i := 11) rfl)⟩
theorem lw_p9 : lw_okq (⟨"UnaskedName$LawReader", "endAtom", "(LUnaskedName$Law;)V"⟩, 8) := ⟨tn_2, tj_2 _ (List.mem_of_getElem? (i := 143) rfl), tj_5 _ (List.mem_of_getElem? (i := 14) rfl), tj_5 _ (List.mem_of_getElem? (i := 15) rfl)⟩
theorem lw_p10 : lw_okq (⟨"UnaskedName$LawReader", "topWaiting", "()I"⟩, 8) := ⟨tn_2, tj_2 _ (List.mem_of_getElem? (i := 143) rfl), tj_5 _ (List.mem_of_getElem? (i := 22) rfl), tj_5 _ (List.mem_of_getElem? (i := 23) rfl)⟩
theorem lw_p11 : lw_okq (⟨"UnaskedName$LawReader", "release", "(LUnaskedName$Law;I)V"⟩, 8) := ⟨tn_2, tj_2 _ (List.mem_of_getElem? (i := 143) rfl), tj_5 _ (List.mem_of_getElem? (i := 26) rfl), tj_5 _ (List.mem_of_getElem? (i := 27) rfl)⟩
theorem lw_p12 : lw_okq (⟨"UnaskedName$LawReader", "takesAtom", "(LUnaskedName$Tape;LUnaskedName$Law;)Z"⟩, 8) := ⟨tn_2, tj_2 _ (List.mem_of_getElem? (i := 143) rfl), tj_5 _ (List.mem_of_getElem? (i := 34) rfl), tj_5 _ (List.mem_of_getElem? (i := 35) rfl)⟩
theorem lw_p13 : lw_okq (⟨"UnaskedName$LawReader", "pushWaiting", "(I)V"⟩, 8) := ⟨tn_2, tj_2 _ (List.mem_of_getElem? (i := 143) rfl), tj_5 _ (List.mem_of_getElem? (i := 39) rfl), tj_5 _ (List.mem_of_getElem? (i := 40) rfl)⟩
theorem lw_p14 : lw_okq (⟨"UnaskedName$LawReader", "takesPart", "(LUnaskedName$Tape;LUnaskedName$Law;)Z"⟩, 8) := ⟨tn_2, tj_2 _ (List.mem_of_getElem? (i := 143) rfl), tj_5 _ (List.mem_of_getElem? (i := 45) rfl), tj_5 _ (List.mem_of_getElem? (i := 46) rfl)⟩
theorem lw_p15 : lw_okq (⟨"UnaskedName$LawReader", "takesComparison", "(LUnaskedName$Tape;LUnaskedName$Law;)Z"⟩, 8) := ⟨tn_2, tj_2 _ (List.mem_of_getElem? (i := 143) rfl), tj_5 _ (List.mem_of_getElem? (i := 58) rfl), tj_5 _ (List.mem_of_getElem? (i := 59) rfl)⟩
def lw_privs_1 : List (MethodName × Nat) := [(⟨"UnaskedName$Law", "holds", "(II)Z"⟩, 8), (⟨"UnaskedName$Tale", "crumbsFrom", "(II)I"⟩, 18), (⟨"UnaskedName$Past", "newestRow", "()LUnaskedName$Mind;"⟩, 3), (⟨"UnaskedName$Tape", "byteAt", "(I)I"⟩, 6), (⟨"UnaskedName", "useTapeUp", "(Z)V"⟩, 11), (⟨"java/lang/Throwable", "fillInStackTrace", "(I)Ljava/lang/Throwable;"⟩, 6), (⟨"UnaskedName$LawReader", "takes", "(LUnaskedName$Tape;LUnaskedName$Law;)Z"⟩, 8), (⟨"UnaskedName$LawReader", "takesKind", "(LUnaskedName$Tape;)Z"⟩, 8), (⟨"UnaskedName$LawReader", "endsLine", "(LUnaskedName$Law;)Z"⟩, 8), (⟨"UnaskedName$LawReader", "endAtom", "(LUnaskedName$Law;)V"⟩, 8), (⟨"UnaskedName$LawReader", "topWaiting", "()I"⟩, 8), (⟨"UnaskedName$LawReader", "release", "(LUnaskedName$Law;I)V"⟩, 8), (⟨"UnaskedName$LawReader", "takesAtom", "(LUnaskedName$Tape;LUnaskedName$Law;)Z"⟩, 8), (⟨"UnaskedName$LawReader", "pushWaiting", "(I)V"⟩, 8), (⟨"UnaskedName$LawReader", "takesPart", "(LUnaskedName$Tape;LUnaskedName$Law;)Z"⟩, 8), (⟨"UnaskedName$LawReader", "takesComparison", "(LUnaskedName$Tape;LUnaskedName$Law;)Z"⟩, 8)]
theorem lw_r1 : ∀ q ∈ lw_privs_1, lw_okq q := List.forall_mem_cons.mpr ⟨lw_p0, List.forall_mem_cons.mpr ⟨lw_p1, List.forall_mem_cons.mpr ⟨lw_p2, List.forall_mem_cons.mpr ⟨lw_p3, List.forall_mem_cons.mpr ⟨lw_p4, List.forall_mem_cons.mpr ⟨lw_p5, List.forall_mem_cons.mpr ⟨lw_p6, List.forall_mem_cons.mpr ⟨lw_p7, List.forall_mem_cons.mpr ⟨lw_p8, List.forall_mem_cons.mpr ⟨lw_p9, List.forall_mem_cons.mpr ⟨lw_p10, List.forall_mem_cons.mpr ⟨lw_p11, List.forall_mem_cons.mpr ⟨lw_p12, List.forall_mem_cons.mpr ⟨lw_p13, List.forall_mem_cons.mpr ⟨lw_p14, List.forall_mem_cons.mpr ⟨lw_p15, fun _ h => absurd h List.not_mem_nil⟩⟩⟩⟩⟩⟩⟩⟩⟩⟩⟩⟩⟩⟩⟩⟩
theorem lw_p16 : lw_okq (⟨"UnaskedName$LawReader", "takesJoint", "(LUnaskedName$Tape;LUnaskedName$Law;)Z"⟩, 8) := ⟨tn_2, tj_2 _ (List.mem_of_getElem? (i := 143) rfl), tj_5 _ (List.mem_of_getElem? (i := 62) rfl), tj_5 _ (List.mem_of_getElem? (i := 63) rfl)⟩
theorem lw_p17 : lw_okq (⟨"UnaskedName", "needName", "(I)V"⟩, 11) := ⟨tn_0, tj_1 _ (List.mem_of_getElem? (i := 30) rfl), tj_5 _ (List.mem_of_getElem? (i := 80) rfl), tj_5 _ (List.mem_of_getElem? (i := 81) rfl)⟩
theorem lw_p18 : lw_okq (⟨"UnaskedName", "beliefIn", "(I)I"⟩, 11) := ⟨tn_0, tj_1 _ (List.mem_of_getElem? (i := 30) rfl), tj_5 _ (List.mem_of_getElem? (i := 100) rfl), tj_5 _ (List.mem_of_getElem? (i := 101) rfl)⟩
theorem lw_p19 : lw_okq (⟨"UnaskedName", "needWho", "(I)V"⟩, 11) := ⟨tn_0, tj_1 _ (List.mem_of_getElem? (i := 30) rfl), tj_5 _ (List.mem_of_getElem? (i := 131) rfl), tj_5 _ (List.mem_of_getElem? (i := 132) rfl)⟩
theorem lw_p20 : lw_okq (⟨"UnaskedName", "needWord", "(I)V"⟩, 11) := ⟨tn_0, tj_1 _ (List.mem_of_getElem? (i := 30) rfl), tj_5 _ (List.mem_of_getElem? (i := 144) rfl), tj_5 _ (List.mem_of_getElem? (i := 145) rfl)⟩
theorem lw_p21 : lw_okq (⟨"UnaskedName", "needDeed", "(I)V"⟩, 11) := ⟨tn_0, tj_1 _ (List.mem_of_getElem? (i := 30) rfl), tj_5 _ (List.mem_of_getElem? (i := 156) rfl), tj_5 _ (List.mem_of_getElem? (i := 157) rfl)⟩
theorem lw_p22 : lw_okq (⟨"UnaskedName", "needTrait", "(I)V"⟩, 11) := ⟨tn_0, tj_1 _ (List.mem_of_getElem? (i := 30) rfl), tj_6 _ (List.mem_of_getElem? (i := 16) rfl), tj_6 _ (List.mem_of_getElem? (i := 17) rfl)⟩
theorem lw_p23 : lw_okq (⟨"UnaskedName", "need", "(Z)V"⟩, 11) := ⟨tn_0, tj_1 _ (List.mem_of_getElem? (i := 30) rfl), tj_6 _ (List.mem_of_getElem? (i := 29) rfl), tj_6 _ (List.mem_of_getElem? (i := 30) rfl)⟩
theorem lw_p24 : lw_okq (⟨"UnaskedName$World", "canNightCome", "(LUnaskedName$Mind;)Z"⟩, 3) := ⟨tn_8, tj_1 _ (List.mem_of_getElem? (i := 68) rfl), tj_6 _ (List.mem_of_getElem? (i := 38) rfl), tj_6 _ (List.mem_of_getElem? (i := 39) rfl)⟩
theorem lw_p25 : lw_okq (⟨"UnaskedName", "needDeedOrNone", "(I)V"⟩, 11) := ⟨tn_0, tj_1 _ (List.mem_of_getElem? (i := 30) rfl), tj_6 _ (List.mem_of_getElem? (i := 64) rfl), tj_6 _ (List.mem_of_getElem? (i := 65) rfl)⟩
theorem lw_p26 : lw_okq (⟨"UnaskedName$Siege", "open", "(LUnaskedName$World;I)V"⟩, 5) := ⟨tn_5, tj_2 _ (List.mem_of_getElem? (i := 97) rfl), tj_6 _ (List.mem_of_getElem? (i := 90) rfl), tj_6 _ (List.mem_of_getElem? (i := 91) rfl)⟩
theorem lw_p27 : lw_okq (⟨"UnaskedName$Siege", "fewestFrom", "(LUnaskedName$World;II)I"⟩, 5) := ⟨tn_5, tj_2 _ (List.mem_of_getElem? (i := 97) rfl), tj_6 _ (List.mem_of_getElem? (i := 95) rfl), tj_6 _ (List.mem_of_getElem? (i := 96) rfl)⟩
theorem lw_p28 : lw_okq (⟨"UnaskedName$Siege", "latestBehind", "(LUnaskedName$World;II)I"⟩, 5) := ⟨tn_5, tj_2 _ (List.mem_of_getElem? (i := 97) rfl), tj_6 _ (List.mem_of_getElem? (i := 99) rfl), tj_6 _ (List.mem_of_getElem? (i := 100) rfl)⟩
theorem lw_p29 : lw_okq (⟨"UnaskedName$Siege", "easedOn", "(LUnaskedName$World;III)I"⟩, 5) := ⟨tn_5, tj_2 _ (List.mem_of_getElem? (i := 97) rfl), tj_6 _ (List.mem_of_getElem? (i := 103) rfl), tj_6 _ (List.mem_of_getElem? (i := 104) rfl)⟩
theorem lw_p30 : lw_okq (⟨"UnaskedName$Siege", "fewestWith", "(LUnaskedName$World;IIII)I"⟩, 5) := ⟨tn_5, tj_2 _ (List.mem_of_getElem? (i := 97) rfl), tj_6 _ (List.mem_of_getElem? (i := 118) rfl), tj_6 _ (List.mem_of_getElem? (i := 119) rfl)⟩
theorem lw_p31 : lw_okq (⟨"UnaskedName$Rows", "open", "(LUnaskedName$Mind;)V"⟩, 4) := ⟨tn_4, tj_2 _ (List.mem_of_getElem? (i := 121) rfl), tj_6 _ (List.mem_of_getElem? (i := 156) rfl), tj_6 _ (List.mem_of_getElem? (i := 157) rfl)⟩
def lw_privs_2 : List (MethodName × Nat) := [(⟨"UnaskedName$LawReader", "takesJoint", "(LUnaskedName$Tape;LUnaskedName$Law;)Z"⟩, 8), (⟨"UnaskedName", "needName", "(I)V"⟩, 11), (⟨"UnaskedName", "beliefIn", "(I)I"⟩, 11), (⟨"UnaskedName", "needWho", "(I)V"⟩, 11), (⟨"UnaskedName", "needWord", "(I)V"⟩, 11), (⟨"UnaskedName", "needDeed", "(I)V"⟩, 11), (⟨"UnaskedName", "needTrait", "(I)V"⟩, 11), (⟨"UnaskedName", "need", "(Z)V"⟩, 11), (⟨"UnaskedName$World", "canNightCome", "(LUnaskedName$Mind;)Z"⟩, 3), (⟨"UnaskedName", "needDeedOrNone", "(I)V"⟩, 11), (⟨"UnaskedName$Siege", "open", "(LUnaskedName$World;I)V"⟩, 5), (⟨"UnaskedName$Siege", "fewestFrom", "(LUnaskedName$World;II)I"⟩, 5), (⟨"UnaskedName$Siege", "latestBehind", "(LUnaskedName$World;II)I"⟩, 5), (⟨"UnaskedName$Siege", "easedOn", "(LUnaskedName$World;III)I"⟩, 5), (⟨"UnaskedName$Siege", "fewestWith", "(LUnaskedName$World;IIII)I"⟩, 5), (⟨"UnaskedName$Rows", "open", "(LUnaskedName$Mind;)V"⟩, 4)]
theorem lw_r2 : ∀ q ∈ lw_privs_2, lw_okq q := List.forall_mem_cons.mpr ⟨lw_p16, List.forall_mem_cons.mpr ⟨lw_p17, List.forall_mem_cons.mpr ⟨lw_p18, List.forall_mem_cons.mpr ⟨lw_p19, List.forall_mem_cons.mpr ⟨lw_p20, List.forall_mem_cons.mpr ⟨lw_p21, List.forall_mem_cons.mpr ⟨lw_p22, List.forall_mem_cons.mpr ⟨lw_p23, List.forall_mem_cons.mpr ⟨lw_p24, List.forall_mem_cons.mpr ⟨lw_p25, List.forall_mem_cons.mpr ⟨lw_p26, List.forall_mem_cons.mpr ⟨lw_p27, List.forall_mem_cons.mpr ⟨lw_p28, List.forall_mem_cons.mpr ⟨lw_p29, List.forall_mem_cons.mpr ⟨lw_p30, List.forall_mem_cons.mpr ⟨lw_p31, fun _ h => absurd h List.not_mem_nil⟩⟩⟩⟩⟩⟩⟩⟩⟩⟩⟩⟩⟩⟩⟩⟩
theorem lw_p32 : lw_okq (⟨"UnaskedName$Rows", "oneWordMore", "(LUnaskedName$World;I)Z"⟩, 4) := ⟨tn_4, tj_2 _ (List.mem_of_getElem? (i := 121) rfl), tj_6 _ (List.mem_of_getElem? (i := 161) rfl), tj_6 _ (List.mem_of_getElem? (i := 162) rfl)⟩
theorem lw_p33 : lw_okq (⟨"UnaskedName$Rows", "asksFrom", "(LUnaskedName$World;III)Z"⟩, 4) := ⟨tn_4, tj_2 _ (List.mem_of_getElem? (i := 121) rfl), tj_6 _ (List.mem_of_getElem? (i := 165) rfl), tj_6 _ (List.mem_of_getElem? (i := 166) rfl)⟩
theorem lw_p34 : lw_okq (⟨"UnaskedName$Rows", "toldWith", "(LUnaskedName$World;II)I"⟩, 4) := ⟨tn_4, tj_2 _ (List.mem_of_getElem? (i := 121) rfl), tj_6 _ (List.mem_of_getElem? (i := 172) rfl), tj_6 _ (List.mem_of_getElem? (i := 173) rfl)⟩
theorem lw_p35 : lw_okq (⟨"UnaskedName$Rows", "reach", "(II)V"⟩, 4) := ⟨tn_4, tj_2 _ (List.mem_of_getElem? (i := 121) rfl), tj_6 _ (List.mem_of_getElem? (i := 178) rfl), tj_6 _ (List.mem_of_getElem? (i := 179) rfl)⟩
theorem lw_p36 : lw_okq (⟨"UnaskedName", "staysQuiet", "(II)Z"⟩, 11) := ⟨tn_0, tj_1 _ (List.mem_of_getElem? (i := 30) rfl), tj_6 _ (List.mem_of_getElem? (i := 190) rfl), tj_6 _ (List.mem_of_getElem? (i := 191) rfl)⟩
theorem lw_p37 : lw_okq (⟨"UnaskedName", "doubtBehind", "(I)I"⟩, 11) := ⟨tn_0, tj_1 _ (List.mem_of_getElem? (i := 30) rfl), tj_6 _ (List.mem_of_getElem? (i := 220) rfl), tj_6 _ (List.mem_of_getElem? (i := 221) rfl)⟩
theorem lw_p38 : lw_okq (⟨"UnaskedName", "tryNights", "(II)V"⟩, 11) := ⟨tn_0, tj_1 _ (List.mem_of_getElem? (i := 30) rfl), tj_7 _ (List.mem_of_getElem? (i := 12) rfl), tj_7 _ (List.mem_of_getElem? (i := 13) rfl)⟩
theorem lw_p39 : lw_okq (⟨"UnaskedNameModel", "readAll", "(Z)I"⟩, 29) := ⟨tn_9, tj_7 _ (List.mem_of_getElem? (i := 47) rfl), tj_7 _ (List.mem_of_getElem? (i := 170) rfl), tj_7 _ (List.mem_of_getElem? (i := 171) rfl)⟩
theorem lw_p40 : lw_okq (⟨"UnaskedNameModel", "uses", "()V"⟩, 29) := ⟨tn_9, tj_7 _ (List.mem_of_getElem? (i := 47) rfl), tj_7 _ (List.mem_of_getElem? (i := 174) rfl), tj_7 _ (List.mem_of_getElem? (i := 175) rfl)⟩
theorem lw_p41 : lw_okq (⟨"UnaskedNameModel", "blanks", "()V"⟩, 29) := ⟨tn_9, tj_7 _ (List.mem_of_getElem? (i := 47) rfl), tj_7 _ (List.mem_of_getElem? (i := 178) rfl), tj_7 _ (List.mem_of_getElem? (i := 179) rfl)⟩
theorem lw_p42 : lw_okq (⟨"UnaskedNameModel", "isAt", "(II)Z"⟩, 29) := ⟨tn_9, tj_7 _ (List.mem_of_getElem? (i := 47) rfl), tj_7 _ (List.mem_of_getElem? (i := 182) rfl), tj_7 _ (List.mem_of_getElem? (i := 183) rfl)⟩
theorem lw_p43 : lw_okq (⟨"UnaskedNameModel", "readLine", "(ZI)Z"⟩, 29) := ⟨tn_9, tj_7 _ (List.mem_of_getElem? (i := 47) rfl), tj_7 _ (List.mem_of_getElem? (i := 186) rfl), tj_7 _ (List.mem_of_getElem? (i := 187) rfl)⟩
theorem lw_p44 : lw_okq (⟨"UnaskedNameModel", "letters", "()V"⟩, 29) := ⟨tn_9, tj_7 _ (List.mem_of_getElem? (i := 47) rfl), tj_7 _ (List.mem_of_getElem? (i := 190) rfl), tj_7 _ (List.mem_of_getElem? (i := 191) rfl)⟩
theorem lw_p45 : lw_okq (⟨"UnaskedNameModel", "readStoryLine", "()Z"⟩, 29) := ⟨tn_9, tj_7 _ (List.mem_of_getElem? (i := 47) rfl), tj_7 _ (List.mem_of_getElem? (i := 194) rfl), tj_7 _ (List.mem_of_getElem? (i := 195) rfl)⟩
theorem lw_p46 : lw_okq (⟨"UnaskedNameModel", "isWord", "(Ljava/lang/String;)Z"⟩, 29) := ⟨tn_9, tj_7 _ (List.mem_of_getElem? (i := 47) rfl), tj_7 _ (List.mem_of_getElem? (i := 199) rfl), tj_7 _ (List.mem_of_getElem? (i := 200) rfl)⟩
theorem lw_p47 : lw_okq (⟨"UnaskedNameModel", "readName", "()Z"⟩, 29) := ⟨tn_9, tj_7 _ (List.mem_of_getElem? (i := 47) rfl), tj_7 _ (List.mem_of_getElem? (i := 205) rfl), tj_7 _ (List.mem_of_getElem? (i := 206) rfl)⟩
def lw_privs_3 : List (MethodName × Nat) := [(⟨"UnaskedName$Rows", "oneWordMore", "(LUnaskedName$World;I)Z"⟩, 4), (⟨"UnaskedName$Rows", "asksFrom", "(LUnaskedName$World;III)Z"⟩, 4), (⟨"UnaskedName$Rows", "toldWith", "(LUnaskedName$World;II)I"⟩, 4), (⟨"UnaskedName$Rows", "reach", "(II)V"⟩, 4), (⟨"UnaskedName", "staysQuiet", "(II)Z"⟩, 11), (⟨"UnaskedName", "doubtBehind", "(I)I"⟩, 11), (⟨"UnaskedName", "tryNights", "(II)V"⟩, 11), (⟨"UnaskedNameModel", "readAll", "(Z)I"⟩, 29), (⟨"UnaskedNameModel", "uses", "()V"⟩, 29), (⟨"UnaskedNameModel", "blanks", "()V"⟩, 29), (⟨"UnaskedNameModel", "isAt", "(II)Z"⟩, 29), (⟨"UnaskedNameModel", "readLine", "(ZI)Z"⟩, 29), (⟨"UnaskedNameModel", "letters", "()V"⟩, 29), (⟨"UnaskedNameModel", "readStoryLine", "()Z"⟩, 29), (⟨"UnaskedNameModel", "isWord", "(Ljava/lang/String;)Z"⟩, 29), (⟨"UnaskedNameModel", "readName", "()Z"⟩, 29)]
theorem lw_r3 : ∀ q ∈ lw_privs_3, lw_okq q := List.forall_mem_cons.mpr ⟨lw_p32, List.forall_mem_cons.mpr ⟨lw_p33, List.forall_mem_cons.mpr ⟨lw_p34, List.forall_mem_cons.mpr ⟨lw_p35, List.forall_mem_cons.mpr ⟨lw_p36, List.forall_mem_cons.mpr ⟨lw_p37, List.forall_mem_cons.mpr ⟨lw_p38, List.forall_mem_cons.mpr ⟨lw_p39, List.forall_mem_cons.mpr ⟨lw_p40, List.forall_mem_cons.mpr ⟨lw_p41, List.forall_mem_cons.mpr ⟨lw_p42, List.forall_mem_cons.mpr ⟨lw_p43, List.forall_mem_cons.mpr ⟨lw_p44, List.forall_mem_cons.mpr ⟨lw_p45, List.forall_mem_cons.mpr ⟨lw_p46, List.forall_mem_cons.mpr ⟨lw_p47, fun _ h => absurd h List.not_mem_nil⟩⟩⟩⟩⟩⟩⟩⟩⟩⟩⟩⟩⟩⟩⟩⟩
theorem lw_p48 : lw_okq (⟨"UnaskedNameModel", "names", "()I"⟩, 29) := ⟨tn_9, tj_7 _ (List.mem_of_getElem? (i := 47) rfl), tj_7 _ (List.mem_of_getElem? (i := 209) rfl), tj_7 _ (List.mem_of_getElem? (i := 210) rfl)⟩
theorem lw_p49 : lw_okq (⟨"UnaskedNameModel", "lettersTold", "()I"⟩, 29) := ⟨tn_9, tj_7 _ (List.mem_of_getElem? (i := 47) rfl), tj_7 _ (List.mem_of_getElem? (i := 213) rfl), tj_7 _ (List.mem_of_getElem? (i := 214) rfl)⟩
theorem lw_p50 : lw_okq (⟨"UnaskedNameModel", "after", "(Ljava/lang/String;II)I"⟩, 29) := ⟨tn_9, tj_7 _ (List.mem_of_getElem? (i := 47) rfl), tj_7 _ (List.mem_of_getElem? (i := 224) rfl), tj_7 _ (List.mem_of_getElem? (i := 225) rfl)⟩
theorem lw_p51 : lw_okq (⟨"UnaskedNameModel", "number", "(II)I"⟩, 29) := ⟨tn_9, tj_7 _ (List.mem_of_getElem? (i := 47) rfl), tj_7 _ (List.mem_of_getElem? (i := 228) rfl), tj_7 _ (List.mem_of_getElem? (i := 229) rfl)⟩
theorem lw_p52 : lw_okq (⟨"UnaskedNameModel", "readWord", "()Z"⟩, 29) := ⟨tn_9, tj_7 _ (List.mem_of_getElem? (i := 47) rfl), tj_7 _ (List.mem_of_getElem? (i := 233) rfl), tj_7 _ (List.mem_of_getElem? (i := 234) rfl)⟩
theorem lw_p53 : lw_okq (⟨"UnaskedNameModel", "words", "()I"⟩, 29) := ⟨tn_9, tj_7 _ (List.mem_of_getElem? (i := 47) rfl), tj_7 _ (List.mem_of_getElem? (i := 237) rfl), tj_7 _ (List.mem_of_getElem? (i := 238) rfl)⟩
theorem lw_p54 : lw_okq (⟨"UnaskedNameModel", "passes", "(Ljava/lang/String;)Z"⟩, 29) := ⟨tn_9, tj_7 _ (List.mem_of_getElem? (i := 47) rfl), tj_8 _ (List.mem_of_getElem? (i := 2) rfl), tj_8 _ (List.mem_of_getElem? (i := 3) rfl)⟩
theorem lw_p55 : lw_okq (⟨"UnaskedNameModel", "readDeed", "()Z"⟩, 29) := ⟨tn_9, tj_7 _ (List.mem_of_getElem? (i := 47) rfl), tj_8 _ (List.mem_of_getElem? (i := 12) rfl), tj_8 _ (List.mem_of_getElem? (i := 13) rfl)⟩
theorem lw_p56 : lw_okq (⟨"UnaskedNameModel", "deeds", "()I"⟩, 29) := ⟨tn_9, tj_7 _ (List.mem_of_getElem? (i := 47) rfl), tj_8 _ (List.mem_of_getElem? (i := 16) rfl), tj_8 _ (List.mem_of_getElem? (i := 17) rfl)⟩
theorem lw_p57 : lw_okq (⟨"UnaskedNameModel", "readWho", "(I)Z"⟩, 29) := ⟨tn_9, tj_7 _ (List.mem_of_getElem? (i := 47) rfl), tj_8 _ (List.mem_of_getElem? (i := 22) rfl), tj_8 _ (List.mem_of_getElem? (i := 23) rfl)⟩
theorem lw_p58 : lw_okq (⟨"UnaskedNameModel", "courtiers", "()I"⟩, 29) := ⟨tn_9, tj_7 _ (List.mem_of_getElem? (i := 47) rfl), tj_8 _ (List.mem_of_getElem? (i := 26) rfl), tj_8 _ (List.mem_of_getElem? (i := 27) rfl)⟩
theorem lw_p59 : lw_okq (⟨"UnaskedNameModel", "readDuty", "()Z"⟩, 29) := ⟨tn_9, tj_7 _ (List.mem_of_getElem? (i := 47) rfl), tj_8 _ (List.mem_of_getElem? (i := 32) rfl), tj_8 _ (List.mem_of_getElem? (i := 33) rfl)⟩
theorem lw_p60 : lw_okq (⟨"UnaskedNameModel", "duties", "()I"⟩, 29) := ⟨tn_9, tj_7 _ (List.mem_of_getElem? (i := 47) rfl), tj_8 _ (List.mem_of_getElem? (i := 36) rfl), tj_8 _ (List.mem_of_getElem? (i := 37) rfl)⟩
theorem lw_p61 : lw_okq (⟨"UnaskedNameModel", "readNumber", "(III)Z"⟩, 29) := ⟨tn_9, tj_7 _ (List.mem_of_getElem? (i := 47) rfl), tj_8 _ (List.mem_of_getElem? (i := 41) rfl), tj_8 _ (List.mem_of_getElem? (i := 42) rfl)⟩
theorem lw_p62 : lw_okq (⟨"UnaskedNameModel", "readHis", "()Z"⟩, 29) := ⟨tn_9, tj_7 _ (List.mem_of_getElem? (i := 47) rfl), tj_8 _ (List.mem_of_getElem? (i := 47) rfl), tj_8 _ (List.mem_of_getElem? (i := 48) rfl)⟩
theorem lw_p63 : lw_okq (⟨"UnaskedNameModel", "isNow", "(I)V"⟩, 29) := ⟨tn_9, tj_7 _ (List.mem_of_getElem? (i := 47) rfl), tj_8 _ (List.mem_of_getElem? (i := 51) rfl), tj_8 _ (List.mem_of_getElem? (i := 52) rfl)⟩
def lw_privs_4 : List (MethodName × Nat) := [(⟨"UnaskedNameModel", "names", "()I"⟩, 29), (⟨"UnaskedNameModel", "lettersTold", "()I"⟩, 29), (⟨"UnaskedNameModel", "after", "(Ljava/lang/String;II)I"⟩, 29), (⟨"UnaskedNameModel", "number", "(II)I"⟩, 29), (⟨"UnaskedNameModel", "readWord", "()Z"⟩, 29), (⟨"UnaskedNameModel", "words", "()I"⟩, 29), (⟨"UnaskedNameModel", "passes", "(Ljava/lang/String;)Z"⟩, 29), (⟨"UnaskedNameModel", "readDeed", "()Z"⟩, 29), (⟨"UnaskedNameModel", "deeds", "()I"⟩, 29), (⟨"UnaskedNameModel", "readWho", "(I)Z"⟩, 29), (⟨"UnaskedNameModel", "courtiers", "()I"⟩, 29), (⟨"UnaskedNameModel", "readDuty", "()Z"⟩, 29), (⟨"UnaskedNameModel", "duties", "()I"⟩, 29), (⟨"UnaskedNameModel", "readNumber", "(III)Z"⟩, 29), (⟨"UnaskedNameModel", "readHis", "()Z"⟩, 29), (⟨"UnaskedNameModel", "isNow", "(I)V"⟩, 29)]
theorem lw_r4 : ∀ q ∈ lw_privs_4, lw_okq q := List.forall_mem_cons.mpr ⟨lw_p48, List.forall_mem_cons.mpr ⟨lw_p49, List.forall_mem_cons.mpr ⟨lw_p50, List.forall_mem_cons.mpr ⟨lw_p51, List.forall_mem_cons.mpr ⟨lw_p52, List.forall_mem_cons.mpr ⟨lw_p53, List.forall_mem_cons.mpr ⟨lw_p54, List.forall_mem_cons.mpr ⟨lw_p55, List.forall_mem_cons.mpr ⟨lw_p56, List.forall_mem_cons.mpr ⟨lw_p57, List.forall_mem_cons.mpr ⟨lw_p58, List.forall_mem_cons.mpr ⟨lw_p59, List.forall_mem_cons.mpr ⟨lw_p60, List.forall_mem_cons.mpr ⟨lw_p61, List.forall_mem_cons.mpr ⟨lw_p62, List.forall_mem_cons.mpr ⟨lw_p63, fun _ h => absurd h List.not_mem_nil⟩⟩⟩⟩⟩⟩⟩⟩⟩⟩⟩⟩⟩⟩⟩⟩
theorem lw_p64 : lw_okq (⟨"UnaskedNameModel", "readLawLine", "(I)Z"⟩, 29) := ⟨tn_9, tj_7 _ (List.mem_of_getElem? (i := 47) rfl), tj_8 _ (List.mem_of_getElem? (i := 57) rfl), tj_8 _ (List.mem_of_getElem? (i := 58) rfl)⟩
theorem lw_p65 : lw_okq (⟨"UnaskedNameModel", "readCond", "()Z"⟩, 29) := ⟨tn_9, tj_7 _ (List.mem_of_getElem? (i := 47) rfl), tj_8 _ (List.mem_of_getElem? (i := 65) rfl), tj_8 _ (List.mem_of_getElem? (i := 66) rfl)⟩
theorem lw_p66 : lw_okq (⟨"UnaskedNameModel", "readAllOf", "()Z"⟩, 29) := ⟨tn_9, tj_7 _ (List.mem_of_getElem? (i := 47) rfl), tj_8 _ (List.mem_of_getElem? (i := 69) rfl), tj_8 _ (List.mem_of_getElem? (i := 70) rfl)⟩
theorem lw_p67 : lw_okq (⟨"UnaskedNameModel", "readAtom", "()Z"⟩, 29) := ⟨tn_9, tj_7 _ (List.mem_of_getElem? (i := 47) rfl), tj_8 _ (List.mem_of_getElem? (i := 73) rfl), tj_8 _ (List.mem_of_getElem? (i := 74) rfl)⟩
theorem lw_p68 : lw_okq (⟨"UnaskedNameModel", "sign", "(I)Z"⟩, 29) := ⟨tn_9, tj_7 _ (List.mem_of_getElem? (i := 47) rfl), tj_8 _ (List.mem_of_getElem? (i := 77) rfl), tj_8 _ (List.mem_of_getElem? (i := 78) rfl)⟩
theorem lw_p69 : lw_okq (⟨"UnaskedNameModel", "emits", "(II)V"⟩, 29) := ⟨tn_9, tj_7 _ (List.mem_of_getElem? (i := 47) rfl), tj_8 _ (List.mem_of_getElem? (i := 82) rfl), tj_8 _ (List.mem_of_getElem? (i := 83) rfl)⟩
theorem lw_p70 : lw_okq (⟨"UnaskedNameModel", "readTag", "()Z"⟩, 29) := ⟨tn_9, tj_7 _ (List.mem_of_getElem? (i := 47) rfl), tj_8 _ (List.mem_of_getElem? (i := 86) rfl), tj_8 _ (List.mem_of_getElem? (i := 87) rfl)⟩
theorem lw_p71 : lw_okq (⟨"UnaskedNameModel", "readSum", "()Z"⟩, 29) := ⟨tn_9, tj_7 _ (List.mem_of_getElem? (i := 47) rfl), tj_8 _ (List.mem_of_getElem? (i := 92) rfl), tj_8 _ (List.mem_of_getElem? (i := 93) rfl)⟩
theorem lw_p72 : lw_okq (⟨"UnaskedNameModel", "readPart", "()Z"⟩, 29) := ⟨tn_9, tj_7 _ (List.mem_of_getElem? (i := 47) rfl), tj_8 _ (List.mem_of_getElem? (i := 96) rfl), tj_8 _ (List.mem_of_getElem? (i := 97) rfl)⟩
theorem lw_p73 : lw_okq (⟨"UnaskedNameModel", "throwsIf", "(ZI)Z"⟩, 29) := ⟨tn_9, tj_7 _ (List.mem_of_getElem? (i := 47) rfl), tj_8 _ (List.mem_of_getElem? (i := 105) rfl), tj_8 _ (List.mem_of_getElem? (i := 106) rfl)⟩
theorem lw_p74 : lw_okq (⟨"UnaskedNameModel", "noWho", "(I)Z"⟩, 29) := ⟨tn_9, tj_7 _ (List.mem_of_getElem? (i := 47) rfl), tj_8 _ (List.mem_of_getElem? (i := 117) rfl), tj_8 _ (List.mem_of_getElem? (i := 118) rfl)⟩
theorem lw_p75 : lw_okq (⟨"UnaskedNameModel", "noWord", "(I)Z"⟩, 29) := ⟨tn_9, tj_7 _ (List.mem_of_getElem? (i := 47) rfl), tj_8 _ (List.mem_of_getElem? (i := 121) rfl), tj_8 _ (List.mem_of_getElem? (i := 122) rfl)⟩
theorem lw_p76 : lw_okq (⟨"UnaskedNameModel", "looksNow", "()V"⟩, 29) := ⟨tn_9, tj_7 _ (List.mem_of_getElem? (i := 47) rfl), tj_8 _ (List.mem_of_getElem? (i := 125) rfl), tj_8 _ (List.mem_of_getElem? (i := 126) rfl)⟩
theorem lw_p77 : lw_okq (⟨"UnaskedNameModel", "howMany", "()I"⟩, 29) := ⟨tn_9, tj_7 _ (List.mem_of_getElem? (i := 47) rfl), tj_8 _ (List.mem_of_getElem? (i := 129) rfl), tj_8 _ (List.mem_of_getElem? (i := 130) rfl)⟩
theorem lw_p78 : lw_okq (⟨"UnaskedNameModel", "looks", "(III)V"⟩, 29) := ⟨tn_9, tj_7 _ (List.mem_of_getElem? (i := 47) rfl), tj_8 _ (List.mem_of_getElem? (i := 133) rfl), tj_8 _ (List.mem_of_getElem? (i := 134) rfl)⟩
theorem lw_p79 : lw_okq (⟨"UnaskedNameModel", "stingsBy", "(II)I"⟩, 29) := ⟨tn_9, tj_7 _ (List.mem_of_getElem? (i := 47) rfl), tj_8 _ (List.mem_of_getElem? (i := 137) rfl), tj_8 _ (List.mem_of_getElem? (i := 138) rfl)⟩
def lw_privs_5 : List (MethodName × Nat) := [(⟨"UnaskedNameModel", "readLawLine", "(I)Z"⟩, 29), (⟨"UnaskedNameModel", "readCond", "()Z"⟩, 29), (⟨"UnaskedNameModel", "readAllOf", "()Z"⟩, 29), (⟨"UnaskedNameModel", "readAtom", "()Z"⟩, 29), (⟨"UnaskedNameModel", "sign", "(I)Z"⟩, 29), (⟨"UnaskedNameModel", "emits", "(II)V"⟩, 29), (⟨"UnaskedNameModel", "readTag", "()Z"⟩, 29), (⟨"UnaskedNameModel", "readSum", "()Z"⟩, 29), (⟨"UnaskedNameModel", "readPart", "()Z"⟩, 29), (⟨"UnaskedNameModel", "throwsIf", "(ZI)Z"⟩, 29), (⟨"UnaskedNameModel", "noWho", "(I)Z"⟩, 29), (⟨"UnaskedNameModel", "noWord", "(I)Z"⟩, 29), (⟨"UnaskedNameModel", "looksNow", "()V"⟩, 29), (⟨"UnaskedNameModel", "howMany", "()I"⟩, 29), (⟨"UnaskedNameModel", "looks", "(III)V"⟩, 29), (⟨"UnaskedNameModel", "stingsBy", "(II)I"⟩, 29)]
theorem lw_r5 : ∀ q ∈ lw_privs_5, lw_okq q := List.forall_mem_cons.mpr ⟨lw_p64, List.forall_mem_cons.mpr ⟨lw_p65, List.forall_mem_cons.mpr ⟨lw_p66, List.forall_mem_cons.mpr ⟨lw_p67, List.forall_mem_cons.mpr ⟨lw_p68, List.forall_mem_cons.mpr ⟨lw_p69, List.forall_mem_cons.mpr ⟨lw_p70, List.forall_mem_cons.mpr ⟨lw_p71, List.forall_mem_cons.mpr ⟨lw_p72, List.forall_mem_cons.mpr ⟨lw_p73, List.forall_mem_cons.mpr ⟨lw_p74, List.forall_mem_cons.mpr ⟨lw_p75, List.forall_mem_cons.mpr ⟨lw_p76, List.forall_mem_cons.mpr ⟨lw_p77, List.forall_mem_cons.mpr ⟨lw_p78, List.forall_mem_cons.mpr ⟨lw_p79, fun _ h => absurd h List.not_mem_nil⟩⟩⟩⟩⟩⟩⟩⟩⟩⟩⟩⟩⟩⟩⟩⟩
theorem lw_p80 : lw_okq (⟨"UnaskedNameModel", "ofWord", "(II)I"⟩, 29) := ⟨tn_9, tj_7 _ (List.mem_of_getElem? (i := 47) rfl), tj_8 _ (List.mem_of_getElem? (i := 141) rfl), tj_8 _ (List.mem_of_getElem? (i := 142) rfl)⟩
theorem lw_p81 : lw_okq (⟨"UnaskedNameModel", "traitsOfHis", "()I"⟩, 29) := ⟨tn_9, tj_7 _ (List.mem_of_getElem? (i := 47) rfl), tj_8 _ (List.mem_of_getElem? (i := 145) rfl), tj_8 _ (List.mem_of_getElem? (i := 146) rfl)⟩
theorem lw_p82 : lw_okq (⟨"UnaskedNameModel", "ofName", "(II)I"⟩, 29) := ⟨tn_9, tj_7 _ (List.mem_of_getElem? (i := 47) rfl), tj_8 _ (List.mem_of_getElem? (i := 149) rfl), tj_8 _ (List.mem_of_getElem? (i := 150) rfl)⟩
theorem lw_p83 : lw_okq (⟨"UnaskedNameModel", "sumOf", "(I)I"⟩, 29) := ⟨tn_9, tj_7 _ (List.mem_of_getElem? (i := 47) rfl), tj_8 _ (List.mem_of_getElem? (i := 153) rfl), tj_8 _ (List.mem_of_getElem? (i := 154) rfl)⟩
theorem lw_p84 : lw_okq (⟨"UnaskedNameModel", "holdsLine", "(I)Z"⟩, 29) := ⟨tn_9, tj_7 _ (List.mem_of_getElem? (i := 47) rfl), tj_8 _ (List.mem_of_getElem? (i := 157) rfl), tj_8 _ (List.mem_of_getElem? (i := 158) rfl)⟩
theorem lw_p85 : lw_okq (⟨"UnaskedNameModel", "factOf", "(II)I"⟩, 29) := ⟨tn_9, tj_7 _ (List.mem_of_getElem? (i := 47) rfl), tj_8 _ (List.mem_of_getElem? (i := 161) rfl), tj_8 _ (List.mem_of_getElem? (i := 162) rfl)⟩
theorem lw_p86 : lw_okq (⟨"UnaskedNameModel", "possibleBehind", "(II)I"⟩, 29) := ⟨tn_9, tj_7 _ (List.mem_of_getElem? (i := 47) rfl), tj_8 _ (List.mem_of_getElem? (i := 170) rfl), tj_8 _ (List.mem_of_getElem? (i := 171) rfl)⟩
theorem lw_p87 : lw_okq (⟨"UnaskedNameModel", "staysOf", "(II)I"⟩, 29) := ⟨tn_9, tj_7 _ (List.mem_of_getElem? (i := 47) rfl), tj_8 _ (List.mem_of_getElem? (i := 174) rfl), tj_8 _ (List.mem_of_getElem? (i := 175) rfl)⟩
theorem lw_p88 : lw_okq (⟨"UnaskedNameModel", "behindWord", "(II)I"⟩, 29) := ⟨tn_9, tj_7 _ (List.mem_of_getElem? (i := 47) rfl), tj_8 _ (List.mem_of_getElem? (i := 178) rfl), tj_8 _ (List.mem_of_getElem? (i := 179) rfl)⟩
theorem lw_p89 : lw_okq (⟨"UnaskedNameModel", "noDeed", "(I)Z"⟩, 29) := ⟨tn_9, tj_7 _ (List.mem_of_getElem? (i := 47) rfl), tj_8 _ (List.mem_of_getElem? (i := 187) rfl), tj_8 _ (List.mem_of_getElem? (i := 188) rfl)⟩
theorem lw_p90 : lw_okq (⟨"UnaskedNameModel", "easesBy", "(I)I"⟩, 29) := ⟨tn_9, tj_7 _ (List.mem_of_getElem? (i := 47) rfl), tj_8 _ (List.mem_of_getElem? (i := 191) rfl), tj_8 _ (List.mem_of_getElem? (i := 192) rfl)⟩
theorem lw_p91 : lw_okq (⟨"UnaskedNameModel", "ofDeed", "(II)I"⟩, 29) := ⟨tn_9, tj_7 _ (List.mem_of_getElem? (i := 47) rfl), tj_8 _ (List.mem_of_getElem? (i := 195) rfl), tj_8 _ (List.mem_of_getElem? (i := 196) rfl)⟩
theorem lw_p92 : lw_okq (⟨"UnaskedNameModel", "ofWho", "(II)I"⟩, 29) := ⟨tn_9, tj_7 _ (List.mem_of_getElem? (i := 47) rfl), tj_8 _ (List.mem_of_getElem? (i := 207) rfl), tj_8 _ (List.mem_of_getElem? (i := 208) rfl)⟩
theorem lw_p93 : lw_okq (⟨"UnaskedNameModel", "isGone", "()Z"⟩, 29) := ⟨tn_9, tj_7 _ (List.mem_of_getElem? (i := 47) rfl), tj_8 _ (List.mem_of_getElem? (i := 223) rfl), tj_8 _ (List.mem_of_getElem? (i := 224) rfl)⟩
theorem lw_p94 : lw_okq (⟨"UnaskedNameModel", "isNear", "(I)Z"⟩, 29) := ⟨tn_9, tj_7 _ (List.mem_of_getElem? (i := 47) rfl), tj_8 _ (List.mem_of_getElem? (i := 227) rfl), tj_8 _ (List.mem_of_getElem? (i := 228) rfl)⟩
theorem lw_p95 : lw_okq (⟨"UnaskedNameModel", "remembers", "()V"⟩, 29) := ⟨tn_9, tj_7 _ (List.mem_of_getElem? (i := 47) rfl), tj_8 _ (List.mem_of_getElem? (i := 231) rfl), tj_8 _ (List.mem_of_getElem? (i := 232) rfl)⟩
def lw_privs_6 : List (MethodName × Nat) := [(⟨"UnaskedNameModel", "ofWord", "(II)I"⟩, 29), (⟨"UnaskedNameModel", "traitsOfHis", "()I"⟩, 29), (⟨"UnaskedNameModel", "ofName", "(II)I"⟩, 29), (⟨"UnaskedNameModel", "sumOf", "(I)I"⟩, 29), (⟨"UnaskedNameModel", "holdsLine", "(I)Z"⟩, 29), (⟨"UnaskedNameModel", "factOf", "(II)I"⟩, 29), (⟨"UnaskedNameModel", "possibleBehind", "(II)I"⟩, 29), (⟨"UnaskedNameModel", "staysOf", "(II)I"⟩, 29), (⟨"UnaskedNameModel", "behindWord", "(II)I"⟩, 29), (⟨"UnaskedNameModel", "noDeed", "(I)Z"⟩, 29), (⟨"UnaskedNameModel", "easesBy", "(I)I"⟩, 29), (⟨"UnaskedNameModel", "ofDeed", "(II)I"⟩, 29), (⟨"UnaskedNameModel", "ofWho", "(II)I"⟩, 29), (⟨"UnaskedNameModel", "isGone", "()Z"⟩, 29), (⟨"UnaskedNameModel", "isNear", "(I)Z"⟩, 29), (⟨"UnaskedNameModel", "remembers", "()V"⟩, 29)]
theorem lw_r6 : ∀ q ∈ lw_privs_6, lw_okq q := List.forall_mem_cons.mpr ⟨lw_p80, List.forall_mem_cons.mpr ⟨lw_p81, List.forall_mem_cons.mpr ⟨lw_p82, List.forall_mem_cons.mpr ⟨lw_p83, List.forall_mem_cons.mpr ⟨lw_p84, List.forall_mem_cons.mpr ⟨lw_p85, List.forall_mem_cons.mpr ⟨lw_p86, List.forall_mem_cons.mpr ⟨lw_p87, List.forall_mem_cons.mpr ⟨lw_p88, List.forall_mem_cons.mpr ⟨lw_p89, List.forall_mem_cons.mpr ⟨lw_p90, List.forall_mem_cons.mpr ⟨lw_p91, List.forall_mem_cons.mpr ⟨lw_p92, List.forall_mem_cons.mpr ⟨lw_p93, List.forall_mem_cons.mpr ⟨lw_p94, List.forall_mem_cons.mpr ⟨lw_p95, fun _ h => absurd h List.not_mem_nil⟩⟩⟩⟩⟩⟩⟩⟩⟩⟩⟩⟩⟩⟩⟩⟩
theorem lw_p96 : lw_okq (⟨"UnaskedNameModel", "says", "(II)V"⟩, 29) := ⟨tn_9, tj_7 _ (List.mem_of_getElem? (i := 47) rfl), tj_8 _ (List.mem_of_getElem? (i := 235) rfl), tj_8 _ (List.mem_of_getElem? (i := 236) rfl)⟩
theorem lw_p97 : lw_okq (⟨"UnaskedNameModel", "tells", "(II)V"⟩, 29) := ⟨tn_9, tj_7 _ (List.mem_of_getElem? (i := 47) rfl), tj_8 _ (List.mem_of_getElem? (i := 239) rfl), tj_9 _ (List.mem_of_getElem? (i := 0) rfl)⟩
theorem lw_p98 : lw_okq (⟨"UnaskedNameModel", "isDone", "(I)V"⟩, 29) := ⟨tn_9, tj_7 _ (List.mem_of_getElem? (i := 47) rfl), tj_9 _ (List.mem_of_getElem? (i := 7) rfl), tj_9 _ (List.mem_of_getElem? (i := 8) rfl)⟩
theorem lw_p99 : lw_okq (⟨"UnaskedNameModel", "behindDeed", "(I)I"⟩, 29) := ⟨tn_9, tj_7 _ (List.mem_of_getElem? (i := 47) rfl), tj_9 _ (List.mem_of_getElem? (i := 11) rfl), tj_9 _ (List.mem_of_getElem? (i := 12) rfl)⟩
theorem lw_p100 : lw_okq (⟨"UnaskedNameModel", "noName", "(I)Z"⟩, 29) := ⟨tn_9, tj_7 _ (List.mem_of_getElem? (i := 47) rfl), tj_9 _ (List.mem_of_getElem? (i := 27) rfl), tj_9 _ (List.mem_of_getElem? (i := 28) rfl)⟩
theorem lw_p101 : lw_okq (⟨"UnaskedNameModel", "goesBy", "(I)I"⟩, 29) := ⟨tn_9, tj_7 _ (List.mem_of_getElem? (i := 47) rfl), tj_9 _ (List.mem_of_getElem? (i := 42) rfl), tj_9 _ (List.mem_of_getElem? (i := 43) rfl)⟩
theorem lw_p102 : lw_okq (⟨"UnaskedNameModel", "isOver", "()Z"⟩, 29) := ⟨tn_9, tj_7 _ (List.mem_of_getElem? (i := 47) rfl), tj_9 _ (List.mem_of_getElem? (i := 46) rfl), tj_9 _ (List.mem_of_getElem? (i := 47) rfl)⟩
theorem lw_p103 : lw_okq (⟨"UnaskedNameModel", "oneNight", "()V"⟩, 29) := ⟨tn_9, tj_7 _ (List.mem_of_getElem? (i := 47) rfl), tj_9 _ (List.mem_of_getElem? (i := 50) rfl), tj_9 _ (List.mem_of_getElem? (i := 51) rfl)⟩
theorem lw_p104 : lw_okq (⟨"UnaskedNameModel", "drawn", "(I)I"⟩, 29) := ⟨tn_9, tj_7 _ (List.mem_of_getElem? (i := 47) rfl), tj_9 _ (List.mem_of_getElem? (i := 54) rfl), tj_9 _ (List.mem_of_getElem? (i := 55) rfl)⟩
theorem lw_p105 : lw_okq (⟨"UnaskedNameModel", "noDeedTold", "(I)Z"⟩, 29) := ⟨tn_9, tj_7 _ (List.mem_of_getElem? (i := 47) rfl), tj_9 _ (List.mem_of_getElem? (i := 63) rfl), tj_9 _ (List.mem_of_getElem? (i := 64) rfl)⟩
theorem lw_p106 : lw_okq (⟨"UnaskedNameModel", "keepsAll", "()V"⟩, 29) := ⟨tn_9, tj_7 _ (List.mem_of_getElem? (i := 47) rfl), tj_9 _ (List.mem_of_getElem? (i := 67) rfl), tj_9 _ (List.mem_of_getElem? (i := 68) rfl)⟩
theorem lw_p107 : lw_okq (⟨"UnaskedNameModel", "calmNight", "(I)V"⟩, 29) := ⟨tn_9, tj_7 _ (List.mem_of_getElem? (i := 47) rfl), tj_9 _ (List.mem_of_getElem? (i := 71) rfl), tj_9 _ (List.mem_of_getElem? (i := 72) rfl)⟩
theorem lw_p108 : lw_okq (⟨"UnaskedNameModel", "bringsBack", "()V"⟩, 29) := ⟨tn_9, tj_7 _ (List.mem_of_getElem? (i := 47) rfl), tj_9 _ (List.mem_of_getElem? (i := 75) rfl), tj_9 _ (List.mem_of_getElem? (i := 76) rfl)⟩
theorem lw_p109 : lw_okq (⟨"UnaskedNameModel", "nearOnes", "()I"⟩, 29) := ⟨tn_9, tj_7 _ (List.mem_of_getElem? (i := 47) rfl), tj_9 _ (List.mem_of_getElem? (i := 91) rfl), tj_9 _ (List.mem_of_getElem? (i := 92) rfl)⟩
theorem lw_p110 : lw_okq (⟨"UnaskedNameModel", "siegeOf", "(I)I"⟩, 29) := ⟨tn_9, tj_7 _ (List.mem_of_getElem? (i := 47) rfl), tj_9 _ (List.mem_of_getElem? (i := 102) rfl), tj_9 _ (List.mem_of_getElem? (i := 103) rfl)⟩
theorem lw_p111 : lw_okq (⟨"UnaskedNameModel", "laysTill", "(II)V"⟩, 29) := ⟨tn_9, tj_7 _ (List.mem_of_getElem? (i := 47) rfl), tj_9 _ (List.mem_of_getElem? (i := 107) rfl), tj_9 _ (List.mem_of_getElem? (i := 108) rfl)⟩
def lw_privs_7 : List (MethodName × Nat) := [(⟨"UnaskedNameModel", "says", "(II)V"⟩, 29), (⟨"UnaskedNameModel", "tells", "(II)V"⟩, 29), (⟨"UnaskedNameModel", "isDone", "(I)V"⟩, 29), (⟨"UnaskedNameModel", "behindDeed", "(I)I"⟩, 29), (⟨"UnaskedNameModel", "noName", "(I)Z"⟩, 29), (⟨"UnaskedNameModel", "goesBy", "(I)I"⟩, 29), (⟨"UnaskedNameModel", "isOver", "()Z"⟩, 29), (⟨"UnaskedNameModel", "oneNight", "()V"⟩, 29), (⟨"UnaskedNameModel", "drawn", "(I)I"⟩, 29), (⟨"UnaskedNameModel", "noDeedTold", "(I)Z"⟩, 29), (⟨"UnaskedNameModel", "keepsAll", "()V"⟩, 29), (⟨"UnaskedNameModel", "calmNight", "(I)V"⟩, 29), (⟨"UnaskedNameModel", "bringsBack", "()V"⟩, 29), (⟨"UnaskedNameModel", "nearOnes", "()I"⟩, 29), (⟨"UnaskedNameModel", "siegeOf", "(I)I"⟩, 29), (⟨"UnaskedNameModel", "laysTill", "(II)V"⟩, 29)]
theorem lw_r7 : ∀ q ∈ lw_privs_7, lw_okq q := List.forall_mem_cons.mpr ⟨lw_p96, List.forall_mem_cons.mpr ⟨lw_p97, List.forall_mem_cons.mpr ⟨lw_p98, List.forall_mem_cons.mpr ⟨lw_p99, List.forall_mem_cons.mpr ⟨lw_p100, List.forall_mem_cons.mpr ⟨lw_p101, List.forall_mem_cons.mpr ⟨lw_p102, List.forall_mem_cons.mpr ⟨lw_p103, List.forall_mem_cons.mpr ⟨lw_p104, List.forall_mem_cons.mpr ⟨lw_p105, List.forall_mem_cons.mpr ⟨lw_p106, List.forall_mem_cons.mpr ⟨lw_p107, List.forall_mem_cons.mpr ⟨lw_p108, List.forall_mem_cons.mpr ⟨lw_p109, List.forall_mem_cons.mpr ⟨lw_p110, List.forall_mem_cons.mpr ⟨lw_p111, fun _ h => absurd h List.not_mem_nil⟩⟩⟩⟩⟩⟩⟩⟩⟩⟩⟩⟩⟩⟩⟩⟩
theorem lw_p112 : lw_okq (⟨"UnaskedNameModel", "leastTill", "(II)I"⟩, 29) := ⟨tn_9, tj_7 _ (List.mem_of_getElem? (i := 47) rfl), tj_9 _ (List.mem_of_getElem? (i := 111) rfl), tj_9 _ (List.mem_of_getElem? (i := 112) rfl)⟩
theorem lw_p113 : lw_okq (⟨"UnaskedNameModel", "behindDeeds", "(II)I"⟩, 29) := ⟨tn_9, tj_7 _ (List.mem_of_getElem? (i := 47) rfl), tj_9 _ (List.mem_of_getElem? (i := 115) rfl), tj_9 _ (List.mem_of_getElem? (i := 116) rfl)⟩
theorem lw_p114 : lw_okq (⟨"UnaskedNameModel", "tillOf", "(II)I"⟩, 29) := ⟨tn_9, tj_7 _ (List.mem_of_getElem? (i := 47) rfl), tj_9 _ (List.mem_of_getElem? (i := 119) rfl), tj_9 _ (List.mem_of_getElem? (i := 120) rfl)⟩
theorem lw_p115 : lw_okq (⟨"UnaskedNameModel", "isEnemy", "(I)Z"⟩, 29) := ⟨tn_9, tj_7 _ (List.mem_of_getElem? (i := 47) rfl), tj_9 _ (List.mem_of_getElem? (i := 123) rfl), tj_9 _ (List.mem_of_getElem? (i := 124) rfl)⟩
theorem lw_p116 : lw_okq (⟨"UnaskedNameModel", "tillBy", "(IIII)I"⟩, 29) := ⟨tn_9, tj_7 _ (List.mem_of_getElem? (i := 47) rfl), tj_9 _ (List.mem_of_getElem? (i := 127) rfl), tj_9 _ (List.mem_of_getElem? (i := 128) rfl)⟩
theorem lw_p117 : lw_okq (⟨"UnaskedNameModel", "bestDeed", "(II)I"⟩, 29) := ⟨tn_9, tj_7 _ (List.mem_of_getElem? (i := 47) rfl), tj_9 _ (List.mem_of_getElem? (i := 139) rfl), tj_9 _ (List.mem_of_getElem? (i := 140) rfl)⟩
theorem lw_p118 : lw_okq (⟨"UnaskedNameModel", "asksBy", "(III)Z"⟩, 29) := ⟨tn_9, tj_7 _ (List.mem_of_getElem? (i := 47) rfl), tj_9 _ (List.mem_of_getElem? (i := 147) rfl), tj_9 _ (List.mem_of_getElem? (i := 148) rfl)⟩
theorem lw_p119 : lw_okq (⟨"UnaskedNameModel", "possibleBy", "(I)I"⟩, 29) := ⟨tn_9, tj_7 _ (List.mem_of_getElem? (i := 47) rfl), tj_9 _ (List.mem_of_getElem? (i := 151) rfl), tj_9 _ (List.mem_of_getElem? (i := 152) rfl)⟩
theorem lw_p120 : lw_okq (⟨"UnaskedNameModel", "beliefOf", "(I)I"⟩, 29) := ⟨tn_9, tj_7 _ (List.mem_of_getElem? (i := 47) rfl), tj_9 _ (List.mem_of_getElem? (i := 159) rfl), tj_9 _ (List.mem_of_getElem? (i := 160) rfl)⟩
theorem lw_p121 : lw_okq (⟨"UnaskedNameModel", "creditOf", "(I)I"⟩, 29) := ⟨tn_9, tj_7 _ (List.mem_of_getElem? (i := 47) rfl), tj_9 _ (List.mem_of_getElem? (i := 163) rfl), tj_9 _ (List.mem_of_getElem? (i := 164) rfl)⟩
theorem lw_p122 : lw_okq (⟨"UnaskedNameModel", "whoHave", "(I)I"⟩, 29) := ⟨tn_9, tj_7 _ (List.mem_of_getElem? (i := 47) rfl), tj_9 _ (List.mem_of_getElem? (i := 171) rfl), tj_9 _ (List.mem_of_getElem? (i := 172) rfl)⟩
theorem lw_p123 : lw_okq (⟨"UnaskedNameModel", "crumbsOf", "(I)I"⟩, 29) := ⟨tn_9, tj_7 _ (List.mem_of_getElem? (i := 47) rfl), tj_9 _ (List.mem_of_getElem? (i := 191) rfl), tj_9 _ (List.mem_of_getElem? (i := 192) rfl)⟩
theorem lw_p124 : lw_okq (⟨"UnaskedNameModel", "doneBy", "(I)I"⟩, 29) := ⟨tn_9, tj_7 _ (List.mem_of_getElem? (i := 47) rfl), tj_9 _ (List.mem_of_getElem? (i := 219) rfl), tj_9 _ (List.mem_of_getElem? (i := 220) rfl)⟩
theorem lw_p125 : lw_okq (⟨"UnaskedNameModel", "allDuties", "()I"⟩, 29) := ⟨tn_9, tj_7 _ (List.mem_of_getElem? (i := 47) rfl), tj_9 _ (List.mem_of_getElem? (i := 227) rfl), tj_9 _ (List.mem_of_getElem? (i := 228) rfl)⟩
theorem lw_p126 : lw_okq (⟨"UnaskedNameModel", "ofLog", "(II)I"⟩, 29) := ⟨tn_9, tj_7 _ (List.mem_of_getElem? (i := 47) rfl), tj_10 _ (List.mem_of_getElem? (i := 3) rfl), tj_10 _ (List.mem_of_getElem? (i := 4) rfl)⟩
theorem lw_p127 : lw_okq (⟨"UnaskedNameModel", "recordsOf", "(I)I"⟩, 29) := ⟨tn_9, tj_7 _ (List.mem_of_getElem? (i := 47) rfl), tj_10 _ (List.mem_of_getElem? (i := 11) rfl), tj_10 _ (List.mem_of_getElem? (i := 12) rfl)⟩
def lw_privs_8 : List (MethodName × Nat) := [(⟨"UnaskedNameModel", "leastTill", "(II)I"⟩, 29), (⟨"UnaskedNameModel", "behindDeeds", "(II)I"⟩, 29), (⟨"UnaskedNameModel", "tillOf", "(II)I"⟩, 29), (⟨"UnaskedNameModel", "isEnemy", "(I)Z"⟩, 29), (⟨"UnaskedNameModel", "tillBy", "(IIII)I"⟩, 29), (⟨"UnaskedNameModel", "bestDeed", "(II)I"⟩, 29), (⟨"UnaskedNameModel", "asksBy", "(III)Z"⟩, 29), (⟨"UnaskedNameModel", "possibleBy", "(I)I"⟩, 29), (⟨"UnaskedNameModel", "beliefOf", "(I)I"⟩, 29), (⟨"UnaskedNameModel", "creditOf", "(I)I"⟩, 29), (⟨"UnaskedNameModel", "whoHave", "(I)I"⟩, 29), (⟨"UnaskedNameModel", "crumbsOf", "(I)I"⟩, 29), (⟨"UnaskedNameModel", "doneBy", "(I)I"⟩, 29), (⟨"UnaskedNameModel", "allDuties", "()I"⟩, 29), (⟨"UnaskedNameModel", "ofLog", "(II)I"⟩, 29), (⟨"UnaskedNameModel", "recordsOf", "(I)I"⟩, 29)]
theorem lw_r8 : ∀ q ∈ lw_privs_8, lw_okq q := List.forall_mem_cons.mpr ⟨lw_p112, List.forall_mem_cons.mpr ⟨lw_p113, List.forall_mem_cons.mpr ⟨lw_p114, List.forall_mem_cons.mpr ⟨lw_p115, List.forall_mem_cons.mpr ⟨lw_p116, List.forall_mem_cons.mpr ⟨lw_p117, List.forall_mem_cons.mpr ⟨lw_p118, List.forall_mem_cons.mpr ⟨lw_p119, List.forall_mem_cons.mpr ⟨lw_p120, List.forall_mem_cons.mpr ⟨lw_p121, List.forall_mem_cons.mpr ⟨lw_p122, List.forall_mem_cons.mpr ⟨lw_p123, List.forall_mem_cons.mpr ⟨lw_p124, List.forall_mem_cons.mpr ⟨lw_p125, List.forall_mem_cons.mpr ⟨lw_p126, List.forall_mem_cons.mpr ⟨lw_p127, fun _ h => absurd h List.not_mem_nil⟩⟩⟩⟩⟩⟩⟩⟩⟩⟩⟩⟩⟩⟩⟩⟩
def lw_privs : List (MethodName × Nat) := lw_privs_1 ++ (lw_privs_2 ++ (lw_privs_3 ++ (lw_privs_4 ++ (lw_privs_5 ++ (lw_privs_6 ++ (lw_privs_7 ++ (lw_privs_8)))))))
def lw_tbl : List Cond := k2_sels lw_privs ++ tables_1
theorem lw_privs_ok : ∀ q ∈ lw_privs, lw_okq q := by
  show ∀ q ∈ lw_privs_1 ++ (lw_privs_2 ++ (lw_privs_3 ++ (lw_privs_4 ++ (lw_privs_5 ++ (lw_privs_6 ++ (lw_privs_7 ++ (lw_privs_8))))))), lw_okq q
  exact List.forall_mem_append.mpr ⟨lw_r1, List.forall_mem_append.mpr ⟨lw_r2, List.forall_mem_append.mpr ⟨lw_r3, List.forall_mem_append.mpr ⟨lw_r4, List.forall_mem_append.mpr ⟨lw_r5, List.forall_mem_append.mpr ⟨lw_r6, List.forall_mem_append.mpr ⟨lw_r7, lw_r8⟩⟩⟩⟩⟩⟩⟩
def RX0 : String := "UnaskedName$Law"
def TX0 : u_T := fun k => match k with
  | 0 => ("UnaskedName$Law", "lines", "I", false)
  | 1 => ("UnaskedName$Law", "size", "I", false)
  | 2 => ("UnaskedName$Law", "kinds", "[I", true)
  | 3 => ("UnaskedName$Law", "amounts", "[I", true)
  | 4 => ("UnaskedName$Law", "ends", "[I", true)
  | 5 => ("UnaskedName$Law", "steps", "[I", true)
  | 6 => ("UnaskedName$Law", "sight", "[I", true)
  | _ => ("UnaskedName$Law", "tellsTrue", "Z", false)
def tyX0 : Nat → FieldType := fun k => match k with
  | 0 => .int
  | 1 => .int
  | 2 => .array .int
  | 3 => .array .int
  | 4 => .array .int
  | 5 => .array .int
  | 6 => .array .int
  | _ => .boolean
abbrev wsX00 : List Cond := u_ws RX0 TX0 8
theorem nmX0 : ∀ a, a < 8 → ∀ b, b < 8 → a ≠ b → (TX0 a).2.1 ≠ (TX0 b).2.1 := by decide +kernel
theorem tyX0_ok : ∀ k, k < 8 → parseFieldDescriptor (TX0 k).2.2.1 = some (tyX0 k) := by decide +kernel
abbrev cX0_init : ByteArray := prog_2_method_1_code
def yX0_init : MethodName := ⟨RX0, "<init>", "()V"⟩
abbrev cX0_copyFrom : ByteArray := prog_2_method_2_code
def yX0_copyFrom : MethodName := ⟨RX0, "copyFrom", "(LUnaskedName$Law;)V"⟩
abbrev cX0_clear : ByteArray := prog_2_method_3_code
def yX0_clear : MethodName := ⟨RX0, "clear", "()V"⟩
abbrev cX0_addStep : ByteArray := prog_2_method_4_code
def yX0_addStep : MethodName := ⟨RX0, "addStep", "(I)V"⟩
abbrev cX0_addLine : ByteArray := prog_2_method_5_code
def yX0_addLine : MethodName := ⟨RX0, "addLine", "(II)V"⟩
abbrev cX0_lookAt : ByteArray := prog_2_method_6_code
def yX0_lookAt : MethodName := ⟨RX0, "lookAt", "(LUnaskedName$Mind;IIIZ)V"⟩
abbrev cX0_sumOf : ByteArray := prog_2_method_7_code
def yX0_sumOf : MethodName := ⟨RX0, "sumOf", "(I)I"⟩
abbrev cX0_holds : ByteArray := prog_2_method_8_code
def yX0_holds : MethodName := ⟨RX0, "holds", "(II)Z"⟩
def RX1 : String := "UnaskedName$LawReader"
def TX1 : u_T := fun k => match k with
  | 0 => ("UnaskedName$LawReader", "state", "I", false)
  | 1 => ("UnaskedName$LawReader", "kind", "I", false)
  | 2 => ("UnaskedName$LawReader", "signOfAmount", "I", false)
  | 3 => ("UnaskedName$LawReader", "amount", "I", false)
  | 4 => ("UnaskedName$LawReader", "comparison", "I", false)
  | 5 => ("UnaskedName$LawReader", "depth", "I", false)
  | 6 => ("UnaskedName$LawReader", "waitingCount", "I", false)
  | _ => ("UnaskedName$LawReader", "waiting", "[I", true)
def tyX1 : Nat → FieldType := fun k => match k with
  | 0 => .int
  | 1 => .int
  | 2 => .int
  | 3 => .int
  | 4 => .int
  | 5 => .int
  | 6 => .int
  | _ => .array .int
abbrev wsX10 : List Cond := u_ws RX1 TX1 8
theorem nmX1 : ∀ a, a < 8 → ∀ b, b < 8 → a ≠ b → (TX1 a).2.1 ≠ (TX1 b).2.1 := by decide +kernel
theorem tyX1_ok : ∀ k, k < 8 → parseFieldDescriptor (TX1 k).2.2.1 = some (tyX1 k) := by decide +kernel
abbrev cX1_init : ByteArray := prog_3_method_1_code
def yX1_init : MethodName := ⟨RX1, "<init>", "()V"⟩
abbrev cX1_reads : ByteArray := prog_3_method_2_code
def yX1_reads : MethodName := ⟨RX1, "reads", "(LUnaskedName$Tape;LUnaskedName$Law;)Z"⟩
abbrev cX1_takes : ByteArray := prog_3_method_3_code
def yX1_takes : MethodName := ⟨RX1, "takes", "(LUnaskedName$Tape;LUnaskedName$Law;)Z"⟩
abbrev cX1_takesKind : ByteArray := prog_3_method_4_code
def yX1_takesKind : MethodName := ⟨RX1, "takesKind", "(LUnaskedName$Tape;)Z"⟩
abbrev cX1_takesAtom : ByteArray := prog_3_method_5_code
def yX1_takesAtom : MethodName := ⟨RX1, "takesAtom", "(LUnaskedName$Tape;LUnaskedName$Law;)Z"⟩
abbrev cX1_takesPart : ByteArray := prog_3_method_6_code
def yX1_takesPart : MethodName := ⟨RX1, "takesPart", "(LUnaskedName$Tape;LUnaskedName$Law;)Z"⟩
abbrev cX1_partAt : ByteArray := prog_3_method_7_code
def yX1_partAt : MethodName := ⟨RX1, "partAt", "(LUnaskedName$Tape;)I"⟩
abbrev cX1_takesComparison : ByteArray := prog_3_method_8_code
def yX1_takesComparison : MethodName := ⟨RX1, "takesComparison", "(LUnaskedName$Tape;LUnaskedName$Law;)Z"⟩
abbrev cX1_takesJoint : ByteArray := prog_3_method_9_code
def yX1_takesJoint : MethodName := ⟨RX1, "takesJoint", "(LUnaskedName$Tape;LUnaskedName$Law;)Z"⟩
abbrev cX1_release : ByteArray := prog_3_method_10_code
def yX1_release : MethodName := ⟨RX1, "release", "(LUnaskedName$Law;I)V"⟩
abbrev cX1_endAtom : ByteArray := prog_3_method_11_code
def yX1_endAtom : MethodName := ⟨RX1, "endAtom", "(LUnaskedName$Law;)V"⟩
abbrev cX1_endsLine : ByteArray := prog_3_method_12_code
def yX1_endsLine : MethodName := ⟨RX1, "endsLine", "(LUnaskedName$Law;)Z"⟩
abbrev cX1_pushWaiting : ByteArray := prog_3_method_13_code
def yX1_pushWaiting : MethodName := ⟨RX1, "pushWaiting", "(I)V"⟩
abbrev cX1_topWaiting : ByteArray := prog_3_method_14_code
def yX1_topWaiting : MethodName := ⟨RX1, "topWaiting", "()I"⟩
def RX2 : String := "UnaskedName$Log"
def TX2 : u_T := fun k => match k with
  | 0 => ("UnaskedName$Log", "size", "I", false)
  | 1 => ("UnaskedName$Log", "newest", "I", false)
  | _ => ("UnaskedName$Log", "packed", "[I", true)
def tyX2 : Nat → FieldType := fun k => match k with
  | 0 => .int
  | 1 => .int
  | _ => .array .int
abbrev wsX20 : List Cond := u_ws RX2 TX2 3
theorem nmX2 : ∀ a, a < 3 → ∀ b, b < 3 → a ≠ b → (TX2 a).2.1 ≠ (TX2 b).2.1 := by decide +kernel
theorem tyX2_ok : ∀ k, k < 3 → parseFieldDescriptor (TX2 k).2.2.1 = some (tyX2 k) := by decide +kernel
abbrev cX2_init : ByteArray := prog_4_method_1_code
def yX2_init : MethodName := ⟨RX2, "<init>", "()V"⟩
abbrev cX2_copyFrom : ByteArray := prog_4_method_2_code
def yX2_copyFrom : MethodName := ⟨RX2, "copyFrom", "(LUnaskedName$Log;)V"⟩
abbrev cX2_add : ByteArray := prog_4_method_3_code
def yX2_add : MethodName := ⟨RX2, "add", "(LUnaskedName$Mind;II)V"⟩
abbrev cX2_part : ByteArray := prog_4_method_4_code
def yX2_part : MethodName := ⟨RX2, "part", "(II)I"⟩
abbrev cX2_streakAbove : ByteArray := prog_4_method_5_code
def yX2_streakAbove : MethodName := ⟨RX2, "streakAbove", "(I)I"⟩
abbrev cX2_recordsOf : ByteArray := prog_4_method_6_code
def yX2_recordsOf : MethodName := ⟨RX2, "recordsOf", "(I)I"⟩
abbrev cX2_rowsOf : ByteArray := prog_4_method_7_code
def yX2_rowsOf : MethodName := ⟨RX2, "rowsOf", "(II)I"⟩
def RX3 : String := "UnaskedName$Mind"
def TX3 : u_T := fun k => match k with
  | 0 => ("UnaskedName$Mind", "doubt", "I", false)
  | 1 => ("UnaskedName$Mind", "night", "I", false)
  | 2 => ("UnaskedName$Mind", "bearer", "I", false)
  | 3 => ("UnaskedName$Mind", "possible", "I", false)
  | 4 => ("UnaskedName$Mind", "near", "I", false)
  | 5 => ("UnaskedName$Mind", "draws", "I", false)
  | 6 => ("UnaskedName$Mind", "asked", "Z", false)
  | 7 => ("UnaskedName$Mind", "habits", "[I", true)
  | _ => ("UnaskedName$Mind", "spoken", "LUnaskedName$Log;", true)
def tyX3 : Nat → FieldType := fun k => match k with
  | 0 => .int
  | 1 => .int
  | 2 => .int
  | 3 => .int
  | 4 => .int
  | 5 => .int
  | 6 => .boolean
  | 7 => .array .int
  | _ => .object "UnaskedName$Log"
abbrev wsX30 : List Cond := u_ws RX3 TX3 9
theorem nmX3 : ∀ a, a < 9 → ∀ b, b < 9 → a ≠ b → (TX3 a).2.1 ≠ (TX3 b).2.1 := by decide +kernel
theorem tyX3_ok : ∀ k, k < 9 → parseFieldDescriptor (TX3 k).2.2.1 = some (tyX3 k) := by decide +kernel
abbrev cX3_init : ByteArray := prog_5_method_1_code
def yX3_init : MethodName := ⟨RX3, "<init>", "()V"⟩
abbrev cX3_copyFrom : ByteArray := prog_5_method_2_code
def yX3_copyFrom : MethodName := ⟨RX3, "copyFrom", "(LUnaskedName$Mind;)V"⟩
abbrev cX3_copyThoughtFrom : ByteArray := prog_5_method_3_code
def yX3_copyThoughtFrom : MethodName := ⟨RX3, "copyThoughtFrom", "(LUnaskedName$Mind;)V"⟩
abbrev cX3_setHabit : ByteArray := prog_5_method_4_code
def yX3_setHabit : MethodName := ⟨RX3, "setHabit", "(II)V"⟩
abbrev cX3_tellBearer : ByteArray := prog_5_method_5_code
def yX3_tellBearer : MethodName := ⟨RX3, "tellBearer", "(II)V"⟩
abbrev cX3_draw : ByteArray := prog_5_method_6_code
def yX3_draw : MethodName := ⟨RX3, "draw", "()I"⟩
def RX4 : String := "UnaskedName$Past"
def TX4 : u_T := fun k => match k with
  | 0 => ("UnaskedName$Past", "size", "I", false)
  | 1 => ("UnaskedName$Past", "newest", "I", false)
  | _ => ("UnaskedName$Past", "before", "[LUnaskedName$Mind;", true)
def tyX4 : Nat → FieldType := fun k => match k with
  | 0 => .int
  | 1 => .int
  | _ => .array (.object "UnaskedName$Mind")
abbrev wsX40 : List Cond := u_ws RX4 TX4 3
theorem nmX4 : ∀ a, a < 3 → ∀ b, b < 3 → a ≠ b → (TX4 a).2.1 ≠ (TX4 b).2.1 := by decide +kernel
theorem tyX4_ok : ∀ k, k < 3 → parseFieldDescriptor (TX4 k).2.2.1 = some (tyX4 k) := by decide +kernel
abbrev cX4_init : ByteArray := prog_6_method_1_code
def yX4_init : MethodName := ⟨RX4, "<init>", "()V"⟩
abbrev cX4_forget : ByteArray := prog_6_method_2_code
def yX4_forget : MethodName := ⟨RX4, "forget", "()V"⟩
abbrev cX4_remember : ByteArray := prog_6_method_3_code
def yX4_remember : MethodName := ⟨RX4, "remember", "(LUnaskedName$Mind;)V"⟩
abbrev cX4_recall : ByteArray := prog_6_method_4_code
def yX4_recall : MethodName := ⟨RX4, "recall", "(LUnaskedName$Mind;)Z"⟩
abbrev cX4_newestRow : ByteArray := prog_6_method_5_code
def yX4_newestRow : MethodName := ⟨RX4, "newestRow", "()LUnaskedName$Mind;"⟩
def RX5 : String := "UnaskedName$Rows"
def TX5 : u_T := fun k => match k with
  | 0 => ("UnaskedName$Rows", "dream", "LUnaskedName$Mind;", true)
  | 1 => ("UnaskedName$Rows", "seen", "[J", true)
  | 2 => ("UnaskedName$Rows", "reached", "[J", true)
  | _ => ("UnaskedName$Rows", "next", "[J", true)
def tyX5 : Nat → FieldType := fun k => match k with
  | 0 => .object "UnaskedName$Mind"
  | 1 => .array .long
  | 2 => .array .long
  | _ => .array .long
abbrev wsX50 : List Cond := u_ws RX5 TX5 4
theorem nmX5 : ∀ a, a < 4 → ∀ b, b < 4 → a ≠ b → (TX5 a).2.1 ≠ (TX5 b).2.1 := by decide +kernel
theorem tyX5_ok : ∀ k, k < 4 → parseFieldDescriptor (TX5 k).2.2.1 = some (tyX5 k) := by decide +kernel
abbrev cX5_init : ByteArray := prog_7_method_1_code
def yX5_init : MethodName := ⟨RX5, "<init>", "()V"⟩
abbrev cX5_shortest : ByteArray := prog_7_method_2_code
def yX5_shortest : MethodName := ⟨RX5, "shortest", "(LUnaskedName$World;I)I"⟩
abbrev cX5_open : ByteArray := prog_7_method_3_code
def yX5_open : MethodName := ⟨RX5, "open", "(LUnaskedName$Mind;)V"⟩
abbrev cX5_oneWordMore : ByteArray := prog_7_method_4_code
def yX5_oneWordMore : MethodName := ⟨RX5, "oneWordMore", "(LUnaskedName$World;I)Z"⟩
abbrev cX5_asksFrom : ByteArray := prog_7_method_5_code
def yX5_asksFrom : MethodName := ⟨RX5, "asksFrom", "(LUnaskedName$World;III)Z"⟩
abbrev cX5_toldWith : ByteArray := prog_7_method_6_code
def yX5_toldWith : MethodName := ⟨RX5, "toldWith", "(LUnaskedName$World;II)I"⟩
abbrev cX5_reach : ByteArray := prog_7_method_7_code
def yX5_reach : MethodName := ⟨RX5, "reach", "(II)V"⟩
def RX6 : String := "UnaskedName$Siege"
def TX6 : u_T := fun k => match k with
  | 0 => ("UnaskedName$Siege", "dream", "LUnaskedName$Mind;", true)
  | 1 => ("UnaskedName$Siege", "sureFrom", "[I", true)
  | 2 => ("UnaskedName$Siege", "sureBehind", "[I", true)
  | 3 => ("UnaskedName$Siege", "today", "I", false)
  | _ => ("UnaskedName$Siege", "nightCount", "I", false)
def tyX6 : Nat → FieldType := fun k => match k with
  | 0 => .object "UnaskedName$Mind"
  | 1 => .array .int
  | 2 => .array .int
  | 3 => .int
  | _ => .int
abbrev wsX60 : List Cond := u_ws RX6 TX6 5
theorem nmX6 : ∀ a, a < 5 → ∀ b, b < 5 → a ≠ b → (TX6 a).2.1 ≠ (TX6 b).2.1 := by decide +kernel
theorem tyX6_ok : ∀ k, k < 5 → parseFieldDescriptor (TX6 k).2.2.1 = some (tyX6 k) := by decide +kernel
abbrev cX6_init : ByteArray := prog_8_method_1_code
def yX6_init : MethodName := ⟨RX6, "<init>", "()V"⟩
abbrev cX6_fewestNights : ByteArray := prog_8_method_2_code
def yX6_fewestNights : MethodName := ⟨RX6, "fewestNights", "(LUnaskedName$World;I)I"⟩
abbrev cX6_opening : ByteArray := prog_8_method_3_code
def yX6_opening : MethodName := ⟨RX6, "opening", "(LUnaskedName$World;I)I"⟩
abbrev cX6_bestDefence : ByteArray := prog_8_method_4_code
def yX6_bestDefence : MethodName := ⟨RX6, "bestDefence", "(LUnaskedName$World;II)I"⟩
abbrev cX6_open : ByteArray := prog_8_method_5_code
def yX6_open : MethodName := ⟨RX6, "open", "(LUnaskedName$World;I)V"⟩
abbrev cX6_fewestFrom : ByteArray := prog_8_method_6_code
def yX6_fewestFrom : MethodName := ⟨RX6, "fewestFrom", "(LUnaskedName$World;II)I"⟩
abbrev cX6_fewestWith : ByteArray := prog_8_method_7_code
def yX6_fewestWith : MethodName := ⟨RX6, "fewestWith", "(LUnaskedName$World;IIII)I"⟩
abbrev cX6_latestBehind : ByteArray := prog_8_method_8_code
def yX6_latestBehind : MethodName := ⟨RX6, "latestBehind", "(LUnaskedName$World;II)I"⟩
abbrev cX6_easedOn : ByteArray := prog_8_method_9_code
def yX6_easedOn : MethodName := ⟨RX6, "easedOn", "(LUnaskedName$World;III)I"⟩
abbrev cX6_isEnemyNear : ByteArray := prog_8_method_10_code
def yX6_isEnemyNear : MethodName := ⟨RX6, "isEnemyNear", "(LUnaskedName$World;I)Z"⟩
abbrev cX6_oneMore : ByteArray := prog_8_method_11_code
def yX6_oneMore : MethodName := ⟨RX6, "oneMore", "(I)I"⟩
def RX7 : String := "UnaskedName$StoryReader"
def TX7 : u_T := fun k => match k with
  | _ => ("", "", "", false)
def tyX7 : Nat → FieldType := fun k => match k with
  | _ => .int
abbrev wsX70 : List Cond := u_ws RX7 TX7 0
theorem nmX7 : ∀ a, a < 0 → ∀ b, b < 0 → a ≠ b → (TX7 a).2.1 ≠ (TX7 b).2.1 := by decide +kernel
theorem tyX7_ok : ∀ k, k < 0 → parseFieldDescriptor (TX7 k).2.2.1 = some (tyX7 k) := by decide +kernel
abbrev cX7_reads : ByteArray := prog_9_method_2_code
def yX7_reads : MethodName := ⟨RX7, "reads", "(LUnaskedName$Tape;LUnaskedName$World;)Z"⟩
abbrev cX7_readsLine : ByteArray := prog_9_method_3_code
def yX7_readsLine : MethodName := ⟨RX7, "readsLine", "(LUnaskedName$Tape;LUnaskedName$World;)Z"⟩
abbrev cX7_readsName : ByteArray := prog_9_method_4_code
def yX7_readsName : MethodName := ⟨RX7, "readsName", "(LUnaskedName$Tape;LUnaskedName$World;)Z"⟩
abbrev cX7_readsWord : ByteArray := prog_9_method_5_code
def yX7_readsWord : MethodName := ⟨RX7, "readsWord", "(LUnaskedName$Tape;LUnaskedName$Tale;)Z"⟩
abbrev cX7_readsDeed : ByteArray := prog_9_method_6_code
def yX7_readsDeed : MethodName := ⟨RX7, "readsDeed", "(LUnaskedName$Tape;LUnaskedName$Tale;)Z"⟩
abbrev cX7_readsMember : ByteArray := prog_9_method_7_code
def yX7_readsMember : MethodName := ⟨RX7, "readsMember", "(LUnaskedName$Tape;LUnaskedName$World;I)Z"⟩
abbrev cX7_readsDuty : ByteArray := prog_9_method_8_code
def yX7_readsDuty : MethodName := ⟨RX7, "readsDuty", "(LUnaskedName$Tape;LUnaskedName$Tale;)Z"⟩
abbrev cX7_readsSetting : ByteArray := prog_9_method_9_code
def yX7_readsSetting : MethodName := ⟨RX7, "readsSetting", "(LUnaskedName$Tape;LUnaskedName$World;)Z"⟩
def RX8 : String := "UnaskedName$Tale"
def TX8 : u_T := fun k => match k with
  | 0 => ("UnaskedName$Tale", "texts", "I", false)
  | 1 => ("UnaskedName$Tale", "names", "I", false)
  | 2 => ("UnaskedName$Tale", "words", "I", false)
  | 3 => ("UnaskedName$Tale", "deeds", "I", false)
  | 4 => ("UnaskedName$Tale", "members", "I", false)
  | 5 => ("UnaskedName$Tale", "duties", "I", false)
  | 6 => ("UnaskedName$Tale", "limit", "I", false)
  | 7 => ("UnaskedName$Tale", "year", "I", false)
  | 8 => ("UnaskedName$Tale", "talk", "I", false)
  | 9 => ("UnaskedName$Tale", "traits", "[I", true)
  | 10 => ("UnaskedName$Tale", "credit", "[I", true)
  | 11 => ("UnaskedName$Tale", "bearers", "[I", true)
  | 12 => ("UnaskedName$Tale", "sting", "[I", true)
  | 13 => ("UnaskedName$Tale", "tells", "[I", true)
  | 14 => ("UnaskedName$Tale", "soothes", "[I", true)
  | 15 => ("UnaskedName$Tale", "costs", "[I", true)
  | 16 => ("UnaskedName$Tale", "side", "[I", true)
  | _ => ("UnaskedName$Tale", "doers", "[I", true)
def tyX8 : Nat → FieldType := fun k => match k with
  | 0 => .int
  | 1 => .int
  | 2 => .int
  | 3 => .int
  | 4 => .int
  | 5 => .int
  | 6 => .int
  | 7 => .int
  | 8 => .int
  | 9 => .array .int
  | 10 => .array .int
  | 11 => .array .int
  | 12 => .array .int
  | 13 => .array .int
  | 14 => .array .int
  | 15 => .array .int
  | 16 => .array .int
  | _ => .array .int
abbrev wsX80 : List Cond := u_ws RX8 TX8 18
theorem nmX8 : ∀ a, a < 18 → ∀ b, b < 18 → a ≠ b → (TX8 a).2.1 ≠ (TX8 b).2.1 := by decide +kernel
theorem tyX8_ok : ∀ k, k < 18 → parseFieldDescriptor (TX8 k).2.2.1 = some (tyX8 k) := by decide +kernel
abbrev cX8_init : ByteArray := prog_10_method_1_code
def yX8_init : MethodName := ⟨RX8, "<init>", "()V"⟩
abbrev cX8_copyFrom : ByteArray := prog_10_method_2_code
def yX8_copyFrom : MethodName := ⟨RX8, "copyFrom", "(LUnaskedName$Tale;)V"⟩
abbrev cX8_addName : ByteArray := prog_10_method_3_code
def yX8_addName : MethodName := ⟨RX8, "addName", "(II)V"⟩
abbrev cX8_addWord : ByteArray := prog_10_method_4_code
def yX8_addWord : MethodName := ⟨RX8, "addWord", "(II)V"⟩
abbrev cX8_addDeed : ByteArray := prog_10_method_5_code
def yX8_addDeed : MethodName := ⟨RX8, "addDeed", "(II)V"⟩
abbrev cX8_addMember : ByteArray := prog_10_method_6_code
def yX8_addMember : MethodName := ⟨RX8, "addMember", "(I)V"⟩
abbrev cX8_addDuty : ByteArray := prog_10_method_7_code
def yX8_addDuty : MethodName := ⟨RX8, "addDuty", "(I)V"⟩
abbrev cX8_narrowed : ByteArray := prog_10_method_8_code
def yX8_narrowed : MethodName := ⟨RX8, "narrowed", "(III)I"⟩
abbrev cX8_partingTrait : ByteArray := prog_10_method_9_code
def yX8_partingTrait : MethodName := ⟨RX8, "partingTrait", "(I)I"⟩
abbrev cX8_tellingTraits : ByteArray := prog_10_method_10_code
def yX8_tellingTraits : MethodName := ⟨RX8, "tellingTraits", "(II)I"⟩
abbrev cX8_narrowedByAll : ByteArray := prog_10_method_11_code
def yX8_narrowedByAll : MethodName := ⟨RX8, "narrowedByAll", "(III)I"⟩
abbrev cX8_crumbsFor : ByteArray := prog_10_method_12_code
def yX8_crumbsFor : MethodName := ⟨RX8, "crumbsFor", "(I)I"⟩
abbrev cX8_crumbsFrom : ByteArray := prog_10_method_13_code
def yX8_crumbsFrom : MethodName := ⟨RX8, "crumbsFrom", "(II)I"⟩
abbrev cX8_difference : ByteArray := prog_10_method_14_code
def yX8_difference : MethodName := ⟨RX8, "difference", "(II)I"⟩
abbrev cX8_creditOf : ByteArray := prog_10_method_15_code
def yX8_creditOf : MethodName := ⟨RX8, "creditOf", "(I)I"⟩
abbrev cX8_costsOf : ByteArray := prog_10_method_16_code
def yX8_costsOf : MethodName := ⟨RX8, "costsOf", "(I)I"⟩
abbrev cX8_dutiesDone : ByteArray := prog_10_method_17_code
def yX8_dutiesDone : MethodName := ⟨RX8, "dutiesDone", "(I)I"⟩
def RX9 : String := "UnaskedName$Tape"
def TX9 : u_T := fun k => match k with
  | 0 => ("UnaskedName$Tape", "length", "I", false)
  | 1 => ("UnaskedName$Tape", "kind", "I", false)
  | 2 => ("UnaskedName$Tape", "from", "I", false)
  | 3 => ("UnaskedName$Tape", "next", "I", false)
  | 4 => ("UnaskedName$Tape", "value", "I", false)
  | _ => ("UnaskedName$Tape", "bytes", "[B", true)
def tyX9 : Nat → FieldType := fun k => match k with
  | 0 => .int
  | 1 => .int
  | 2 => .int
  | 3 => .int
  | 4 => .int
  | _ => .array .byte
abbrev wsX90 : List Cond := u_ws RX9 TX9 6
theorem nmX9 : ∀ a, a < 6 → ∀ b, b < 6 → a ≠ b → (TX9 a).2.1 ≠ (TX9 b).2.1 := by decide +kernel
theorem tyX9_ok : ∀ k, k < 6 → parseFieldDescriptor (TX9 k).2.2.1 = some (tyX9 k) := by decide +kernel
abbrev cX9_init : ByteArray := prog_11_method_1_code
def yX9_init : MethodName := ⟨RX9, "<init>", "()V"⟩
abbrev cX9_hasRoomForFeed : ByteArray := prog_11_method_2_code
def yX9_hasRoomForFeed : MethodName := ⟨RX9, "hasRoomForFeed", "()Z"⟩
abbrev cX9_put : ByteArray := prog_11_method_3_code
def yX9_put : MethodName := ⟨RX9, "put", "(I)V"⟩
abbrev cX9_open : ByteArray := prog_11_method_4_code
def yX9_open : MethodName := ⟨RX9, "open", "()V"⟩
abbrev cX9_advance : ByteArray := prog_11_method_5_code
def yX9_advance : MethodName := ⟨RX9, "advance", "()V"⟩
abbrev cX9_byteAt : ByteArray := prog_11_method_6_code
def yX9_byteAt : MethodName := ⟨RX9, "byteAt", "(I)I"⟩
abbrev cX9_kindOf : ByteArray := prog_11_method_7_code
def yX9_kindOf : MethodName := ⟨RX9, "kindOf", "(I)I"⟩
abbrev cX9_isWord : ByteArray := prog_11_method_8_code
def yX9_isWord : MethodName := ⟨RX9, "isWord", "(Ljava/lang/String;)Z"⟩
abbrev cX9_isSign : ByteArray := prog_11_method_9_code
def yX9_isSign : MethodName := ⟨RX9, "isSign", "(C)Z"⟩
abbrev cX9_passWord : ByteArray := prog_11_method_10_code
def yX9_passWord : MethodName := ⟨RX9, "passWord", "(Ljava/lang/String;)Z"⟩
abbrev cX9_passSign : ByteArray := prog_11_method_11_code
def yX9_passSign : MethodName := ⟨RX9, "passSign", "(C)Z"⟩
abbrev cX9_numberIn : ByteArray := prog_11_method_12_code
def yX9_numberIn : MethodName := ⟨RX9, "numberIn", "(II)I"⟩
abbrev cX9_passNumber : ByteArray := prog_11_method_13_code
def yX9_passNumber : MethodName := ⟨RX9, "passNumber", "(II)I"⟩
abbrev cX9_passLetters : ByteArray := prog_11_method_14_code
def yX9_passLetters : MethodName := ⟨RX9, "passLetters", "()I"⟩
abbrev cX9_passLetter : ByteArray := prog_11_method_15_code
def yX9_passLetter : MethodName := ⟨RX9, "passLetter", "()I"⟩
def RX10 : String := "UnaskedName$World"
def TX10 : u_T := fun k => match k with
  | 0 => ("UnaskedName$World", "tale", "LUnaskedName$Tale;", true)
  | 1 => ("UnaskedName$World", "law", "LUnaskedName$Law;", true)
  | _ => ("UnaskedName$World", "mind", "LUnaskedName$Mind;", true)
def tyX10 : Nat → FieldType := fun k => match k with
  | 0 => .object "UnaskedName$Tale"
  | 1 => .object "UnaskedName$Law"
  | _ => .object "UnaskedName$Mind"
abbrev wsX100 : List Cond := u_ws RX10 TX10 3
theorem nmX10 : ∀ a, a < 3 → ∀ b, b < 3 → a ≠ b → (TX10 a).2.1 ≠ (TX10 b).2.1 := by decide +kernel
theorem tyX10_ok : ∀ k, k < 3 → parseFieldDescriptor (TX10 k).2.2.1 = some (tyX10 k) := by decide +kernel
abbrev cX10_init : ByteArray := prog_12_method_1_code
def yX10_init : MethodName := ⟨RX10, "<init>", "()V"⟩
abbrev cX10_copyFrom : ByteArray := prog_12_method_2_code
def yX10_copyFrom : MethodName := ⟨RX10, "copyFrom", "(LUnaskedName$World;)V"⟩
abbrev cX10_stingOf : ByteArray := prog_12_method_3_code
def yX10_stingOf : MethodName := ⟨RX10, "stingOf", "(LUnaskedName$Mind;II)I"⟩
abbrev cX10_easeOf : ByteArray := prog_12_method_4_code
def yX10_easeOf : MethodName := ⟨RX10, "easeOf", "(LUnaskedName$Mind;I)I"⟩
abbrev cX10_speak : ByteArray := prog_12_method_5_code
def yX10_speak : MethodName := ⟨RX10, "speak", "(LUnaskedName$Mind;II)V"⟩
abbrev cX10_soothe : ByteArray := prog_12_method_6_code
def yX10_soothe : MethodName := ⟨RX10, "soothe", "(LUnaskedName$Mind;I)V"⟩
abbrev cX10_canNightCome : ByteArray := prog_12_method_7_code
def yX10_canNightCome : MethodName := ⟨RX10, "canNightCome", "(LUnaskedName$Mind;)Z"⟩
abbrev cX10_plainNight : ByteArray := prog_12_method_8_code
def yX10_plainNight : MethodName := ⟨RX10, "plainNight", "(LUnaskedName$Mind;I)V"⟩
abbrev cX10_drawnNight : ByteArray := prog_12_method_9_code
def yX10_drawnNight : MethodName := ⟨RX10, "drawnNight", "(LUnaskedName$Mind;)Z"⟩
def RX11 : String := "UnaskedName"
def TX11 : u_T := fun k => match k with
  | 0 => ("UnaskedName", "tape", "LUnaskedName$Tape;", true)
  | 1 => ("UnaskedName", "world", "LUnaskedName$World;", true)
  | 2 => ("UnaskedName", "draft", "LUnaskedName$World;", true)
  | 3 => ("UnaskedName", "kept", "LUnaskedName$World;", true)
  | 4 => ("UnaskedName", "past", "LUnaskedName$Past;", true)
  | 5 => ("UnaskedName", "dream", "LUnaskedName$Mind;", true)
  | 6 => ("UnaskedName", "enemies", "LUnaskedName$Siege;", true)
  | 7 => ("UnaskedName", "rows", "LUnaskedName$Rows;", true)
  | 8 => ("UnaskedName", "lawReader", "LUnaskedName$LawReader;", true)
  | 9 => ("UnaskedName", "wrongByte", "I", false)
  | _ => ("UnaskedName", "hasKept", "Z", false)
def tyX11 : Nat → FieldType := fun k => match k with
  | 0 => .object "UnaskedName$Tape"
  | 1 => .object "UnaskedName$World"
  | 2 => .object "UnaskedName$World"
  | 3 => .object "UnaskedName$World"
  | 4 => .object "UnaskedName$Past"
  | 5 => .object "UnaskedName$Mind"
  | 6 => .object "UnaskedName$Siege"
  | 7 => .object "UnaskedName$Rows"
  | 8 => .object "UnaskedName$LawReader"
  | 9 => .int
  | _ => .boolean
abbrev wsX110 : List Cond := u_ws RX11 TX11 11
theorem nmX11 : ∀ a, a < 11 → ∀ b, b < 11 → a ≠ b → (TX11 a).2.1 ≠ (TX11 b).2.1 := by decide +kernel
theorem tyX11_ok : ∀ k, k < 11 → parseFieldDescriptor (TX11 k).2.2.1 = some (tyX11 k) := by decide +kernel
abbrev cX11_init : ByteArray := prog_1_method_1_code
def yX11_init : MethodName := ⟨RX11, "<init>", "()V"⟩
abbrev cX11_feed : ByteArray := prog_1_method_2_code
def yX11_feed : MethodName := ⟨RX11, "feed", "(IIIII)I"⟩
abbrev cX11_end : ByteArray := prog_1_method_3_code
def yX11_end : MethodName := ⟨RX11, "end", "(I)Z"⟩
abbrev cX11_story : ByteArray := prog_1_method_4_code
def yX11_story : MethodName := ⟨RX11, "story", "()I"⟩
abbrev cX11_law : ByteArray := prog_1_method_5_code
def yX11_law : MethodName := ⟨RX11, "law", "()I"⟩
abbrev cX11_useTapeUp : ByteArray := prog_1_method_6_code
def yX11_useTapeUp : MethodName := ⟨RX11, "useTapeUp", "(Z)V"⟩
abbrev cX11_fault : ByteArray := prog_1_method_7_code
def yX11_fault : MethodName := ⟨RX11, "fault", "()I"⟩
abbrev cX11_name : ByteArray := prog_1_method_8_code
def yX11_name : MethodName := ⟨RX11, "name", "(II)I"⟩
abbrev cX11_court : ByteArray := prog_1_method_9_code
def yX11_court : MethodName := ⟨RX11, "court", "(II)I"⟩
abbrev cX11_word : ByteArray := prog_1_method_10_code
def yX11_word : MethodName := ⟨RX11, "word", "(IZ)I"⟩
abbrev cX11_deed : ByteArray := prog_1_method_11_code
def yX11_deed : MethodName := ⟨RX11, "deed", "(II)I"⟩
abbrev cX11_stings : ByteArray := prog_1_method_12_code
def yX11_stings : MethodName := ⟨RX11, "stings", "(II)I"⟩
abbrev cX11_say : ByteArray := prog_1_method_13_code
def yX11_say : MethodName := ⟨RX11, "say", "(II)I"⟩
abbrev cX11_does : ByteArray := prog_1_method_14_code
def yX11_does : MethodName := ⟨RX11, "does", "(I)I"⟩
abbrev cX11_keep : ByteArray := prog_1_method_15_code
def yX11_keep : MethodName := ⟨RX11, "keep", "(IZ)Z"⟩
abbrev cX11_habit : ByteArray := prog_1_method_16_code
def yX11_habit : MethodName := ⟨RX11, "habit", "(II)I"⟩
abbrev cX11_his : ByteArray := prog_1_method_17_code
def yX11_his : MethodName := ⟨RX11, "his", "(I)I"⟩
abbrev cX11_crumb : ByteArray := prog_1_method_18_code
def yX11_crumb : MethodName := ⟨RX11, "crumb", "(I)I"⟩
abbrev cX11_nights : ByteArray := prog_1_method_19_code
def yX11_nights : MethodName := ⟨RX11, "nights", "(I)I"⟩
abbrev cX11_would : ByteArray := prog_1_method_20_code
def yX11_would : MethodName := ⟨RX11, "would", "(IIZ)I"⟩
abbrev cX11_ahead : ByteArray := prog_1_method_21_code
def yX11_ahead : MethodName := ⟨RX11, "ahead", "(II)I"⟩
abbrev cX11_first : ByteArray := prog_1_method_22_code
def yX11_first : MethodName := ⟨RX11, "first", "(I)I"⟩
abbrev cX11_learnt : ByteArray := prog_1_method_23_code
def yX11_learnt : MethodName := ⟨RX11, "learnt", "(I)I"⟩
abbrev cX11_silence : ByteArray := prog_1_method_24_code
def yX11_silence : MethodName := ⟨RX11, "silence", "(I)I"⟩
abbrev cX11_staysQuiet : ByteArray := prog_1_method_25_code
def yX11_staysQuiet : MethodName := ⟨RX11, "staysQuiet", "(II)Z"⟩
abbrev cX11_trial : ByteArray := prog_1_method_26_code
def yX11_trial : MethodName := ⟨RX11, "trial", "(IZ)I"⟩
abbrev cX11_span : ByteArray := prog_1_method_27_code
def yX11_span : MethodName := ⟨RX11, "span", "(I)I"⟩
abbrev cX11_tryNights : ByteArray := prog_1_method_28_code
def yX11_tryNights : MethodName := ⟨RX11, "tryNights", "(II)V"⟩
abbrev cX11_siege : ByteArray := prog_1_method_29_code
def yX11_siege : MethodName := ⟨RX11, "siege", "(I)I"⟩
abbrev cX11_plan : ByteArray := prog_1_method_30_code
def yX11_plan : MethodName := ⟨RX11, "plan", "(I)I"⟩
abbrev cX11_keeps : ByteArray := prog_1_method_31_code
def yX11_keeps : MethodName := ⟨RX11, "keeps", "(II)I"⟩
abbrev cX11_fewest : ByteArray := prog_1_method_32_code
def yX11_fewest : MethodName := ⟨RX11, "fewest", "(I)I"⟩
abbrev cX11_fits : ByteArray := prog_1_method_33_code
def yX11_fits : MethodName := ⟨RX11, "fits", "(I)I"⟩
abbrev cX11_sharpest : ByteArray := prog_1_method_34_code
def yX11_sharpest : MethodName := ⟨RX11, "sharpest", "(I)I"⟩
abbrev cX11_cheapest : ByteArray := prog_1_method_35_code
def yX11_cheapest : MethodName := ⟨RX11, "cheapest", "(IZ)I"⟩
abbrev cX11_doubtBehind : ByteArray := prog_1_method_36_code
def yX11_doubtBehind : MethodName := ⟨RX11, "doubtBehind", "(I)I"⟩
abbrev cX11_best : ByteArray := prog_1_method_37_code
def yX11_best : MethodName := ⟨RX11, "best", "()I"⟩
abbrev cX11_learns : ByteArray := prog_1_method_38_code
def yX11_learns : MethodName := ⟨RX11, "learns", "()I"⟩
abbrev cX11_worst : ByteArray := prog_1_method_39_code
def yX11_worst : MethodName := ⟨RX11, "worst", "()I"⟩
abbrev cX11_hides : ByteArray := prog_1_method_40_code
def yX11_hides : MethodName := ⟨RX11, "hides", "()I"⟩
abbrev cX11_alike : ByteArray := prog_1_method_41_code
def yX11_alike : MethodName := ⟨RX11, "alike", "()I"⟩
abbrev cX11_belief : ByteArray := prog_1_method_42_code
def yX11_belief : MethodName := ⟨RX11, "belief", "(I)I"⟩
abbrev cX11_beliefIn : ByteArray := prog_1_method_43_code
def yX11_beliefIn : MethodName := ⟨RX11, "beliefIn", "(I)I"⟩
abbrev cX11_likeliest : ByteArray := prog_1_method_44_code
def yX11_likeliest : MethodName := ⟨RX11, "likeliest", "()I"⟩
abbrev cX11_shared : ByteArray := prog_1_method_45_code
def yX11_shared : MethodName := ⟨RX11, "shared", "()I"⟩
abbrev cX11_similar : ByteArray := prog_1_method_46_code
def yX11_similar : MethodName := ⟨RX11, "similar", "(II)I"⟩
abbrev cX11_duty : ByteArray := prog_1_method_47_code
def yX11_duty : MethodName := ⟨RX11, "duty", "(I)I"⟩
abbrev cX11_cover : ByteArray := prog_1_method_48_code
def yX11_cover : MethodName := ⟨RX11, "cover", "()I"⟩
abbrev cX11_alone : ByteArray := prog_1_method_49_code
def yX11_alone : MethodName := ⟨RX11, "alone", "()I"⟩
abbrev cX11_seals : ByteArray := prog_1_method_50_code
def yX11_seals : MethodName := ⟨RX11, "seals", "(I)I"⟩
abbrev cX11_began : ByteArray := prog_1_method_51_code
def yX11_began : MethodName := ⟨RX11, "began", "()I"⟩
abbrev cX11_loudest : ByteArray := prog_1_method_52_code
def yX11_loudest : MethodName := ⟨RX11, "loudest", "()I"⟩
abbrev cX11_led : ByteArray := prog_1_method_53_code
def yX11_led : MethodName := ⟨RX11, "led", "(II)I"⟩
abbrev cX11_log : ByteArray := prog_1_method_54_code
def yX11_log : MethodName := ⟨RX11, "log", "(II)I"⟩
abbrev cX11_seed : ByteArray := prog_1_method_55_code
def yX11_seed : MethodName := ⟨RX11, "seed", "(I)I"⟩
abbrev cX11_undo : ByteArray := prog_1_method_56_code
def yX11_undo : MethodName := ⟨RX11, "undo", "()Z"⟩
abbrev cX11_image : ByteArray := prog_1_method_57_code
def yX11_image : MethodName := ⟨RX11, "image", "()V"⟩
abbrev cX11_back : ByteArray := prog_1_method_58_code
def yX11_back : MethodName := ⟨RX11, "back", "()Z"⟩
abbrev cX11_count : ByteArray := prog_1_method_59_code
def yX11_count : MethodName := ⟨RX11, "count", "(I)I"⟩
abbrev cX11_needName : ByteArray := prog_1_method_60_code
def yX11_needName : MethodName := ⟨RX11, "needName", "(I)V"⟩
abbrev cX11_needWho : ByteArray := prog_1_method_61_code
def yX11_needWho : MethodName := ⟨RX11, "needWho", "(I)V"⟩
abbrev cX11_needWord : ByteArray := prog_1_method_62_code
def yX11_needWord : MethodName := ⟨RX11, "needWord", "(I)V"⟩
abbrev cX11_needDeed : ByteArray := prog_1_method_63_code
def yX11_needDeed : MethodName := ⟨RX11, "needDeed", "(I)V"⟩
abbrev cX11_needDeedOrNone : ByteArray := prog_1_method_64_code
def yX11_needDeedOrNone : MethodName := ⟨RX11, "needDeedOrNone", "(I)V"⟩
abbrev cX11_needTrait : ByteArray := prog_1_method_65_code
def yX11_needTrait : MethodName := ⟨RX11, "needTrait", "(I)V"⟩
abbrev cX11_need : ByteArray := prog_1_method_66_code
def yX11_need : MethodName := ⟨RX11, "need", "(Z)V"⟩
abbrev cX11_at : ByteArray := prog_1_method_67_code
def yX11_at : MethodName := ⟨RX11, "at", "([II)I"⟩
abbrev cX11_has : ByteArray := prog_1_method_68_code
def yX11_has : MethodName := ⟨RX11, "has", "(II)Z"⟩
abbrev cX11_orNone : ByteArray := prog_1_method_69_code
def yX11_orNone : MethodName := ⟨RX11, "orNone", "(I)I"⟩
def RX12 : String := "UnaskedNameModel"
def TX12 : u_T := fun k => match k with
  | 0 => ("UnaskedNameModel", "thrown", "I", false)
  | 1 => ("UnaskedNameModel", "world", "[I", true)
  | 2 => ("UnaskedNameModel", "image", "[I", true)
  | 3 => ("UnaskedNameModel", "before", "[I", true)
  | 4 => ("UnaskedNameModel", "trial", "[I", true)
  | 5 => ("UnaskedNameModel", "acts", "[I", true)
  | 6 => ("UnaskedNameModel", "hasImage", "Z", false)
  | 7 => ("UnaskedNameModel", "remembered", "I", false)
  | 8 => ("UnaskedNameModel", "tape", "[B", true)
  | 9 => ("UnaskedNameModel", "taped", "I", false)
  | 10 => ("UnaskedNameModel", "point", "I", false)
  | 11 => ("UnaskedNameModel", "end", "I", false)
  | 12 => ("UnaskedNameModel", "begin", "I", false)
  | 13 => ("UnaskedNameModel", "deep", "I", false)
  | 14 => ("UnaskedNameModel", "faultAt", "I", false)
  | 15 => ("UnaskedNameModel", "five", "[I", true)
  | 16 => ("UnaskedNameModel", "steps", "I", false)
  | 17 => ("UnaskedNameModel", "value", "[I", true)
  | 18 => ("UnaskedNameModel", "itsWord", "I", false)
  | 19 => ("UnaskedNameModel", "itsDeed", "I", false)
  | 20 => ("UnaskedNameModel", "itsWho", "I", false)
  | 21 => ("UnaskedNameModel", "itsDoubt", "I", false)
  | 22 => ("UnaskedNameModel", "itsNight", "I", false)
  | 23 => ("UnaskedNameModel", "itsLeft", "I", false)
  | 24 => ("UnaskedNameModel", "itsTrue", "Z", false)
  | 25 => ("UnaskedNameModel", "till", "[I", true)
  | 26 => ("UnaskedNameModel", "now", "[Z", true)
  | 27 => ("UnaskedNameModel", "next", "[Z", true)
  | _ => ("UnaskedNameModel", "crumbs", "[I", true)
def tyX12 : Nat → FieldType := fun k => match k with
  | 0 => .int
  | 1 => .array .int
  | 2 => .array .int
  | 3 => .array .int
  | 4 => .array .int
  | 5 => .array .int
  | 6 => .boolean
  | 7 => .int
  | 8 => .array .byte
  | 9 => .int
  | 10 => .int
  | 11 => .int
  | 12 => .int
  | 13 => .int
  | 14 => .int
  | 15 => .array .int
  | 16 => .int
  | 17 => .array .int
  | 18 => .int
  | 19 => .int
  | 20 => .int
  | 21 => .int
  | 22 => .int
  | 23 => .int
  | 24 => .boolean
  | 25 => .array .int
  | 26 => .array .boolean
  | 27 => .array .boolean
  | _ => .array .int
abbrev wsX120 : List Cond := u_ws RX12 TX12 29
theorem nmX12 : ∀ a, a < 29 → ∀ b, b < 29 → a ≠ b → (TX12 a).2.1 ≠ (TX12 b).2.1 := by decide +kernel
theorem tyX12_ok : ∀ k, k < 29 → parseFieldDescriptor (TX12 k).2.2.1 = some (tyX12 k) := by decide +kernel
abbrev cX12_thrown : ByteArray := prog_14_method_1_code
def yX12_thrown : MethodName := ⟨RX12, "thrown", "()I"⟩
abbrev cX12_throwsIf : ByteArray := prog_14_method_2_code
def yX12_throwsIf : MethodName := ⟨RX12, "throwsIf", "(ZI)Z"⟩
abbrev cX12_in : ByteArray := prog_14_method_3_code
def yX12_in : MethodName := ⟨RX12, "in", "(III)Z"⟩
abbrev cX12_has : ByteArray := prog_14_method_4_code
def yX12_has : MethodName := ⟨RX12, "has", "(II)Z"⟩
abbrev cX12_init : ByteArray := prog_14_method_5_code
def yX12_init : MethodName := ⟨RX12, "<init>", "()V"⟩
abbrev cX12_image : ByteArray := prog_14_method_6_code
def yX12_image : MethodName := ⟨RX12, "image", "()V"⟩
abbrev cX12_back : ByteArray := prog_14_method_7_code
def yX12_back : MethodName := ⟨RX12, "back", "()Z"⟩
abbrev cX12_remembers : ByteArray := prog_14_method_8_code
def yX12_remembers : MethodName := ⟨RX12, "remembers", "()V"⟩
abbrev cX12_undo : ByteArray := prog_14_method_9_code
def yX12_undo : MethodName := ⟨RX12, "undo", "()Z"⟩
abbrev cX12_names : ByteArray := prog_14_method_10_code
def yX12_names : MethodName := ⟨RX12, "names", "()I"⟩
abbrev cX12_courtiers : ByteArray := prog_14_method_11_code
def yX12_courtiers : MethodName := ⟨RX12, "courtiers", "()I"⟩
abbrev cX12_words : ByteArray := prog_14_method_12_code
def yX12_words : MethodName := ⟨RX12, "words", "()I"⟩
abbrev cX12_deeds : ByteArray := prog_14_method_13_code
def yX12_deeds : MethodName := ⟨RX12, "deeds", "()I"⟩
abbrev cX12_duties : ByteArray := prog_14_method_14_code
def yX12_duties : MethodName := ⟨RX12, "duties", "()I"⟩
abbrev cX12_ofName : ByteArray := prog_14_method_15_code
def yX12_ofName : MethodName := ⟨RX12, "ofName", "(II)I"⟩
abbrev cX12_ofWho : ByteArray := prog_14_method_16_code
def yX12_ofWho : MethodName := ⟨RX12, "ofWho", "(II)I"⟩
abbrev cX12_ofWord : ByteArray := prog_14_method_17_code
def yX12_ofWord : MethodName := ⟨RX12, "ofWord", "(II)I"⟩
abbrev cX12_ofDeed : ByteArray := prog_14_method_18_code
def yX12_ofDeed : MethodName := ⟨RX12, "ofDeed", "(II)I"⟩
abbrev cX12_isNear : ByteArray := prog_14_method_19_code
def yX12_isNear : MethodName := ⟨RX12, "isNear", "(I)Z"⟩
abbrev cX12_isGone : ByteArray := prog_14_method_20_code
def yX12_isGone : MethodName := ⟨RX12, "isGone", "()Z"⟩
abbrev cX12_noName : ByteArray := prog_14_method_21_code
def yX12_noName : MethodName := ⟨RX12, "noName", "(I)Z"⟩
abbrev cX12_noWho : ByteArray := prog_14_method_22_code
def yX12_noWho : MethodName := ⟨RX12, "noWho", "(I)Z"⟩
abbrev cX12_noWord : ByteArray := prog_14_method_23_code
def yX12_noWord : MethodName := ⟨RX12, "noWord", "(I)Z"⟩
abbrev cX12_noDeed : ByteArray := prog_14_method_24_code
def yX12_noDeed : MethodName := ⟨RX12, "noDeed", "(I)Z"⟩
abbrev cX12_noTrait : ByteArray := prog_14_method_25_code
def yX12_noTrait : MethodName := ⟨RX12, "noTrait", "(I)Z"⟩
abbrev cX12_drawn : ByteArray := prog_14_method_26_code
def yX12_drawn : MethodName := ⟨RX12, "drawn", "(I)I"⟩
abbrev cX12_feed : ByteArray := prog_14_method_27_code
def yX12_feed : MethodName := ⟨RX12, "feed", "(IIIII)I"⟩
abbrev cX12_end : ByteArray := prog_14_method_28_code
def yX12_end : MethodName := ⟨RX12, "end", "(I)Z"⟩
abbrev cX12_isAt : ByteArray := prog_14_method_29_code
def yX12_isAt : MethodName := ⟨RX12, "isAt", "(II)Z"⟩
abbrev cX12_blanks : ByteArray := prog_14_method_30_code
def yX12_blanks : MethodName := ⟨RX12, "blanks", "()V"⟩
abbrev cX12_letters : ByteArray := prog_14_method_31_code
def yX12_letters : MethodName := ⟨RX12, "letters", "()V"⟩
abbrev cX12_isWord : ByteArray := prog_14_method_32_code
def yX12_isWord : MethodName := ⟨RX12, "isWord", "(Ljava/lang/String;)Z"⟩
abbrev cX12_passes : ByteArray := prog_14_method_33_code
def yX12_passes : MethodName := ⟨RX12, "passes", "(Ljava/lang/String;)Z"⟩
abbrev cX12_sign : ByteArray := prog_14_method_34_code
def yX12_sign : MethodName := ⟨RX12, "sign", "(I)Z"⟩
abbrev cX12_number : ByteArray := prog_14_method_35_code
def yX12_number : MethodName := ⟨RX12, "number", "(II)I"⟩
abbrev cX12_after : ByteArray := prog_14_method_36_code
def yX12_after : MethodName := ⟨RX12, "after", "(Ljava/lang/String;II)I"⟩
abbrev cX12_fault : ByteArray := prog_14_method_37_code
def yX12_fault : MethodName := ⟨RX12, "fault", "()I"⟩
abbrev cX12_uses : ByteArray := prog_14_method_38_code
def yX12_uses : MethodName := ⟨RX12, "uses", "()V"⟩
abbrev cX12_lettersTold : ByteArray := prog_14_method_39_code
def yX12_lettersTold : MethodName := ⟨RX12, "lettersTold", "()I"⟩
abbrev cX12_readName : ByteArray := prog_14_method_40_code
def yX12_readName : MethodName := ⟨RX12, "readName", "()Z"⟩
abbrev cX12_readWord : ByteArray := prog_14_method_41_code
def yX12_readWord : MethodName := ⟨RX12, "readWord", "()Z"⟩
abbrev cX12_readDeed : ByteArray := prog_14_method_42_code
def yX12_readDeed : MethodName := ⟨RX12, "readDeed", "()Z"⟩
abbrev cX12_readWho : ByteArray := prog_14_method_43_code
def yX12_readWho : MethodName := ⟨RX12, "readWho", "(I)Z"⟩
abbrev cX12_readDuty : ByteArray := prog_14_method_44_code
def yX12_readDuty : MethodName := ⟨RX12, "readDuty", "()Z"⟩
abbrev cX12_readNumber : ByteArray := prog_14_method_45_code
def yX12_readNumber : MethodName := ⟨RX12, "readNumber", "(III)Z"⟩
abbrev cX12_isNow : ByteArray := prog_14_method_46_code
def yX12_isNow : MethodName := ⟨RX12, "isNow", "(I)V"⟩
abbrev cX12_readHis : ByteArray := prog_14_method_47_code
def yX12_readHis : MethodName := ⟨RX12, "readHis", "()Z"⟩
abbrev cX12_readStoryLine : ByteArray := prog_14_method_48_code
def yX12_readStoryLine : MethodName := ⟨RX12, "readStoryLine", "()Z"⟩
abbrev cX12_emits : ByteArray := prog_14_method_49_code
def yX12_emits : MethodName := ⟨RX12, "emits", "(II)V"⟩
abbrev cX12_readPart : ByteArray := prog_14_method_50_code
def yX12_readPart : MethodName := ⟨RX12, "readPart", "()Z"⟩
abbrev cX12_readSum : ByteArray := prog_14_method_51_code
def yX12_readSum : MethodName := ⟨RX12, "readSum", "()Z"⟩
abbrev cX12_readTag : ByteArray := prog_14_method_52_code
def yX12_readTag : MethodName := ⟨RX12, "readTag", "()Z"⟩
abbrev cX12_readAtom : ByteArray := prog_14_method_53_code
def yX12_readAtom : MethodName := ⟨RX12, "readAtom", "()Z"⟩
abbrev cX12_readAllOf : ByteArray := prog_14_method_54_code
def yX12_readAllOf : MethodName := ⟨RX12, "readAllOf", "()Z"⟩
abbrev cX12_readCond : ByteArray := prog_14_method_55_code
def yX12_readCond : MethodName := ⟨RX12, "readCond", "()Z"⟩
abbrev cX12_readLawLine : ByteArray := prog_14_method_56_code
def yX12_readLawLine : MethodName := ⟨RX12, "readLawLine", "(I)Z"⟩
abbrev cX12_readLine : ByteArray := prog_14_method_57_code
def yX12_readLine : MethodName := ⟨RX12, "readLine", "(ZI)Z"⟩
abbrev cX12_readAll : ByteArray := prog_14_method_58_code
def yX12_readAll : MethodName := ⟨RX12, "readAll", "(Z)I"⟩
abbrev cX12_story : ByteArray := prog_14_method_59_code
def yX12_story : MethodName := ⟨RX12, "story", "()I"⟩
abbrev cX12_law : ByteArray := prog_14_method_60_code
def yX12_law : MethodName := ⟨RX12, "law", "()I"⟩
abbrev cX12_traitsOfHis : ByteArray := prog_14_method_61_code
def yX12_traitsOfHis : MethodName := ⟨RX12, "traitsOfHis", "()I"⟩
abbrev cX12_howMany : ByteArray := prog_14_method_62_code
def yX12_howMany : MethodName := ⟨RX12, "howMany", "()I"⟩
abbrev cX12_factOf : ByteArray := prog_14_method_63_code
def yX12_factOf : MethodName := ⟨RX12, "factOf", "(II)I"⟩
abbrev cX12_holdsLine : ByteArray := prog_14_method_64_code
def yX12_holdsLine : MethodName := ⟨RX12, "holdsLine", "(I)Z"⟩
abbrev cX12_sumOf : ByteArray := prog_14_method_65_code
def yX12_sumOf : MethodName := ⟨RX12, "sumOf", "(I)I"⟩
abbrev cX12_looks : ByteArray := prog_14_method_66_code
def yX12_looks : MethodName := ⟨RX12, "looks", "(III)V"⟩
abbrev cX12_looksNow : ByteArray := prog_14_method_67_code
def yX12_looksNow : MethodName := ⟨RX12, "looksNow", "()V"⟩
abbrev cX12_stingsBy : ByteArray := prog_14_method_68_code
def yX12_stingsBy : MethodName := ⟨RX12, "stingsBy", "(II)I"⟩
abbrev cX12_easesBy : ByteArray := prog_14_method_69_code
def yX12_easesBy : MethodName := ⟨RX12, "easesBy", "(I)I"⟩
abbrev cX12_behindWord : ByteArray := prog_14_method_70_code
def yX12_behindWord : MethodName := ⟨RX12, "behindWord", "(II)I"⟩
abbrev cX12_behindDeed : ByteArray := prog_14_method_71_code
def yX12_behindDeed : MethodName := ⟨RX12, "behindDeed", "(I)I"⟩
abbrev cX12_staysOf : ByteArray := prog_14_method_72_code
def yX12_staysOf : MethodName := ⟨RX12, "staysOf", "(II)I"⟩
abbrev cX12_possibleBehind : ByteArray := prog_14_method_73_code
def yX12_possibleBehind : MethodName := ⟨RX12, "possibleBehind", "(II)I"⟩
abbrev cX12_stings : ByteArray := prog_14_method_74_code
def yX12_stings : MethodName := ⟨RX12, "stings", "(II)I"⟩
abbrev cX12_would : ByteArray := prog_14_method_75_code
def yX12_would : MethodName := ⟨RX12, "would", "(IIZ)I"⟩
abbrev cX12_deed : ByteArray := prog_14_method_76_code
def yX12_deed : MethodName := ⟨RX12, "deed", "(II)I"⟩
abbrev cX12_word : ByteArray := prog_14_method_77_code
def yX12_word : MethodName := ⟨RX12, "word", "(IZ)I"⟩
abbrev cX12_court : ByteArray := prog_14_method_78_code
def yX12_court : MethodName := ⟨RX12, "court", "(II)I"⟩
abbrev cX12_sharpest : ByteArray := prog_14_method_79_code
def yX12_sharpest : MethodName := ⟨RX12, "sharpest", "(I)I"⟩
abbrev cX12_fits : ByteArray := prog_14_method_80_code
def yX12_fits : MethodName := ⟨RX12, "fits", "(I)I"⟩
abbrev cX12_tells : ByteArray := prog_14_method_81_code
def yX12_tells : MethodName := ⟨RX12, "tells", "(II)V"⟩
abbrev cX12_says : ByteArray := prog_14_method_82_code
def yX12_says : MethodName := ⟨RX12, "says", "(II)V"⟩
abbrev cX12_isDone : ByteArray := prog_14_method_83_code
def yX12_isDone : MethodName := ⟨RX12, "isDone", "(I)V"⟩
abbrev cX12_say : ByteArray := prog_14_method_84_code
def yX12_say : MethodName := ⟨RX12, "say", "(II)I"⟩
abbrev cX12_does : ByteArray := prog_14_method_85_code
def yX12_does : MethodName := ⟨RX12, "does", "(I)I"⟩
abbrev cX12_keep : ByteArray := prog_14_method_86_code
def yX12_keep : MethodName := ⟨RX12, "keep", "(IZ)Z"⟩
abbrev cX12_habit : ByteArray := prog_14_method_87_code
def yX12_habit : MethodName := ⟨RX12, "habit", "(II)I"⟩
abbrev cX12_his : ByteArray := prog_14_method_88_code
def yX12_his : MethodName := ⟨RX12, "his", "(I)I"⟩
abbrev cX12_crumb : ByteArray := prog_14_method_89_code
def yX12_crumb : MethodName := ⟨RX12, "crumb", "(I)I"⟩
abbrev cX12_isOver : ByteArray := prog_14_method_90_code
def yX12_isOver : MethodName := ⟨RX12, "isOver", "()Z"⟩
abbrev cX12_oneNight : ByteArray := prog_14_method_91_code
def yX12_oneNight : MethodName := ⟨RX12, "oneNight", "()V"⟩
abbrev cX12_calmNight : ByteArray := prog_14_method_92_code
def yX12_calmNight : MethodName := ⟨RX12, "calmNight", "(I)V"⟩
abbrev cX12_goesBy : ByteArray := prog_14_method_93_code
def yX12_goesBy : MethodName := ⟨RX12, "goesBy", "(I)I"⟩
abbrev cX12_keepsAll : ByteArray := prog_14_method_94_code
def yX12_keepsAll : MethodName := ⟨RX12, "keepsAll", "()V"⟩
abbrev cX12_bringsBack : ByteArray := prog_14_method_95_code
def yX12_bringsBack : MethodName := ⟨RX12, "bringsBack", "()V"⟩
abbrev cX12_nights : ByteArray := prog_14_method_96_code
def yX12_nights : MethodName := ⟨RX12, "nights", "(I)I"⟩
abbrev cX12_noDeedTold : ByteArray := prog_14_method_97_code
def yX12_noDeedTold : MethodName := ⟨RX12, "noDeedTold", "(I)Z"⟩
abbrev cX12_ahead : ByteArray := prog_14_method_98_code
def yX12_ahead : MethodName := ⟨RX12, "ahead", "(II)I"⟩
abbrev cX12_first : ByteArray := prog_14_method_99_code
def yX12_first : MethodName := ⟨RX12, "first", "(I)I"⟩
abbrev cX12_learnt : ByteArray := prog_14_method_100_code
def yX12_learnt : MethodName := ⟨RX12, "learnt", "(I)I"⟩
abbrev cX12_silence : ByteArray := prog_14_method_101_code
def yX12_silence : MethodName := ⟨RX12, "silence", "(I)I"⟩
abbrev cX12_tillOf : ByteArray := prog_14_method_102_code
def yX12_tillOf : MethodName := ⟨RX12, "tillOf", "(II)I"⟩
abbrev cX12_bestDeed : ByteArray := prog_14_method_103_code
def yX12_bestDeed : MethodName := ⟨RX12, "bestDeed", "(II)I"⟩
abbrev cX12_behindDeeds : ByteArray := prog_14_method_104_code
def yX12_behindDeeds : MethodName := ⟨RX12, "behindDeeds", "(II)I"⟩
abbrev cX12_isEnemy : ByteArray := prog_14_method_105_code
def yX12_isEnemy : MethodName := ⟨RX12, "isEnemy", "(I)Z"⟩
abbrev cX12_tillBy : ByteArray := prog_14_method_106_code
def yX12_tillBy : MethodName := ⟨RX12, "tillBy", "(IIII)I"⟩
abbrev cX12_leastTill : ByteArray := prog_14_method_107_code
def yX12_leastTill : MethodName := ⟨RX12, "leastTill", "(II)I"⟩
abbrev cX12_laysTill : ByteArray := prog_14_method_108_code
def yX12_laysTill : MethodName := ⟨RX12, "laysTill", "(II)V"⟩
abbrev cX12_noSiege : ByteArray := prog_14_method_109_code
def yX12_noSiege : MethodName := ⟨RX12, "noSiege", "(I)Z"⟩
abbrev cX12_siegeOf : ByteArray := prog_14_method_110_code
def yX12_siegeOf : MethodName := ⟨RX12, "siegeOf", "(I)I"⟩
abbrev cX12_siege : ByteArray := prog_14_method_111_code
def yX12_siege : MethodName := ⟨RX12, "siege", "(I)I"⟩
abbrev cX12_plan : ByteArray := prog_14_method_112_code
def yX12_plan : MethodName := ⟨RX12, "plan", "(I)I"⟩
abbrev cX12_keeps : ByteArray := prog_14_method_113_code
def yX12_keeps : MethodName := ⟨RX12, "keeps", "(II)I"⟩
abbrev cX12_possibleBy : ByteArray := prog_14_method_114_code
def yX12_possibleBy : MethodName := ⟨RX12, "possibleBy", "(I)I"⟩
abbrev cX12_asksBy : ByteArray := prog_14_method_115_code
def yX12_asksBy : MethodName := ⟨RX12, "asksBy", "(III)Z"⟩
abbrev cX12_fewest : ByteArray := prog_14_method_116_code
def yX12_fewest : MethodName := ⟨RX12, "fewest", "(I)I"⟩
abbrev cX12_creditOf : ByteArray := prog_14_method_117_code
def yX12_creditOf : MethodName := ⟨RX12, "creditOf", "(I)I"⟩
abbrev cX12_beliefOf : ByteArray := prog_14_method_118_code
def yX12_beliefOf : MethodName := ⟨RX12, "beliefOf", "(I)I"⟩
abbrev cX12_whoHave : ByteArray := prog_14_method_119_code
def yX12_whoHave : MethodName := ⟨RX12, "whoHave", "(I)I"⟩
abbrev cX12_name : ByteArray := prog_14_method_120_code
def yX12_name : MethodName := ⟨RX12, "name", "(II)I"⟩
abbrev cX12_belief : ByteArray := prog_14_method_121_code
def yX12_belief : MethodName := ⟨RX12, "belief", "(I)I"⟩
abbrev cX12_likeliest : ByteArray := prog_14_method_122_code
def yX12_likeliest : MethodName := ⟨RX12, "likeliest", "()I"⟩
abbrev cX12_best : ByteArray := prog_14_method_123_code
def yX12_best : MethodName := ⟨RX12, "best", "()I"⟩
abbrev cX12_learns : ByteArray := prog_14_method_124_code
def yX12_learns : MethodName := ⟨RX12, "learns", "()I"⟩
abbrev cX12_crumbsOf : ByteArray := prog_14_method_125_code
def yX12_crumbsOf : MethodName := ⟨RX12, "crumbsOf", "(I)I"⟩
abbrev cX12_worst : ByteArray := prog_14_method_126_code
def yX12_worst : MethodName := ⟨RX12, "worst", "()I"⟩
abbrev cX12_hides : ByteArray := prog_14_method_127_code
def yX12_hides : MethodName := ⟨RX12, "hides", "()I"⟩
abbrev cX12_alike : ByteArray := prog_14_method_128_code
def yX12_alike : MethodName := ⟨RX12, "alike", "()I"⟩
abbrev cX12_shared : ByteArray := prog_14_method_129_code
def yX12_shared : MethodName := ⟨RX12, "shared", "()I"⟩
abbrev cX12_similar : ByteArray := prog_14_method_130_code
def yX12_similar : MethodName := ⟨RX12, "similar", "(II)I"⟩
abbrev cX12_doneBy : ByteArray := prog_14_method_131_code
def yX12_doneBy : MethodName := ⟨RX12, "doneBy", "(I)I"⟩
abbrev cX12_allDuties : ByteArray := prog_14_method_132_code
def yX12_allDuties : MethodName := ⟨RX12, "allDuties", "()I"⟩
abbrev cX12_duty : ByteArray := prog_14_method_133_code
def yX12_duty : MethodName := ⟨RX12, "duty", "(I)I"⟩
abbrev cX12_seals : ByteArray := prog_14_method_134_code
def yX12_seals : MethodName := ⟨RX12, "seals", "(I)I"⟩
abbrev cX12_cover : ByteArray := prog_14_method_135_code
def yX12_cover : MethodName := ⟨RX12, "cover", "()I"⟩
abbrev cX12_alone : ByteArray := prog_14_method_136_code
def yX12_alone : MethodName := ⟨RX12, "alone", "()I"⟩
abbrev cX12_cheapest : ByteArray := prog_14_method_137_code
def yX12_cheapest : MethodName := ⟨RX12, "cheapest", "(IZ)I"⟩
abbrev cX12_ofLog : ByteArray := prog_14_method_138_code
def yX12_ofLog : MethodName := ⟨RX12, "ofLog", "(II)I"⟩
abbrev cX12_began : ByteArray := prog_14_method_139_code
def yX12_began : MethodName := ⟨RX12, "began", "()I"⟩
abbrev cX12_recordsOf : ByteArray := prog_14_method_140_code
def yX12_recordsOf : MethodName := ⟨RX12, "recordsOf", "(I)I"⟩
abbrev cX12_loudest : ByteArray := prog_14_method_141_code
def yX12_loudest : MethodName := ⟨RX12, "loudest", "()I"⟩
abbrev cX12_led : ByteArray := prog_14_method_142_code
def yX12_led : MethodName := ⟨RX12, "led", "(II)I"⟩
abbrev cX12_log : ByteArray := prog_14_method_143_code
def yX12_log : MethodName := ⟨RX12, "log", "(II)I"⟩
abbrev cX12_trial : ByteArray := prog_14_method_144_code
def yX12_trial : MethodName := ⟨RX12, "trial", "(IZ)I"⟩
abbrev cX12_span : ByteArray := prog_14_method_145_code
def yX12_span : MethodName := ⟨RX12, "span", "(I)I"⟩
abbrev cX12_seed : ByteArray := prog_14_method_146_code
def yX12_seed : MethodName := ⟨RX12, "seed", "(I)I"⟩
abbrev cX12_nearOnes : ByteArray := prog_14_method_147_code
def yX12_nearOnes : MethodName := ⟨RX12, "nearOnes", "()I"⟩
abbrev cX12_count : ByteArray := prog_14_method_148_code
def yX12_count : MethodName := ⟨RX12, "count", "(I)I"⟩
def RJx145de : String := "java/io/Serializable"
def TJx145de : u_T := fun k => match k with
  | _ => ("", "", "", false)
def tyJx145de : Nat → FieldType := fun k => match k with
  | _ => .int
theorem nmJx145de : ∀ a, a < 0 → ∀ b, b < 0 → a ≠ b → (TJx145de a).2.1 ≠ (TJx145de b).2.1 := by decide +kernel
theorem tyJx145de_ok : ∀ k, k < 0 → parseFieldDescriptor (TJx145de k).2.2.1 = some (tyJx145de k) := by decide +kernel
def RJx9f9b0 : String := "java/lang/CharSequence"
def TJx9f9b0 : u_T := fun k => match k with
  | _ => ("", "", "", false)
def tyJx9f9b0 : Nat → FieldType := fun k => match k with
  | _ => .int
theorem nmJx9f9b0 : ∀ a, a < 0 → ∀ b, b < 0 → a ≠ b → (TJx9f9b0 a).2.1 ≠ (TJx9f9b0 b).2.1 := by decide +kernel
theorem tyJx9f9b0_ok : ∀ k, k < 0 → parseFieldDescriptor (TJx9f9b0 k).2.2.1 = some (tyJx9f9b0 k) := by decide +kernel
def RJxb160c : String := "java/lang/Comparable"
def TJxb160c : u_T := fun k => match k with
  | _ => ("", "", "", false)
def tyJxb160c : Nat → FieldType := fun k => match k with
  | _ => .int
theorem nmJxb160c : ∀ a, a < 0 → ∀ b, b < 0 → a ≠ b → (TJxb160c a).2.1 ≠ (TJxb160c b).2.1 := by decide +kernel
theorem tyJxb160c_ok : ∀ k, k < 0 → parseFieldDescriptor (TJxb160c k).2.2.1 = some (tyJxb160c k) := by decide +kernel
def RJ6 : String := "java/lang/Integer"
def TJ6 : u_T := fun k => match k with
  | _ => ("", "", "", false)
def tyJ6 : Nat → FieldType := fun k => match k with
  | _ => .int
theorem nmJ6 : ∀ a, a < 0 → ∀ b, b < 0 → a ≠ b → (TJ6 a).2.1 ≠ (TJ6 b).2.1 := by decide +kernel
theorem tyJ6_ok : ∀ k, k < 0 → parseFieldDescriptor (TJ6 k).2.2.1 = some (tyJ6 k) := by decide +kernel
abbrev cJ6_numberOfTrailingZeros_0f7a4 : ByteArray := prog_22_method_48_code
def yJ6_numberOfTrailingZeros_0f7a4 : MethodName := ⟨RJ6, "numberOfTrailingZeros", "(I)I"⟩
abbrev cJ6_bitCount_0f7a4 : ByteArray := prog_22_method_49_code
def yJ6_bitCount_0f7a4 : MethodName := ⟨RJ6, "bitCount", "(I)I"⟩
def RJ9 : String := "java/lang/Math"
def TJ9 : u_T := fun k => match k with
  | _ => ("", "", "", false)
def tyJ9 : Nat → FieldType := fun k => match k with
  | _ => .int
theorem nmJ9 : ∀ a, a < 0 → ∀ b, b < 0 → a ≠ b → (TJ9 a).2.1 ≠ (TJ9 b).2.1 := by decide +kernel
theorem tyJ9_ok : ∀ k, k < 0 → parseFieldDescriptor (TJ9 k).2.2.1 = some (tyJ9 k) := by decide +kernel
abbrev cJ9_max_7cf53 : ByteArray := prog_23_method_65_code
def yJ9_max_7cf53 : MethodName := ⟨RJ9, "max", "(II)I"⟩
abbrev cJ9_min_7cf53 : ByteArray := prog_23_method_69_code
def yJ9_min_7cf53 : MethodName := ⟨RJ9, "min", "(II)I"⟩
def RJ0 : String := "java/lang/String"
def TJ0 : u_T := fun k => match k with
  | _ => ("", "", "", false)
def tyJ0 : Nat → FieldType := fun k => match k with
  | _ => .int
theorem nmJ0 : ∀ a, a < 0 → ∀ b, b < 0 → a ≠ b → (TJ0 a).2.1 ≠ (TJ0 b).2.1 := by decide +kernel
theorem tyJ0_ok : ∀ k, k < 0 → parseFieldDescriptor (TJ0 k).2.2.1 = some (tyJ0 k) := by decide +kernel
abbrev cJ0_length_8abf5 : ByteArray := prog_25_method_54_code
def yJ0_length_8abf5 : MethodName := ⟨RJ0, "length", "()I"⟩
abbrev cJ0_charAt_5068e : ByteArray := prog_25_method_56_code
def yJ0_charAt_5068e : MethodName := ⟨RJ0, "charAt", "(I)C"⟩
abbrev cJ0_coder_7d493 : ByteArray := prog_25_method_152_code
def yJ0_coder_7d493 : MethodName := ⟨RJ0, "coder", "()B"⟩
abbrev cJ0_isLatin1_aae02 : ByteArray := prog_25_method_154_code
def yJ0_isLatin1_aae02 : MethodName := ⟨RJ0, "isLatin1", "()Z"⟩
abbrev cJ0_checkIndex_df160 : ByteArray := prog_25_method_155_code
def yJ0_checkIndex_df160 : MethodName := ⟨RJ0, "checkIndex", "(II)V"⟩
def RJ1 : String := "java/lang/StringLatin1"
def TJ1 : u_T := fun k => match k with
  | _ => ("", "", "", false)
def tyJ1 : Nat → FieldType := fun k => match k with
  | _ => .int
theorem nmJ1 : ∀ a, a < 0 → ∀ b, b < 0 → a ≠ b → (TJ1 a).2.1 ≠ (TJ1 b).2.1 := by decide +kernel
theorem tyJ1_ok : ∀ k, k < 0 → parseFieldDescriptor (TJ1 k).2.2.1 = some (tyJ1 k) := by decide +kernel
abbrev cJ1_charAt_3b067 : ByteArray := prog_26_method_2_code
def yJ1_charAt_3b067 : MethodName := ⟨RJ1, "charAt", "([BI)C"⟩
def RJ2 : String := "java/lang/StringUTF16"
def TJ2 : u_T := fun k => match k with
  | _ => ("", "", "", false)
def tyJ2 : Nat → FieldType := fun k => match k with
  | _ => .int
theorem nmJ2 : ∀ a, a < 0 → ∀ b, b < 0 → a ≠ b → (TJ2 a).2.1 ≠ (TJ2 b).2.1 := by decide +kernel
theorem tyJ2_ok : ∀ k, k < 0 → parseFieldDescriptor (TJ2 k).2.2.1 = some (tyJ2 k) := by decide +kernel
abbrev cJ2_getChar_3b067 : ByteArray := prog_27_method_5_code
def yJ2_getChar_3b067 : MethodName := ⟨RJ2, "getChar", "([BI)C"⟩
abbrev cJ2_length_9d52b : ByteArray := prog_27_method_6_code
def yJ2_length_9d52b : MethodName := ⟨RJ2, "length", "([B)I"⟩
abbrev cJ2_charAt_3b067 : ByteArray := prog_27_method_83_code
def yJ2_charAt_3b067 : MethodName := ⟨RJ2, "charAt", "([BI)C"⟩
abbrev cJ2_checkIndex_2214a : ByteArray := prog_27_method_91_code
def yJ2_checkIndex_2214a : MethodName := ⟨RJ2, "checkIndex", "(I[B)V"⟩
def RJ10 : String := "java/lang/System"
def TJ10 : u_T := fun k => match k with
  | _ => ("", "", "", false)
def tyJ10 : Nat → FieldType := fun k => match k with
  | _ => .int
theorem nmJ10 : ∀ a, a < 0 → ∀ b, b < 0 → a ≠ b → (TJ10 a).2.1 ≠ (TJ10 b).2.1 := by decide +kernel
theorem tyJ10_ok : ∀ k, k < 0 → parseFieldDescriptor (TJ10 k).2.2.1 = some (tyJ10 k) := by decide +kernel
def RJxfd54e : String := "java/lang/constant/Constable"
def TJxfd54e : u_T := fun k => match k with
  | _ => ("", "", "", false)
def tyJxfd54e : Nat → FieldType := fun k => match k with
  | _ => .int
theorem nmJxfd54e : ∀ a, a < 0 → ∀ b, b < 0 → a ≠ b → (TJxfd54e a).2.1 ≠ (TJxfd54e b).2.1 := by decide +kernel
theorem tyJxfd54e_ok : ∀ k, k < 0 → parseFieldDescriptor (TJxfd54e k).2.2.1 = some (tyJxfd54e k) := by decide +kernel
def RJx3cf43 : String := "java/lang/constant/ConstantDesc"
def TJx3cf43 : u_T := fun k => match k with
  | _ => ("", "", "", false)
def tyJx3cf43 : Nat → FieldType := fun k => match k with
  | _ => .int
theorem nmJx3cf43 : ∀ a, a < 0 → ∀ b, b < 0 → a ≠ b → (TJx3cf43 a).2.1 ≠ (TJx3cf43 b).2.1 := by decide +kernel
theorem tyJx3cf43_ok : ∀ k, k < 0 → parseFieldDescriptor (TJx3cf43 k).2.2.1 = some (tyJx3cf43 k) := by decide +kernel
def RJ3 : String := "jdk/internal/util/Preconditions"
def TJ3 : u_T := fun k => match k with
  | _ => ("", "", "", false)
def tyJ3 : Nat → FieldType := fun k => match k with
  | _ => .int
theorem nmJ3 : ∀ a, a < 0 → ∀ b, b < 0 → a ≠ b → (TJ3 a).2.1 ≠ (TJ3 b).2.1 := by decide +kernel
theorem tyJ3_ok : ∀ k, k < 0 → parseFieldDescriptor (TJ3 k).2.2.1 = some (tyJ3 k) := by decide +kernel
abbrev cJ3_checkIndex_8e157 : ByteArray := prog_34_method_11_code
def yJ3_checkIndex_8e157 : MethodName := ⟨RJ3, "checkIndex", "(IILjava/util/function/BiFunction;)I"⟩
def RL : String := "UnaskedNameLaw"
abbrev cL_story : ByteArray := method_3_code
def yL_story : MethodName := ⟨RL, "story", "(LUnaskedName;[J)I"⟩
abbrev cL_law : ByteArray := method_4_code
def yL_law : MethodName := ⟨RL, "law", "(LUnaskedName;[J)I"⟩
abbrev cL_name : ByteArray := method_5_code
def yL_name : MethodName := ⟨RL, "name", "(LUnaskedName;II[J)I"⟩
abbrev cL_court : ByteArray := method_6_code
def yL_court : MethodName := ⟨RL, "court", "(LUnaskedName;II[J)I"⟩
abbrev cL_word : ByteArray := method_7_code
def yL_word : MethodName := ⟨RL, "word", "(LUnaskedName;IZ[J)I"⟩
abbrev cL_deed : ByteArray := method_8_code
def yL_deed : MethodName := ⟨RL, "deed", "(LUnaskedName;II[J)I"⟩
abbrev cL_stings : ByteArray := method_9_code
def yL_stings : MethodName := ⟨RL, "stings", "(LUnaskedName;II[J)I"⟩
abbrev cL_say : ByteArray := method_10_code
def yL_say : MethodName := ⟨RL, "say", "(LUnaskedName;II[J)I"⟩
abbrev cL_does : ByteArray := method_11_code
def yL_does : MethodName := ⟨RL, "does", "(LUnaskedName;I[J)I"⟩
abbrev cL_keep : ByteArray := method_12_code
def yL_keep : MethodName := ⟨RL, "keep", "(LUnaskedName;IZ[J)I"⟩
abbrev cL_habit : ByteArray := method_13_code
def yL_habit : MethodName := ⟨RL, "habit", "(LUnaskedName;II[J)I"⟩
abbrev cL_his : ByteArray := method_14_code
def yL_his : MethodName := ⟨RL, "his", "(LUnaskedName;I[J)I"⟩
abbrev cL_crumb : ByteArray := method_15_code
def yL_crumb : MethodName := ⟨RL, "crumb", "(LUnaskedName;I[J)I"⟩
abbrev cL_nights : ByteArray := method_16_code
def yL_nights : MethodName := ⟨RL, "nights", "(LUnaskedName;I[J)I"⟩
abbrev cL_would : ByteArray := method_17_code
def yL_would : MethodName := ⟨RL, "would", "(LUnaskedName;IIZ[J)I"⟩
abbrev cL_ahead : ByteArray := method_18_code
def yL_ahead : MethodName := ⟨RL, "ahead", "(LUnaskedName;II[J)I"⟩
abbrev cL_first : ByteArray := method_19_code
def yL_first : MethodName := ⟨RL, "first", "(LUnaskedName;I[J)I"⟩
abbrev cL_siege : ByteArray := method_20_code
def yL_siege : MethodName := ⟨RL, "siege", "(LUnaskedName;I[J)I"⟩
abbrev cL_plan : ByteArray := method_21_code
def yL_plan : MethodName := ⟨RL, "plan", "(LUnaskedName;I[J)I"⟩
abbrev cL_keeps : ByteArray := method_22_code
def yL_keeps : MethodName := ⟨RL, "keeps", "(LUnaskedName;II[J)I"⟩
abbrev cL_fewest : ByteArray := method_23_code
def yL_fewest : MethodName := ⟨RL, "fewest", "(LUnaskedName;I[J)I"⟩
abbrev cL_silence : ByteArray := method_24_code
def yL_silence : MethodName := ⟨RL, "silence", "(LUnaskedName;I[J)I"⟩
abbrev cL_belief : ByteArray := method_25_code
def yL_belief : MethodName := ⟨RL, "belief", "(LUnaskedName;I[J)I"⟩
abbrev cL_duty : ByteArray := method_26_code
def yL_duty : MethodName := ⟨RL, "duty", "(LUnaskedName;I[J)I"⟩
abbrev cL_cheapest : ByteArray := method_27_code
def yL_cheapest : MethodName := ⟨RL, "cheapest", "(LUnaskedName;IZ[J)I"⟩
abbrev cL_sharpest : ByteArray := method_28_code
def yL_sharpest : MethodName := ⟨RL, "sharpest", "(LUnaskedName;I[J)I"⟩
abbrev cL_similar : ByteArray := method_29_code
def yL_similar : MethodName := ⟨RL, "similar", "(LUnaskedName;II[J)I"⟩
abbrev cL_learnt : ByteArray := method_30_code
def yL_learnt : MethodName := ⟨RL, "learnt", "(LUnaskedName;I[J)I"⟩
abbrev cL_trial : ByteArray := method_31_code
def yL_trial : MethodName := ⟨RL, "trial", "(LUnaskedName;IZ[J)I"⟩
abbrev cL_span : ByteArray := method_32_code
def yL_span : MethodName := ⟨RL, "span", "(LUnaskedName;I[J)I"⟩
abbrev cL_led : ByteArray := method_33_code
def yL_led : MethodName := ⟨RL, "led", "(LUnaskedName;II[J)I"⟩
abbrev cL_log : ByteArray := method_34_code
def yL_log : MethodName := ⟨RL, "log", "(LUnaskedName;II[J)I"⟩
abbrev cL_law_ : ByteArray := code
def yL_law_ : MethodName := ⟨RL, "law", "([I)Z"⟩
abbrev vwCl : List vw_C := [(RX0, TX0, 8), (RX1, TX1, 8), (RX2, TX2, 3), (RX3, TX3, 9), (RX4, TX4, 3), (RX5, TX5, 4), (RX6, TX6, 5), (RX8, TX8, 18), (RX9, TX9, 6), (RX10, TX10, 3), (RX11, TX11, 11), (RX12, TX12, 29)]
def Gw : List Cond := lw_tbl.filter goodWord
theorem gw_i {w : Cond} (i : Nat) (h : lw_tbl[i]? = some w) (hg : goodWord w = true) : w ∈ Gw := List.mem_filter.mpr ⟨List.mem_of_getElem? h, hg⟩
theorem gw_good : ∀ w ∈ Gw, goodWord w = true := fun _ h => (List.mem_filter.mp h).2
theorem gw_c {w : Cond} {C : List Cond} (hC : ∀ w ∈ C, w ∈ lw_tbl) (i : Nat) (h : C[i]? = some w) (hg : goodWord w = true) : w ∈ Gw := List.mem_filter.mpr ⟨hC w (List.mem_of_getElem? h), hg⟩
theorem tin_1 : ∀ w ∈ tables_1_1, w ∈ lw_tbl := fun w h => List.mem_append_right _ (List.mem_append_left _ h)
theorem tin_2 : ∀ w ∈ tables_1_2, w ∈ lw_tbl := fun w h => List.mem_append_right _ (List.mem_append_right _ (List.mem_append_left _ h))
theorem tin_3 : ∀ w ∈ tables_1_3, w ∈ lw_tbl := fun w h => List.mem_append_right _ (List.mem_append_right _ (List.mem_append_right _ (List.mem_append_left _ h)))
theorem tin_4 : ∀ w ∈ tables_1_4, w ∈ lw_tbl := fun w h => List.mem_append_right _ (List.mem_append_right _ (List.mem_append_right _ (List.mem_append_right _ (List.mem_append_left _ h))))
theorem tin_5 : ∀ w ∈ tables_1_5, w ∈ lw_tbl := fun w h => List.mem_append_right _ (List.mem_append_right _ (List.mem_append_right _ (List.mem_append_right _ (List.mem_append_right _ (List.mem_append_left _ h)))))
theorem tin_6 : ∀ w ∈ tables_1_6, w ∈ lw_tbl := fun w h => List.mem_append_right _ (List.mem_append_right _ (List.mem_append_right _ (List.mem_append_right _ (List.mem_append_right _ (List.mem_append_right _ (List.mem_append_left _ h))))))
theorem tin_7 : ∀ w ∈ tables_1_7, w ∈ lw_tbl := fun w h => List.mem_append_right _ (List.mem_append_right _ (List.mem_append_right _ (List.mem_append_right _ (List.mem_append_right _ (List.mem_append_right _ (List.mem_append_right _ (List.mem_append_left _ h)))))))
theorem tin_8 : ∀ w ∈ tables_1_8, w ∈ lw_tbl := fun w h => List.mem_append_right _ (List.mem_append_right _ (List.mem_append_right _ (List.mem_append_right _ (List.mem_append_right _ (List.mem_append_right _ (List.mem_append_right _ (List.mem_append_right _ (List.mem_append_left _ h))))))))
theorem tin_9 : ∀ w ∈ tables_1_9, w ∈ lw_tbl := fun w h => List.mem_append_right _ (List.mem_append_right _ (List.mem_append_right _ (List.mem_append_right _ (List.mem_append_right _ (List.mem_append_right _ (List.mem_append_right _ (List.mem_append_right _ (List.mem_append_right _ (List.mem_append_left _ h)))))))))
theorem tin_10 : ∀ w ∈ tables_1_10, w ∈ lw_tbl := fun w h => List.mem_append_right _ (List.mem_append_right _ (List.mem_append_right _ (List.mem_append_right _ (List.mem_append_right _ (List.mem_append_right _ (List.mem_append_right _ (List.mem_append_right _ (List.mem_append_right _ (List.mem_append_right _ (h))))))))))
theorem gw_s {w : Cond} (i : Nat) (h : (k2_sels lw_privs)[i]? = some w) (hg : goodWord w = true) : w ∈ Gw := List.mem_filter.mpr ⟨List.mem_append_left _ (List.mem_of_getElem? h), hg⟩
def rTab : List (String × Nat × String × Nat) := [("UnaskedName$StoryReader", 28, "name", 0), ("UnaskedName$StoryReader", 82, "credit", 1), ("UnaskedName$StoryReader", 37, "word", 2), ("UnaskedName$StoryReader", 115, "of", 3), ("UnaskedName$StoryReader", 49, "deed", 4), ("UnaskedName$StoryReader", 126, "costs", 5), ("UnaskedName$StoryReader", 54, "friend", 6), ("UnaskedName$StoryReader", 60, "enemy", 7), ("UnaskedName$StoryReader", 62, "duty", 8), ("UnaskedName$StoryReader", 150, "limit", 9), ("UnaskedName$StoryReader", 154, "year", 10), ("UnaskedName$StoryReader", 158, "talk", 11), ("UnaskedName$StoryReader", 162, "doubt", 12), ("UnaskedName$StoryReader", 166, "his", 13), ("UnaskedName", 99, "the text of the story is wrong", 14), ("UnaskedName", 115, "the story has all its texts", 15), ("UnaskedName$LawReader", 96, "blunt", 16), ("UnaskedName$LawReader", 98, "soothe", 17), ("UnaskedName$LawReader", 100, "sting", 18), ("UnaskedName$LawReader", 70, "if", 19), ("UnaskedName$LawReader", 102, "not", 20), ("UnaskedName$LawReader", 108, "true", 21), ("UnaskedName$LawReader", 110, "sure", 22), ("UnaskedName$LawReader", 119, "word", 23), ("UnaskedName$LawReader", 121, "deed", 24), ("UnaskedName$LawReader", 123, "doubt", 25), ("UnaskedName$LawReader", 125, "night", 26), ("UnaskedName$LawReader", 127, "left", 27), ("UnaskedName$LawReader", 129, "who", 28), ("UnaskedName$LawReader", 131, "and", 29), ("UnaskedName$LawReader", 137, "or", 30), ("UnaskedName", 128, "the text of the law is wrong", 31), ("UnaskedName", 405, "no such name", 32), ("UnaskedName", 171, "no such thing of a name", 33), ("UnaskedName", 407, "nobody of that number at court", 34), ("UnaskedName", 186, "no such thing of one of the court", 35), ("UnaskedName", 409, "no such word", 36), ("UnaskedName", 411, "no such deed", 37), ("UnaskedName", 210, "no such thing of a deed", 38), ("UnaskedName", 221, "he is gone, or that one is kept away", 39), ("UnaskedName", 235, "he is gone", 40), ("UnaskedName", 413, "no such trait", 41), ("UnaskedName", 257, "he is gone, or there is no name", 42), ("UnaskedName", 415, "the number is none", 43), ("UnaskedName", 354, "no such duty", 44), ("UnaskedName", 381, "no such thing of a row of the log", 45), ("UnaskedNameModel", 157, "name", 46), ("UnaskedNameModel", 128, "credit", 47), ("UnaskedNameModel", 163, "word", 48), ("UnaskedNameModel", 134, "of", 49), ("UnaskedNameModel", 168, "deed", 50), ("UnaskedNameModel", 148, "costs", 51), ("UnaskedNameModel", 173, "friend", 52), ("UnaskedNameModel", 179, "enemy", 53), ("UnaskedNameModel", 181, "duty", 54), ("UnaskedNameModel", 186, "limit", 55), ("UnaskedNameModel", 191, "year", 56), ("UnaskedNameModel", 193, "his", 57), ("UnaskedNameModel", 198, "talk", 58), ("UnaskedNameModel", 200, "doubt", 59), ("UnaskedNameModel", 249, "sting", 60), ("UnaskedNameModel", 251, "blunt", 61), ("UnaskedNameModel", 253, "soothe", 62), ("UnaskedNameModel", 255, "if", 63), ("UnaskedNameModel", 231, "not", 64), ("UnaskedNameModel", 221, "true", 65), ("UnaskedNameModel", 223, "sure", 66), ("UnaskedNameModel", 209, "night", 67), ("UnaskedNameModel", 211, "left", 68), ("UnaskedNameModel", 213, "who", 69), ("UnaskedNameModel", 242, "and", 70), ("UnaskedNameModel", 247, "or", 71)]
def nStr : Nat := 72
def lenS : List Nat := [4, 6, 4, 2, 4, 5, 6, 5, 4, 5, 4, 4, 5, 3, 30, 27, 5, 6, 5, 2, 3, 4, 4, 4, 4, 5, 5, 4, 3, 3, 2, 28, 12, 23, 30, 33, 12, 12, 23, 36, 10, 13, 31, 18, 12, 33, 4, 6, 4, 2, 4, 5, 6, 5, 4, 5, 4, 3, 4, 5, 5, 5, 6, 2, 3, 4, 4, 5, 4, 3, 3, 2]
def bytS : List (List Int32) := [[110, 97, 109, 101], [99, 114, 101, 100, 105, 116], [119, 111, 114, 100], [111, 102], [100, 101, 101, 100], [99, 111, 115, 116, 115], [102, 114, 105, 101, 110, 100], [101, 110, 101, 109, 121], [100, 117, 116, 121], [108, 105, 109, 105, 116], [121, 101, 97, 114], [116, 97, 108, 107], [100, 111, 117, 98, 116], [104, 105, 115], [116, 104, 101, 32, 116, 101, 120, 116, 32, 111, 102, 32, 116, 104, 101, 32, 115, 116, 111, 114, 121, 32, 105, 115, 32, 119, 114, 111, 110, 103], [116, 104, 101, 32, 115, 116, 111, 114, 121, 32, 104, 97, 115, 32, 97, 108, 108, 32, 105, 116, 115, 32, 116, 101, 120, 116, 115], [98, 108, 117, 110, 116], [115, 111, 111, 116, 104, 101], [115, 116, 105, 110, 103], [105, 102], [110, 111, 116], [116, 114, 117, 101], [115, 117, 114, 101], [119, 111, 114, 100], [100, 101, 101, 100], [100, 111, 117, 98, 116], [110, 105, 103, 104, 116], [108, 101, 102, 116], [119, 104, 111], [97, 110, 100], [111, 114], [116, 104, 101, 32, 116, 101, 120, 116, 32, 111, 102, 32, 116, 104, 101, 32, 108, 97, 119, 32, 105, 115, 32, 119, 114, 111, 110, 103], [110, 111, 32, 115, 117, 99, 104, 32, 110, 97, 109, 101], [110, 111, 32, 115, 117, 99, 104, 32, 116, 104, 105, 110, 103, 32, 111, 102, 32, 97, 32, 110, 97, 109, 101], [110, 111, 98, 111, 100, 121, 32, 111, 102, 32, 116, 104, 97, 116, 32, 110, 117, 109, 98, 101, 114, 32, 97, 116, 32, 99, 111, 117, 114, 116], [110, 111, 32, 115, 117, 99, 104, 32, 116, 104, 105, 110, 103, 32, 111, 102, 32, 111, 110, 101, 32, 111, 102, 32, 116, 104, 101, 32, 99, 111, 117, 114, 116], [110, 111, 32, 115, 117, 99, 104, 32, 119, 111, 114, 100], [110, 111, 32, 115, 117, 99, 104, 32, 100, 101, 101, 100], [110, 111, 32, 115, 117, 99, 104, 32, 116, 104, 105, 110, 103, 32, 111, 102, 32, 97, 32, 100, 101, 101, 100], [104, 101, 32, 105, 115, 32, 103, 111, 110, 101, 44, 32, 111, 114, 32, 116, 104, 97, 116, 32, 111, 110, 101, 32, 105, 115, 32, 107, 101, 112, 116, 32, 97, 119, 97, 121], [104, 101, 32, 105, 115, 32, 103, 111, 110, 101], [110, 111, 32, 115, 117, 99, 104, 32, 116, 114, 97, 105, 116], [104, 101, 32, 105, 115, 32, 103, 111, 110, 101, 44, 32, 111, 114, 32, 116, 104, 101, 114, 101, 32, 105, 115, 32, 110, 111, 32, 110, 97, 109, 101], [116, 104, 101, 32, 110, 117, 109, 98, 101, 114, 32, 105, 115, 32, 110, 111, 110, 101], [110, 111, 32, 115, 117, 99, 104, 32, 100, 117, 116, 121], [110, 111, 32, 115, 117, 99, 104, 32, 116, 104, 105, 110, 103, 32, 111, 102, 32, 97, 32, 114, 111, 119, 32, 111, 102, 32, 116, 104, 101, 32, 108, 111, 103], [110, 97, 109, 101], [99, 114, 101, 100, 105, 116], [119, 111, 114, 100], [111, 102], [100, 101, 101, 100], [99, 111, 115, 116, 115], [102, 114, 105, 101, 110, 100], [101, 110, 101, 109, 121], [100, 117, 116, 121], [108, 105, 109, 105, 116], [121, 101, 97, 114], [104, 105, 115], [116, 97, 108, 107], [100, 111, 117, 98, 116], [115, 116, 105, 110, 103], [98, 108, 117, 110, 116], [115, 111, 111, 116, 104, 101], [105, 102], [110, 111, 116], [116, 114, 117, 101], [115, 117, 114, 101], [110, 105, 103, 104, 116], [108, 101, 102, 116], [119, 104, 111], [97, 110, 100], [111, 114]]
def nTab : List (String × Nat × MethodName × String) := [("UnaskedName", 9, ({ cls := "UnaskedName$Tape", name := "<init>", desc := "()V" } : Jvm.MethodName), "UnaskedName"), ("UnaskedName", 18, ({ cls := "UnaskedName$World", name := "<init>", desc := "()V" } : Jvm.MethodName), "UnaskedName"), ("UnaskedName$World", 11, ({ cls := "UnaskedName$Tale", name := "<init>", desc := "()V" } : Jvm.MethodName), "UnaskedName"), ("UnaskedName$World", 20, ({ cls := "UnaskedName$Law", name := "<init>", desc := "()V" } : Jvm.MethodName), "UnaskedName"), ("UnaskedName$World", 27, ({ cls := "UnaskedName$Mind", name := "<init>", desc := "()V" } : Jvm.MethodName), "UnaskedName"), ("UnaskedName$Mind", 40, ({ cls := "UnaskedName$Log", name := "<init>", desc := "()V" } : Jvm.MethodName), "UnaskedName"), ("UnaskedName$Past", 22, ({ cls := "UnaskedName$Mind", name := "<init>", desc := "()V" } : Jvm.MethodName), "UnaskedName"), ("UnaskedName", 38, ({ cls := "UnaskedName$Mind", name := "<init>", desc := "()V" } : Jvm.MethodName), "UnaskedName"), ("UnaskedName", 45, ({ cls := "UnaskedName$Siege", name := "<init>", desc := "()V" } : Jvm.MethodName), "UnaskedName"), ("UnaskedName$Siege", 11, ({ cls := "UnaskedName$Mind", name := "<init>", desc := "()V" } : Jvm.MethodName), "UnaskedName"), ("UnaskedName", 52, ({ cls := "UnaskedName$Rows", name := "<init>", desc := "()V" } : Jvm.MethodName), "UnaskedName"), ("UnaskedName$Rows", 11, ({ cls := "UnaskedName$Mind", name := "<init>", desc := "()V" } : Jvm.MethodName), "UnaskedName"), ("UnaskedName", 59, ({ cls := "UnaskedName$LawReader", name := "<init>", desc := "()V" } : Jvm.MethodName), "UnaskedName"), ("UnaskedName$World", 46, ({ cls := "UnaskedName", name := "at", desc := "([II)I" } : Jvm.MethodName), "UnaskedName"), ("UnaskedName$World", 57, ({ cls := "UnaskedName", name := "has", desc := "(II)Z" } : Jvm.MethodName), "UnaskedName"), ("UnaskedName$Tale", 73, ({ cls := "UnaskedName", name := "at", desc := "([II)I" } : Jvm.MethodName), "UnaskedName"), ("UnaskedName$Tale", 77, ({ cls := "UnaskedName", name := "has", desc := "(II)Z" } : Jvm.MethodName), "UnaskedName"), ("UnaskedName$Log", 45, ({ cls := "UnaskedName", name := "at", desc := "([II)I" } : Jvm.MethodName), "UnaskedName"), ("UnaskedName$Tape", 62, ({ cls := "UnaskedName", name := "has", desc := "(II)Z" } : Jvm.MethodName), "UnaskedName"), ("UnaskedName$Mind", 59, ({ cls := "UnaskedName", name := "has", desc := "(II)Z" } : Jvm.MethodName), "UnaskedName"), ("UnaskedName$Siege", 112, ({ cls := "UnaskedName", name := "at", desc := "([II)I" } : Jvm.MethodName), "UnaskedName"), ("UnaskedName$Siege", 119, ({ cls := "UnaskedName", name := "has", desc := "(II)Z" } : Jvm.MethodName), "UnaskedName"), ("UnaskedName$Rows", 102, ({ cls := "UnaskedName", name := "at", desc := "([II)I" } : Jvm.MethodName), "UnaskedName")]
def cTab : List (String × String) := [("java/lang/IllegalArgumentException", "java/lang/IllegalArgumentException"), ("java/lang/UnsupportedOperationException", "java/lang/UnsupportedOperationException"), ("java/lang/IndexOutOfBoundsException", "java/lang/IndexOutOfBoundsException"), ("java/util/NoSuchElementException", "java/util/NoSuchElementException"), ("java/lang/IllegalStateException", "java/lang/IllegalStateException"), ("UnaskedName", "java/lang/Object"), ("UnaskedName$Tape", "java/lang/Object"), ("UnaskedName$World", "java/lang/Object"), ("UnaskedName$Tale", "java/lang/Object"), ("UnaskedName$Law", "java/lang/Object"), ("UnaskedName$Mind", "java/lang/Object"), ("UnaskedName$Log", "java/lang/Object"), ("UnaskedName$Past", "java/lang/Object"), ("UnaskedName$Siege", "java/lang/Object"), ("UnaskedName$Rows", "java/lang/Object"), ("UnaskedName$LawReader", "java/lang/Object"), ("UnaskedNameModel", "java/lang/Object"), ("java/lang/IllegalArgumentException", "java/lang/Object"), ("java/lang/UnsupportedOperationException", "java/lang/Object"), ("java/lang/IndexOutOfBoundsException", "java/lang/Object"), ("java/util/NoSuchElementException", "java/lang/Object"), ("java/lang/IllegalStateException", "java/lang/Object"), ("java/lang/Throwable", "java/lang/Object"), ("java/lang/String", "java/lang/Object")]
def dTab : List MethodName := [({ cls := "java/lang/RuntimeException", name := "<init>", desc := "()V" } : Jvm.MethodName), ({ cls := "java/lang/RuntimeException", name := "<init>", desc := "(Ljava/lang/String;)V" } : Jvm.MethodName), ({ cls := "java/lang/Exception", name := "<init>", desc := "()V" } : Jvm.MethodName), ({ cls := "java/lang/Exception", name := "<init>", desc := "(Ljava/lang/String;)V" } : Jvm.MethodName), ({ cls := "java/lang/Throwable", name := "<init>", desc := "()V" } : Jvm.MethodName), ({ cls := "java/lang/Throwable", name := "<init>", desc := "(Ljava/lang/String;)V" } : Jvm.MethodName)]
def ncTab : List (String × String) := [("java/lang/IllegalArgumentException", "java/lang/IllegalStateException"), ("java/lang/IllegalArgumentException", "java/lang/IndexOutOfBoundsException"), ("java/lang/IllegalArgumentException", "java/lang/UnsupportedOperationException"), ("java/lang/IllegalArgumentException", "java/util/NoSuchElementException"), ("java/lang/IllegalStateException", "java/lang/IllegalArgumentException"), ("java/lang/IllegalStateException", "java/lang/IndexOutOfBoundsException"), ("java/lang/IllegalStateException", "java/lang/UnsupportedOperationException"), ("java/lang/IllegalStateException", "java/util/NoSuchElementException"), ("java/lang/IndexOutOfBoundsException", "java/lang/IllegalArgumentException"), ("java/lang/IndexOutOfBoundsException", "java/lang/IllegalStateException"), ("java/lang/IndexOutOfBoundsException", "java/lang/UnsupportedOperationException"), ("java/lang/IndexOutOfBoundsException", "java/util/NoSuchElementException"), ("java/lang/UnsupportedOperationException", "java/lang/IllegalArgumentException"), ("java/lang/UnsupportedOperationException", "java/lang/IllegalStateException"), ("java/lang/UnsupportedOperationException", "java/lang/IndexOutOfBoundsException"), ("java/lang/UnsupportedOperationException", "java/util/NoSuchElementException"), ("java/util/NoSuchElementException", "java/lang/IllegalArgumentException"), ("java/util/NoSuchElementException", "java/lang/IllegalStateException"), ("java/util/NoSuchElementException", "java/lang/IndexOutOfBoundsException"), ("java/util/NoSuchElementException", "java/lang/UnsupportedOperationException")]
