-- ===== PART A: goes FIRST, ahead of the names: the tables' words, and 'selects' of the private methods out of them =====
/-- a private method of a class that the tables say can be made, by its rows of tables_1 -/
def lw_okq (q : MethodName × Nat) : Prop := (q.1.cls ≠ "java/lang/invoke/MethodHandle" ∧ q.1.cls ≠ "java/lang/invoke/VarHandle") ∧ Cond.instantiable q.1.cls q.2 ∈ tables_1 ∧ Cond.privateMethod q.1 ∈ tables_1 ∧ Cond.instanceMethod q.1 ∈ tables_1
theorem lw_p0 : lw_okq (⟨"FirstWords$Tape", "nextToken", "()V"⟩, 9) := ⟨⟨by decide +kernel, by decide +kernel⟩, List.mem_of_getElem? (i := 25) (by decide +kernel), List.mem_of_getElem? (i := 357) (by decide +kernel), List.mem_of_getElem? (i := 358) (by decide +kernel)⟩
theorem lw_p1 : lw_okq (⟨"FirstWords$Tape", "byteAt", "(I)I"⟩, 9) := ⟨⟨by decide +kernel, by decide +kernel⟩, List.mem_of_getElem? (i := 25) (by decide +kernel), List.mem_of_getElem? (i := 361) (by decide +kernel), List.mem_of_getElem? (i := 362) (by decide +kernel)⟩
theorem lw_p2 : lw_okq (⟨"FirstWords$Tape", "tokenAt", "(I)I"⟩, 9) := ⟨⟨by decide +kernel, by decide +kernel⟩, List.mem_of_getElem? (i := 25) (by decide +kernel), List.mem_of_getElem? (i := 365) (by decide +kernel), List.mem_of_getElem? (i := 366) (by decide +kernel)⟩
theorem lw_p3 : lw_okq (⟨"FirstWords$Tape", "blame", "(I)V"⟩, 9) := ⟨⟨by decide +kernel, by decide +kernel⟩, List.mem_of_getElem? (i := 25) (by decide +kernel), List.mem_of_getElem? (i := 369) (by decide +kernel), List.mem_of_getElem? (i := 370) (by decide +kernel)⟩
theorem lw_p4 : lw_okq (⟨"FirstWords$Tape", "readLine", "(LFirstWords$Told;)V"⟩, 9) := ⟨⟨by decide +kernel, by decide +kernel⟩, List.mem_of_getElem? (i := 25) (by decide +kernel), List.mem_of_getElem? (i := 373) (by decide +kernel), List.mem_of_getElem? (i := 374) (by decide +kernel)⟩
theorem lw_p5 : lw_okq (⟨"FirstWords$Tape", "sortNamed", "()I"⟩, 9) := ⟨⟨by decide +kernel, by decide +kernel⟩, List.mem_of_getElem? (i := 25) (by decide +kernel), List.mem_of_getElem? (i := 377) (by decide +kernel), List.mem_of_getElem? (i := 378) (by decide +kernel)⟩
theorem lw_p6 : lw_okq (⟨"FirstWords$Tape", "isNamed", "(Ljava/lang/String;)Z"⟩, 9) := ⟨⟨by decide +kernel, by decide +kernel⟩, List.mem_of_getElem? (i := 25) (by decide +kernel), List.mem_of_getElem? (i := 382) (by decide +kernel), List.mem_of_getElem? (i := 383) (by decide +kernel)⟩
theorem lw_p7 : lw_okq (⟨"FirstWords$Tape", "readThing", "(LFirstWords$Told;)V"⟩, 9) := ⟨⟨by decide +kernel, by decide +kernel⟩, List.mem_of_getElem? (i := 25) (by decide +kernel), List.mem_of_getElem? (i := 438) (by decide +kernel), List.mem_of_getElem? (i := 439) (by decide +kernel)⟩
theorem lw_p8 : lw_okq (⟨"FirstWords$Tape", "takeLetters", "(I)I"⟩, 9) := ⟨⟨by decide +kernel, by decide +kernel⟩, List.mem_of_getElem? (i := 25) (by decide +kernel), List.mem_of_getElem? (i := 442) (by decide +kernel), List.mem_of_getElem? (i := 443) (by decide +kernel)⟩
theorem lw_p9 : lw_okq (⟨"FirstWords$Tape", "readMeaning", "(LFirstWords$Told;)V"⟩, 9) := ⟨⟨by decide +kernel, by decide +kernel⟩, List.mem_of_getElem? (i := 25) (by decide +kernel), List.mem_of_getElem? (i := 454) (by decide +kernel), List.mem_of_getElem? (i := 455) (by decide +kernel)⟩
theorem lw_p10 : lw_okq (⟨"FirstWords$Tape", "readWord", "(LFirstWords$Told;)V"⟩, 9) := ⟨⟨by decide +kernel, by decide +kernel⟩, List.mem_of_getElem? (i := 25) (by decide +kernel), List.mem_of_getElem? (i := 470) (by decide +kernel), List.mem_of_getElem? (i := 471) (by decide +kernel)⟩
theorem lw_p11 : lw_okq (⟨"FirstWords$Tape", "takeNumber", "(I)I"⟩, 9) := ⟨⟨by decide +kernel, by decide +kernel⟩, List.mem_of_getElem? (i := 25) (by decide +kernel), List.mem_of_getElem? (i := 474) (by decide +kernel), List.mem_of_getElem? (i := 475) (by decide +kernel)⟩
theorem lw_p12 : lw_okq (⟨"FirstWords$Tape", "readKind", "(LFirstWords$Told;I)V"⟩, 9) := ⟨⟨by decide +kernel, by decide +kernel⟩, List.mem_of_getElem? (i := 25) (by decide +kernel), List.mem_of_getElem? (i := 482) (by decide +kernel), List.mem_of_getElem? (i := 483) (by decide +kernel)⟩
theorem lw_p13 : lw_okq (⟨"FirstWords$Tape", "withNamed", "()I"⟩, 9) := ⟨⟨by decide +kernel, by decide +kernel⟩, List.mem_of_getElem? (i := 25) (by decide +kernel), List.mem_of_getElem? (i := 490) (by decide +kernel), List.mem_of_getElem? (i := 491) (by decide +kernel)⟩
theorem lw_p14 : lw_okq (⟨"FirstWords$Told", "settleMeanings", "()V"⟩, 19) := ⟨⟨by decide +kernel, by decide +kernel⟩, List.mem_of_getElem? (i := 64) (by decide +kernel), List.mem_of_getElem? (i := 502) (by decide +kernel), List.mem_of_getElem? (i := 503) (by decide +kernel)⟩
theorem lw_p15 : lw_okq (⟨"FirstWords", "takeShowing", "(IIZ)V"⟩, 10) := ⟨⟨by decide +kernel, by decide +kernel⟩, List.mem_of_getElem? (i := 17) (by decide +kernel), List.mem_of_getElem? (i := 568) (by decide +kernel), List.mem_of_getElem? (i := 569) (by decide +kernel)⟩
def lw_privs_1 : List (MethodName × Nat) := [(⟨"FirstWords$Tape", "nextToken", "()V"⟩, 9), (⟨"FirstWords$Tape", "byteAt", "(I)I"⟩, 9), (⟨"FirstWords$Tape", "tokenAt", "(I)I"⟩, 9), (⟨"FirstWords$Tape", "blame", "(I)V"⟩, 9), (⟨"FirstWords$Tape", "readLine", "(LFirstWords$Told;)V"⟩, 9), (⟨"FirstWords$Tape", "sortNamed", "()I"⟩, 9), (⟨"FirstWords$Tape", "isNamed", "(Ljava/lang/String;)Z"⟩, 9), (⟨"FirstWords$Tape", "readThing", "(LFirstWords$Told;)V"⟩, 9), (⟨"FirstWords$Tape", "takeLetters", "(I)I"⟩, 9), (⟨"FirstWords$Tape", "readMeaning", "(LFirstWords$Told;)V"⟩, 9), (⟨"FirstWords$Tape", "readWord", "(LFirstWords$Told;)V"⟩, 9), (⟨"FirstWords$Tape", "takeNumber", "(I)I"⟩, 9), (⟨"FirstWords$Tape", "readKind", "(LFirstWords$Told;I)V"⟩, 9), (⟨"FirstWords$Tape", "withNamed", "()I"⟩, 9), (⟨"FirstWords$Told", "settleMeanings", "()V"⟩, 19), (⟨"FirstWords", "takeShowing", "(IIZ)V"⟩, 10)]
theorem lw_r1 : ∀ q ∈ lw_privs_1, lw_okq q := List.forall_mem_cons.mpr ⟨lw_p0, List.forall_mem_cons.mpr ⟨lw_p1, List.forall_mem_cons.mpr ⟨lw_p2, List.forall_mem_cons.mpr ⟨lw_p3, List.forall_mem_cons.mpr ⟨lw_p4, List.forall_mem_cons.mpr ⟨lw_p5, List.forall_mem_cons.mpr ⟨lw_p6, List.forall_mem_cons.mpr ⟨lw_p7, List.forall_mem_cons.mpr ⟨lw_p8, List.forall_mem_cons.mpr ⟨lw_p9, List.forall_mem_cons.mpr ⟨lw_p10, List.forall_mem_cons.mpr ⟨lw_p11, List.forall_mem_cons.mpr ⟨lw_p12, List.forall_mem_cons.mpr ⟨lw_p13, List.forall_mem_cons.mpr ⟨lw_p14, List.forall_mem_cons.mpr ⟨lw_p15, fun _ h => absurd h List.not_mem_nil⟩⟩⟩⟩⟩⟩⟩⟩⟩⟩⟩⟩⟩⟩⟩⟩
theorem lw_p16 : lw_okq (⟨"FirstWords$Minds", "frighten", "(I)V"⟩, 6) := ⟨⟨by decide +kernel, by decide +kernel⟩, List.mem_of_getElem? (i := 210) (by decide +kernel), List.mem_of_getElem? (i := 586) (by decide +kernel), List.mem_of_getElem? (i := 587) (by decide +kernel)⟩
theorem lw_p17 : lw_okq (⟨"FirstWords$Minds", "look", "(LFirstWords$Told;IIIZ)Z"⟩, 6) := ⟨⟨by decide +kernel, by decide +kernel⟩, List.mem_of_getElem? (i := 210) (by decide +kernel), List.mem_of_getElem? (i := 590) (by decide +kernel), List.mem_of_getElem? (i := 591) (by decide +kernel)⟩
theorem lw_p18 : lw_okq (⟨"FirstWords$Minds", "holdOrTurn", "(IIZ)V"⟩, 6) := ⟨⟨by decide +kernel, by decide +kernel⟩, List.mem_of_getElem? (i := 210) (by decide +kernel), List.mem_of_getElem? (i := 606) (by decide +kernel), List.mem_of_getElem? (i := 607) (by decide +kernel)⟩
theorem lw_p19 : lw_okq (⟨"FirstWords", "thinkAgain", "()V"⟩, 10) := ⟨⟨by decide +kernel, by decide +kernel⟩, List.mem_of_getElem? (i := 17) (by decide +kernel), List.mem_of_getElem? (i := 629) (by decide +kernel), List.mem_of_getElem? (i := 630) (by decide +kernel)⟩
theorem lw_p20 : lw_okq (⟨"FirstWords", "chanceOfFirst", "(II)I"⟩, 10) := ⟨⟨by decide +kernel, by decide +kernel⟩, List.mem_of_getElem? (i := 17) (by decide +kernel), List.mem_of_getElem? (i := 752) (by decide +kernel), List.mem_of_getElem? (i := 753) (by decide +kernel)⟩
theorem lw_p21 : lw_okq (⟨"FirstWords", "greatestLeft", "(II)I"⟩, 10) := ⟨⟨by decide +kernel, by decide +kernel⟩, List.mem_of_getElem? (i := 17) (by decide +kernel), List.mem_of_getElem? (i := 801) (by decide +kernel), List.mem_of_getElem? (i := 802) (by decide +kernel)⟩
theorem lw_p22 : lw_okq (⟨"FirstWords", "areSure", "(II)Z"⟩, 10) := ⟨⟨by decide +kernel, by decide +kernel⟩, List.mem_of_getElem? (i := 17) (by decide +kernel), List.mem_of_getElem? (i := 813) (by decide +kernel), List.mem_of_getElem? (i := 814) (by decide +kernel)⟩
theorem lw_p23 : lw_okq (⟨"FirstWords", "fittingTheirs", "()I"⟩, 10) := ⟨⟨by decide +kernel, by decide +kernel⟩, List.mem_of_getElem? (i := 17) (by decide +kernel), List.mem_of_getElem? (i := 834) (by decide +kernel), List.mem_of_getElem? (i := 835) (by decide +kernel)⟩
theorem lw_p24 : lw_okq (⟨"FirstWords", "mostTelling", "(I)I"⟩, 10) := ⟨⟨by decide +kernel, by decide +kernel⟩, List.mem_of_getElem? (i := 17) (by decide +kernel), List.mem_of_getElem? (i := 841) (by decide +kernel), List.mem_of_getElem? (i := 842) (by decide +kernel)⟩
theorem lw_p25 : lw_okq (⟨"FirstWords", "otherSound", "(III)I"⟩, 10) := ⟨⟨by decide +kernel, by decide +kernel⟩, List.mem_of_getElem? (i := 17) (by decide +kernel), List.mem_of_getElem? (i := 852) (by decide +kernel), List.mem_of_getElem? (i := 853) (by decide +kernel)⟩
theorem lw_p26 : lw_okq (⟨"FirstWords", "firstWrongRead", "(III)I"⟩, 10) := ⟨⟨by decide +kernel, by decide +kernel⟩, List.mem_of_getElem? (i := 17) (by decide +kernel), List.mem_of_getElem? (i := 903) (by decide +kernel), List.mem_of_getElem? (i := 904) (by decide +kernel)⟩
theorem lw_p27 : lw_okq (⟨"FirstWords", "imagesKept", "()I"⟩, 10) := ⟨⟨by decide +kernel, by decide +kernel⟩, List.mem_of_getElem? (i := 17) (by decide +kernel), List.mem_of_getElem? (i := 919) (by decide +kernel), List.mem_of_getElem? (i := 920) (by decide +kernel)⟩
theorem lw_p28 : lw_okq (⟨"FirstWordsModel", "firstDraft", "()V"⟩, 45) := ⟨⟨by decide +kernel, by decide +kernel⟩, List.mem_of_getElem? (i := 923) (by decide +kernel), List.mem_of_getElem? (i := 929) (by decide +kernel), List.mem_of_getElem? (i := 930) (by decide +kernel)⟩
theorem lw_p29 : lw_okq (⟨"FirstWordsModel", "keepDraft", "()V"⟩, 45) := ⟨⟨by decide +kernel, by decide +kernel⟩, List.mem_of_getElem? (i := 923) (by decide +kernel), List.mem_of_getElem? (i := 933) (by decide +kernel), List.mem_of_getElem? (i := 934) (by decide +kernel)⟩
theorem lw_p30 : lw_okq (⟨"FirstWordsModel", "replays", "()V"⟩, 45) := ⟨⟨by decide +kernel, by decide +kernel⟩, List.mem_of_getElem? (i := 923) (by decide +kernel), List.mem_of_getElem? (i := 937) (by decide +kernel), List.mem_of_getElem? (i := 938) (by decide +kernel)⟩
theorem lw_p31 : lw_okq (⟨"FirstWordsModel", "wakes", "(I)V"⟩, 45) := ⟨⟨by decide +kernel, by decide +kernel⟩, List.mem_of_getElem? (i := 923) (by decide +kernel), List.mem_of_getElem? (i := 941) (by decide +kernel), List.mem_of_getElem? (i := 942) (by decide +kernel)⟩
def lw_privs_2 : List (MethodName × Nat) := [(⟨"FirstWords$Minds", "frighten", "(I)V"⟩, 6), (⟨"FirstWords$Minds", "look", "(LFirstWords$Told;IIIZ)Z"⟩, 6), (⟨"FirstWords$Minds", "holdOrTurn", "(IIZ)V"⟩, 6), (⟨"FirstWords", "thinkAgain", "()V"⟩, 10), (⟨"FirstWords", "chanceOfFirst", "(II)I"⟩, 10), (⟨"FirstWords", "greatestLeft", "(II)I"⟩, 10), (⟨"FirstWords", "areSure", "(II)Z"⟩, 10), (⟨"FirstWords", "fittingTheirs", "()I"⟩, 10), (⟨"FirstWords", "mostTelling", "(I)I"⟩, 10), (⟨"FirstWords", "otherSound", "(III)I"⟩, 10), (⟨"FirstWords", "firstWrongRead", "(III)I"⟩, 10), (⟨"FirstWords", "imagesKept", "()I"⟩, 10), (⟨"FirstWordsModel", "firstDraft", "()V"⟩, 45), (⟨"FirstWordsModel", "keepDraft", "()V"⟩, 45), (⟨"FirstWordsModel", "replays", "()V"⟩, 45), (⟨"FirstWordsModel", "wakes", "(I)V"⟩, 45)]
theorem lw_r2 : ∀ q ∈ lw_privs_2, lw_okq q := List.forall_mem_cons.mpr ⟨lw_p16, List.forall_mem_cons.mpr ⟨lw_p17, List.forall_mem_cons.mpr ⟨lw_p18, List.forall_mem_cons.mpr ⟨lw_p19, List.forall_mem_cons.mpr ⟨lw_p20, List.forall_mem_cons.mpr ⟨lw_p21, List.forall_mem_cons.mpr ⟨lw_p22, List.forall_mem_cons.mpr ⟨lw_p23, List.forall_mem_cons.mpr ⟨lw_p24, List.forall_mem_cons.mpr ⟨lw_p25, List.forall_mem_cons.mpr ⟨lw_p26, List.forall_mem_cons.mpr ⟨lw_p27, List.forall_mem_cons.mpr ⟨lw_p28, List.forall_mem_cons.mpr ⟨lw_p29, List.forall_mem_cons.mpr ⟨lw_p30, List.forall_mem_cons.mpr ⟨lw_p31, fun _ h => absurd h List.not_mem_nil⟩⟩⟩⟩⟩⟩⟩⟩⟩⟩⟩⟩⟩⟩⟩⟩
theorem lw_p32 : lw_okq (⟨"FirstWordsModel", "sees", "(IIIIZ)V"⟩, 45) := ⟨⟨by decide +kernel, by decide +kernel⟩, List.mem_of_getElem? (i := 923) (by decide +kernel), List.mem_of_getElem? (i := 950) (by decide +kernel), List.mem_of_getElem? (i := 951) (by decide +kernel)⟩
theorem lw_p33 : lw_okq (⟨"FirstWordsModel", "flees", "(II)V"⟩, 45) := ⟨⟨by decide +kernel, by decide +kernel⟩, List.mem_of_getElem? (i := 923) (by decide +kernel), List.mem_of_getElem? (i := 954) (by decide +kernel), List.mem_of_getElem? (i := 955) (by decide +kernel)⟩
theorem lw_p34 : lw_okq (⟨"FirstWordsModel", "looks", "(IIIIZ)V"⟩, 45) := ⟨⟨by decide +kernel, by decide +kernel⟩, List.mem_of_getElem? (i := 923) (by decide +kernel), List.mem_of_getElem? (i := 958) (by decide +kernel), List.mem_of_getElem? (i := 959) (by decide +kernel)⟩
theorem lw_p35 : lw_okq (⟨"FirstWordsModel", "allThatFit", "(II)I"⟩, 45) := ⟨⟨by decide +kernel, by decide +kernel⟩, List.mem_of_getElem? (i := 923) (by decide +kernel), List.mem_of_getElem? (i := 962) (by decide +kernel), List.mem_of_getElem? (i := 963) (by decide +kernel)⟩
theorem lw_p36 : lw_okq (⟨"FirstWordsModel", "fitsIn", "(III)Z"⟩, 45) := ⟨⟨by decide +kernel, by decide +kernel⟩, List.mem_of_getElem? (i := 923) (by decide +kernel), List.mem_of_getElem? (i := 966) (by decide +kernel), List.mem_of_getElem? (i := 967) (by decide +kernel)⟩
theorem lw_p37 : lw_okq (⟨"FirstWordsModel", "canThink", "(I)I"⟩, 45) := ⟨⟨by decide +kernel, by decide +kernel⟩, List.mem_of_getElem? (i := 923) (by decide +kernel), List.mem_of_getElem? (i := 970) (by decide +kernel), List.mem_of_getElem? (i := 971) (by decide +kernel)⟩
theorem lw_p38 : lw_okq (⟨"FirstWordsModel", "proudLooks", "(IIIZ)V"⟩, 45) := ⟨⟨by decide +kernel, by decide +kernel⟩, List.mem_of_getElem? (i := 923) (by decide +kernel), List.mem_of_getElem? (i := 977) (by decide +kernel), List.mem_of_getElem? (i := 978) (by decide +kernel)⟩
theorem lw_p39 : lw_okq (⟨"FirstWordsModel", "plainest", "(I)I"⟩, 45) := ⟨⟨by decide +kernel, by decide +kernel⟩, List.mem_of_getElem? (i := 923) (by decide +kernel), List.mem_of_getElem? (i := 981) (by decide +kernel), List.mem_of_getElem? (i := 982) (by decide +kernel)⟩
theorem lw_p40 : lw_okq (⟨"FirstWordsModel", "marksOf", "(I)I"⟩, 45) := ⟨⟨by decide +kernel, by decide +kernel⟩, List.mem_of_getElem? (i := 923) (by decide +kernel), List.mem_of_getElem? (i := 985) (by decide +kernel), List.mem_of_getElem? (i := 986) (by decide +kernel)⟩
theorem lw_p41 : lw_okq (⟨"FirstWordsModel", "areAllOne", "(I)Z"⟩, 45) := ⟨⟨by decide +kernel, by decide +kernel⟩, List.mem_of_getElem? (i := 923) (by decide +kernel), List.mem_of_getElem? (i := 992) (by decide +kernel), List.mem_of_getElem? (i := 993) (by decide +kernel)⟩
theorem lw_p42 : lw_okq (⟨"FirstWordsModel", "next", "()V"⟩, 45) := ⟨⟨by decide +kernel, by decide +kernel⟩, List.mem_of_getElem? (i := 923) (by decide +kernel), List.mem_of_getElem? (i := 1145) (by decide +kernel), List.mem_of_getElem? (i := 1146) (by decide +kernel)⟩
theorem lw_p43 : lw_okq (⟨"FirstWordsModel", "look", "(I)I"⟩, 45) := ⟨⟨by decide +kernel, by decide +kernel⟩, List.mem_of_getElem? (i := 923) (by decide +kernel), List.mem_of_getElem? (i := 1149) (by decide +kernel), List.mem_of_getElem? (i := 1150) (by decide +kernel)⟩
theorem lw_p44 : lw_okq (⟨"FirstWordsModel", "needs", "(ZI)V"⟩, 45) := ⟨⟨by decide +kernel, by decide +kernel⟩, List.mem_of_getElem? (i := 923) (by decide +kernel), List.mem_of_getElem? (i := 1157) (by decide +kernel), List.mem_of_getElem? (i := 1158) (by decide +kernel)⟩
theorem lw_p45 : lw_okq (⟨"FirstWordsModel", "readLine", "()V"⟩, 45) := ⟨⟨by decide +kernel, by decide +kernel⟩, List.mem_of_getElem? (i := 923) (by decide +kernel), List.mem_of_getElem? (i := 1161) (by decide +kernel), List.mem_of_getElem? (i := 1162) (by decide +kernel)⟩
theorem lw_p46 : lw_okq (⟨"FirstWordsModel", "nameNow", "()I"⟩, 45) := ⟨⟨by decide +kernel, by decide +kernel⟩, List.mem_of_getElem? (i := 923) (by decide +kernel), List.mem_of_getElem? (i := 1165) (by decide +kernel), List.mem_of_getElem? (i := 1166) (by decide +kernel)⟩
theorem lw_p47 : lw_okq (⟨"FirstWordsModel", "kindNow", "()I"⟩, 45) := ⟨⟨by decide +kernel, by decide +kernel⟩, List.mem_of_getElem? (i := 923) (by decide +kernel), List.mem_of_getElem? (i := 1169) (by decide +kernel), List.mem_of_getElem? (i := 1170) (by decide +kernel)⟩
def lw_privs_3 : List (MethodName × Nat) := [(⟨"FirstWordsModel", "sees", "(IIIIZ)V"⟩, 45), (⟨"FirstWordsModel", "flees", "(II)V"⟩, 45), (⟨"FirstWordsModel", "looks", "(IIIIZ)V"⟩, 45), (⟨"FirstWordsModel", "allThatFit", "(II)I"⟩, 45), (⟨"FirstWordsModel", "fitsIn", "(III)Z"⟩, 45), (⟨"FirstWordsModel", "canThink", "(I)I"⟩, 45), (⟨"FirstWordsModel", "proudLooks", "(IIIZ)V"⟩, 45), (⟨"FirstWordsModel", "plainest", "(I)I"⟩, 45), (⟨"FirstWordsModel", "marksOf", "(I)I"⟩, 45), (⟨"FirstWordsModel", "areAllOne", "(I)Z"⟩, 45), (⟨"FirstWordsModel", "next", "()V"⟩, 45), (⟨"FirstWordsModel", "look", "(I)I"⟩, 45), (⟨"FirstWordsModel", "needs", "(ZI)V"⟩, 45), (⟨"FirstWordsModel", "readLine", "()V"⟩, 45), (⟨"FirstWordsModel", "nameNow", "()I"⟩, 45), (⟨"FirstWordsModel", "kindNow", "()I"⟩, 45)]
theorem lw_r3 : ∀ q ∈ lw_privs_3, lw_okq q := List.forall_mem_cons.mpr ⟨lw_p32, List.forall_mem_cons.mpr ⟨lw_p33, List.forall_mem_cons.mpr ⟨lw_p34, List.forall_mem_cons.mpr ⟨lw_p35, List.forall_mem_cons.mpr ⟨lw_p36, List.forall_mem_cons.mpr ⟨lw_p37, List.forall_mem_cons.mpr ⟨lw_p38, List.forall_mem_cons.mpr ⟨lw_p39, List.forall_mem_cons.mpr ⟨lw_p40, List.forall_mem_cons.mpr ⟨lw_p41, List.forall_mem_cons.mpr ⟨lw_p42, List.forall_mem_cons.mpr ⟨lw_p43, List.forall_mem_cons.mpr ⟨lw_p44, List.forall_mem_cons.mpr ⟨lw_p45, List.forall_mem_cons.mpr ⟨lw_p46, List.forall_mem_cons.mpr ⟨lw_p47, fun _ h => absurd h List.not_mem_nil⟩⟩⟩⟩⟩⟩⟩⟩⟩⟩⟩⟩⟩⟩⟩⟩
theorem lw_p48 : lw_okq (⟨"FirstWordsModel", "is", "(IIIII)Z"⟩, 45) := ⟨⟨by decide +kernel, by decide +kernel⟩, List.mem_of_getElem? (i := 923) (by decide +kernel), List.mem_of_getElem? (i := 1173) (by decide +kernel), List.mem_of_getElem? (i := 1174) (by decide +kernel)⟩
theorem lw_p49 : lw_okq (⟨"FirstWordsModel", "goesOn", "(III)Z"⟩, 45) := ⟨⟨by decide +kernel, by decide +kernel⟩, List.mem_of_getElem? (i := 923) (by decide +kernel), List.mem_of_getElem? (i := 1177) (by decide +kernel), List.mem_of_getElem? (i := 1178) (by decide +kernel)⟩
theorem lw_p50 : lw_okq (⟨"FirstWordsModel", "readMarks", "(I)I"⟩, 45) := ⟨⟨by decide +kernel, by decide +kernel⟩, List.mem_of_getElem? (i := 923) (by decide +kernel), List.mem_of_getElem? (i := 1184) (by decide +kernel), List.mem_of_getElem? (i := 1185) (by decide +kernel)⟩
theorem lw_p51 : lw_okq (⟨"FirstWordsModel", "readMeans", "()V"⟩, 45) := ⟨⟨by decide +kernel, by decide +kernel⟩, List.mem_of_getElem? (i := 923) (by decide +kernel), List.mem_of_getElem? (i := 1188) (by decide +kernel), List.mem_of_getElem? (i := 1189) (by decide +kernel)⟩
theorem lw_p52 : lw_okq (⟨"FirstWordsModel", "readNumber", "(II)I"⟩, 45) := ⟨⟨by decide +kernel, by decide +kernel⟩, List.mem_of_getElem? (i := 923) (by decide +kernel), List.mem_of_getElem? (i := 1192) (by decide +kernel), List.mem_of_getElem? (i := 1193) (by decide +kernel)⟩
theorem lw_p53 : lw_okq (⟨"FirstWordsModel", "readKind", "(I)V"⟩, 45) := ⟨⟨by decide +kernel, by decide +kernel⟩, List.mem_of_getElem? (i := 923) (by decide +kernel), List.mem_of_getElem? (i := 1196) (by decide +kernel), List.mem_of_getElem? (i := 1197) (by decide +kernel)⟩
theorem lw_p54 : lw_okq (⟨"FirstWordsModel", "isThing", "(I)Z"⟩, 45) := ⟨⟨by decide +kernel, by decide +kernel⟩, List.mem_of_getElem? (i := 923) (by decide +kernel), List.mem_of_getElem? (i := 1210) (by decide +kernel), List.mem_of_getElem? (i := 1211) (by decide +kernel)⟩
theorem lw_p55 : lw_okq (⟨"FirstWordsModel", "isSound", "(I)Z"⟩, 45) := ⟨⟨by decide +kernel, by decide +kernel⟩, List.mem_of_getElem? (i := 923) (by decide +kernel), List.mem_of_getElem? (i := 1222) (by decide +kernel), List.mem_of_getElem? (i := 1223) (by decide +kernel)⟩
theorem lw_p56 : lw_okq (⟨"FirstWordsModel", "isKind", "(I)Z"⟩, 45) := ⟨⟨by decide +kernel, by decide +kernel⟩, List.mem_of_getElem? (i := 923) (by decide +kernel), List.mem_of_getElem? (i := 1230) (by decide +kernel), List.mem_of_getElem? (i := 1231) (by decide +kernel)⟩
theorem lw_p57 : lw_okq (⟨"FirstWordsModel", "adds", "(IIZ)I"⟩, 45) := ⟨⟨by decide +kernel, by decide +kernel⟩, List.mem_of_getElem? (i := 923) (by decide +kernel), List.mem_of_getElem? (i := 1239) (by decide +kernel), List.mem_of_getElem? (i := 1240) (by decide +kernel)⟩
theorem lw_p58 : lw_okq (⟨"FirstWordsModel", "isTrue", "(II)Z"⟩, 45) := ⟨⟨by decide +kernel, by decide +kernel⟩, List.mem_of_getElem? (i := 923) (by decide +kernel), List.mem_of_getElem? (i := 1247) (by decide +kernel), List.mem_of_getElem? (i := 1248) (by decide +kernel)⟩
theorem lw_p59 : lw_okq (⟨"FirstWordsModel", "targetOf", "(I)I"⟩, 45) := ⟨⟨by decide +kernel, by decide +kernel⟩, List.mem_of_getElem? (i := 923) (by decide +kernel), List.mem_of_getElem? (i := 1251) (by decide +kernel), List.mem_of_getElem? (i := 1252) (by decide +kernel)⟩
theorem lw_p60 : lw_okq (⟨"FirstWordsModel", "isSame", "(III)Z"⟩, 45) := ⟨⟨by decide +kernel, by decide +kernel⟩, List.mem_of_getElem? (i := 923) (by decide +kernel), List.mem_of_getElem? (i := 1280) (by decide +kernel), List.mem_of_getElem? (i := 1281) (by decide +kernel)⟩
theorem lw_p61 : lw_okq (⟨"FirstWordsModel", "areKinds", "(I)Z"⟩, 45) := ⟨⟨by decide +kernel, by decide +kernel⟩, List.mem_of_getElem? (i := 923) (by decide +kernel), List.mem_of_getElem? (i := 1296) (by decide +kernel), List.mem_of_getElem? (i := 1297) (by decide +kernel)⟩
theorem lw_p62 : lw_okq (⟨"FirstWordsModel", "isSameForAll", "(III)Z"⟩, 45) := ⟨⟨by decide +kernel, by decide +kernel⟩, List.mem_of_getElem? (i := 923) (by decide +kernel), List.mem_of_getElem? (i := 1300) (by decide +kernel), List.mem_of_getElem? (i := 1301) (by decide +kernel)⟩
theorem lw_p63 : lw_okq (⟨"FirstWordsModel", "copies", "(II)V"⟩, 45) := ⟨⟨by decide +kernel, by decide +kernel⟩, List.mem_of_getElem? (i := 923) (by decide +kernel), List.mem_of_getElem? (i := 1308) (by decide +kernel), List.mem_of_getElem? (i := 1309) (by decide +kernel)⟩
def lw_privs_4 : List (MethodName × Nat) := [(⟨"FirstWordsModel", "is", "(IIIII)Z"⟩, 45), (⟨"FirstWordsModel", "goesOn", "(III)Z"⟩, 45), (⟨"FirstWordsModel", "readMarks", "(I)I"⟩, 45), (⟨"FirstWordsModel", "readMeans", "()V"⟩, 45), (⟨"FirstWordsModel", "readNumber", "(II)I"⟩, 45), (⟨"FirstWordsModel", "readKind", "(I)V"⟩, 45), (⟨"FirstWordsModel", "isThing", "(I)Z"⟩, 45), (⟨"FirstWordsModel", "isSound", "(I)Z"⟩, 45), (⟨"FirstWordsModel", "isKind", "(I)Z"⟩, 45), (⟨"FirstWordsModel", "adds", "(IIZ)I"⟩, 45), (⟨"FirstWordsModel", "isTrue", "(II)Z"⟩, 45), (⟨"FirstWordsModel", "targetOf", "(I)I"⟩, 45), (⟨"FirstWordsModel", "isSame", "(III)Z"⟩, 45), (⟨"FirstWordsModel", "areKinds", "(I)Z"⟩, 45), (⟨"FirstWordsModel", "isSameForAll", "(III)Z"⟩, 45), (⟨"FirstWordsModel", "copies", "(II)V"⟩, 45)]
theorem lw_r4 : ∀ q ∈ lw_privs_4, lw_okq q := List.forall_mem_cons.mpr ⟨lw_p48, List.forall_mem_cons.mpr ⟨lw_p49, List.forall_mem_cons.mpr ⟨lw_p50, List.forall_mem_cons.mpr ⟨lw_p51, List.forall_mem_cons.mpr ⟨lw_p52, List.forall_mem_cons.mpr ⟨lw_p53, List.forall_mem_cons.mpr ⟨lw_p54, List.forall_mem_cons.mpr ⟨lw_p55, List.forall_mem_cons.mpr ⟨lw_p56, List.forall_mem_cons.mpr ⟨lw_p57, List.forall_mem_cons.mpr ⟨lw_p58, List.forall_mem_cons.mpr ⟨lw_p59, List.forall_mem_cons.mpr ⟨lw_p60, List.forall_mem_cons.mpr ⟨lw_p61, List.forall_mem_cons.mpr ⟨lw_p62, List.forall_mem_cons.mpr ⟨lw_p63, fun _ h => absurd h List.not_mem_nil⟩⟩⟩⟩⟩⟩⟩⟩⟩⟩⟩⟩⟩⟩⟩⟩
theorem lw_p64 : lw_okq (⟨"FirstWordsModel", "fewest", "(III)I"⟩, 45) := ⟨⟨by decide +kernel, by decide +kernel⟩, List.mem_of_getElem? (i := 923) (by decide +kernel), List.mem_of_getElem? (i := 1312) (by decide +kernel), List.mem_of_getElem? (i := 1313) (by decide +kernel)⟩
theorem lw_p65 : lw_okq (⟨"FirstWordsModel", "teaches", "(III)Z"⟩, 45) := ⟨⟨by decide +kernel, by decide +kernel⟩, List.mem_of_getElem? (i := 923) (by decide +kernel), List.mem_of_getElem? (i := 1316) (by decide +kernel), List.mem_of_getElem? (i := 1317) (by decide +kernel)⟩
theorem lw_p66 : lw_okq (⟨"FirstWordsModel", "hasFled", "(II)Z"⟩, 45) := ⟨⟨by decide +kernel, by decide +kernel⟩, List.mem_of_getElem? (i := 923) (by decide +kernel), List.mem_of_getElem? (i := 1320) (by decide +kernel), List.mem_of_getElem? (i := 1321) (by decide +kernel)⟩
theorem lw_p67 : lw_okq (⟨"FirstWordsModel", "nextRow", "(I)Z"⟩, 45) := ⟨⟨by decide +kernel, by decide +kernel⟩, List.mem_of_getElem? (i := 923) (by decide +kernel), List.mem_of_getElem? (i := 1324) (by decide +kernel), List.mem_of_getElem? (i := 1325) (by decide +kernel)⟩
theorem lw_p68 : lw_okq (⟨"FirstWordsModel", "areUnlike", "()Z"⟩, 45) := ⟨⟨by decide +kernel, by decide +kernel⟩, List.mem_of_getElem? (i := 923) (by decide +kernel), List.mem_of_getElem? (i := 1336) (by decide +kernel), List.mem_of_getElem? (i := 1337) (by decide +kernel)⟩
theorem lw_p69 : lw_okq (⟨"FirstWordsModel", "taken", "(I)I"⟩, 45) := ⟨⟨by decide +kernel, by decide +kernel⟩, List.mem_of_getElem? (i := 923) (by decide +kernel), List.mem_of_getElem? (i := 1340) (by decide +kernel), List.mem_of_getElem? (i := 1341) (by decide +kernel)⟩
theorem lw_p70 : lw_okq (⟨"FirstWordsModel", "allChances", "()I"⟩, 45) := ⟨⟨by decide +kernel, by decide +kernel⟩, List.mem_of_getElem? (i := 923) (by decide +kernel), List.mem_of_getElem? (i := 1348) (by decide +kernel), List.mem_of_getElem? (i := 1349) (by decide +kernel)⟩
theorem lw_p71 : lw_okq (⟨"FirstWordsModel", "chanceOf", "(I)I"⟩, 45) := ⟨⟨by decide +kernel, by decide +kernel⟩, List.mem_of_getElem? (i := 923) (by decide +kernel), List.mem_of_getElem? (i := 1352) (by decide +kernel), List.mem_of_getElem? (i := 1353) (by decide +kernel)⟩
theorem lw_p72 : lw_okq (⟨"FirstWordsModel", "feared", "(Z)I"⟩, 45) := ⟨⟨by decide +kernel, by decide +kernel⟩, List.mem_of_getElem? (i := 923) (by decide +kernel), List.mem_of_getElem? (i := 1356) (by decide +kernel), List.mem_of_getElem? (i := 1357) (by decide +kernel)⟩
theorem lw_p73 : lw_okq (⟨"FirstWordsModel", "answerOf", "(III)I"⟩, 45) := ⟨⟨by decide +kernel, by decide +kernel⟩, List.mem_of_getElem? (i := 923) (by decide +kernel), List.mem_of_getElem? (i := 1371) (by decide +kernel), List.mem_of_getElem? (i := 1372) (by decide +kernel)⟩
theorem lw_p74 : lw_okq (⟨"FirstWordsModel", "whoSay", "(III)I"⟩, 45) := ⟨⟨by decide +kernel, by decide +kernel⟩, List.mem_of_getElem? (i := 923) (by decide +kernel), List.mem_of_getElem? (i := 1379) (by decide +kernel), List.mem_of_getElem? (i := 1380) (by decide +kernel)⟩
theorem lw_p75 : lw_okq (⟨"FirstWordsModel", "fitsTheirs", "()I"⟩, 45) := ⟨⟨by decide +kernel, by decide +kernel⟩, List.mem_of_getElem? (i := 923) (by decide +kernel), List.mem_of_getElem? (i := 1411) (by decide +kernel), List.mem_of_getElem? (i := 1412) (by decide +kernel)⟩
theorem lw_p76 : lw_okq (⟨"FirstWordsModel", "toAsk", "(I)I"⟩, 45) := ⟨⟨by decide +kernel, by decide +kernel⟩, List.mem_of_getElem? (i := 923) (by decide +kernel), List.mem_of_getElem? (i := 1415) (by decide +kernel), List.mem_of_getElem? (i := 1416) (by decide +kernel)⟩
def lw_privs_5 : List (MethodName × Nat) := [(⟨"FirstWordsModel", "fewest", "(III)I"⟩, 45), (⟨"FirstWordsModel", "teaches", "(III)Z"⟩, 45), (⟨"FirstWordsModel", "hasFled", "(II)Z"⟩, 45), (⟨"FirstWordsModel", "nextRow", "(I)Z"⟩, 45), (⟨"FirstWordsModel", "areUnlike", "()Z"⟩, 45), (⟨"FirstWordsModel", "taken", "(I)I"⟩, 45), (⟨"FirstWordsModel", "allChances", "()I"⟩, 45), (⟨"FirstWordsModel", "chanceOf", "(I)I"⟩, 45), (⟨"FirstWordsModel", "feared", "(Z)I"⟩, 45), (⟨"FirstWordsModel", "answerOf", "(III)I"⟩, 45), (⟨"FirstWordsModel", "whoSay", "(III)I"⟩, 45), (⟨"FirstWordsModel", "fitsTheirs", "()I"⟩, 45), (⟨"FirstWordsModel", "toAsk", "(I)I"⟩, 45)]
theorem lw_r5 : ∀ q ∈ lw_privs_5, lw_okq q := List.forall_mem_cons.mpr ⟨lw_p64, List.forall_mem_cons.mpr ⟨lw_p65, List.forall_mem_cons.mpr ⟨lw_p66, List.forall_mem_cons.mpr ⟨lw_p67, List.forall_mem_cons.mpr ⟨lw_p68, List.forall_mem_cons.mpr ⟨lw_p69, List.forall_mem_cons.mpr ⟨lw_p70, List.forall_mem_cons.mpr ⟨lw_p71, List.forall_mem_cons.mpr ⟨lw_p72, List.forall_mem_cons.mpr ⟨lw_p73, List.forall_mem_cons.mpr ⟨lw_p74, List.forall_mem_cons.mpr ⟨lw_p75, List.forall_mem_cons.mpr ⟨lw_p76, fun _ h => absurd h List.not_mem_nil⟩⟩⟩⟩⟩⟩⟩⟩⟩⟩⟩⟩⟩
def lw_privs : List (MethodName × Nat) := lw_privs_1 ++ (lw_privs_2 ++ (lw_privs_3 ++ (lw_privs_4 ++ (lw_privs_5))))
def lw_tbl : List Cond := k2_sels lw_privs ++ tables_1
theorem lw_privs_ok : ∀ q ∈ lw_privs, lw_okq q := by
  show ∀ q ∈ lw_privs_1 ++ (lw_privs_2 ++ (lw_privs_3 ++ (lw_privs_4 ++ (lw_privs_5)))), lw_okq q
  exact List.forall_mem_append.mpr ⟨lw_r1, List.forall_mem_append.mpr ⟨lw_r2, List.forall_mem_append.mpr ⟨lw_r3, List.forall_mem_append.mpr ⟨lw_r4, lw_r5⟩⟩⟩⟩

/-! ===== BEGIN words of one list among another's, by their places ===== -/
theorem goodIn_r {big : List Cond} (ws : List Cond) (ps : List Nat) (hp : ws = ps.filterMap (fun i => big[i]?)) (h : ws.all goodWord = true) : GoodIn big ws := by
  intro w hw
  have h1 := List.all_eq_true.mp h w hw
  rw [hp] at hw
  obtain ⟨i, -, hi⟩ := List.mem_filterMap.mp hw
  have hm : w ∈ big := by first | exact List.mem_of_getElem? hi | exact List.getElem?_mem hi
  exact ⟨hm, good_of_word h1⟩
theorem goodIn_app {big a b : List Cond} (ha : GoodIn big a) (hb : GoodIn big b) : GoodIn big (a ++ b) := fun w h => (List.mem_append.mp h).elim (ha w) (hb w)
theorem goodIn_ca {big a b : List Cond} {c : Cond} (ha : GoodIn big (c :: a)) (hb : GoodIn big b) : GoodIn big (c :: (a ++ b)) := fun w h => (List.mem_cons.mp h).elim (fun e => ha w (List.mem_cons.mpr (Or.inl e))) (fun h => (List.mem_append.mp h).elim (fun h => ha w (List.mem_cons.mpr (Or.inr h))) (hb w))
theorem goodIn_sub {big ws : List Cond} (hm : ∀ w ∈ ws, w ∈ big) (h : ws.all goodWord = true) : GoodIn big ws := fun w hw => ⟨hm w hw, good_of_word (List.all_eq_true.mp h w hw)⟩
/-! ===== END ===== -/

/-! ===== BEGIN printed: names, fields, word lists, decode rows ===== -/
def RX0 : String := "FirstWords$Minds"
def TX0 : u_T := fun k => match k with
  | 0 => ("FirstWords$Minds", "seen", "I", false)
  | 1 => ("FirstWords$Minds", "thought", "[I", true)
  | 2 => ("FirstWords$Minds", "wrong", "[I", true)
  | 3 => ("FirstWords$Minds", "latest", "[I", true)
  | 4 => ("FirstWords$Minds", "fledAt", "[I", true)
  | _ => ("FirstWords$Minds", "fit", "[I", true)
def tyX0 : Nat → FieldType := fun k => match k with
  | 0 => .int
  | 1 => .array .int
  | 2 => .array .int
  | 3 => .array .int
  | 4 => .array .int
  | _ => .array .int
abbrev wsX00 : List Cond := u_ws RX0 TX0 6
theorem nmX0 : ∀ a, a < 6 → ∀ b, b < 6 → a ≠ b → (TX0 a).2.1 ≠ (TX0 b).2.1 := by decide +kernel
theorem tyX0_ok : ∀ k, k < 6 → parseFieldDescriptor (TX0 k).2.2.1 = some (tyX0 k) := by decide +kernel
abbrev cX0_init : ByteArray := prog_2_method_1_code
def yX0_init : MethodName := ⟨RX0, "<init>", "()V"⟩
abbrev cX0_blank : ByteArray := prog_2_method_2_code
def yX0_blank : MethodName := ⟨RX0, "blank", "(LFirstWords$Told;)V"⟩
abbrev cX0_become : ByteArray := prog_2_method_3_code
def yX0_become : MethodName := ⟨RX0, "become", "(LFirstWords$Minds;)V"⟩
abbrev cX0_witness : ByteArray := prog_2_method_4_code
def yX0_witness : MethodName := ⟨RX0, "witness", "(LFirstWords$Told;IIIZ)Z"⟩
abbrev cX0_frighten : ByteArray := prog_2_method_5_code
def yX0_frighten : MethodName := ⟨RX0, "frighten", "(I)V"⟩
abbrev cX0_look : ByteArray := prog_2_method_6_code
def yX0_look : MethodName := ⟨RX0, "look", "(LFirstWords$Told;IIIZ)Z"⟩
abbrev cX0_holdOrTurn : ByteArray := prog_2_method_7_code
def yX0_holdOrTurn : MethodName := ⟨RX0, "holdOrTurn", "(IIZ)V"⟩
abbrev cX0_choices : ByteArray := prog_2_method_8_code
def yX0_choices : MethodName := ⟨RX0, "choices", "(LFirstWords$Told;II)I"⟩
abbrev cX0_thoughtOf : ByteArray := prog_2_method_9_code
def yX0_thoughtOf : MethodName := ⟨RX0, "thoughtOf", "(II)I"⟩
abbrev cX0_isSame : ByteArray := prog_2_method_10_code
def yX0_isSame : MethodName := ⟨RX0, "isSame", "(LFirstWords$Told;II)Z"⟩
abbrev cX0_isSameForAll : ByteArray := prog_2_method_11_code
def yX0_isSameForAll : MethodName := ⟨RX0, "isSameForAll", "(LFirstWords$Told;II)Z"⟩
abbrev cX0_chanceOfSame : ByteArray := prog_2_method_12_code
def yX0_chanceOfSame : MethodName := ⟨RX0, "chanceOfSame", "(LFirstWords$Told;I)I"⟩
abbrev cX0_answerOf : ByteArray := prog_2_method_13_code
def yX0_answerOf : MethodName := ⟨RX0, "answerOf", "(LFirstWords$Told;III)I"⟩
abbrev cX0_kindsThatAnswer : ByteArray := prog_2_method_14_code
def yX0_kindsThatAnswer : MethodName := ⟨RX0, "kindsThatAnswer", "(LFirstWords$Told;III)I"⟩
def RX1 : String := "FirstWords$Scene"
def TX1 : u_T := fun k => match k with
  | 0 => ("FirstWords$Scene", "showings", "I", false)
  | 1 => ("FirstWords$Scene", "sound", "[I", true)
  | 2 => ("FirstWords$Scene", "thing", "[I", true)
  | 3 => ("FirstWords$Scene", "so", "[Z", true)
  | 4 => ("FirstWords$Scene", "left", "I", false)
  | 5 => ("FirstWords$Scene", "theirs", "I", false)
  | 6 => ("FirstWords$Scene", "theirThing", "[I", true)
  | 7 => ("FirstWords$Scene", "theirSo", "[Z", true)
  | _ => ("FirstWords$Scene", "isKept", "Z", false)
def tyX1 : Nat → FieldType := fun k => match k with
  | 0 => .int
  | 1 => .array .int
  | 2 => .array .int
  | 3 => .array .boolean
  | 4 => .int
  | 5 => .int
  | 6 => .array .int
  | 7 => .array .boolean
  | _ => .boolean
abbrev wsX10 : List Cond := u_ws RX1 TX1 9
theorem nmX1 : ∀ a, a < 9 → ∀ b, b < 9 → a ≠ b → (TX1 a).2.1 ≠ (TX1 b).2.1 := by decide +kernel
theorem tyX1_ok : ∀ k, k < 9 → parseFieldDescriptor (TX1 k).2.2.1 = some (tyX1 k) := by decide +kernel
abbrev cX1_init : ByteArray := prog_3_method_1_code
def yX1_init : MethodName := ⟨RX1, "<init>", "()V"⟩
abbrev cX1_empty : ByteArray := prog_3_method_2_code
def yX1_empty : MethodName := ⟨RX1, "empty", "(LFirstWords$Told;)V"⟩
abbrev cX1_become : ByteArray := prog_3_method_3_code
def yX1_become : MethodName := ⟨RX1, "become", "(LFirstWords$Scene;)V"⟩
def RX2 : String := "FirstWords$Sheets"
def TX2 : u_T := fun k => match k with
  | 0 => ("FirstWords$Sheets", "size", "[I", true)
  | 1 => ("FirstWords$Sheets", "laneOf", "[I", true)
  | _ => ("FirstWords$Sheets", "cells", "[[I", true)
def tyX2 : Nat → FieldType := fun k => match k with
  | 0 => .array .int
  | 1 => .array .int
  | _ => .array (.array .int)
abbrev wsX20 : List Cond := u_ws RX2 TX2 3
theorem nmX2 : ∀ a, a < 3 → ∀ b, b < 3 → a ≠ b → (TX2 a).2.1 ≠ (TX2 b).2.1 := by decide +kernel
theorem tyX2_ok : ∀ k, k < 3 → parseFieldDescriptor (TX2 k).2.2.1 = some (tyX2 k) := by decide +kernel
abbrev cX2_init : ByteArray := prog_4_method_1_code
def yX2_init : MethodName := ⟨RX2, "<init>", "()V"⟩
abbrev cX2_renew : ByteArray := prog_4_method_2_code
def yX2_renew : MethodName := ⟨RX2, "renew", "(III)V"⟩
abbrev cX2_write : ByteArray := prog_4_method_3_code
def yX2_write : MethodName := ⟨RX2, "write", "(III)I"⟩
abbrev cX2_refusal : ByteArray := prog_4_method_4_code
def yX2_refusal : MethodName := ⟨RX2, "refusal", "(II)I"⟩
abbrev cX2_wholeShowings : ByteArray := prog_4_method_5_code
def yX2_wholeShowings : MethodName := ⟨RX2, "wholeShowings", "(III)I"⟩
abbrev cX2_cell : ByteArray := prog_4_method_6_code
def yX2_cell : MethodName := ⟨RX2, "cell", "(II)I"⟩
def RX3 : String := "FirstWords$Tape"
def TX3 : u_T := fun k => match k with
  | 0 => ("FirstWords$Tape", "bytes", "[I", true)
  | 1 => ("FirstWords$Tape", "length", "I", false)
  | 2 => ("FirstWords$Tape", "fault", "I", false)
  | 3 => ("FirstWords$Tape", "place", "I", false)
  | 4 => ("FirstWords$Tape", "lines", "I", false)
  | 5 => ("FirstWords$Tape", "at", "I", false)
  | 6 => ("FirstWords$Tape", "token", "I", false)
  | 7 => ("FirstWords$Tape", "start", "I", false)
  | _ => ("FirstWords$Tape", "stop", "I", false)
def tyX3 : Nat → FieldType := fun k => match k with
  | 0 => .array .int
  | 1 => .int
  | 2 => .int
  | 3 => .int
  | 4 => .int
  | 5 => .int
  | 6 => .int
  | 7 => .int
  | _ => .int
abbrev wsX30 : List Cond := u_ws RX3 TX3 9
theorem nmX3 : ∀ a, a < 9 → ∀ b, b < 9 → a ≠ b → (TX3 a).2.1 ≠ (TX3 b).2.1 := by decide +kernel
theorem tyX3_ok : ∀ k, k < 9 → parseFieldDescriptor (TX3 k).2.2.1 = some (tyX3 k) := by decide +kernel
abbrev cX3_init : ByteArray := prog_5_method_1_code
def yX3_init : MethodName := ⟨RX3, "<init>", "()V"⟩
abbrev cX3_put : ByteArray := prog_5_method_2_code
def yX3_put : MethodName := ⟨RX3, "put", "(I)V"⟩
abbrev cX3_readInto : ByteArray := prog_5_method_3_code
def yX3_readInto : MethodName := ⟨RX3, "readInto", "(LFirstWords$Told;)Z"⟩
abbrev cX3_blame : ByteArray := prog_5_method_4_code
def yX3_blame : MethodName := ⟨RX3, "blame", "(I)V"⟩
abbrev cX3_byteAt : ByteArray := prog_5_method_5_code
def yX3_byteAt : MethodName := ⟨RX3, "byteAt", "(I)I"⟩
abbrev cX3_tokenAt : ByteArray := prog_5_method_6_code
def yX3_tokenAt : MethodName := ⟨RX3, "tokenAt", "(I)I"⟩
abbrev cX3_nextToken : ByteArray := prog_5_method_7_code
def yX3_nextToken : MethodName := ⟨RX3, "nextToken", "()V"⟩
abbrev cX3_isNamed : ByteArray := prog_5_method_8_code
def yX3_isNamed : MethodName := ⟨RX3, "isNamed", "(Ljava/lang/String;)Z"⟩
abbrev cX3_readLine : ByteArray := prog_5_method_9_code
def yX3_readLine : MethodName := ⟨RX3, "readLine", "(LFirstWords$Told;)V"⟩
abbrev cX3_sortNamed : ByteArray := prog_5_method_10_code
def yX3_sortNamed : MethodName := ⟨RX3, "sortNamed", "()I"⟩
abbrev cX3_readThing : ByteArray := prog_5_method_11_code
def yX3_readThing : MethodName := ⟨RX3, "readThing", "(LFirstWords$Told;)V"⟩
abbrev cX3_readMeaning : ByteArray := prog_5_method_12_code
def yX3_readMeaning : MethodName := ⟨RX3, "readMeaning", "(LFirstWords$Told;)V"⟩
abbrev cX3_readWord : ByteArray := prog_5_method_13_code
def yX3_readWord : MethodName := ⟨RX3, "readWord", "(LFirstWords$Told;)V"⟩
abbrev cX3_readKind : ByteArray := prog_5_method_14_code
def yX3_readKind : MethodName := ⟨RX3, "readKind", "(LFirstWords$Told;I)V"⟩
abbrev cX3_withNamed : ByteArray := prog_5_method_15_code
def yX3_withNamed : MethodName := ⟨RX3, "withNamed", "()I"⟩
abbrev cX3_takeLetters : ByteArray := prog_5_method_16_code
def yX3_takeLetters : MethodName := ⟨RX3, "takeLetters", "(I)I"⟩
abbrev cX3_takeNumber : ByteArray := prog_5_method_17_code
def yX3_takeNumber : MethodName := ⟨RX3, "takeNumber", "(I)I"⟩
def RX4 : String := "FirstWords$Told"
def TX4 : u_T := fun k => match k with
  | 0 => ("FirstWords$Told", "things", "I", false)
  | 1 => ("FirstWords$Told", "meanings", "I", false)
  | 2 => ("FirstWords$Told", "sounds", "I", false)
  | 3 => ("FirstWords$Told", "kinds", "I", false)
  | 4 => ("FirstWords$Told", "marks", "[I", true)
  | 5 => ("FirstWords$Told", "isIt", "[I", true)
  | 6 => ("FirstWords$Told", "has", "[I", true)
  | 7 => ("FirstWords$Told", "hasNot", "[I", true)
  | 8 => ("FirstWords$Told", "asks", "[I", true)
  | 9 => ("FirstWords$Told", "are", "[I", true)
  | 10 => ("FirstWords$Told", "alike", "[I", true)
  | 11 => ("FirstWords$Told", "fromPlainest", "[I", true)
  | 12 => ("FirstWords$Told", "target", "[I", true)
  | 13 => ("FirstWords$Told", "sort", "[I", true)
  | 14 => ("FirstWords$Told", "sees", "[I", true)
  | 15 => ("FirstWords$Told", "fears", "[I", true)
  | 16 => ("FirstWords$Told", "unlike", "[Z", true)
  | 17 => ("FirstWords$Told", "chance", "[I", true)
  | _ => ("FirstWords$Told", "can", "[I", true)
def tyX4 : Nat → FieldType := fun k => match k with
  | 0 => .int
  | 1 => .int
  | 2 => .int
  | 3 => .int
  | 4 => .array .int
  | 5 => .array .int
  | 6 => .array .int
  | 7 => .array .int
  | 8 => .array .int
  | 9 => .array .int
  | 10 => .array .int
  | 11 => .array .int
  | 12 => .array .int
  | 13 => .array .int
  | 14 => .array .int
  | 15 => .array .int
  | 16 => .array .boolean
  | 17 => .array .int
  | _ => .array .int
abbrev wsX40 : List Cond := u_ws RX4 TX4 19
theorem nmX4 : ∀ a, a < 19 → ∀ b, b < 19 → a ≠ b → (TX4 a).2.1 ≠ (TX4 b).2.1 := by decide +kernel
theorem tyX4_ok : ∀ k, k < 19 → parseFieldDescriptor (TX4 k).2.2.1 = some (tyX4 k) := by decide +kernel
abbrev cX4_init : ByteArray := prog_6_method_1_code
def yX4_init : MethodName := ⟨RX4, "<init>", "()V"⟩
abbrev cX4_empty : ByteArray := prog_6_method_2_code
def yX4_empty : MethodName := ⟨RX4, "empty", "()V"⟩
abbrev cX4_addThing : ByteArray := prog_6_method_3_code
def yX4_addThing : MethodName := ⟨RX4, "addThing", "(I)V"⟩
abbrev cX4_addMeaning : ByteArray := prog_6_method_4_code
def yX4_addMeaning : MethodName := ⟨RX4, "addMeaning", "(II)V"⟩
abbrev cX4_addSound : ByteArray := prog_6_method_5_code
def yX4_addSound : MethodName := ⟨RX4, "addSound", "(I)V"⟩
abbrev cX4_addKind : ByteArray := prog_6_method_6_code
def yX4_addKind : MethodName := ⟨RX4, "addKind", "(I)V"⟩
abbrev cX4_settle : ByteArray := prog_6_method_7_code
def yX4_settle : MethodName := ⟨RX4, "settle", "()V"⟩
abbrev cX4_settleMeanings : ByteArray := prog_6_method_8_code
def yX4_settleMeanings : MethodName := ⟨RX4, "settleMeanings", "()V"⟩
abbrev cX4_hasThing : ByteArray := prog_6_method_9_code
def yX4_hasThing : MethodName := ⟨RX4, "hasThing", "(I)Z"⟩
abbrev cX4_hasMeaning : ByteArray := prog_6_method_10_code
def yX4_hasMeaning : MethodName := ⟨RX4, "hasMeaning", "(I)Z"⟩
abbrev cX4_hasSound : ByteArray := prog_6_method_11_code
def yX4_hasSound : MethodName := ⟨RX4, "hasSound", "(I)Z"⟩
abbrev cX4_hasKind : ByteArray := prog_6_method_12_code
def yX4_hasKind : MethodName := ⟨RX4, "hasKind", "(I)Z"⟩
abbrev cX4_areKinds : ByteArray := prog_6_method_13_code
def yX4_areKinds : MethodName := ⟨RX4, "areKinds", "(I)Z"⟩
abbrev cX4_allThings : ByteArray := prog_6_method_14_code
def yX4_allThings : MethodName := ⟨RX4, "allThings", "()I"⟩
abbrev cX4_allMeanings : ByteArray := prog_6_method_15_code
def yX4_allMeanings : MethodName := ⟨RX4, "allMeanings", "()I"⟩
abbrev cX4_allKinds : ByteArray := prog_6_method_16_code
def yX4_allKinds : MethodName := ⟨RX4, "allKinds", "()I"⟩
abbrev cX4_plainest : ByteArray := prog_6_method_17_code
def yX4_plainest : MethodName := ⟨RX4, "plainest", "(I)I"⟩
abbrev cX4_fitting : ByteArray := prog_6_method_18_code
def yX4_fitting : MethodName := ⟨RX4, "fitting", "(IZ)I"⟩
abbrev cX4_targetThings : ByteArray := prog_6_method_19_code
def yX4_targetThings : MethodName := ⟨RX4, "targetThings", "(I)I"⟩
abbrev cX4_likeTarget : ByteArray := prog_6_method_20_code
def yX4_likeTarget : MethodName := ⟨RX4, "likeTarget", "(I)I"⟩
abbrev cX4_isTarget : ByteArray := prog_6_method_21_code
def yX4_isTarget : MethodName := ⟨RX4, "isTarget", "(II)Z"⟩
abbrev cX4_kindsThatCan : ByteArray := prog_6_method_22_code
def yX4_kindsThatCan : MethodName := ⟨RX4, "kindsThatCan", "(I)I"⟩
abbrev cX4_kindsWithChance : ByteArray := prog_6_method_23_code
def yX4_kindsWithChance : MethodName := ⟨RX4, "kindsWithChance", "()I"⟩
abbrev cX4_chances : ByteArray := prog_6_method_24_code
def yX4_chances : MethodName := ⟨RX4, "chances", "(I)I"⟩
abbrev cX4_fearedBy : ByteArray := prog_6_method_25_code
def yX4_fearedBy : MethodName := ⟨RX4, "fearedBy", "(I)I"⟩
def RX5 : String := "FirstWords$Tutor"
def TX5 : u_T := fun k => match k with
  | 0 => ("FirstWords$Tutor", "row", "[I", true)
  | 1 => ("FirstWords$Tutor", "length", "I", false)
  | 2 => ("FirstWords$Tutor", "bestOrder", "[I", true)
  | 3 => ("FirstWords$Tutor", "bestTotal", "I", false)
  | 4 => ("FirstWords$Tutor", "tried", "[I", true)
  | 5 => ("FirstWords$Tutor", "alongRow", "[LFirstWords$Minds;", true)
  | 6 => ("FirstWords$Tutor", "alongOrder", "[LFirstWords$Minds;", true)
  | 7 => ("FirstWords$Tutor", "kinds", "I", false)
  | 8 => ("FirstWords$Tutor", "sound", "I", false)
  | _ => ("FirstWords$Tutor", "worth", "I", false)
def tyX5 : Nat → FieldType := fun k => match k with
  | 0 => .array .int
  | 1 => .int
  | 2 => .array .int
  | 3 => .int
  | 4 => .array .int
  | 5 => .array (.object "FirstWords$Minds")
  | 6 => .array (.object "FirstWords$Minds")
  | 7 => .int
  | 8 => .int
  | _ => .int
abbrev wsX50 : List Cond := u_ws RX5 TX5 10
theorem nmX5 : ∀ a, a < 10 → ∀ b, b < 10 → a ≠ b → (TX5 a).2.1 ≠ (TX5 b).2.1 := by decide +kernel
theorem tyX5_ok : ∀ k, k < 10 → parseFieldDescriptor (TX5 k).2.2.1 = some (tyX5 k) := by decide +kernel
abbrev cX5_init : ByteArray := prog_7_method_1_code
def yX5_init : MethodName := ⟨RX5, "<init>", "()V"⟩
abbrev cX5_findRow : ByteArray := prog_7_method_2_code
def yX5_findRow : MethodName := ⟨RX5, "findRow", "(LFirstWords$Told;LFirstWords$Minds;III)Z"⟩
abbrev cX5_isHopeless : ByteArray := prog_7_method_3_code
def yX5_isHopeless : MethodName := ⟨RX5, "isHopeless", "(LFirstWords$Told;LFirstWords$Minds;II)Z"⟩
abbrev cX5_thingsWorthShowing : ByteArray := prog_7_method_4_code
def yX5_thingsWorthShowing : MethodName := ⟨RX5, "thingsWorthShowing", "(LFirstWords$Told;I)I"⟩
abbrev cX5_reaches : ByteArray := prog_7_method_5_code
def yX5_reaches : MethodName := ⟨RX5, "reaches", "(LFirstWords$Tutor;LFirstWords$Told;I)Z"⟩
abbrev cX5_forgetOrder : ByteArray := prog_7_method_6_code
def yX5_forgetOrder : MethodName := ⟨RX5, "forgetOrder", "(LFirstWords$Told;)V"⟩
abbrev cX5_hasOrder : ByteArray := prog_7_method_7_code
def yX5_hasOrder : MethodName := ⟨RX5, "hasOrder", "()Z"⟩
abbrev cX5_tryOrders : ByteArray := prog_7_method_8_code
def yX5_tryOrders : MethodName := ⟨RX5, "tryOrders", "(LFirstWords$Tutor;LFirstWords$Told;IIII)V"⟩
def RX6 : String := "FirstWords"
def TX6 : u_T := fun k => match k with
  | 0 => ("FirstWords", "tape", "LFirstWords$Tape;", true)
  | 1 => ("FirstWords", "told", "LFirstWords$Told;", false)
  | 2 => ("FirstWords", "draft", "LFirstWords$Told;", false)
  | 3 => ("FirstWords", "now", "LFirstWords$Scene;", true)
  | 4 => ("FirstWords", "images", "[LFirstWords$Scene;", true)
  | 5 => ("FirstWords", "minds", "LFirstWords$Minds;", true)
  | 6 => ("FirstWords", "trial", "LFirstWords$Minds;", true)
  | 7 => ("FirstWords", "tutor", "LFirstWords$Tutor;", true)
  | 8 => ("FirstWords", "sheets", "LFirstWords$Sheets;", true)
  | _ => ("FirstWords", "tornBy", "I", false)
def tyX6 : Nat → FieldType := fun k => match k with
  | 0 => .object "FirstWords$Tape"
  | 1 => .object "FirstWords$Told"
  | 2 => .object "FirstWords$Told"
  | 3 => .object "FirstWords$Scene"
  | 4 => .array (.object "FirstWords$Scene")
  | 5 => .object "FirstWords$Minds"
  | 6 => .object "FirstWords$Minds"
  | 7 => .object "FirstWords$Tutor"
  | 8 => .object "FirstWords$Sheets"
  | _ => .int
abbrev wsX60 : List Cond := u_ws RX6 TX6 10
theorem nmX6 : ∀ a, a < 10 → ∀ b, b < 10 → a ≠ b → (TX6 a).2.1 ≠ (TX6 b).2.1 := by decide +kernel
theorem tyX6_ok : ∀ k, k < 10 → parseFieldDescriptor (TX6 k).2.2.1 = some (tyX6 k) := by decide +kernel
abbrev cX6_init : ByteArray := prog_1_method_1_code
def yX6_init : MethodName := ⟨RX6, "<init>", "()V"⟩
abbrev cX6_feed : ByteArray := prog_1_method_2_code
def yX6_feed : MethodName := ⟨RX6, "feed", "(J)I"⟩
abbrev cX6_end : ByteArray := prog_1_method_3_code
def yX6_end : MethodName := ⟨RX6, "end", "(I)I"⟩
abbrev cX6_text : ByteArray := prog_1_method_4_code
def yX6_text : MethodName := ⟨RX6, "text", "()I"⟩
abbrev cX6_fault : ByteArray := prog_1_method_5_code
def yX6_fault : MethodName := ⟨RX6, "fault", "()I"⟩
abbrev cX6_thing : ByteArray := prog_1_method_6_code
def yX6_thing : MethodName := ⟨RX6, "thing", "(I)I"⟩
abbrev cX6_meaning : ByteArray := prog_1_method_7_code
def yX6_meaning : MethodName := ⟨RX6, "meaning", "(II)I"⟩
abbrev cX6_word : ByteArray := prog_1_method_8_code
def yX6_word : MethodName := ⟨RX6, "word", "(I)I"⟩
abbrev cX6_kind : ByteArray := prog_1_method_9_code
def yX6_kind : MethodName := ⟨RX6, "kind", "(II)I"⟩
abbrev cX6_show : ByteArray := prog_1_method_10_code
def yX6_show : MethodName := ⟨RX6, "show", "(IIZ)I"⟩
abbrev cX6_teach : ByteArray := prog_1_method_11_code
def yX6_teach : MethodName := ⟨RX6, "teach", "(II)I"⟩
abbrev cX6_undo : ByteArray := prog_1_method_12_code
def yX6_undo : MethodName := ⟨RX6, "undo", "()I"⟩
abbrev cX6_clear : ByteArray := prog_1_method_13_code
def yX6_clear : MethodName := ⟨RX6, "clear", "()I"⟩
abbrev cX6_shown : ByteArray := prog_1_method_14_code
def yX6_shown : MethodName := ⟨RX6, "shown", "(II)I"⟩
abbrev cX6_thinks : ByteArray := prog_1_method_15_code
def yX6_thinks : MethodName := ⟨RX6, "thinks", "(II)I"⟩
abbrev cX6_fits : ByteArray := prog_1_method_16_code
def yX6_fits : MethodName := ⟨RX6, "fits", "(II)I"⟩
abbrev cX6_same : ByteArray := prog_1_method_17_code
def yX6_same : MethodName := ⟨RX6, "same", "(II)I"⟩
abbrev cX6_fled : ByteArray := prog_1_method_18_code
def yX6_fled : MethodName := ⟨RX6, "fled", "(I)I"⟩
abbrev cX6_against : ByteArray := prog_1_method_19_code
def yX6_against : MethodName := ⟨RX6, "against", "(II)I"⟩
abbrev cX6_common : ByteArray := prog_1_method_20_code
def yX6_common : MethodName := ⟨RX6, "common", "(I)I"⟩
abbrev cX6_teaching : ByteArray := prog_1_method_21_code
def yX6_teaching : MethodName := ⟨RX6, "teaching", "(III)I"⟩
abbrev cX6_never : ByteArray := prog_1_method_22_code
def yX6_never : MethodName := ⟨RX6, "never", "(II)I"⟩
abbrev cX6_order : ByteArray := prog_1_method_23_code
def yX6_order : MethodName := ⟨RX6, "order", "(II)I"⟩
abbrev cX6_first : ByteArray := prog_1_method_24_code
def yX6_first : MethodName := ⟨RX6, "first", "(II)I"⟩
abbrev cX6_fears : ByteArray := prog_1_method_25_code
def yX6_fears : MethodName := ⟨RX6, "fears", "(I)I"⟩
abbrev cX6_answer : ByteArray := prog_1_method_26_code
def yX6_answer : MethodName := ⟨RX6, "answer", "(III)I"⟩
abbrev cX6_heard : ByteArray := prog_1_method_27_code
def yX6_heard : MethodName := ⟨RX6, "heard", "(III)I"⟩
abbrev cX6_left : ByteArray := prog_1_method_28_code
def yX6_left : MethodName := ⟨RX6, "left", "(I)I"⟩
abbrev cX6_ask : ByteArray := prog_1_method_29_code
def yX6_ask : MethodName := ⟨RX6, "ask", "(I)I"⟩
abbrev cX6_sure : ByteArray := prog_1_method_30_code
def yX6_sure : MethodName := ⟨RX6, "sure", "(II)I"⟩
abbrev cX6_likely : ByteArray := prog_1_method_31_code
def yX6_likely : MethodName := ⟨RX6, "likely", "(II)I"⟩
abbrev cX6_theirs : ByteArray := prog_1_method_32_code
def yX6_theirs : MethodName := ⟨RX6, "theirs", "(IZ)I"⟩
abbrev cX6_hush : ByteArray := prog_1_method_33_code
def yX6_hush : MethodName := ⟨RX6, "hush", "()I"⟩
abbrev cX6_meant : ByteArray := prog_1_method_34_code
def yX6_meant : MethodName := ⟨RX6, "meant", "(I)I"⟩
abbrev cX6_build : ByteArray := prog_1_method_35_code
def yX6_build : MethodName := ⟨RX6, "build", "(II)I"⟩
abbrev cX6_draw : ByteArray := prog_1_method_36_code
def yX6_draw : MethodName := ⟨RX6, "draw", "(I)I"⟩
abbrev cX6_keep : ByteArray := prog_1_method_37_code
def yX6_keep : MethodName := ⟨RX6, "keep", "(I)I"⟩
abbrev cX6_back : ByteArray := prog_1_method_38_code
def yX6_back : MethodName := ⟨RX6, "back", "(I)I"⟩
abbrev cX6_sheet : ByteArray := prog_1_method_39_code
def yX6_sheet : MethodName := ⟨RX6, "sheet", "(III)I"⟩
abbrev cX6_lay : ByteArray := prog_1_method_40_code
def yX6_lay : MethodName := ⟨RX6, "lay", "(III)I"⟩
abbrev cX6_read : ByteArray := prog_1_method_41_code
def yX6_read : MethodName := ⟨RX6, "read", "(IIII)I"⟩
abbrev cX6_torn : ByteArray := prog_1_method_42_code
def yX6_torn : MethodName := ⟨RX6, "torn", "()I"⟩
abbrev cX6_count : ByteArray := prog_1_method_43_code
def yX6_count : MethodName := ⟨RX6, "count", "(I)I"⟩
abbrev cX6_isIn : ByteArray := prog_1_method_44_code
def yX6_isIn : MethodName := ⟨RX6, "isIn", "(II)Z"⟩
abbrev cX6_ofLowestTerms : ByteArray := prog_1_method_45_code
def yX6_ofLowestTerms : MethodName := ⟨RX6, "ofLowestTerms", "(IIZ)I"⟩
abbrev cX6_takeShowing : ByteArray := prog_1_method_46_code
def yX6_takeShowing : MethodName := ⟨RX6, "takeShowing", "(IIZ)V"⟩
abbrev cX6_thinkAgain : ByteArray := prog_1_method_47_code
def yX6_thinkAgain : MethodName := ⟨RX6, "thinkAgain", "()V"⟩
abbrev cX6_chanceOfFirst : ByteArray := prog_1_method_48_code
def yX6_chanceOfFirst : MethodName := ⟨RX6, "chanceOfFirst", "(II)I"⟩
abbrev cX6_greatestLeft : ByteArray := prog_1_method_49_code
def yX6_greatestLeft : MethodName := ⟨RX6, "greatestLeft", "(II)I"⟩
abbrev cX6_areSure : ByteArray := prog_1_method_50_code
def yX6_areSure : MethodName := ⟨RX6, "areSure", "(II)Z"⟩
abbrev cX6_fittingTheirs : ByteArray := prog_1_method_51_code
def yX6_fittingTheirs : MethodName := ⟨RX6, "fittingTheirs", "()I"⟩
abbrev cX6_mostTelling : ByteArray := prog_1_method_52_code
def yX6_mostTelling : MethodName := ⟨RX6, "mostTelling", "(I)I"⟩
abbrev cX6_otherSound : ByteArray := prog_1_method_53_code
def yX6_otherSound : MethodName := ⟨RX6, "otherSound", "(III)I"⟩
abbrev cX6_firstWrongRead : ByteArray := prog_1_method_54_code
def yX6_firstWrongRead : MethodName := ⟨RX6, "firstWrongRead", "(III)I"⟩
abbrev cX6_imagesKept : ByteArray := prog_1_method_55_code
def yX6_imagesKept : MethodName := ⟨RX6, "imagesKept", "()I"⟩
def RX7 : String := "FirstWordsModel"
def TX7 : u_T := fun k => match k with
  | 0 => ("FirstWordsModel", "things", "I", false)
  | 1 => ("FirstWordsModel", "thing", "[I", true)
  | 2 => ("FirstWordsModel", "meanings", "I", false)
  | 3 => ("FirstWordsModel", "having", "[I", true)
  | 4 => ("FirstWordsModel", "lacking", "[I", true)
  | 5 => ("FirstWordsModel", "sounds", "I", false)
  | 6 => ("FirstWordsModel", "target", "[I", true)
  | 7 => ("FirstWordsModel", "kinds", "I", false)
  | 8 => ("FirstWordsModel", "kind", "[I", true)
  | 9 => ("FirstWordsModel", "dThings", "I", false)
  | 10 => ("FirstWordsModel", "dThing", "[I", true)
  | 11 => ("FirstWordsModel", "dMeanings", "I", false)
  | 12 => ("FirstWordsModel", "dHaving", "[I", true)
  | 13 => ("FirstWordsModel", "dLacking", "[I", true)
  | 14 => ("FirstWordsModel", "dSounds", "I", false)
  | 15 => ("FirstWordsModel", "dTarget", "[I", true)
  | 16 => ("FirstWordsModel", "dKinds", "I", false)
  | 17 => ("FirstWordsModel", "dKind", "[I", true)
  | 18 => ("FirstWordsModel", "are", "[I", true)
  | 19 => ("FirstWordsModel", "tape", "[I", true)
  | 20 => ("FirstWordsModel", "taped", "I", false)
  | 21 => ("FirstWordsModel", "pos", "I", false)
  | 22 => ("FirstWordsModel", "from", "I", false)
  | 23 => ("FirstWordsModel", "sort", "I", false)
  | 24 => ("FirstWordsModel", "value", "I", false)
  | 25 => ("FirstWordsModel", "fault", "I", false)
  | 26 => ("FirstWordsModel", "wrongAt", "I", false)
  | 27 => ("FirstWordsModel", "st", "[I", true)
  | 28 => ("FirstWordsModel", "shows", "I", false)
  | 29 => ("FirstWordsModel", "shown", "[I", true)
  | 30 => ("FirstWordsModel", "row", "[I", true)
  | 31 => ("FirstWordsModel", "way", "[I", true)
  | 32 => ("FirstWordsModel", "bestWay", "[I", true)
  | 33 => ("FirstWordsModel", "leftNow", "I", false)
  | 34 => ("FirstWordsModel", "their", "I", false)
  | 35 => ("FirstWordsModel", "theirThing", "[I", true)
  | 36 => ("FirstWordsModel", "theirSo", "[Z", true)
  | 37 => ("FirstWordsModel", "isKept", "[Z", true)
  | 38 => ("FirstWordsModel", "keptMany", "[I", true)
  | 39 => ("FirstWordsModel", "keptShown", "[I", true)
  | 40 => ("FirstWordsModel", "keptTheirs", "[I", true)
  | 41 => ("FirstWordsModel", "lanes", "[I", true)
  | 42 => ("FirstWordsModel", "sizes", "[I", true)
  | 43 => ("FirstWordsModel", "cells", "[I", true)
  | _ => ("FirstWordsModel", "torn", "I", false)
def tyX7 : Nat → FieldType := fun k => match k with
  | 0 => .int
  | 1 => .array .int
  | 2 => .int
  | 3 => .array .int
  | 4 => .array .int
  | 5 => .int
  | 6 => .array .int
  | 7 => .int
  | 8 => .array .int
  | 9 => .int
  | 10 => .array .int
  | 11 => .int
  | 12 => .array .int
  | 13 => .array .int
  | 14 => .int
  | 15 => .array .int
  | 16 => .int
  | 17 => .array .int
  | 18 => .array .int
  | 19 => .array .int
  | 20 => .int
  | 21 => .int
  | 22 => .int
  | 23 => .int
  | 24 => .int
  | 25 => .int
  | 26 => .int
  | 27 => .array .int
  | 28 => .int
  | 29 => .array .int
  | 30 => .array .int
  | 31 => .array .int
  | 32 => .array .int
  | 33 => .int
  | 34 => .int
  | 35 => .array .int
  | 36 => .array .boolean
  | 37 => .array .boolean
  | 38 => .array .int
  | 39 => .array .int
  | 40 => .array .int
  | 41 => .array .int
  | 42 => .array .int
  | 43 => .array .int
  | _ => .int
abbrev wsX70 : List Cond := u_ws RX7 TX7 45
theorem nmX7 : ∀ a, a < 45 → ∀ b, b < 45 → a ≠ b → (TX7 a).2.1 ≠ (TX7 b).2.1 := by decide +kernel
theorem tyX7_ok : ∀ k, k < 45 → parseFieldDescriptor (TX7 k).2.2.1 = some (tyX7 k) := by decide +kernel
abbrev cX7_init : ByteArray := prog_9_method_1_code
def yX7_init : MethodName := ⟨RX7, "<init>", "()V"⟩
abbrev cX7_in : ByteArray := prog_9_method_3_code
def yX7_in : MethodName := ⟨RX7, "in", "(JJJ)Z"⟩
abbrev cX7_flag : ByteArray := prog_9_method_4_code
def yX7_flag : MethodName := ⟨RX7, "flag", "(Z)I"⟩
abbrev cX7_countOf : ByteArray := prog_9_method_5_code
def yX7_countOf : MethodName := ⟨RX7, "countOf", "(I)I"⟩
abbrev cX7_firstDraft : ByteArray := prog_9_method_6_code
def yX7_firstDraft : MethodName := ⟨RX7, "firstDraft", "()V"⟩
abbrev cX7_keepDraft : ByteArray := prog_9_method_7_code
def yX7_keepDraft : MethodName := ⟨RX7, "keepDraft", "()V"⟩
abbrev cX7_feed : ByteArray := prog_9_method_8_code
def yX7_feed : MethodName := ⟨RX7, "feed", "(J)I"⟩
abbrev cX7_end : ByteArray := prog_9_method_9_code
def yX7_end : MethodName := ⟨RX7, "end", "(I)I"⟩
abbrev cX7_needs : ByteArray := prog_9_method_10_code
def yX7_needs : MethodName := ⟨RX7, "needs", "(ZI)V"⟩
abbrev cX7_look : ByteArray := prog_9_method_11_code
def yX7_look : MethodName := ⟨RX7, "look", "(I)I"⟩
abbrev cX7_is : ByteArray := prog_9_method_12_code
def yX7_is : MethodName := ⟨RX7, "is", "(IIIII)Z"⟩
abbrev cX7_goesOn : ByteArray := prog_9_method_13_code
def yX7_goesOn : MethodName := ⟨RX7, "goesOn", "(III)Z"⟩
abbrev cX7_kindNow : ByteArray := prog_9_method_14_code
def yX7_kindNow : MethodName := ⟨RX7, "kindNow", "()I"⟩
abbrev cX7_nameNow : ByteArray := prog_9_method_15_code
def yX7_nameNow : MethodName := ⟨RX7, "nameNow", "()I"⟩
abbrev cX7_next : ByteArray := prog_9_method_16_code
def yX7_next : MethodName := ⟨RX7, "next", "()V"⟩
abbrev cX7_readNumber : ByteArray := prog_9_method_17_code
def yX7_readNumber : MethodName := ⟨RX7, "readNumber", "(II)I"⟩
abbrev cX7_readMarks : ByteArray := prog_9_method_18_code
def yX7_readMarks : MethodName := ⟨RX7, "readMarks", "(I)I"⟩
abbrev cX7_readKind : ByteArray := prog_9_method_19_code
def yX7_readKind : MethodName := ⟨RX7, "readKind", "(I)V"⟩
abbrev cX7_readMeans : ByteArray := prog_9_method_20_code
def yX7_readMeans : MethodName := ⟨RX7, "readMeans", "()V"⟩
abbrev cX7_readLine : ByteArray := prog_9_method_21_code
def yX7_readLine : MethodName := ⟨RX7, "readLine", "()V"⟩
abbrev cX7_text : ByteArray := prog_9_method_22_code
def yX7_text : MethodName := ⟨RX7, "text", "()I"⟩
abbrev cX7_fault : ByteArray := prog_9_method_23_code
def yX7_fault : MethodName := ⟨RX7, "fault", "()I"⟩
abbrev cX7_isThing : ByteArray := prog_9_method_24_code
def yX7_isThing : MethodName := ⟨RX7, "isThing", "(I)Z"⟩
abbrev cX7_isSound : ByteArray := prog_9_method_25_code
def yX7_isSound : MethodName := ⟨RX7, "isSound", "(I)Z"⟩
abbrev cX7_isKind : ByteArray := prog_9_method_26_code
def yX7_isKind : MethodName := ⟨RX7, "isKind", "(I)Z"⟩
abbrev cX7_areKinds : ByteArray := prog_9_method_27_code
def yX7_areKinds : MethodName := ⟨RX7, "areKinds", "(I)Z"⟩
abbrev cX7_marksOf : ByteArray := prog_9_method_28_code
def yX7_marksOf : MethodName := ⟨RX7, "marksOf", "(I)I"⟩
abbrev cX7_canThink : ByteArray := prog_9_method_29_code
def yX7_canThink : MethodName := ⟨RX7, "canThink", "(I)I"⟩
abbrev cX7_targetOf : ByteArray := prog_9_method_30_code
def yX7_targetOf : MethodName := ⟨RX7, "targetOf", "(I)I"⟩
abbrev cX7_thing : ByteArray := prog_9_method_31_code
def yX7_thing : MethodName := ⟨RX7, "thing", "(I)I"⟩
abbrev cX7_meaning : ByteArray := prog_9_method_32_code
def yX7_meaning : MethodName := ⟨RX7, "meaning", "(II)I"⟩
abbrev cX7_word : ByteArray := prog_9_method_33_code
def yX7_word : MethodName := ⟨RX7, "word", "(I)I"⟩
abbrev cX7_kind : ByteArray := prog_9_method_34_code
def yX7_kind : MethodName := ⟨RX7, "kind", "(II)I"⟩
abbrev cX7_wakes : ByteArray := prog_9_method_35_code
def yX7_wakes : MethodName := ⟨RX7, "wakes", "(I)V"⟩
abbrev cX7_fitsIn : ByteArray := prog_9_method_36_code
def yX7_fitsIn : MethodName := ⟨RX7, "fitsIn", "(III)Z"⟩
abbrev cX7_allThatFit : ByteArray := prog_9_method_37_code
def yX7_allThatFit : MethodName := ⟨RX7, "allThatFit", "(II)I"⟩
abbrev cX7_plainest : ByteArray := prog_9_method_38_code
def yX7_plainest : MethodName := ⟨RX7, "plainest", "(I)I"⟩
abbrev cX7_areAllOne : ByteArray := prog_9_method_39_code
def yX7_areAllOne : MethodName := ⟨RX7, "areAllOne", "(I)Z"⟩
abbrev cX7_proudLooks : ByteArray := prog_9_method_40_code
def yX7_proudLooks : MethodName := ⟨RX7, "proudLooks", "(IIIZ)V"⟩
abbrev cX7_looks : ByteArray := prog_9_method_41_code
def yX7_looks : MethodName := ⟨RX7, "looks", "(IIIIZ)V"⟩
abbrev cX7_flees : ByteArray := prog_9_method_42_code
def yX7_flees : MethodName := ⟨RX7, "flees", "(II)V"⟩
abbrev cX7_sees : ByteArray := prog_9_method_43_code
def yX7_sees : MethodName := ⟨RX7, "sees", "(IIIIZ)V"⟩
abbrev cX7_replays : ByteArray := prog_9_method_44_code
def yX7_replays : MethodName := ⟨RX7, "replays", "()V"⟩
abbrev cX7_adds : ByteArray := prog_9_method_45_code
def yX7_adds : MethodName := ⟨RX7, "adds", "(IIZ)I"⟩
abbrev cX7_isTrue : ByteArray := prog_9_method_46_code
def yX7_isTrue : MethodName := ⟨RX7, "isTrue", "(II)Z"⟩
abbrev cX7_show : ByteArray := prog_9_method_47_code
def yX7_show : MethodName := ⟨RX7, "show", "(IIZ)I"⟩
abbrev cX7_teach : ByteArray := prog_9_method_48_code
def yX7_teach : MethodName := ⟨RX7, "teach", "(II)I"⟩
abbrev cX7_undo : ByteArray := prog_9_method_49_code
def yX7_undo : MethodName := ⟨RX7, "undo", "()I"⟩
abbrev cX7_clear : ByteArray := prog_9_method_50_code
def yX7_clear : MethodName := ⟨RX7, "clear", "()I"⟩
abbrev cX7_shown : ByteArray := prog_9_method_51_code
def yX7_shown : MethodName := ⟨RX7, "shown", "(II)I"⟩
abbrev cX7_thinks : ByteArray := prog_9_method_52_code
def yX7_thinks : MethodName := ⟨RX7, "thinks", "(II)I"⟩
abbrev cX7_fits : ByteArray := prog_9_method_53_code
def yX7_fits : MethodName := ⟨RX7, "fits", "(II)I"⟩
abbrev cX7_isSame : ByteArray := prog_9_method_54_code
def yX7_isSame : MethodName := ⟨RX7, "isSame", "(III)Z"⟩
abbrev cX7_same : ByteArray := prog_9_method_55_code
def yX7_same : MethodName := ⟨RX7, "same", "(II)I"⟩
abbrev cX7_fled : ByteArray := prog_9_method_56_code
def yX7_fled : MethodName := ⟨RX7, "fled", "(I)I"⟩
abbrev cX7_against : ByteArray := prog_9_method_57_code
def yX7_against : MethodName := ⟨RX7, "against", "(II)I"⟩
abbrev cX7_isSameForAll : ByteArray := prog_9_method_58_code
def yX7_isSameForAll : MethodName := ⟨RX7, "isSameForAll", "(III)Z"⟩
abbrev cX7_common : ByteArray := prog_9_method_59_code
def yX7_common : MethodName := ⟨RX7, "common", "(I)I"⟩
abbrev cX7_copies : ByteArray := prog_9_method_60_code
def yX7_copies : MethodName := ⟨RX7, "copies", "(II)V"⟩
abbrev cX7_hasFled : ByteArray := prog_9_method_61_code
def yX7_hasFled : MethodName := ⟨RX7, "hasFled", "(II)Z"⟩
abbrev cX7_nextRow : ByteArray := prog_9_method_62_code
def yX7_nextRow : MethodName := ⟨RX7, "nextRow", "(I)Z"⟩
abbrev cX7_teaches : ByteArray := prog_9_method_63_code
def yX7_teaches : MethodName := ⟨RX7, "teaches", "(III)Z"⟩
abbrev cX7_fewest : ByteArray := prog_9_method_64_code
def yX7_fewest : MethodName := ⟨RX7, "fewest", "(III)I"⟩
abbrev cX7_teaching : ByteArray := prog_9_method_65_code
def yX7_teaching : MethodName := ⟨RX7, "teaching", "(III)I"⟩
abbrev cX7_never : ByteArray := prog_9_method_66_code
def yX7_never : MethodName := ⟨RX7, "never", "(II)I"⟩
abbrev cX7_taken : ByteArray := prog_9_method_67_code
def yX7_taken : MethodName := ⟨RX7, "taken", "(I)I"⟩
abbrev cX7_areUnlike : ByteArray := prog_9_method_68_code
def yX7_areUnlike : MethodName := ⟨RX7, "areUnlike", "()Z"⟩
abbrev cX7_order : ByteArray := prog_9_method_69_code
def yX7_order : MethodName := ⟨RX7, "order", "(II)I"⟩
abbrev cX7_chanceOf : ByteArray := prog_9_method_70_code
def yX7_chanceOf : MethodName := ⟨RX7, "chanceOf", "(I)I"⟩
abbrev cX7_allChances : ByteArray := prog_9_method_71_code
def yX7_allChances : MethodName := ⟨RX7, "allChances", "()I"⟩
abbrev cX7_feared : ByteArray := prog_9_method_72_code
def yX7_feared : MethodName := ⟨RX7, "feared", "(Z)I"⟩
abbrev cX7_lowest : ByteArray := prog_9_method_73_code
def yX7_lowest : MethodName := ⟨RX7, "lowest", "(III)I"⟩
abbrev cX7_first : ByteArray := prog_9_method_74_code
def yX7_first : MethodName := ⟨RX7, "first", "(II)I"⟩
abbrev cX7_fears : ByteArray := prog_9_method_75_code
def yX7_fears : MethodName := ⟨RX7, "fears", "(I)I"⟩
abbrev cX7_answerOf : ByteArray := prog_9_method_76_code
def yX7_answerOf : MethodName := ⟨RX7, "answerOf", "(III)I"⟩
abbrev cX7_answer : ByteArray := prog_9_method_77_code
def yX7_answer : MethodName := ⟨RX7, "answer", "(III)I"⟩
abbrev cX7_whoSay : ByteArray := prog_9_method_78_code
def yX7_whoSay : MethodName := ⟨RX7, "whoSay", "(III)I"⟩
abbrev cX7_heard : ByteArray := prog_9_method_79_code
def yX7_heard : MethodName := ⟨RX7, "heard", "(III)I"⟩
abbrev cX7_left : ByteArray := prog_9_method_80_code
def yX7_left : MethodName := ⟨RX7, "left", "(I)I"⟩
abbrev cX7_ask : ByteArray := prog_9_method_81_code
def yX7_ask : MethodName := ⟨RX7, "ask", "(I)I"⟩
abbrev cX7_sure : ByteArray := prog_9_method_82_code
def yX7_sure : MethodName := ⟨RX7, "sure", "(II)I"⟩
abbrev cX7_likely : ByteArray := prog_9_method_83_code
def yX7_likely : MethodName := ⟨RX7, "likely", "(II)I"⟩
abbrev cX7_theirs : ByteArray := prog_9_method_84_code
def yX7_theirs : MethodName := ⟨RX7, "theirs", "(IZ)I"⟩
abbrev cX7_hush : ByteArray := prog_9_method_85_code
def yX7_hush : MethodName := ⟨RX7, "hush", "()I"⟩
abbrev cX7_fitsTheirs : ByteArray := prog_9_method_86_code
def yX7_fitsTheirs : MethodName := ⟨RX7, "fitsTheirs", "()I"⟩
abbrev cX7_toAsk : ByteArray := prog_9_method_87_code
def yX7_toAsk : MethodName := ⟨RX7, "toAsk", "(I)I"⟩
abbrev cX7_meant : ByteArray := prog_9_method_88_code
def yX7_meant : MethodName := ⟨RX7, "meant", "(I)I"⟩
abbrev cX7_build : ByteArray := prog_9_method_89_code
def yX7_build : MethodName := ⟨RX7, "build", "(II)I"⟩
abbrev cX7_draw : ByteArray := prog_9_method_90_code
def yX7_draw : MethodName := ⟨RX7, "draw", "(I)I"⟩
abbrev cX7_keep : ByteArray := prog_9_method_91_code
def yX7_keep : MethodName := ⟨RX7, "keep", "(I)I"⟩
abbrev cX7_back : ByteArray := prog_9_method_92_code
def yX7_back : MethodName := ⟨RX7, "back", "(I)I"⟩
abbrev cX7_isSheet : ByteArray := prog_9_method_93_code
def yX7_isSheet : MethodName := ⟨RX7, "isSheet", "(II)Z"⟩
abbrev cX7_sheet : ByteArray := prog_9_method_94_code
def yX7_sheet : MethodName := ⟨RX7, "sheet", "(III)I"⟩
abbrev cX7_lay : ByteArray := prog_9_method_95_code
def yX7_lay : MethodName := ⟨RX7, "lay", "(III)I"⟩
abbrev cX7_read : ByteArray := prog_9_method_96_code
def yX7_read : MethodName := ⟨RX7, "read", "(IIII)I"⟩
abbrev cX7_torn : ByteArray := prog_9_method_97_code
def yX7_torn : MethodName := ⟨RX7, "torn", "()I"⟩
abbrev cX7_count : ByteArray := prog_9_method_98_code
def yX7_count : MethodName := ⟨RX7, "count", "(I)I"⟩
def RJ6 : String := "java/lang/Integer"
def TJ6 : u_T := fun k => match k with
  | _ => ("", "", "", false)
def tyJ6 : Nat → FieldType := fun k => match k with
  | _ => .int
abbrev wsJ60 : List Cond := u_ws RJ6 TJ6 0
theorem nmJ6 : ∀ a, a < 0 → ∀ b, b < 0 → a ≠ b → (TJ6 a).2.1 ≠ (TJ6 b).2.1 := by decide +kernel
theorem tyJ6_ok : ∀ k, k < 0 → parseFieldDescriptor (TJ6 k).2.2.1 = some (tyJ6 k) := by decide +kernel
abbrev cJ6_bitCount_0f7a4 : ByteArray := prog_10_method_49_code
def yJ6_bitCount_0f7a4 : MethodName := ⟨RJ6, "bitCount", "(I)I"⟩
def RJ9 : String := "java/lang/Math"
def TJ9 : u_T := fun k => match k with
  | _ => ("", "", "", false)
def tyJ9 : Nat → FieldType := fun k => match k with
  | _ => .int
abbrev wsJ90 : List Cond := u_ws RJ9 TJ9 0
theorem nmJ9 : ∀ a, a < 0 → ∀ b, b < 0 → a ≠ b → (TJ9 a).2.1 ≠ (TJ9 b).2.1 := by decide +kernel
theorem tyJ9_ok : ∀ k, k < 0 → parseFieldDescriptor (TJ9 k).2.2.1 = some (tyJ9 k) := by decide +kernel
abbrev cJ9_max_7cf53 : ByteArray := prog_11_method_65_code
def yJ9_max_7cf53 : MethodName := ⟨RJ9, "max", "(II)I"⟩
abbrev cJ9_min_7cf53 : ByteArray := prog_11_method_69_code
def yJ9_min_7cf53 : MethodName := ⟨RJ9, "min", "(II)I"⟩
def RJ0 : String := "java/lang/String"
def TJ0 : u_T := fun k => match k with
  | _ => ("", "", "", false)
def tyJ0 : Nat → FieldType := fun k => match k with
  | _ => .int
abbrev wsJ00 : List Cond := u_ws RJ0 TJ0 0
theorem nmJ0 : ∀ a, a < 0 → ∀ b, b < 0 → a ≠ b → (TJ0 a).2.1 ≠ (TJ0 b).2.1 := by decide +kernel
theorem tyJ0_ok : ∀ k, k < 0 → parseFieldDescriptor (TJ0 k).2.2.1 = some (tyJ0 k) := by decide +kernel
abbrev cJ0_length_8abf5 : ByteArray := prog_12_method_54_code
def yJ0_length_8abf5 : MethodName := ⟨RJ0, "length", "()I"⟩
abbrev cJ0_charAt_5068e : ByteArray := prog_12_method_56_code
def yJ0_charAt_5068e : MethodName := ⟨RJ0, "charAt", "(I)C"⟩
abbrev cJ0_coder_7d493 : ByteArray := prog_12_method_152_code
def yJ0_coder_7d493 : MethodName := ⟨RJ0, "coder", "()B"⟩
abbrev cJ0_isLatin1_aae02 : ByteArray := prog_12_method_154_code
def yJ0_isLatin1_aae02 : MethodName := ⟨RJ0, "isLatin1", "()Z"⟩
abbrev cJ0_checkIndex_df160 : ByteArray := prog_12_method_155_code
def yJ0_checkIndex_df160 : MethodName := ⟨RJ0, "checkIndex", "(II)V"⟩
def RJ1 : String := "java/lang/StringLatin1"
def TJ1 : u_T := fun k => match k with
  | _ => ("", "", "", false)
def tyJ1 : Nat → FieldType := fun k => match k with
  | _ => .int
abbrev wsJ10 : List Cond := u_ws RJ1 TJ1 0
theorem nmJ1 : ∀ a, a < 0 → ∀ b, b < 0 → a ≠ b → (TJ1 a).2.1 ≠ (TJ1 b).2.1 := by decide +kernel
theorem tyJ1_ok : ∀ k, k < 0 → parseFieldDescriptor (TJ1 k).2.2.1 = some (tyJ1 k) := by decide +kernel
abbrev cJ1_charAt_3b067 : ByteArray := prog_13_method_2_code
def yJ1_charAt_3b067 : MethodName := ⟨RJ1, "charAt", "([BI)C"⟩
def RJ2 : String := "java/lang/StringUTF16"
def TJ2 : u_T := fun k => match k with
  | _ => ("", "", "", false)
def tyJ2 : Nat → FieldType := fun k => match k with
  | _ => .int
abbrev wsJ20 : List Cond := u_ws RJ2 TJ2 0
theorem nmJ2 : ∀ a, a < 0 → ∀ b, b < 0 → a ≠ b → (TJ2 a).2.1 ≠ (TJ2 b).2.1 := by decide +kernel
theorem tyJ2_ok : ∀ k, k < 0 → parseFieldDescriptor (TJ2 k).2.2.1 = some (tyJ2 k) := by decide +kernel
abbrev cJ2_getChar_3b067 : ByteArray := prog_14_method_5_code
def yJ2_getChar_3b067 : MethodName := ⟨RJ2, "getChar", "([BI)C"⟩
abbrev cJ2_length_9d52b : ByteArray := prog_14_method_6_code
def yJ2_length_9d52b : MethodName := ⟨RJ2, "length", "([B)I"⟩
abbrev cJ2_charAt_3b067 : ByteArray := prog_14_method_83_code
def yJ2_charAt_3b067 : MethodName := ⟨RJ2, "charAt", "([BI)C"⟩
abbrev cJ2_checkIndex_2214a : ByteArray := prog_14_method_91_code
def yJ2_checkIndex_2214a : MethodName := ⟨RJ2, "checkIndex", "(I[B)V"⟩
def RJ10 : String := "java/lang/System"
def TJ10 : u_T := fun k => match k with
  | _ => ("", "", "", false)
def tyJ10 : Nat → FieldType := fun k => match k with
  | _ => .int
abbrev wsJ100 : List Cond := u_ws RJ10 TJ10 0
theorem nmJ10 : ∀ a, a < 0 → ∀ b, b < 0 → a ≠ b → (TJ10 a).2.1 ≠ (TJ10 b).2.1 := by decide +kernel
theorem tyJ10_ok : ∀ k, k < 0 → parseFieldDescriptor (TJ10 k).2.2.1 = some (tyJ10 k) := by decide +kernel
def RJ3 : String := "jdk/internal/util/Preconditions"
def TJ3 : u_T := fun k => match k with
  | _ => ("", "", "", false)
def tyJ3 : Nat → FieldType := fun k => match k with
  | _ => .int
abbrev wsJ30 : List Cond := u_ws RJ3 TJ3 0
theorem nmJ3 : ∀ a, a < 0 → ∀ b, b < 0 → a ≠ b → (TJ3 a).2.1 ≠ (TJ3 b).2.1 := by decide +kernel
theorem tyJ3_ok : ∀ k, k < 0 → parseFieldDescriptor (TJ3 k).2.2.1 = some (tyJ3 k) := by decide +kernel
abbrev cJ3_checkIndex_8e157 : ByteArray := prog_16_method_11_code
def yJ3_checkIndex_8e157 : MethodName := ⟨RJ3, "checkIndex", "(IILjava/util/function/BiFunction;)I"⟩
def RLw : String := "FirstWordsLaw"
abbrev cL_law : ByteArray := code
def yL_law : MethodName := ⟨RLw, "law", "([I)Z"⟩
def wsL_law_r1 : List Cond := [Cond.classLink RLw 7 RX6, Cond.instantiable RX6 10, Cond.initialized RX6, Cond.classLink RLw 10 RX7, Cond.instantiable RX7 45, Cond.initialized RX7, Cond.constantLong RLw 13 (4294967295), Cond.methodLink RLw 9 yX6_init, Cond.instanceMethod yX6_init, Cond.code yX6_init cX6_init 2 none, Cond.methodLink RX6 1 objectInit, Cond.instanceMethod objectInit, Cond.code objectInit ⟨#[0xb1]⟩ 1 none, Cond.classLink RX6 7 RX3, Cond.instantiable RX3 9, Cond.initialized RX3, Cond.fieldLink RX6 10 "FirstWords" "tape" "LFirstWords$Tape;", Cond.classLink RX6 16 RX4, Cond.instantiable RX4 19, Cond.initialized RX4, Cond.fieldLink RX6 19 "FirstWords" "told" "LFirstWords$Told;", Cond.fieldLink RX6 23 "FirstWords" "draft" "LFirstWords$Told;", Cond.classLink RX6 26 RX1, Cond.instantiable RX1 9]
def wsL_law_r2 : List Cond := [Cond.initialized RX1, Cond.fieldLink RX6 29 "FirstWords" "now" "LFirstWords$Scene;", Cond.fieldLink RX6 33 "FirstWords" "images" "[LFirstWords$Scene;", Cond.classLink RX6 37 RX0, Cond.instantiable RX0 6, Cond.initialized RX0, Cond.fieldLink RX6 40 "FirstWords" "minds" "LFirstWords$Minds;", Cond.fieldLink RX6 44 "FirstWords" "trial" "LFirstWords$Minds;", Cond.classLink RX6 47 RX5, Cond.instantiable RX5 10, Cond.initialized RX5, Cond.fieldLink RX6 50 "FirstWords" "tutor" "LFirstWords$Tutor;", Cond.classLink RX6 54 RX2, Cond.instantiable RX2 3, Cond.initialized RX2, Cond.fieldLink RX6 57 "FirstWords" "sheets" "LFirstWords$Sheets;", Cond.methodLink RX6 9 yX3_init, Cond.instanceMethod yX3_init, Cond.code yX3_init cX3_init 1 none, Cond.methodLink RX3 3 objectInit, Cond.arrayClass .int, Cond.fieldLink RX3 9 "FirstWords$Tape" "bytes" "[I", Cond.methodLink RX6 18 yX4_init, Cond.instanceMethod yX4_init]
def wsL_law_r3 : List Cond := [Cond.code yX4_init cX4_init 1 none, Cond.methodLink RX4 3 objectInit, Cond.fieldLink RX4 9 "FirstWords$Told" "marks" "[I", Cond.fieldLink RX4 15 "FirstWords$Told" "isIt" "[I", Cond.fieldLink RX4 18 "FirstWords$Told" "has" "[I", Cond.fieldLink RX4 21 "FirstWords$Told" "hasNot" "[I", Cond.fieldLink RX4 24 "FirstWords$Told" "asks" "[I", Cond.fieldLink RX4 27 "FirstWords$Told" "are" "[I", Cond.fieldLink RX4 30 "FirstWords$Told" "alike" "[I", Cond.fieldLink RX4 33 "FirstWords$Told" "fromPlainest" "[I", Cond.fieldLink RX4 36 "FirstWords$Told" "target" "[I", Cond.fieldLink RX4 39 "FirstWords$Told" "sort" "[I", Cond.fieldLink RX4 42 "FirstWords$Told" "sees" "[I", Cond.fieldLink RX4 45 "FirstWords$Told" "fears" "[I", Cond.arrayClass .boolean, Cond.fieldLink RX4 48 "FirstWords$Told" "unlike" "[Z", Cond.fieldLink RX4 52 "FirstWords$Told" "chance" "[I", Cond.fieldLink RX4 55 "FirstWords$Told" "can" "[I", Cond.methodLink RX6 28 yX1_init, Cond.instanceMethod yX1_init, Cond.code yX1_init cX1_init 1 none, Cond.methodLink RX1 3 objectInit, Cond.fieldLink RX1 9 "FirstWords$Scene" "sound" "[I", Cond.fieldLink RX1 15 "FirstWords$Scene" "thing" "[I"]
def wsL_law_r4 : List Cond := [Cond.fieldLink RX1 18 "FirstWords$Scene" "so" "[Z", Cond.fieldLink RX1 22 "FirstWords$Scene" "theirThing" "[I", Cond.fieldLink RX1 25 "FirstWords$Scene" "theirSo" "[Z", Cond.methodLink RX6 39 yX0_init, Cond.instanceMethod yX0_init, Cond.code yX0_init cX0_init 1 none, Cond.methodLink RX0 3 objectInit, Cond.fieldLink RX0 9 "FirstWords$Minds" "thought" "[I", Cond.fieldLink RX0 15 "FirstWords$Minds" "wrong" "[I", Cond.fieldLink RX0 18 "FirstWords$Minds" "latest" "[I", Cond.fieldLink RX0 21 "FirstWords$Minds" "fledAt" "[I", Cond.fieldLink RX0 24 "FirstWords$Minds" "fit" "[I", Cond.methodLink RX6 49 yX5_init, Cond.instanceMethod yX5_init, Cond.code yX5_init cX5_init 2 none, Cond.methodLink RX5 3 objectInit, Cond.fieldLink RX5 9 "FirstWords$Tutor" "row" "[I", Cond.fieldLink RX5 15 "FirstWords$Tutor" "bestOrder" "[I", Cond.fieldLink RX5 18 "FirstWords$Tutor" "tried" "[I", Cond.classLink RX5 21 RX0, Cond.fieldLink RX5 23 "FirstWords$Tutor" "alongRow" "[LFirstWords$Minds;", Cond.fieldLink RX5 27 "FirstWords$Tutor" "alongOrder" "[LFirstWords$Minds;", Cond.methodLink RX5 30 yX0_init, Cond.methodLink RX6 56 yX2_init]
def wsL_law_r5 : List Cond := [Cond.instanceMethod yX2_init, Cond.code yX2_init cX2_init 2 none, Cond.methodLink RX2 3 objectInit, Cond.fieldLink RX2 9 "FirstWords$Sheets" "size" "[I", Cond.fieldLink RX2 15 "FirstWords$Sheets" "laneOf" "[I", Cond.classLink RX2 18 "[[I", Cond.fieldLink RX2 20 "FirstWords$Sheets" "cells" "[[I", Cond.methodLink RLw 12 yX7_init, Cond.instanceMethod yX7_init, Cond.code yX7_init cX7_init 2 none, Cond.methodLink RX7 1 objectInit, Cond.fieldLink RX7 7 "FirstWordsModel" "thing" "[I", Cond.fieldLink RX7 13 "FirstWordsModel" "having" "[I", Cond.fieldLink RX7 16 "FirstWordsModel" "lacking" "[I", Cond.fieldLink RX7 19 "FirstWordsModel" "target" "[I", Cond.fieldLink RX7 22 "FirstWordsModel" "kind" "[I", Cond.fieldLink RX7 25 "FirstWordsModel" "dThing" "[I", Cond.fieldLink RX7 28 "FirstWordsModel" "dHaving" "[I", Cond.fieldLink RX7 31 "FirstWordsModel" "dLacking" "[I", Cond.fieldLink RX7 34 "FirstWordsModel" "dTarget" "[I", Cond.fieldLink RX7 37 "FirstWordsModel" "dKind" "[I", Cond.fieldLink RX7 40 "FirstWordsModel" "are" "[I", Cond.fieldLink RX7 43 "FirstWordsModel" "tape" "[I", Cond.fieldLink RX7 46 "FirstWordsModel" "st" "[I"]
def wsL_law_r6 : List Cond := [Cond.fieldLink RX7 49 "FirstWordsModel" "shown" "[I", Cond.fieldLink RX7 52 "FirstWordsModel" "row" "[I", Cond.fieldLink RX7 55 "FirstWordsModel" "way" "[I", Cond.fieldLink RX7 58 "FirstWordsModel" "bestWay" "[I", Cond.fieldLink RX7 61 "FirstWordsModel" "theirThing" "[I", Cond.fieldLink RX7 64 "FirstWordsModel" "theirSo" "[Z", Cond.fieldLink RX7 68 "FirstWordsModel" "isKept" "[Z", Cond.fieldLink RX7 71 "FirstWordsModel" "keptMany" "[I", Cond.fieldLink RX7 74 "FirstWordsModel" "keptShown" "[I", Cond.fieldLink RX7 77 "FirstWordsModel" "keptTheirs" "[I", Cond.fieldLink RX7 80 "FirstWordsModel" "lanes" "[I", Cond.fieldLink RX7 83 "FirstWordsModel" "sizes" "[I", Cond.fieldLink RX7 86 "FirstWordsModel" "cells" "[I", Cond.methodLink RX7 89 yX7_firstDraft, Cond.instanceMethod yX7_firstDraft, Cond.selects RX7 yX7_firstDraft yX7_firstDraft, Cond.code yX7_firstDraft cX7_firstDraft 1 none, Cond.fieldLink RX7 95 "FirstWordsModel" "dThings" "I", Cond.fieldLink RX7 99 "FirstWordsModel" "dMeanings" "I", Cond.fieldLink RX7 102 "FirstWordsModel" "dSounds" "I", Cond.fieldLink RX7 105 "FirstWordsModel" "dKinds" "I", Cond.methodLink RX7 92 yX7_keepDraft, Cond.instanceMethod yX7_keepDraft, Cond.selects RX7 yX7_keepDraft yX7_keepDraft]
def wsL_law_r7 : List Cond := [Cond.code yX7_keepDraft cX7_keepDraft 3 none, Cond.fieldLink RX7 108 "FirstWordsModel" "things" "I", Cond.fieldLink RX7 111 "FirstWordsModel" "meanings" "I", Cond.fieldLink RX7 114 "FirstWordsModel" "sounds" "I", Cond.fieldLink RX7 117 "FirstWordsModel" "kinds" "I", Cond.fieldLink RX7 120 "FirstWordsModel" "shows" "I", Cond.fieldLink RX7 123 "FirstWordsModel" "leftNow" "I", Cond.fieldLink RX7 126 "FirstWordsModel" "their" "I", Cond.methodLink RX7 129 yX7_replays, Cond.instanceMethod yX7_replays, Cond.selects RX7 yX7_replays yX7_replays, Cond.code yX7_replays cX7_replays 2 none, Cond.methodLink RX7 273 yX7_wakes, Cond.instanceMethod yX7_wakes, Cond.selects RX7 yX7_wakes yX7_wakes, Cond.code yX7_wakes cX7_wakes 4 none, Cond.constantLong RX7 229 (4), Cond.constantLong RX7 190 (7), Cond.methodLink RX7 137 yX7_in, Cond.static yX7_in, Cond.code yX7_in cX7_in 6 (some .boolean), Cond.methodLink RX7 276 yX7_sees, Cond.instanceMethod yX7_sees, Cond.selects RX7 yX7_sees yX7_sees]
def wsL_law_r8 : List Cond := [Cond.code yX7_sees cX7_sees 8 none, Cond.methodLink RX7 265 yX7_flees, Cond.instanceMethod yX7_flees, Cond.selects RX7 yX7_flees yX7_flees, Cond.code yX7_flees cX7_flees 4 none, Cond.methodLink RX7 269 yX7_looks, Cond.instanceMethod yX7_looks, Cond.selects RX7 yX7_looks yX7_looks, Cond.code yX7_looks cX7_looks 9 none, Cond.methodLink RX7 251 yX7_allThatFit, Cond.instanceMethod yX7_allThatFit, Cond.selects RX7 yX7_allThatFit yX7_allThatFit, Cond.code yX7_allThatFit cX7_allThatFit 5 (some .int), Cond.methodLink RX7 245 yX7_fitsIn, Cond.instanceMethod yX7_fitsIn, Cond.selects RX7 yX7_fitsIn yX7_fitsIn, Cond.code yX7_fitsIn cX7_fitsIn 4 (some .boolean), Cond.methodLink RX7 231 yX7_canThink, Cond.instanceMethod yX7_canThink, Cond.selects RX7 yX7_canThink yX7_canThink, Cond.code yX7_canThink cX7_canThink 4 (some .int), Cond.methodLink RX7 254 yX7_flag, Cond.static yX7_flag, Cond.code yX7_flag cX7_flag 1 (some .int)]
def wsL_law_r9 : List Cond := [Cond.methodLink RX7 258 yX7_proudLooks, Cond.instanceMethod yX7_proudLooks, Cond.selects RX7 yX7_proudLooks yX7_proudLooks, Cond.code yX7_proudLooks cX7_proudLooks 6 none, Cond.methodLink RX7 248 yX7_plainest, Cond.instanceMethod yX7_plainest, Cond.selects RX7 yX7_plainest yX7_plainest, Cond.code yX7_plainest cX7_plainest 4 (some .int), Cond.methodLink RX7 234 yX7_marksOf, Cond.instanceMethod yX7_marksOf, Cond.selects RX7 yX7_marksOf yX7_marksOf, Cond.code yX7_marksOf cX7_marksOf 2 (some .int), Cond.methodLink RX7 222 yX7_countOf, Cond.static yX7_countOf, Cond.code yX7_countOf cX7_countOf 3 (some .int), Cond.methodLink RX7 262 yX7_areAllOne, Cond.instanceMethod yX7_areAllOne, Cond.selects RX7 yX7_areAllOne yX7_areAllOne, Cond.code yX7_areAllOne cX7_areAllOne 5 (some .boolean), Cond.methodLink RLw 15 yX6_feed, Cond.instanceMethod yX6_feed, Cond.selects RX6 yX6_feed yX6_feed, Cond.code yX6_feed cX6_feed 4 (some .int), Cond.fieldLink RX6 61 "FirstWords$Tape" "length" "I"]
def wsL_law_r10 : List Cond := [Cond.methodLink RX6 65 yX3_put, Cond.instanceMethod yX3_put, Cond.selects RX3 yX3_put yX3_put, Cond.code yX3_put cX3_put 2 none, Cond.fieldLink RX3 15 "FirstWords$Tape" "length" "I", Cond.methodLink RLw 19 yX7_feed, Cond.instanceMethod yX7_feed, Cond.selects RX7 yX7_feed yX7_feed, Cond.code yX7_feed cX7_feed 4 (some .int), Cond.fieldLink RX7 132 "FirstWordsModel" "taped" "I", Cond.constantLong RX7 135 (255), Cond.methodLink RLw 20 yX6_end, Cond.instanceMethod yX6_end, Cond.selects RX6 yX6_end yX6_end, Cond.code yX6_end cX6_end 3 (some .int), Cond.methodLink RLw 24 yX7_end, Cond.instanceMethod yX7_end, Cond.selects RX7 yX7_end yX7_end, Cond.code yX7_end cX7_end 3 (some .int), Cond.methodLink RLw 25 yX6_text, Cond.instanceMethod yX6_text, Cond.selects RX6 yX6_text yX6_text, Cond.code yX6_text cX6_text 4 (some .int), Cond.fieldLink RX6 73 "FirstWords$Tape" "place" "I"]
def wsL_law_r11 : List Cond := [Cond.fieldLink RX6 76 "FirstWords$Scene" "isKept" "Z", Cond.fieldLink RX6 87 "FirstWords$Tape" "lines" "I", Cond.methodLink RX6 69 yX3_readInto, Cond.instanceMethod yX3_readInto, Cond.selects RX3 yX3_readInto yX3_readInto, Cond.code yX3_readInto cX3_readInto 3 (some .boolean), Cond.fieldLink RX3 24 "FirstWords$Tape" "fault" "I", Cond.fieldLink RX3 27 "FirstWords$Tape" "place" "I", Cond.fieldLink RX3 30 "FirstWords$Tape" "lines" "I", Cond.fieldLink RX3 33 "FirstWords$Tape" "at" "I", Cond.fieldLink RX3 39 "FirstWords$Tape" "token" "I", Cond.methodLink RX3 19 yX4_empty, Cond.instanceMethod yX4_empty, Cond.selects RX4 yX4_empty yX4_empty, Cond.code yX4_empty cX4_empty 1 none, Cond.fieldLink RX4 58 "FirstWords$Told" "things" "I", Cond.fieldLink RX4 62 "FirstWords$Told" "meanings" "I", Cond.fieldLink RX4 65 "FirstWords$Told" "sounds" "I", Cond.fieldLink RX4 68 "FirstWords$Told" "kinds" "I", Cond.methodLink RX3 36 yX3_nextToken, Cond.instanceMethod yX3_nextToken, Cond.selects RX3 yX3_nextToken yX3_nextToken, Cond.code yX3_nextToken cX3_nextToken 1 none, Cond.fieldLink RX3 49 "FirstWords$Tape" "start" "I"]
def wsL_law_r12 : List Cond := [Cond.fieldLink RX3 59 "FirstWords$Tape" "stop" "I", Cond.methodLink RX3 52 yX3_byteAt, Cond.instanceMethod yX3_byteAt, Cond.selects RX3 yX3_byteAt yX3_byteAt, Cond.code yX3_byteAt cX3_byteAt 2 (some .int), Cond.methodLink RX3 56 yX3_tokenAt, Cond.instanceMethod yX3_tokenAt, Cond.selects RX3 yX3_tokenAt yX3_tokenAt, Cond.code yX3_tokenAt cX3_tokenAt 3 (some .int), Cond.methodLink RX3 62 yX3_blame, Cond.instanceMethod yX3_blame, Cond.selects RX3 yX3_blame yX3_blame, Cond.code yX3_blame cX3_blame 2 none, Cond.methodLink RX3 42 yX3_readLine, Cond.instanceMethod yX3_readLine, Cond.selects RX3 yX3_readLine yX3_readLine, Cond.code yX3_readLine cX3_readLine 3 none, Cond.methodLink RX3 75 yX3_sortNamed, Cond.instanceMethod yX3_sortNamed, Cond.selects RX3 yX3_sortNamed yX3_sortNamed, Cond.code yX3_sortNamed cX3_sortNamed 1 (some .int), Cond.methodLink RX3 80 yX3_isNamed, Cond.instanceMethod yX3_isNamed, Cond.selects RX3 yX3_isNamed yX3_isNamed]
def wsL_law_r13 : List Cond := [Cond.code yX3_isNamed cX3_isNamed 3 (some .boolean), Cond.methodLink RX3 66 yJ0_length_8abf5, Cond.instanceMethod yJ0_length_8abf5, Cond.selects RJ0 yJ0_length_8abf5 yJ0_length_8abf5, Cond.initialized RJ0, Cond.code yJ0_length_8abf5 cJ0_length_8abf5 1 (some .int), Cond.fieldLink RJ0 9 "java/lang/String" "value" "[B", Cond.methodLink RJ0 335 yJ0_coder_7d493, Cond.instanceMethod yJ0_coder_7d493, Cond.selects RJ0 yJ0_coder_7d493 yJ0_coder_7d493, Cond.code yJ0_coder_7d493 cJ0_coder_7d493 1 (some .byte), Cond.fieldLink RJ0 38 "java/lang/String" "COMPACT_STRINGS" "Z", Cond.fieldLink RJ0 15 "java/lang/String" "coder" "B", Cond.methodLink RX3 71 yJ0_charAt_5068e, Cond.instanceMethod yJ0_charAt_5068e, Cond.selects RJ0 yJ0_charAt_5068e yJ0_charAt_5068e, Cond.code yJ0_charAt_5068e cJ0_charAt_5068e 2 (some .char), Cond.methodLink RJ0 492 yJ0_isLatin1_aae02, Cond.instanceMethod yJ0_isLatin1_aae02, Cond.selects RJ0 yJ0_isLatin1_aae02 yJ0_isLatin1_aae02, Cond.code yJ0_isLatin1_aae02 cJ0_isLatin1_aae02 1 (some .boolean), Cond.methodLink RJ0 495 yJ1_charAt_3b067, Cond.static yJ1_charAt_3b067, Cond.initialized RJ1]
def wsL_law_r14 : List Cond := [Cond.code yJ1_charAt_3b067 cJ1_charAt_3b067 2 (some .char), Cond.methodLink RJ1 9 yJ0_checkIndex_df160, Cond.static yJ0_checkIndex_df160, Cond.code yJ0_checkIndex_df160 cJ0_checkIndex_df160 2 none, Cond.fieldLink RJ0 1053 "jdk/internal/util/Preconditions" "SIOOBE_FORMATTER" "Ljava/util/function/BiFunction;", Cond.methodLink RJ0 1059 yJ3_checkIndex_8e157, Cond.static yJ3_checkIndex_8e157, Cond.initialized RJ3, Cond.code yJ3_checkIndex_8e157 cJ3_checkIndex_8e157 3 (some .int), Cond.methodLink RJ0 498 yJ2_charAt_3b067, Cond.static yJ2_charAt_3b067, Cond.initialized RJ2, Cond.code yJ2_charAt_3b067 cJ2_charAt_3b067 2 (some .char), Cond.methodLink RJ2 67 yJ2_checkIndex_2214a, Cond.static yJ2_checkIndex_2214a, Cond.code yJ2_checkIndex_2214a cJ2_checkIndex_2214a 2 none, Cond.methodLink RJ2 48 yJ2_length_9d52b, Cond.static yJ2_length_9d52b, Cond.code yJ2_length_9d52b cJ2_length_9d52b 1 (some .int), Cond.methodLink RJ2 414 yJ0_checkIndex_df160, Cond.methodLink RJ2 71 yJ2_getChar_3b067, Cond.static yJ2_getChar_3b067, Cond.code yJ2_getChar_3b067 cJ2_getChar_3b067 2 (some .char), Cond.fieldLink RJ2 44 "java/lang/StringUTF16" "$assertionsDisabled" "Z"]
def wsL_law_r15 : List Cond := [Cond.fieldLink RJ2 59 "java/lang/StringUTF16" "HI_BYTE_SHIFT" "I", Cond.fieldLink RJ2 63 "java/lang/StringUTF16" "LO_BYTE_SHIFT" "I", Cond.methodLink RX3 84 yX3_readThing, Cond.instanceMethod yX3_readThing, Cond.selects RX3 yX3_readThing yX3_readThing, Cond.code yX3_readThing cX3_readThing 2 none, Cond.fieldLink RX3 109 "FirstWords$Told" "things" "I", Cond.methodLink RX3 112 yX3_takeLetters, Cond.instanceMethod yX3_takeLetters, Cond.selects RX3 yX3_takeLetters yX3_takeLetters, Cond.code yX3_takeLetters cX3_takeLetters 5 (some .int), Cond.static yX6_isIn, Cond.code yX6_isIn cX6_isIn 2 (some .boolean), Cond.methodLink RX3 115 yX4_addThing, Cond.instanceMethod yX4_addThing, Cond.selects RX4 yX4_addThing yX4_addThing, Cond.code yX4_addThing cX4_addThing 2 none, Cond.methodLink RX3 89 yX3_readMeaning, Cond.instanceMethod yX3_readMeaning, Cond.selects RX3 yX3_readMeaning yX3_readMeaning, Cond.code yX3_readMeaning cX3_readMeaning 4 none, Cond.fieldLink RX3 118 "FirstWords$Told" "meanings" "I", Cond.methodLink RX3 123 yX4_addMeaning, Cond.instanceMethod yX4_addMeaning]
def wsL_law_r16 : List Cond := [Cond.selects RX4 yX4_addMeaning yX4_addMeaning, Cond.code yX4_addMeaning cX4_addMeaning 3 none, Cond.methodLink RX4 71 yJ6_bitCount_0f7a4, Cond.static yJ6_bitCount_0f7a4, Cond.initialized RJ6, Cond.code yJ6_bitCount_0f7a4 cJ6_bitCount_0f7a4 1 (some .int), Cond.constant RJ6 265 (1431655765), Cond.constant RJ6 266 (858993459), Cond.constant RJ6 267 (252645135), Cond.methodLink RX3 94 yX3_readWord, Cond.instanceMethod yX3_readWord, Cond.selects RX3 yX3_readWord yX3_readWord, Cond.code yX3_readWord cX3_readWord 2 none, Cond.fieldLink RX3 127 "FirstWords$Told" "sounds" "I", Cond.methodLink RX3 130 yX3_takeNumber, Cond.instanceMethod yX3_takeNumber, Cond.selects RX3 yX3_takeNumber yX3_takeNumber, Cond.code yX3_takeNumber cX3_takeNumber 4 (some .int), Cond.methodLink RX3 133 yX4_addSound, Cond.instanceMethod yX4_addSound, Cond.selects RX4 yX4_addSound yX4_addSound, Cond.code yX4_addSound cX4_addSound 2 none, Cond.methodLink RX3 97 yX3_readKind, Cond.instanceMethod yX3_readKind]
def wsL_law_r17 : List Cond := [Cond.selects RX3 yX3_readKind yX3_readKind, Cond.code yX3_readKind cX3_readKind 7 none, Cond.fieldLink RX3 136 "FirstWords$Told" "kinds" "I", Cond.fieldLink RX3 149 "FirstWords$Told" "sees" "[I", Cond.fieldLink RX3 152 "FirstWords$Told" "fears" "[I", Cond.fieldLink RX3 155 "FirstWords$Told" "chance" "[I", Cond.fieldLink RX3 158 "FirstWords$Told" "unlike" "[Z", Cond.methodLink RX3 139 yX4_addKind, Cond.instanceMethod yX4_addKind, Cond.selects RX4 yX4_addKind yX4_addKind, Cond.code yX4_addKind cX4_addKind 2 none, Cond.methodLink RX3 142 yX3_withNamed, Cond.instanceMethod yX3_withNamed, Cond.selects RX3 yX3_withNamed yX3_withNamed, Cond.code yX3_withNamed cX3_withNamed 1 (some .int), Cond.methodLink RX3 46 yX4_settle, Cond.instanceMethod yX4_settle, Cond.selects RX4 yX4_settle yX4_settle, Cond.code yX4_settle cX4_settle 3 none, Cond.methodLink RX4 77 yX4_settleMeanings, Cond.instanceMethod yX4_settleMeanings, Cond.selects RX4 yX4_settleMeanings yX4_settleMeanings, Cond.code yX4_settleMeanings cX4_settleMeanings 4 none, Cond.methodLink RX6 80 yX1_empty]
def wsL_law_r18 : List Cond := [Cond.instanceMethod yX1_empty, Cond.selects RX1 yX1_empty yX1_empty, Cond.code yX1_empty cX1_empty 2 none, Cond.fieldLink RX1 28 "FirstWords$Scene" "showings" "I", Cond.fieldLink RX1 32 "FirstWords$Scene" "theirs" "I", Cond.fieldLink RX1 41 "FirstWords$Scene" "left" "I", Cond.methodLink RX1 35 yX4_allKinds, Cond.instanceMethod yX4_allKinds, Cond.selects RX4 yX4_allKinds yX4_allKinds, Cond.code yX4_allKinds cX4_allKinds 1 (some .int), Cond.methodLink RX6 84 yX0_blank, Cond.instanceMethod yX0_blank, Cond.selects RX0 yX0_blank yX0_blank, Cond.code yX0_blank cX0_blank 3 none, Cond.fieldLink RX0 27 "FirstWords$Minds" "seen" "I", Cond.methodLink RX0 31 yX4_allMeanings, Cond.instanceMethod yX4_allMeanings, Cond.selects RX4 yX4_allMeanings yX4_allMeanings, Cond.code yX4_allMeanings cX4_allMeanings 1 (some .int), Cond.methodLink RLw 29 yX7_text, Cond.instanceMethod yX7_text, Cond.selects RX7 yX7_text yX7_text, Cond.code yX7_text cX7_text 2 (some .int), Cond.fieldLink RX7 141 "FirstWordsModel" "fault" "I"]
def wsL_law_r19 : List Cond := [Cond.fieldLink RX7 150 "FirstWordsModel" "pos" "I", Cond.fieldLink RX7 169 "FirstWordsModel" "sort" "I", Cond.fieldLink RX7 147 "FirstWordsModel" "wrongAt" "I", Cond.methodLink RX7 187 yX7_next, Cond.instanceMethod yX7_next, Cond.selects RX7 yX7_next yX7_next, Cond.code yX7_next cX7_next 2 none, Cond.fieldLink RX7 144 "FirstWordsModel" "from" "I", Cond.constantLong RX7 172 (97), Cond.constantLong RX7 174 (122), Cond.constantLong RX7 176 (48), Cond.constantLong RX7 178 (57), Cond.fieldLink RX7 180 "FirstWordsModel" "value" "I", Cond.methodLink RX7 153 yX7_look, Cond.instanceMethod yX7_look, Cond.selects RX7 yX7_look yX7_look, Cond.code yX7_look cX7_look 2 (some .int), Cond.methodLink RX7 183 yX7_needs, Cond.instanceMethod yX7_needs, Cond.selects RX7 yX7_needs yX7_needs, Cond.code yX7_needs cX7_needs 3 none, Cond.methodLink RX7 219 yX7_readLine, Cond.instanceMethod yX7_readLine, Cond.selects RX7 yX7_readLine yX7_readLine]
def wsL_law_r20 : List Cond := [Cond.code yX7_readLine cX7_readLine 3 none, Cond.constantLong RX7 206 (3), Cond.constantLong RX7 208 (10), Cond.constantLong RX7 210 (12), Cond.methodLink RX7 192 yX7_nameNow, Cond.instanceMethod yX7_nameNow, Cond.selects RX7 yX7_nameNow yX7_nameNow, Cond.code yX7_nameNow cX7_nameNow 1 (some .int), Cond.methodLink RX7 165 yX7_kindNow, Cond.instanceMethod yX7_kindNow, Cond.selects RX7 yX7_kindNow yX7_kindNow, Cond.code yX7_kindNow cX7_kindNow 1 (some .int), Cond.methodLink RX7 157 yX7_is, Cond.instanceMethod yX7_is, Cond.selects RX7 yX7_is yX7_is, Cond.code yX7_is cX7_is 6 (some .boolean), Cond.methodLink RX7 161 yX7_goesOn, Cond.instanceMethod yX7_goesOn, Cond.selects RX7 yX7_goesOn yX7_goesOn, Cond.code yX7_goesOn cX7_goesOn 4 (some .boolean), Cond.methodLink RX7 199 yX7_readMarks, Cond.instanceMethod yX7_readMarks, Cond.selects RX7 yX7_readMarks yX7_readMarks, Cond.code yX7_readMarks cX7_readMarks 5 (some .int)]
def wsL_law_r21 : List Cond := [Cond.methodLink RX7 212 yX7_readMeans, Cond.instanceMethod yX7_readMeans, Cond.selects RX7 yX7_readMeans yX7_readMeans, Cond.code yX7_readMeans cX7_readMeans 3 none, Cond.methodLink RX7 202 yX7_readNumber, Cond.instanceMethod yX7_readNumber, Cond.selects RX7 yX7_readNumber yX7_readNumber, Cond.code yX7_readNumber cX7_readNumber 4 (some .int), Cond.methodLink RX7 215 yX7_readKind, Cond.instanceMethod yX7_readKind, Cond.selects RX7 yX7_readKind yX7_readKind, Cond.code yX7_readKind cX7_readKind 8 none, Cond.constantLong RX7 195 (14), Cond.constantLong RX7 197 (17), Cond.methodLink RLw 30 yX6_fault, Cond.instanceMethod yX6_fault, Cond.selects RX6 yX6_fault yX6_fault, Cond.code yX6_fault cX6_fault 1 (some .int), Cond.fieldLink RX6 90 "FirstWords$Tape" "fault" "I", Cond.methodLink RLw 33 yX7_fault, Cond.instanceMethod yX7_fault, Cond.selects RX7 yX7_fault yX7_fault, Cond.code yX7_fault cX7_fault 1 (some .int), Cond.methodLink RLw 34 yX6_thing]
def wsL_law_r22 : List Cond := [Cond.instanceMethod yX6_thing, Cond.selects RX6 yX6_thing yX6_thing, Cond.code yX6_thing cX6_thing 2 (some .int), Cond.fieldLink RX6 97 "FirstWords$Told" "marks" "[I", Cond.methodLink RX6 93 yX4_hasThing, Cond.instanceMethod yX4_hasThing, Cond.selects RX4 yX4_hasThing yX4_hasThing, Cond.code yX4_hasThing cX4_hasThing 2 (some .boolean), Cond.methodLink RLw 37 yX7_thing, Cond.instanceMethod yX7_thing, Cond.selects RX7 yX7_thing yX7_thing, Cond.code yX7_thing cX7_thing 2 (some .int), Cond.methodLink RX7 225 yX7_isThing, Cond.instanceMethod yX7_isThing, Cond.selects RX7 yX7_isThing yX7_isThing, Cond.code yX7_isThing cX7_isThing 2 (some .boolean), Cond.methodLink RLw 38 yX6_meaning, Cond.instanceMethod yX6_meaning, Cond.selects RX6 yX6_meaning yX6_meaning, Cond.code yX6_meaning cX6_meaning 3 (some .int), Cond.fieldLink RX6 104 "FirstWords$Told" "has" "[I", Cond.fieldLink RX6 107 "FirstWords$Told" "hasNot" "[I", Cond.fieldLink RX6 110 "FirstWords$Told" "asks" "[I", Cond.fieldLink RX6 113 "FirstWords$Told" "are" "[I"]
def wsL_law_r23 : List Cond := [Cond.methodLink RX6 101 yX4_hasMeaning, Cond.instanceMethod yX4_hasMeaning, Cond.selects RX4 yX4_hasMeaning yX4_hasMeaning, Cond.code yX4_hasMeaning cX4_hasMeaning 2 (some .boolean), Cond.methodLink RX6 116 yX4_kindsThatCan, Cond.instanceMethod yX4_kindsThatCan, Cond.selects RX4 yX4_kindsThatCan yX4_kindsThatCan, Cond.code yX4_kindsThatCan cX4_kindsThatCan 4 (some .int), Cond.methodLink RLw 42 yX7_meaning, Cond.instanceMethod yX7_meaning, Cond.selects RX7 yX7_meaning yX7_meaning, Cond.code yX7_meaning cX7_meaning 5 (some .int), Cond.methodLink RLw 43 yX6_word, Cond.instanceMethod yX6_word, Cond.selects RX6 yX6_word yX6_word, Cond.code yX6_word cX6_word 2 (some .int), Cond.fieldLink RX6 123 "FirstWords$Told" "target" "[I", Cond.methodLink RX6 120 yX4_hasSound, Cond.instanceMethod yX4_hasSound, Cond.selects RX4 yX4_hasSound yX4_hasSound, Cond.code yX4_hasSound cX4_hasSound 2 (some .boolean), Cond.methodLink RLw 46 yX7_word, Cond.instanceMethod yX7_word, Cond.selects RX7 yX7_word yX7_word]
def wsL_law_r24 : List Cond := [Cond.code yX7_word cX7_word 2 (some .int), Cond.methodLink RX7 237 yX7_isSound, Cond.instanceMethod yX7_isSound, Cond.selects RX7 yX7_isSound yX7_isSound, Cond.code yX7_isSound cX7_isSound 2 (some .boolean), Cond.methodLink RLw 47 yX6_kind, Cond.instanceMethod yX6_kind, Cond.selects RX6 yX6_kind yX6_kind, Cond.code yX6_kind cX6_kind 3 (some .int), Cond.fieldLink RX6 129 "FirstWords$Told" "sort" "[I", Cond.fieldLink RX6 132 "FirstWords$Told" "sees" "[I", Cond.fieldLink RX6 135 "FirstWords$Told" "fears" "[I", Cond.fieldLink RX6 138 "FirstWords$Told" "unlike" "[Z", Cond.fieldLink RX6 142 "FirstWords$Told" "chance" "[I", Cond.fieldLink RX6 145 "FirstWords$Told" "can" "[I", Cond.methodLink RX6 126 yX4_hasKind, Cond.instanceMethod yX4_hasKind, Cond.selects RX4 yX4_hasKind yX4_hasKind, Cond.code yX4_hasKind cX4_hasKind 2 (some .boolean), Cond.methodLink RLw 50 yX7_kind, Cond.instanceMethod yX7_kind, Cond.selects RX7 yX7_kind yX7_kind, Cond.code yX7_kind cX7_kind 3 (some .int), Cond.constantLong RX7 243 (5)]
def wsL_law_r25 : List Cond := [Cond.methodLink RX7 240 yX7_isKind, Cond.instanceMethod yX7_isKind, Cond.selects RX7 yX7_isKind yX7_isKind, Cond.code yX7_isKind cX7_isKind 2 (some .boolean), Cond.methodLink RLw 51 yX6_show, Cond.instanceMethod yX6_show, Cond.selects RX6 yX6_show yX6_show, Cond.code yX6_show cX6_show 4 (some .int), Cond.fieldLink RX6 148 "FirstWords$Scene" "showings" "I", Cond.methodLink RX6 151 yX6_takeShowing, Cond.instanceMethod yX6_takeShowing, Cond.selects RX6 yX6_takeShowing yX6_takeShowing, Cond.code yX6_takeShowing cX6_takeShowing 5 none, Cond.fieldLink RX6 173 "FirstWords$Scene" "sound" "[I", Cond.fieldLink RX6 176 "FirstWords$Scene" "thing" "[I", Cond.fieldLink RX6 179 "FirstWords$Scene" "so" "[Z", Cond.methodLink RX6 166 yX4_allKinds, Cond.methodLink RX6 343 yX0_witness, Cond.instanceMethod yX0_witness, Cond.selects RX0 yX0_witness yX0_witness, Cond.code yX0_witness cX0_witness 9 (some .boolean), Cond.fieldLink RX0 54 "FirstWords$Told" "kinds" "I", Cond.fieldLink RX0 61 "FirstWords$Told" "fears" "[I", Cond.methodLink RX0 43 yX4_hasSound]
def wsL_law_r26 : List Cond := [Cond.methodLink RX0 47 yX4_hasThing, Cond.methodLink RX0 50 yX4_fitting, Cond.instanceMethod yX4_fitting, Cond.selects RX4 yX4_fitting yX4_fitting, Cond.code yX4_fitting cX4_fitting 3 (some .int), Cond.methodLink RX4 84 yX4_hasThing, Cond.methodLink RX4 88 yX4_allMeanings, Cond.methodLink RX0 64 yX0_frighten, Cond.instanceMethod yX0_frighten, Cond.selects RX0 yX0_frighten yX0_frighten, Cond.code yX0_frighten cX0_frighten 3 none, Cond.methodLink RX0 68 yX0_look, Cond.instanceMethod yX0_look, Cond.selects RX0 yX0_look yX0_look, Cond.code yX0_look cX0_look 12 (some .boolean), Cond.fieldLink RX0 80 "FirstWords$Told" "sort" "[I", Cond.fieldLink RX0 83 "FirstWords$Told" "alike" "[I", Cond.methodLink RX0 72 yX0_choices, Cond.instanceMethod yX0_choices, Cond.selects RX0 yX0_choices yX0_choices, Cond.code yX0_choices cX0_choices 7 (some .int), Cond.fieldLink RX0 90 "FirstWords$Told" "can" "[I", Cond.fieldLink RX0 93 "FirstWords$Told" "sounds" "I", Cond.fieldLink RX0 96 "FirstWords$Told" "unlike" "[Z"]
def wsL_law_r27 : List Cond := [Cond.methodLink RX0 100 yX0_thoughtOf, Cond.instanceMethod yX0_thoughtOf, Cond.selects RX0 yX0_thoughtOf yX0_thoughtOf, Cond.code yX0_thoughtOf cX0_thoughtOf 4 (some .int), Cond.methodLink RX0 76 yX4_plainest, Cond.instanceMethod yX4_plainest, Cond.selects RX4 yX4_plainest yX4_plainest, Cond.code yX4_plainest cX4_plainest 3 (some .int), Cond.methodLink RX0 86 yX0_holdOrTurn, Cond.instanceMethod yX0_holdOrTurn, Cond.selects RX0 yX0_holdOrTurn yX0_holdOrTurn, Cond.code yX0_holdOrTurn cX0_holdOrTurn 5 none, Cond.methodLink RLw 55 yX7_show, Cond.instanceMethod yX7_show, Cond.selects RX7 yX7_show yX7_show, Cond.code yX7_show cX7_show 4 (some .int), Cond.methodLink RX7 282 yX7_adds, Cond.instanceMethod yX7_adds, Cond.selects RX7 yX7_adds yX7_adds, Cond.code yX7_adds cX7_adds 4 (some .int), Cond.methodLink RLw 56 yX6_teach, Cond.instanceMethod yX6_teach, Cond.selects RX6 yX6_teach yX6_teach, Cond.code yX6_teach cX6_teach 3 (some .int)]
def wsL_law_r28 : List Cond := [Cond.methodLink RX6 155 yX4_isTarget, Cond.instanceMethod yX4_isTarget, Cond.selects RX4 yX4_isTarget yX4_isTarget, Cond.code yX4_isTarget cX4_isTarget 3 (some .boolean), Cond.methodLink RX4 98 yX4_targetThings, Cond.instanceMethod yX4_targetThings, Cond.selects RX4 yX4_targetThings yX4_targetThings, Cond.code yX4_targetThings cX4_targetThings 2 (some .int), Cond.methodLink RX4 92 yX4_hasSound, Cond.methodLink RX4 95 yX4_hasMeaning, Cond.methodLink RX6 159 yX6_show, Cond.methodLink RLw 59 yX7_teach, Cond.instanceMethod yX7_teach, Cond.selects RX7 yX7_teach yX7_teach, Cond.code yX7_teach cX7_teach 3 (some .int), Cond.methodLink RX7 286 yX7_isTrue, Cond.instanceMethod yX7_isTrue, Cond.selects RX7 yX7_isTrue yX7_isTrue, Cond.code yX7_isTrue cX7_isTrue 3 (some .boolean), Cond.methodLink RX7 279 yX7_targetOf, Cond.instanceMethod yX7_targetOf, Cond.selects RX7 yX7_targetOf yX7_targetOf, Cond.code yX7_targetOf cX7_targetOf 2 (some .int), Cond.methodLink RLw 60 yX6_undo]
def wsL_law_r29 : List Cond := [Cond.instanceMethod yX6_undo, Cond.selects RX6 yX6_undo yX6_undo, Cond.code yX6_undo cX6_undo 1 (some .int), Cond.methodLink RX6 163 yX6_thinkAgain, Cond.instanceMethod yX6_thinkAgain, Cond.selects RX6 yX6_thinkAgain yX6_thinkAgain, Cond.code yX6_thinkAgain cX6_thinkAgain 2 none, Cond.methodLink RLw 63 yX7_undo, Cond.instanceMethod yX7_undo, Cond.selects RX7 yX7_undo yX7_undo, Cond.code yX7_undo cX7_undo 1 (some .int), Cond.methodLink RLw 64 yX6_clear, Cond.instanceMethod yX6_clear, Cond.selects RX6 yX6_clear yX6_clear, Cond.code yX6_clear cX6_clear 2 (some .int), Cond.fieldLink RX6 170 "FirstWords$Scene" "left" "I", Cond.methodLink RLw 67 yX7_clear, Cond.instanceMethod yX7_clear, Cond.selects RX7 yX7_clear yX7_clear, Cond.code yX7_clear cX7_clear 2 (some .int), Cond.methodLink RLw 68 yX6_shown, Cond.instanceMethod yX6_shown, Cond.selects RX6 yX6_shown yX6_shown, Cond.code yX6_shown cX6_shown 3 (some .int)]
def wsL_law_r30 : List Cond := [Cond.methodLink RLw 71 yX7_shown, Cond.instanceMethod yX7_shown, Cond.selects RX7 yX7_shown yX7_shown, Cond.code yX7_shown cX7_shown 3 (some .int), Cond.constantLong RX7 290 (2), Cond.methodLink RLw 72 yX6_thinks, Cond.instanceMethod yX6_thinks, Cond.selects RX6 yX6_thinks yX6_thinks, Cond.code yX6_thinks cX6_thinks 3 (some .int), Cond.methodLink RX6 182 yX0_thoughtOf, Cond.methodLink RLw 75 yX7_thinks, Cond.instanceMethod yX7_thinks, Cond.selects RX7 yX7_thinks yX7_thinks, Cond.code yX7_thinks cX7_thinks 3 (some .int), Cond.methodLink RLw 76 yX6_fits, Cond.instanceMethod yX6_fits, Cond.selects RX6 yX6_fits yX6_fits, Cond.code yX6_fits cX6_fits 3 (some .int), Cond.fieldLink RX6 186 "FirstWords$Minds" "fit" "[I", Cond.methodLink RLw 79 yX7_fits, Cond.instanceMethod yX7_fits, Cond.selects RX7 yX7_fits yX7_fits, Cond.code yX7_fits cX7_fits 3 (some .int), Cond.methodLink RLw 80 yX6_same]
def wsL_law_r31 : List Cond := [Cond.instanceMethod yX6_same, Cond.selects RX6 yX6_same yX6_same, Cond.code yX6_same cX6_same 3 (some .int), Cond.methodLink RX6 189 yX0_isSame, Cond.instanceMethod yX0_isSame, Cond.selects RX0 yX0_isSame yX0_isSame, Cond.code yX0_isSame cX0_isSame 4 (some .boolean), Cond.methodLink RX0 104 yX4_likeTarget, Cond.instanceMethod yX4_likeTarget, Cond.selects RX4 yX4_likeTarget yX4_likeTarget, Cond.code yX4_likeTarget cX4_likeTarget 2 (some .int), Cond.methodLink RLw 83 yX7_same, Cond.instanceMethod yX7_same, Cond.selects RX7 yX7_same yX7_same, Cond.code yX7_same cX7_same 3 (some .int), Cond.methodLink RX7 292 yX7_isSame, Cond.instanceMethod yX7_isSame, Cond.selects RX7 yX7_isSame yX7_isSame, Cond.code yX7_isSame cX7_isSame 5 (some .boolean), Cond.methodLink RLw 84 yX6_fled, Cond.instanceMethod yX6_fled, Cond.selects RX6 yX6_fled yX6_fled, Cond.code yX6_fled cX6_fled 2 (some .int), Cond.fieldLink RX6 193 "FirstWords$Minds" "fledAt" "[I"]
def wsL_law_r32 : List Cond := [Cond.methodLink RLw 87 yX7_fled, Cond.instanceMethod yX7_fled, Cond.selects RX7 yX7_fled yX7_fled, Cond.code yX7_fled cX7_fled 2 (some .int), Cond.methodLink RLw 88 yX6_against, Cond.instanceMethod yX6_against, Cond.selects RX6 yX6_against yX6_against, Cond.code yX6_against cX6_against 3 (some .int), Cond.fieldLink RX6 196 "FirstWords$Minds" "wrong" "[I", Cond.methodLink RLw 91 yX7_against, Cond.instanceMethod yX7_against, Cond.selects RX7 yX7_against yX7_against, Cond.code yX7_against cX7_against 3 (some .int), Cond.methodLink RLw 92 yX6_common, Cond.instanceMethod yX6_common, Cond.selects RX6 yX6_common yX6_common, Cond.code yX6_common cX6_common 4 (some .int), Cond.fieldLink RX6 202 "FirstWords$Told" "sounds" "I", Cond.methodLink RX6 199 yX4_areKinds, Cond.instanceMethod yX4_areKinds, Cond.selects RX4 yX4_areKinds yX4_areKinds, Cond.code yX4_areKinds cX4_areKinds 2 (some .boolean), Cond.methodLink RX6 205 yX0_isSameForAll, Cond.instanceMethod yX0_isSameForAll]
def wsL_law_r33 : List Cond := [Cond.selects RX0 yX0_isSameForAll yX0_isSameForAll, Cond.code yX0_isSameForAll cX0_isSameForAll 5 (some .boolean), Cond.methodLink RX0 107 yX0_isSame, Cond.methodLink RLw 95 yX7_common, Cond.instanceMethod yX7_common, Cond.selects RX7 yX7_common yX7_common, Cond.code yX7_common cX7_common 4 (some .int), Cond.methodLink RX7 295 yX7_areKinds, Cond.instanceMethod yX7_areKinds, Cond.selects RX7 yX7_areKinds yX7_areKinds, Cond.code yX7_areKinds cX7_areKinds 2 (some .boolean), Cond.methodLink RX7 298 yX7_isSameForAll, Cond.instanceMethod yX7_isSameForAll, Cond.selects RX7 yX7_isSameForAll yX7_isSameForAll, Cond.code yX7_isSameForAll cX7_isSameForAll 6 (some .boolean), Cond.methodLink RLw 96 yX6_teaching, Cond.instanceMethod yX6_teaching, Cond.selects RX6 yX6_teaching yX6_teaching, Cond.code yX6_teaching cX6_teaching 6 (some .int), Cond.fieldLink RX6 212 "FirstWords$Tutor" "length" "I", Cond.fieldLink RX6 213 "FirstWords$Tutor" "row" "[I", Cond.methodLink RX6 208 yX5_findRow, Cond.instanceMethod yX5_findRow, Cond.selects RX5 yX5_findRow yX5_findRow]
def wsL_law_r34 : List Cond := [Cond.code yX5_findRow cX5_findRow 7 (some .boolean), Cond.fieldLink RX5 35 "FirstWords$Tutor" "kinds" "I", Cond.fieldLink RX5 39 "FirstWords$Tutor" "sound" "I", Cond.fieldLink RX5 46 "FirstWords$Tutor" "worth" "I", Cond.fieldLink RX5 53 "FirstWords$Tutor" "length" "I", Cond.methodLink RX5 31 yX5_isHopeless, Cond.static yX5_isHopeless, Cond.code yX5_isHopeless cX5_isHopeless 6 (some .boolean), Cond.fieldLink RX5 60 "FirstWords$Told" "kinds" "I", Cond.fieldLink RX5 79 "FirstWords$Minds" "fledAt" "[I", Cond.methodLink RX5 67 yX0_isSame, Cond.methodLink RX5 71 yX0_choices, Cond.methodLink RX5 75 yX4_likeTarget, Cond.methodLink RX5 42 yX5_thingsWorthShowing, Cond.static yX5_thingsWorthShowing, Cond.code yX5_thingsWorthShowing cX5_thingsWorthShowing 7 (some .int), Cond.fieldLink RX5 85 "FirstWords$Told" "things" "I", Cond.fieldLink RX5 88 "FirstWords$Told" "isIt" "[I", Cond.methodLink RX5 82 yX4_fearedBy, Cond.instanceMethod yX4_fearedBy, Cond.selects RX4 yX4_fearedBy yX4_fearedBy, Cond.code yX4_fearedBy cX4_fearedBy 4 (some .int), Cond.methodLink RX5 49 yX0_become, Cond.instanceMethod yX0_become]
def wsL_law_r35 : List Cond := [Cond.selects RX0 yX0_become yX0_become, Cond.code yX0_become cX0_become 2 none, Cond.methodLink RX0 37 arraycopyName, Cond.native arraycopyName, Cond.static arraycopyName, Cond.initialized "java/lang/System", Cond.methodLink RX5 56 yX5_reaches, Cond.static yX5_reaches, Cond.code yX5_reaches cX5_reaches 5 (some .boolean), Cond.methodLink RX5 91 yX0_isSameForAll, Cond.methodLink RX5 94 yX4_isTarget, Cond.methodLink RX5 97 yX0_witness, Cond.methodLink RLw 100 yX7_teaching, Cond.instanceMethod yX7_teaching, Cond.selects RX7 yX7_teaching yX7_teaching, Cond.code yX7_teaching cX7_teaching 5 (some .int), Cond.methodLink RX7 301 yX7_copies, Cond.instanceMethod yX7_copies, Cond.selects RX7 yX7_copies yX7_copies, Cond.code yX7_copies cX7_copies 4 none, Cond.methodLink RX7 313 yX7_fewest, Cond.instanceMethod yX7_fewest, Cond.selects RX7 yX7_fewest yX7_fewest, Cond.code yX7_fewest cX7_fewest 6 (some .int)]
def wsL_law_r36 : List Cond := [Cond.methodLink RX7 307 yX7_teaches, Cond.instanceMethod yX7_teaches, Cond.selects RX7 yX7_teaches yX7_teaches, Cond.code yX7_teaches cX7_teaches 5 (some .boolean), Cond.methodLink RX7 304 yX7_hasFled, Cond.instanceMethod yX7_hasFled, Cond.selects RX7 yX7_hasFled yX7_hasFled, Cond.code yX7_hasFled cX7_hasFled 5 (some .boolean), Cond.methodLink RX7 310 yX7_nextRow, Cond.instanceMethod yX7_nextRow, Cond.selects RX7 yX7_nextRow yX7_nextRow, Cond.code yX7_nextRow cX7_nextRow 3 (some .boolean), Cond.methodLink RLw 101 yX6_never, Cond.instanceMethod yX6_never, Cond.selects RX6 yX6_never yX6_never, Cond.code yX6_never cX6_never 3 (some .int), Cond.methodLink RX6 216 yX4_likeTarget, Cond.methodLink RLw 104 yX7_never, Cond.instanceMethod yX7_never, Cond.selects RX7 yX7_never yX7_never, Cond.code yX7_never cX7_never 5 (some .int), Cond.methodLink RLw 105 yX6_order, Cond.instanceMethod yX6_order, Cond.selects RX6 yX6_order yX6_order]
def wsL_law_r37 : List Cond := [Cond.code yX6_order cX6_order 4 (some .int), Cond.fieldLink RX6 230 "FirstWords$Tutor" "bestTotal" "I", Cond.fieldLink RX6 233 "FirstWords$Tutor" "bestOrder" "[I", Cond.methodLink RX6 219 yX5_forgetOrder, Cond.instanceMethod yX5_forgetOrder, Cond.selects RX5 yX5_forgetOrder yX5_forgetOrder, Cond.code yX5_forgetOrder cX5_forgetOrder 2 none, Cond.fieldLink RX5 101 "FirstWords$Tutor" "bestTotal" "I", Cond.methodLink RX5 104 yX0_blank, Cond.static yX5_tryOrders, Cond.code yX5_tryOrders cX5_tryOrders 8 none, Cond.fieldLink RX5 108 "FirstWords$Told" "sounds" "I", Cond.methodLink RX5 111 arraycopyName, Cond.methodLink RX5 117 yX5_findRow, Cond.methodLink RX5 121 yX5_tryOrders, Cond.methodLink RX6 226 yX5_hasOrder, Cond.instanceMethod yX5_hasOrder, Cond.selects RX5 yX5_hasOrder yX5_hasOrder, Cond.code yX5_hasOrder cX5_hasOrder 1 (some .boolean), Cond.methodLink RLw 108 yX7_order, Cond.instanceMethod yX7_order, Cond.selects RX7 yX7_order yX7_order, Cond.code yX7_order cX7_order 9 (some .int), Cond.methodLink RX7 317 yX7_areUnlike]
def wsL_law_r38 : List Cond := [Cond.instanceMethod yX7_areUnlike, Cond.selects RX7 yX7_areUnlike yX7_areUnlike, Cond.code yX7_areUnlike cX7_areUnlike 3 (some .boolean), Cond.methodLink RX7 321 yX7_taken, Cond.instanceMethod yX7_taken, Cond.selects RX7 yX7_taken yX7_taken, Cond.code yX7_taken cX7_taken 5 (some .int), Cond.methodLink RLw 109 yX6_first, Cond.instanceMethod yX6_first, Cond.selects RX6 yX6_first yX6_first, Cond.code yX6_first cX6_first 8 (some .int), Cond.fieldLink RX6 242 "FirstWords$Told" "things" "I", Cond.methodLink RX6 236 yX4_kindsWithChance, Cond.instanceMethod yX4_kindsWithChance, Cond.selects RX4 yX4_kindsWithChance yX4_kindsWithChance, Cond.code yX4_kindsWithChance cX4_kindsWithChance 3 (some .int), Cond.methodLink RX6 239 yX4_fearedBy, Cond.methodLink RX6 245 yX6_isIn, Cond.methodLink RX6 248 yX6_chanceOfFirst, Cond.instanceMethod yX6_chanceOfFirst, Cond.selects RX6 yX6_chanceOfFirst yX6_chanceOfFirst, Cond.code yX6_chanceOfFirst cX6_chanceOfFirst 3 (some .int), Cond.methodLink RX6 278 yX0_chanceOfSame, Cond.instanceMethod yX0_chanceOfSame]
def wsL_law_r39 : List Cond := [Cond.selects RX0 yX0_chanceOfSame yX0_chanceOfSame, Cond.code yX0_chanceOfSame cX0_chanceOfSame 5 (some .int), Cond.fieldLink RX0 111 "FirstWords$Told" "chance" "[I", Cond.methodLink RX6 251 yX4_chances, Cond.instanceMethod yX4_chances, Cond.selects RX4 yX4_chances yX4_chances, Cond.code yX4_chances cX4_chances 4 (some .int), Cond.methodLink RX6 254 yX6_ofLowestTerms, Cond.static yX6_ofLowestTerms, Cond.code yX6_ofLowestTerms cX6_ofLowestTerms 7 (some .int), Cond.methodLink RLw 112 yX7_first, Cond.instanceMethod yX7_first, Cond.selects RX7 yX7_first yX7_first, Cond.code yX7_first cX7_first 8 (some .int), Cond.methodLink RX7 327 yX7_allChances, Cond.instanceMethod yX7_allChances, Cond.selects RX7 yX7_allChances yX7_allChances, Cond.code yX7_allChances cX7_allChances 1 (some .int), Cond.methodLink RX7 324 yX7_chanceOf, Cond.instanceMethod yX7_chanceOf, Cond.selects RX7 yX7_chanceOf yX7_chanceOf, Cond.code yX7_chanceOf cX7_chanceOf 4 (some .int), Cond.methodLink RX7 330 yX7_feared, Cond.instanceMethod yX7_feared]
def wsL_law_r40 : List Cond := [Cond.selects RX7 yX7_feared yX7_feared, Cond.code yX7_feared cX7_feared 5 (some .int), Cond.methodLink RX7 333 yX7_lowest, Cond.static yX7_lowest, Cond.code yX7_lowest cX7_lowest 6 (some .int), Cond.methodLink RLw 113 yX6_fears, Cond.instanceMethod yX6_fears, Cond.selects RX6 yX6_fears yX6_fears, Cond.code yX6_fears cX6_fears 2 (some .int), Cond.methodLink RX6 257 yX4_allThings, Cond.instanceMethod yX4_allThings, Cond.selects RX4 yX4_allThings yX4_allThings, Cond.code yX4_allThings cX4_allThings 1 (some .int), Cond.methodLink RLw 116 yX7_fears, Cond.instanceMethod yX7_fears, Cond.selects RX7 yX7_fears yX7_fears, Cond.code yX7_fears cX7_fears 2 (some .int), Cond.methodLink RLw 117 yX6_answer, Cond.instanceMethod yX6_answer, Cond.selects RX6 yX6_answer yX6_answer, Cond.code yX6_answer cX6_answer 4 (some .int), Cond.methodLink RX6 260 yX0_answerOf, Cond.instanceMethod yX0_answerOf, Cond.selects RX0 yX0_answerOf yX0_answerOf]
def wsL_law_r41 : List Cond := [Cond.code yX0_answerOf cX0_answerOf 6 (some .int), Cond.fieldLink RX0 117 "FirstWords$Told" "are" "[I", Cond.methodLink RX0 114 yX4_hasMeaning, Cond.methodLink RLw 120 yX7_answer, Cond.instanceMethod yX7_answer, Cond.selects RX7 yX7_answer yX7_answer, Cond.code yX7_answer cX7_answer 4 (some .int), Cond.methodLink RX7 336 yX7_answerOf, Cond.instanceMethod yX7_answerOf, Cond.selects RX7 yX7_answerOf yX7_answerOf, Cond.code yX7_answerOf cX7_answerOf 5 (some .int), Cond.methodLink RLw 121 yX6_heard, Cond.instanceMethod yX6_heard, Cond.selects RX6 yX6_heard yX6_heard, Cond.code yX6_heard cX6_heard 4 (some .int), Cond.methodLink RX6 264 yX0_kindsThatAnswer, Cond.instanceMethod yX0_kindsThatAnswer, Cond.selects RX0 yX0_kindsThatAnswer yX0_kindsThatAnswer, Cond.code yX0_kindsThatAnswer cX0_kindsThatAnswer 7 (some .int), Cond.methodLink RX0 120 yX0_answerOf, Cond.methodLink RLw 124 yX7_heard, Cond.instanceMethod yX7_heard, Cond.selects RX7 yX7_heard yX7_heard, Cond.code yX7_heard cX7_heard 4 (some .int)]
def wsL_law_r42 : List Cond := [Cond.methodLink RX7 339 yX7_whoSay, Cond.instanceMethod yX7_whoSay, Cond.selects RX7 yX7_whoSay yX7_whoSay, Cond.code yX7_whoSay cX7_whoSay 6 (some .int), Cond.methodLink RLw 125 yX6_left, Cond.instanceMethod yX6_left, Cond.selects RX6 yX6_left yX6_left, Cond.code yX6_left cX6_left 2 (some .int), Cond.methodLink RLw 128 yX7_left, Cond.instanceMethod yX7_left, Cond.selects RX7 yX7_left yX7_left, Cond.code yX7_left cX7_left 2 (some .int), Cond.methodLink RLw 129 yX6_ask, Cond.instanceMethod yX6_ask, Cond.selects RX6 yX6_ask yX6_ask, Cond.code yX6_ask cX6_ask 8 (some .int), Cond.methodLink RX6 267 yX6_greatestLeft, Cond.instanceMethod yX6_greatestLeft, Cond.selects RX6 yX6_greatestLeft yX6_greatestLeft, Cond.code yX6_greatestLeft cX6_greatestLeft 6 (some .int), Cond.methodLink RX6 347 Lib.Math.max.name, Cond.static Lib.Math.max.name, Cond.initialized "java/lang/Math", Cond.code Lib.Math.max.name Lib.Math.max.code 2 (some .int)]
def wsL_law_r43 : List Cond := [Cond.methodLink RLw 132 yX7_ask, Cond.instanceMethod yX7_ask, Cond.selects RX7 yX7_ask yX7_ask, Cond.code yX7_ask cX7_ask 9 (some .int), Cond.methodLink RLw 133 yX6_sure, Cond.instanceMethod yX6_sure, Cond.selects RX6 yX6_sure yX6_sure, Cond.code yX6_sure cX6_sure 5 (some .int), Cond.methodLink RX6 270 yJ6_bitCount_0f7a4, Cond.methodLink RX6 275 yX6_areSure, Cond.instanceMethod yX6_areSure, Cond.selects RX6 yX6_areSure yX6_areSure, Cond.code yX6_areSure cX6_areSure 6 (some .boolean), Cond.fieldLink RX6 334 "FirstWords$Told" "meanings" "I", Cond.methodLink RX6 352 yX4_targetThings, Cond.methodLink RLw 136 yX7_sure, Cond.instanceMethod yX7_sure, Cond.selects RX7 yX7_sure yX7_sure, Cond.code yX7_sure cX7_sure 9 (some .int), Cond.methodLink RLw 137 yX6_likely, Cond.instanceMethod yX6_likely, Cond.selects RX6 yX6_likely yX6_likely, Cond.code yX6_likely cX6_likely 4 (some .int), Cond.methodLink RLw 140 yX7_likely]
def wsL_law_r44 : List Cond := [Cond.instanceMethod yX7_likely, Cond.selects RX7 yX7_likely yX7_likely, Cond.code yX7_likely cX7_likely 5 (some .int), Cond.methodLink RLw 141 yX6_theirs, Cond.instanceMethod yX6_theirs, Cond.selects RX6 yX6_theirs yX6_theirs, Cond.code yX6_theirs cX6_theirs 3 (some .int), Cond.fieldLink RX6 282 "FirstWords$Scene" "theirs" "I", Cond.fieldLink RX6 285 "FirstWords$Scene" "theirThing" "[I", Cond.fieldLink RX6 288 "FirstWords$Scene" "theirSo" "[Z", Cond.methodLink RLw 145 yX7_theirs, Cond.instanceMethod yX7_theirs, Cond.selects RX7 yX7_theirs yX7_theirs, Cond.code yX7_theirs cX7_theirs 3 (some .int), Cond.methodLink RLw 146 yX6_hush, Cond.instanceMethod yX6_hush, Cond.selects RX6 yX6_hush yX6_hush, Cond.code yX6_hush cX6_hush 2 (some .int), Cond.methodLink RLw 149 yX7_hush, Cond.instanceMethod yX7_hush, Cond.selects RX7 yX7_hush yX7_hush, Cond.code yX7_hush cX7_hush 2 (some .int), Cond.methodLink RLw 150 yX6_meant, Cond.instanceMethod yX6_meant]
def wsL_law_r45 : List Cond := [Cond.selects RX6 yX6_meant yX6_meant, Cond.code yX6_meant cX6_meant 3 (some .int), Cond.methodLink RX6 291 yX6_fittingTheirs, Cond.instanceMethod yX6_fittingTheirs, Cond.selects RX6 yX6_fittingTheirs yX6_fittingTheirs, Cond.code yX6_fittingTheirs cX6_fittingTheirs 3 (some .int), Cond.methodLink RX6 355 yX4_allMeanings, Cond.methodLink RX6 358 yX4_fitting, Cond.methodLink RX6 294 yX4_plainest, Cond.methodLink RX6 297 yX6_mostTelling, Cond.instanceMethod yX6_mostTelling, Cond.selects RX6 yX6_mostTelling yX6_mostTelling, Cond.code yX6_mostTelling cX6_mostTelling 8 (some .int), Cond.fieldLink RX6 362 "FirstWords$Told" "isIt" "[I", Cond.methodLink RX6 365 Lib.Math.min.name, Cond.static Lib.Math.min.name, Cond.code Lib.Math.min.name Lib.Math.min.code 2 (some .int), Cond.methodLink RLw 153 yX7_meant, Cond.instanceMethod yX7_meant, Cond.selects RX7 yX7_meant yX7_meant, Cond.code yX7_meant cX7_meant 3 (some .int), Cond.methodLink RX7 342 yX7_fitsTheirs, Cond.instanceMethod yX7_fitsTheirs, Cond.selects RX7 yX7_fitsTheirs yX7_fitsTheirs]
def wsL_law_r46 : List Cond := [Cond.code yX7_fitsTheirs cX7_fitsTheirs 5 (some .int), Cond.methodLink RX7 345 yX7_toAsk, Cond.instanceMethod yX7_toAsk, Cond.selects RX7 yX7_toAsk yX7_toAsk, Cond.code yX7_toAsk cX7_toAsk 7 (some .int), Cond.methodLink RLw 154 yX6_build, Cond.instanceMethod yX6_build, Cond.selects RX6 yX6_build yX6_build, Cond.code yX6_build cX6_build 6 (some .int), Cond.methodLink RX6 300 yX6_otherSound, Cond.instanceMethod yX6_otherSound, Cond.selects RX6 yX6_otherSound yX6_otherSound, Cond.code yX6_otherSound cX6_otherSound 8 (some .int), Cond.methodLink RLw 157 yX7_build, Cond.instanceMethod yX7_build, Cond.selects RX7 yX7_build yX7_build, Cond.code yX7_build cX7_build 8 (some .int), Cond.methodLink RLw 158 yX6_draw, Cond.instanceMethod yX6_draw, Cond.selects RX6 yX6_draw yX6_draw, Cond.code yX6_draw cX6_draw 5 (some .int), Cond.constant RX6 304 (1103515245), Cond.fieldLink RX6 305 "FirstWords$Told" "kinds" "I", Cond.methodLink RLw 161 yX7_draw]
def wsL_law_r47 : List Cond := [Cond.instanceMethod yX7_draw, Cond.selects RX7 yX7_draw yX7_draw, Cond.code yX7_draw cX7_draw 4 (some .int), Cond.constant RX7 348 (1103515245), Cond.methodLink RLw 162 yX6_keep, Cond.instanceMethod yX6_keep, Cond.selects RX6 yX6_keep yX6_keep, Cond.code yX6_keep cX6_keep 3 (some .int), Cond.methodLink RX6 308 yX1_become, Cond.instanceMethod yX1_become, Cond.selects RX1 yX1_become yX1_become, Cond.code yX1_become cX1_become 3 none, Cond.methodLink RX1 44 arraycopyName, Cond.methodLink RLw 165 yX7_keep, Cond.instanceMethod yX7_keep, Cond.selects RX7 yX7_keep yX7_keep, Cond.code yX7_keep cX7_keep 4 (some .int), Cond.methodLink RLw 166 yX6_back, Cond.instanceMethod yX6_back, Cond.selects RX6 yX6_back yX6_back, Cond.code yX6_back cX6_back 2 (some .int), Cond.methodLink RLw 169 yX7_back, Cond.instanceMethod yX7_back, Cond.selects RX7 yX7_back yX7_back]
def wsL_law_r48 : List Cond := [Cond.code yX7_back cX7_back 3 (some .int), Cond.methodLink RLw 170 yX6_sheet, Cond.instanceMethod yX6_sheet, Cond.selects RX6 yX6_sheet yX6_sheet, Cond.code yX6_sheet cX6_sheet 4 (some .int), Cond.methodLink RX6 312 yX2_renew, Cond.instanceMethod yX2_renew, Cond.selects RX2 yX2_renew yX2_renew, Cond.code yX2_renew cX2_renew 5 none, Cond.methodLink RLw 173 yX7_sheet, Cond.instanceMethod yX7_sheet, Cond.selects RX7 yX7_sheet yX7_sheet, Cond.code yX7_sheet cX7_sheet 5 (some .int), Cond.methodLink RX7 349 yX7_isSheet, Cond.static yX7_isSheet, Cond.code yX7_isSheet cX7_isSheet 2 (some .boolean), Cond.methodLink RLw 174 yX6_lay, Cond.instanceMethod yX6_lay, Cond.selects RX6 yX6_lay yX6_lay, Cond.code yX6_lay cX6_lay 5 (some .int), Cond.methodLink RX6 316 yX2_write, Cond.instanceMethod yX2_write, Cond.selects RX2 yX2_write yX2_write, Cond.code yX2_write cX2_write 4 (some .int)]
def wsL_law_r49 : List Cond := [Cond.methodLink RLw 177 yX7_lay, Cond.instanceMethod yX7_lay, Cond.selects RX7 yX7_lay yX7_lay, Cond.code yX7_lay cX7_lay 4 (some .int), Cond.methodLink RLw 178 yX6_read, Cond.instanceMethod yX6_read, Cond.selects RX6 yX6_read yX6_read, Cond.code yX6_read cX6_read 10 (some .int), Cond.fieldLink RX6 331 "FirstWords" "tornBy" "I", Cond.methodLink RX6 319 yX2_refusal, Cond.instanceMethod yX2_refusal, Cond.selects RX2 yX2_refusal yX2_refusal, Cond.code yX2_refusal cX2_refusal 3 (some .int), Cond.methodLink RX6 322 yX2_wholeShowings, Cond.instanceMethod yX2_wholeShowings, Cond.selects RX2 yX2_wholeShowings yX2_wholeShowings, Cond.code yX2_wholeShowings cX2_wholeShowings 4 (some .int), Cond.methodLink RX2 23 Lib.Math.min.name, Cond.methodLink RX6 325 yX6_firstWrongRead, Cond.instanceMethod yX6_firstWrongRead, Cond.selects RX6 yX6_firstWrongRead yX6_firstWrongRead, Cond.code yX6_firstWrongRead cX6_firstWrongRead 8 (some .int), Cond.methodLink RX6 328 yX2_cell, Cond.instanceMethod yX2_cell]
def wsL_law_r50 : List Cond := [Cond.selects RX2 yX2_cell yX2_cell, Cond.code yX2_cell cX2_cell 3 (some .int), Cond.methodLink RLw 182 yX7_read, Cond.instanceMethod yX7_read, Cond.selects RX7 yX7_read yX7_read, Cond.code yX7_read cX7_read 11 (some .int), Cond.constantLong RX7 352 (13), Cond.fieldLink RX7 354 "FirstWordsModel" "torn" "I", Cond.methodLink RLw 183 yX6_torn, Cond.instanceMethod yX6_torn, Cond.selects RX6 yX6_torn yX6_torn, Cond.code yX6_torn cX6_torn 1 (some .int), Cond.methodLink RLw 186 yX7_torn, Cond.instanceMethod yX7_torn, Cond.selects RX7 yX7_torn yX7_torn, Cond.code yX7_torn cX7_torn 1 (some .int), Cond.methodLink RLw 187 yX6_count, Cond.instanceMethod yX6_count, Cond.selects RX6 yX6_count yX6_count, Cond.code yX6_count cX6_count 2 (some .int), Cond.fieldLink RX6 340 "FirstWords$Sheets" "size" "[I", Cond.methodLink RX6 337 yX6_imagesKept, Cond.instanceMethod yX6_imagesKept, Cond.selects RX6 yX6_imagesKept yX6_imagesKept]
def wsL_law_r51 : List Cond := [Cond.code yX6_imagesKept cX6_imagesKept 3 (some .int), Cond.methodLink RLw 190 yX7_count, Cond.instanceMethod yX7_count, Cond.selects RX7 yX7_count yX7_count, Cond.code yX7_count cX7_count 2 (some .int)]
def wsL_law : List Cond := (wsL_law_r1 ++ (wsL_law_r2 ++ (wsL_law_r3 ++ (wsL_law_r4 ++ (wsL_law_r5 ++ (wsL_law_r6 ++ (wsL_law_r7 ++ (wsL_law_r8 ++ (wsL_law_r9 ++ (wsL_law_r10 ++ (wsL_law_r11 ++ (wsL_law_r12 ++ (wsL_law_r13 ++ (wsL_law_r14 ++ (wsL_law_r15 ++ (wsL_law_r16 ++ (wsL_law_r17 ++ (wsL_law_r18 ++ (wsL_law_r19 ++ (wsL_law_r20 ++ (wsL_law_r21 ++ (wsL_law_r22 ++ (wsL_law_r23 ++ (wsL_law_r24 ++ (wsL_law_r25 ++ (wsL_law_r26 ++ (wsL_law_r27 ++ (wsL_law_r28 ++ (wsL_law_r29 ++ (wsL_law_r30 ++ (wsL_law_r31 ++ (wsL_law_r32 ++ (wsL_law_r33 ++ (wsL_law_r34 ++ (wsL_law_r35 ++ (wsL_law_r36 ++ (wsL_law_r37 ++ (wsL_law_r38 ++ (wsL_law_r39 ++ (wsL_law_r40 ++ (wsL_law_r41 ++ (wsL_law_r42 ++ (wsL_law_r43 ++ (wsL_law_r44 ++ (wsL_law_r45 ++ (wsL_law_r46 ++ (wsL_law_r47 ++ (wsL_law_r48 ++ (wsL_law_r49 ++ (wsL_law_r50 ++ wsL_law_r51)))))))))))))))))))))))))))))))))))))))))))))))))) ++ wsX60 ++ wsX70 ++ wsX30 ++ wsX40 ++ wsX10 ++ wsX00 ++ wsX50 ++ wsX20 ++ ([] : List Cond)
theorem inlX0 : ∀ w ∈ wsX00, w ∈ wsL_law := fun _ h => List.mem_append_left _ (List.mem_append_left _ (List.mem_append_left _ (List.mem_append_right _ h)))
theorem inlX1 : ∀ w ∈ wsX10, w ∈ wsL_law := fun _ h => List.mem_append_left _ (List.mem_append_left _ (List.mem_append_left _ (List.mem_append_left _ (List.mem_append_right _ h))))
theorem inlX2 : ∀ w ∈ wsX20, w ∈ wsL_law := fun _ h => List.mem_append_left _ (List.mem_append_right _ h)
theorem inlX3 : ∀ w ∈ wsX30, w ∈ wsL_law := fun _ h => List.mem_append_left _ (List.mem_append_left _ (List.mem_append_left _ (List.mem_append_left _ (List.mem_append_left _ (List.mem_append_left _ (List.mem_append_right _ h))))))
theorem inlX4 : ∀ w ∈ wsX40, w ∈ wsL_law := fun _ h => List.mem_append_left _ (List.mem_append_left _ (List.mem_append_left _ (List.mem_append_left _ (List.mem_append_left _ (List.mem_append_right _ h)))))
theorem inlX5 : ∀ w ∈ wsX50, w ∈ wsL_law := fun _ h => List.mem_append_left _ (List.mem_append_left _ (List.mem_append_right _ h))
theorem inlX6 : ∀ w ∈ wsX60, w ∈ wsL_law := fun _ h => List.mem_append_left _ (List.mem_append_left _ (List.mem_append_left _ (List.mem_append_left _ (List.mem_append_left _ (List.mem_append_left _ (List.mem_append_left _ (List.mem_append_left _ (List.mem_append_right _ h))))))))
theorem inlX7 : ∀ w ∈ wsX70, w ∈ wsL_law := fun _ h => List.mem_append_left _ (List.mem_append_left _ (List.mem_append_left _ (List.mem_append_left _ (List.mem_append_left _ (List.mem_append_left _ (List.mem_append_left _ (List.mem_append_right _ h)))))))
abbrev vwCl : List vw_C := [(RX0, TX0, 6), (RX1, TX1, 9), (RX2, TX2, 3), (RX3, TX3, 9), (RX4, TX4, 19), (RX5, TX5, 10), (RX6, TX6, 10), (RX7, TX7, 45)]
