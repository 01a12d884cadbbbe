section
-- ===== PART A: goes FIRST, ahead of the names: the tables' words, and 'selects' of the private methods out of them =====
/-- a private method of a class that the tables say can be made, by its rows of tables_1 -/
def lw_okq (q : MethodName × Nat) : Prop := (q.1.cls ≠ "java/lang/invoke/MethodHandle" ∧ q.1.cls ≠ "java/lang/invoke/VarHandle") ∧ Cond.instantiable q.1.cls q.2 ∈ tables_1 ∧ Cond.privateMethod q.1 ∈ tables_1 ∧ Cond.instanceMethod q.1 ∈ tables_1
theorem lw_p0 : lw_okq (⟨"CampAshes$Camp", "clear", "()V"⟩, 14) := ⟨⟨by decide +kernel, by decide +kernel⟩, List.mem_of_getElem? (i := 95) (by decide +kernel), List.mem_of_getElem? (i := 101) (by decide +kernel), List.mem_of_getElem? (i := 102) (by decide +kernel)⟩
theorem lw_p1 : lw_okq (⟨"CampAshes$State", "putOn", "(III)V"⟩, 10) := ⟨⟨by decide +kernel, by decide +kernel⟩, List.mem_of_getElem? (i := 181) (by decide +kernel), List.mem_of_getElem? (i := 413) (by decide +kernel), List.mem_of_getElem? (i := 414) (by decide +kernel)⟩
theorem lw_p2 : lw_okq (⟨"CampAshes$Tape", "readRun", "()I"⟩, 12) := ⟨⟨by decide +kernel, by decide +kernel⟩, List.mem_of_getElem? (i := 36) (by decide +kernel), List.mem_of_getElem? (i := 493) (by decide +kernel), List.mem_of_getElem? (i := 494) (by decide +kernel)⟩
theorem lw_p3 : lw_okq (⟨"CampAshes$Tape", "readSign", "()V"⟩, 12) := ⟨⟨by decide +kernel, by decide +kernel⟩, List.mem_of_getElem? (i := 36) (by decide +kernel), List.mem_of_getElem? (i := 498) (by decide +kernel), List.mem_of_getElem? (i := 499) (by decide +kernel)⟩
theorem lw_p4 : lw_okq (⟨"CampAshes$Camp", "readLine", "(LCampAshes$Tape;)Z"⟩, 14) := ⟨⟨by decide +kernel, by decide +kernel⟩, List.mem_of_getElem? (i := 95) (by decide +kernel), List.mem_of_getElem? (i := 515) (by decide +kernel), List.mem_of_getElem? (i := 516) (by decide +kernel)⟩
theorem lw_p5 : lw_okq (⟨"CampAshes$Camp", "readBoy", "(LCampAshes$Tape;)Z"⟩, 14) := ⟨⟨by decide +kernel, by decide +kernel⟩, List.mem_of_getElem? (i := 95) (by decide +kernel), List.mem_of_getElem? (i := 525) (by decide +kernel), List.mem_of_getElem? (i := 526) (by decide +kernel)⟩
theorem lw_p6 : lw_okq (⟨"CampAshes$Camp", "isNewName", "(LCampAshes$Tape;)Z"⟩, 14) := ⟨⟨by decide +kernel, by decide +kernel⟩, List.mem_of_getElem? (i := 95) (by decide +kernel), List.mem_of_getElem? (i := 534) (by decide +kernel), List.mem_of_getElem? (i := 535) (by decide +kernel)⟩
theorem lw_p7 : lw_okq (⟨"CampAshes$Camp", "readEvent", "(LCampAshes$Tape;)Z"⟩, 14) := ⟨⟨by decide +kernel, by decide +kernel⟩, List.mem_of_getElem? (i := 95) (by decide +kernel), List.mem_of_getElem? (i := 553) (by decide +kernel), List.mem_of_getElem? (i := 554) (by decide +kernel)⟩
theorem lw_p8 : lw_okq (⟨"CampAshes$Camp", "readTakes", "(LCampAshes$Tape;)Z"⟩, 14) := ⟨⟨by decide +kernel, by decide +kernel⟩, List.mem_of_getElem? (i := 95) (by decide +kernel), List.mem_of_getElem? (i := 566) (by decide +kernel), List.mem_of_getElem? (i := 567) (by decide +kernel)⟩
theorem lw_p9 : lw_okq (⟨"CampAshes$Camp", "readOnce", "(LCampAshes$Tape;)Z"⟩, 14) := ⟨⟨by decide +kernel, by decide +kernel⟩, List.mem_of_getElem? (i := 95) (by decide +kernel), List.mem_of_getElem? (i := 570) (by decide +kernel), List.mem_of_getElem? (i := 571) (by decide +kernel)⟩
theorem lw_p10 : lw_okq (⟨"CampAshes$Camp", "readOnceNumber", "(LCampAshes$Tape;III)I"⟩, 14) := ⟨⟨by decide +kernel, by decide +kernel⟩, List.mem_of_getElem? (i := 95) (by decide +kernel), List.mem_of_getElem? (i := 576) (by decide +kernel), List.mem_of_getElem? (i := 577) (by decide +kernel)⟩
theorem lw_p11 : lw_okq (⟨"CampAshes$State", "hush", "(I)V"⟩, 10) := ⟨⟨by decide +kernel, by decide +kernel⟩, List.mem_of_getElem? (i := 181) (by decide +kernel), List.mem_of_getElem? (i := 694) (by decide +kernel), List.mem_of_getElem? (i := 695) (by decide +kernel)⟩
theorem lw_p12 : lw_okq (⟨"CampAshes", "keepIfDone", "(I)I"⟩, 16) := ⟨⟨by decide +kernel, by decide +kernel⟩, List.mem_of_getElem? (i := 28) (by decide +kernel), List.mem_of_getElem? (i := 698) (by decide +kernel), List.mem_of_getElem? (i := 699) (by decide +kernel)⟩
theorem lw_p13 : lw_okq (⟨"CampAshes", "keepTrial", "()V"⟩, 16) := ⟨⟨by decide +kernel, by decide +kernel⟩, List.mem_of_getElem? (i := 28) (by decide +kernel), List.mem_of_getElem? (i := 702) (by decide +kernel), List.mem_of_getElem? (i := 703) (by decide +kernel)⟩
theorem lw_p14 : lw_okq (⟨"CampAshes$State", "passDay", "()V"⟩, 10) := ⟨⟨by decide +kernel, by decide +kernel⟩, List.mem_of_getElem? (i := 181) (by decide +kernel), List.mem_of_getElem? (i := 756) (by decide +kernel), List.mem_of_getElem? (i := 757) (by decide +kernel)⟩
theorem lw_p15 : lw_okq (⟨"CampAshes$Advice", "findTellers", "(LCampAshes$Camp;LCampAshes$State;)I"⟩, 7) := ⟨⟨by decide +kernel, by decide +kernel⟩, List.mem_of_getElem? (i := 355) (by decide +kernel), List.mem_of_getElem? (i := 776) (by decide +kernel), List.mem_of_getElem? (i := 777) (by decide +kernel)⟩
def lw_privs_1 : List (MethodName × Nat) := [(⟨"CampAshes$Camp", "clear", "()V"⟩, 14), (⟨"CampAshes$State", "putOn", "(III)V"⟩, 10), (⟨"CampAshes$Tape", "readRun", "()I"⟩, 12), (⟨"CampAshes$Tape", "readSign", "()V"⟩, 12), (⟨"CampAshes$Camp", "readLine", "(LCampAshes$Tape;)Z"⟩, 14), (⟨"CampAshes$Camp", "readBoy", "(LCampAshes$Tape;)Z"⟩, 14), (⟨"CampAshes$Camp", "isNewName", "(LCampAshes$Tape;)Z"⟩, 14), (⟨"CampAshes$Camp", "readEvent", "(LCampAshes$Tape;)Z"⟩, 14), (⟨"CampAshes$Camp", "readTakes", "(LCampAshes$Tape;)Z"⟩, 14), (⟨"CampAshes$Camp", "readOnce", "(LCampAshes$Tape;)Z"⟩, 14), (⟨"CampAshes$Camp", "readOnceNumber", "(LCampAshes$Tape;III)I"⟩, 14), (⟨"CampAshes$State", "hush", "(I)V"⟩, 10), (⟨"CampAshes", "keepIfDone", "(I)I"⟩, 16), (⟨"CampAshes", "keepTrial", "()V"⟩, 16), (⟨"CampAshes$State", "passDay", "()V"⟩, 10), (⟨"CampAshes$Advice", "findTellers", "(LCampAshes$Camp;LCampAshes$State;)I"⟩, 7)]
theorem lw_r1 : ∀ q ∈ lw_privs_1, lw_okq q := List.forall_mem_cons.mpr ⟨lw_p0, List.forall_mem_cons.mpr ⟨lw_p1, List.forall_mem_cons.mpr ⟨lw_p2, List.forall_mem_cons.mpr ⟨lw_p3, List.forall_mem_cons.mpr ⟨lw_p4, List.forall_mem_cons.mpr ⟨lw_p5, List.forall_mem_cons.mpr ⟨lw_p6, List.forall_mem_cons.mpr ⟨lw_p7, List.forall_mem_cons.mpr ⟨lw_p8, List.forall_mem_cons.mpr ⟨lw_p9, List.forall_mem_cons.mpr ⟨lw_p10, List.forall_mem_cons.mpr ⟨lw_p11, List.forall_mem_cons.mpr ⟨lw_p12, List.forall_mem_cons.mpr ⟨lw_p13, List.forall_mem_cons.mpr ⟨lw_p14, List.forall_mem_cons.mpr ⟨lw_p15, fun _ h => absurd h List.not_mem_nil⟩⟩⟩⟩⟩⟩⟩⟩⟩⟩⟩⟩⟩⟩⟩⟩
theorem lw_p16 : lw_okq (⟨"CampAshes$Advice", "takenBy", "(LCampAshes$Camp;LCampAshes$State;II)I"⟩, 7) := ⟨⟨by decide +kernel, by decide +kernel⟩, List.mem_of_getElem? (i := 355) (by decide +kernel), List.mem_of_getElem? (i := 785) (by decide +kernel), List.mem_of_getElem? (i := 786) (by decide +kernel)⟩
theorem lw_p17 : lw_okq (⟨"CampAshes$Advice", "layRow", "(LCampAshes$Camp;LCampAshes$State;I)V"⟩, 7) := ⟨⟨by decide +kernel, by decide +kernel⟩, List.mem_of_getElem? (i := 355) (by decide +kernel), List.mem_of_getElem? (i := 800) (by decide +kernel), List.mem_of_getElem? (i := 801) (by decide +kernel)⟩
theorem lw_p18 : lw_okq (⟨"CampAshes$Laws", "mostAlike", "(I)I"⟩, 1) := ⟨⟨by decide +kernel, by decide +kernel⟩, List.mem_of_getElem? (i := 388) (by decide +kernel), List.mem_of_getElem? (i := 873) (by decide +kernel), List.mem_of_getElem? (i := 874) (by decide +kernel)⟩
theorem lw_p19 : lw_okq (⟨"CampAshes$State", "allWhoAreOverTell", "()V"⟩, 10) := ⟨⟨by decide +kernel, by decide +kernel⟩, List.mem_of_getElem? (i := 181) (by decide +kernel), List.mem_of_getElem? (i := 885) (by decide +kernel), List.mem_of_getElem? (i := 886) (by decide +kernel)⟩
theorem lw_p20 : lw_okq (⟨"CampAshes", "putName", "(J)V"⟩, 16) := ⟨⟨by decide +kernel, by decide +kernel⟩, List.mem_of_getElem? (i := 28) (by decide +kernel), List.mem_of_getElem? (i := 895) (by decide +kernel), List.mem_of_getElem? (i := 896) (by decide +kernel)⟩
theorem lw_p21 : lw_okq (⟨"CampAshes", "putTagByte", "(I)V"⟩, 16) := ⟨⟨by decide +kernel, by decide +kernel⟩, List.mem_of_getElem? (i := 28) (by decide +kernel), List.mem_of_getElem? (i := 900) (by decide +kernel), List.mem_of_getElem? (i := 901) (by decide +kernel)⟩
theorem lw_p22 : lw_okq (⟨"CampAshes", "putText", "(Ljava/lang/String;)V"⟩, 16) := ⟨⟨by decide +kernel, by decide +kernel⟩, List.mem_of_getElem? (i := 28) (by decide +kernel), List.mem_of_getElem? (i := 905) (by decide +kernel), List.mem_of_getElem? (i := 906) (by decide +kernel)⟩
theorem lw_p23 : lw_okq (⟨"CampAshes", "putDigits", "(I)V"⟩, 16) := ⟨⟨by decide +kernel, by decide +kernel⟩, List.mem_of_getElem? (i := 28) (by decide +kernel), List.mem_of_getElem? (i := 957) (by decide +kernel), List.mem_of_getElem? (i := 958) (by decide +kernel)⟩
theorem lw_p24 : lw_okq (⟨"CampAshes$State", "drawAct", "(ILCampAshes$Draws;)V"⟩, 10) := ⟨⟨by decide +kernel, by decide +kernel⟩, List.mem_of_getElem? (i := 181) (by decide +kernel), List.mem_of_getElem? (i := 986) (by decide +kernel), List.mem_of_getElem? (i := 987) (by decide +kernel)⟩
theorem lw_p25 : lw_okq (⟨"CampAshes$Book", "readLine", "(LCampAshes$Tape;LCampAshes$Camp;)Z"⟩, 11) := ⟨⟨by decide +kernel, by decide +kernel⟩, List.mem_of_getElem? (i := 264) (by decide +kernel), List.mem_of_getElem? (i := 1004) (by decide +kernel), List.mem_of_getElem? (i := 1005) (by decide +kernel)⟩
theorem lw_p26 : lw_okq (⟨"CampAshes$Book", "readPlain", "(LCampAshes$Tape;)Z"⟩, 11) := ⟨⟨by decide +kernel, by decide +kernel⟩, List.mem_of_getElem? (i := 264) (by decide +kernel), List.mem_of_getElem? (i := 1017) (by decide +kernel), List.mem_of_getElem? (i := 1018) (by decide +kernel)⟩
theorem lw_p27 : lw_okq (⟨"CampAshes$Book", "readDeed", "(LCampAshes$Tape;LCampAshes$Camp;)Z"⟩, 11) := ⟨⟨by decide +kernel, by decide +kernel⟩, List.mem_of_getElem? (i := 264) (by decide +kernel), List.mem_of_getElem? (i := 1023) (by decide +kernel), List.mem_of_getElem? (i := 1024) (by decide +kernel)⟩
theorem lw_p28 : lw_okq (⟨"CampAshes$Book", "readGift", "(LCampAshes$Tape;LCampAshes$Camp;)Z"⟩, 11) := ⟨⟨by decide +kernel, by decide +kernel⟩, List.mem_of_getElem? (i := 264) (by decide +kernel), List.mem_of_getElem? (i := 1035) (by decide +kernel), List.mem_of_getElem? (i := 1036) (by decide +kernel)⟩
theorem lw_p29 : lw_okq (⟨"CampAshes$Book", "liveLine", "(LCampAshes$State;I)I"⟩, 11) := ⟨⟨by decide +kernel, by decide +kernel⟩, List.mem_of_getElem? (i := 264) (by decide +kernel), List.mem_of_getElem? (i := 1044) (by decide +kernel), List.mem_of_getElem? (i := 1045) (by decide +kernel)⟩
theorem lw_p30 : lw_okq (⟨"CampAshes$Sentence", "readCond", "(LCampAshes$Tape;LCampAshes$Camp;I)Z"⟩, 7) := ⟨⟨by decide +kernel, by decide +kernel⟩, List.mem_of_getElem? (i := 232) (by decide +kernel), List.mem_of_getElem? (i := 1072) (by decide +kernel), List.mem_of_getElem? (i := 1073) (by decide +kernel)⟩
theorem lw_p31 : lw_okq (⟨"CampAshes$Sentence", "readAll", "(LCampAshes$Tape;LCampAshes$Camp;I)Z"⟩, 7) := ⟨⟨by decide +kernel, by decide +kernel⟩, List.mem_of_getElem? (i := 232) (by decide +kernel), List.mem_of_getElem? (i := 1076) (by decide +kernel), List.mem_of_getElem? (i := 1077) (by decide +kernel)⟩
def lw_privs_2 : List (MethodName × Nat) := [(⟨"CampAshes$Advice", "takenBy", "(LCampAshes$Camp;LCampAshes$State;II)I"⟩, 7), (⟨"CampAshes$Advice", "layRow", "(LCampAshes$Camp;LCampAshes$State;I)V"⟩, 7), (⟨"CampAshes$Laws", "mostAlike", "(I)I"⟩, 1), (⟨"CampAshes$State", "allWhoAreOverTell", "()V"⟩, 10), (⟨"CampAshes", "putName", "(J)V"⟩, 16), (⟨"CampAshes", "putTagByte", "(I)V"⟩, 16), (⟨"CampAshes", "putText", "(Ljava/lang/String;)V"⟩, 16), (⟨"CampAshes", "putDigits", "(I)V"⟩, 16), (⟨"CampAshes$State", "drawAct", "(ILCampAshes$Draws;)V"⟩, 10), (⟨"CampAshes$Book", "readLine", "(LCampAshes$Tape;LCampAshes$Camp;)Z"⟩, 11), (⟨"CampAshes$Book", "readPlain", "(LCampAshes$Tape;)Z"⟩, 11), (⟨"CampAshes$Book", "readDeed", "(LCampAshes$Tape;LCampAshes$Camp;)Z"⟩, 11), (⟨"CampAshes$Book", "readGift", "(LCampAshes$Tape;LCampAshes$Camp;)Z"⟩, 11), (⟨"CampAshes$Book", "liveLine", "(LCampAshes$State;I)I"⟩, 11), (⟨"CampAshes$Sentence", "readCond", "(LCampAshes$Tape;LCampAshes$Camp;I)Z"⟩, 7), (⟨"CampAshes$Sentence", "readAll", "(LCampAshes$Tape;LCampAshes$Camp;I)Z"⟩, 7)]
theorem lw_r2 : ∀ q ∈ lw_privs_2, lw_okq q := List.forall_mem_cons.mpr ⟨lw_p16, List.forall_mem_cons.mpr ⟨lw_p17, List.forall_mem_cons.mpr ⟨lw_p18, List.forall_mem_cons.mpr ⟨lw_p19, List.forall_mem_cons.mpr ⟨lw_p20, List.forall_mem_cons.mpr ⟨lw_p21, List.forall_mem_cons.mpr ⟨lw_p22, List.forall_mem_cons.mpr ⟨lw_p23, List.forall_mem_cons.mpr ⟨lw_p24, List.forall_mem_cons.mpr ⟨lw_p25, List.forall_mem_cons.mpr ⟨lw_p26, List.forall_mem_cons.mpr ⟨lw_p27, List.forall_mem_cons.mpr ⟨lw_p28, List.forall_mem_cons.mpr ⟨lw_p29, List.forall_mem_cons.mpr ⟨lw_p30, List.forall_mem_cons.mpr ⟨lw_p31, fun _ h => absurd h List.not_mem_nil⟩⟩⟩⟩⟩⟩⟩⟩⟩⟩⟩⟩⟩⟩⟩⟩
theorem lw_p32 : lw_okq (⟨"CampAshes$Sentence", "readOne", "(LCampAshes$Tape;LCampAshes$Camp;I)Z"⟩, 7) := ⟨⟨by decide +kernel, by decide +kernel⟩, List.mem_of_getElem? (i := 232) (by decide +kernel), List.mem_of_getElem? (i := 1080) (by decide +kernel), List.mem_of_getElem? (i := 1081) (by decide +kernel)⟩
theorem lw_p33 : lw_okq (⟨"CampAshes$Sentence", "addStep", "(LCampAshes$Word;II)V"⟩, 7) := ⟨⟨by decide +kernel, by decide +kernel⟩, List.mem_of_getElem? (i := 232) (by decide +kernel), List.mem_of_getElem? (i := 1114) (by decide +kernel), List.mem_of_getElem? (i := 1115) (by decide +kernel)⟩
theorem lw_p34 : lw_okq (⟨"CampAshes$Sentence", "readComparison", "(LCampAshes$Tape;LCampAshes$Word;)Z"⟩, 7) := ⟨⟨by decide +kernel, by decide +kernel⟩, List.mem_of_getElem? (i := 232) (by decide +kernel), List.mem_of_getElem? (i := 1120) (by decide +kernel), List.mem_of_getElem? (i := 1121) (by decide +kernel)⟩
theorem lw_p35 : lw_okq (⟨"CampAshes$Sentence", "boysOfStep", "(LCampAshes$State;I)I"⟩, 7) := ⟨⟨by decide +kernel, by decide +kernel⟩, List.mem_of_getElem? (i := 232) (by decide +kernel), List.mem_of_getElem? (i := 1143) (by decide +kernel), List.mem_of_getElem? (i := 1144) (by decide +kernel)⟩
theorem lw_p36 : lw_okq (⟨"CampAshes$Sentence", "holds", "(LCampAshes$State;II)Z"⟩, 7) := ⟨⟨by decide +kernel, by decide +kernel⟩, List.mem_of_getElem? (i := 232) (by decide +kernel), List.mem_of_getElem? (i := 1147) (by decide +kernel), List.mem_of_getElem? (i := 1148) (by decide +kernel)⟩
theorem lw_p37 : lw_okq (⟨"java/lang/Throwable", "fillInStackTrace", "(I)Ljava/lang/Throwable;"⟩, 6) := ⟨⟨by decide +kernel, by decide +kernel⟩, List.mem_of_getElem? (i := 1226) (by decide +kernel), List.mem_of_getElem? (i := 1224) (by decide +kernel), List.mem_of_getElem? (i := 1225) (by decide +kernel)⟩
theorem lw_p38 : lw_okq (⟨"CampAshesModel", "come", "(I)V"⟩, 48) := ⟨⟨by decide +kernel, by decide +kernel⟩, List.mem_of_getElem? (i := 1268) (by decide +kernel), List.mem_of_getElem? (i := 1266) (by decide +kernel), List.mem_of_getElem? (i := 1267) (by decide +kernel)⟩
theorem lw_p39 : lw_okq (⟨"CampAshesModel", "startRead", "()V"⟩, 48) := ⟨⟨by decide +kernel, by decide +kernel⟩, List.mem_of_getElem? (i := 1268) (by decide +kernel), List.mem_of_getElem? (i := 1280) (by decide +kernel), List.mem_of_getElem? (i := 1281) (by decide +kernel)⟩
theorem lw_p40 : lw_okq (⟨"CampAshesModel", "startSo", "()V"⟩, 48) := ⟨⟨by decide +kernel, by decide +kernel⟩, List.mem_of_getElem? (i := 1268) (by decide +kernel), List.mem_of_getElem? (i := 1284) (by decide +kernel), List.mem_of_getElem? (i := 1285) (by decide +kernel)⟩
theorem lw_p41 : lw_okq (⟨"CampAshesModel", "begin", "(I)V"⟩, 48) := ⟨⟨by decide +kernel, by decide +kernel⟩, List.mem_of_getElem? (i := 1268) (by decide +kernel), List.mem_of_getElem? (i := 1438) (by decide +kernel), List.mem_of_getElem? (i := 1439) (by decide +kernel)⟩
theorem lw_p42 : lw_okq (⟨"CampAshesModel", "take", "()I"⟩, 48) := ⟨⟨by decide +kernel, by decide +kernel⟩, List.mem_of_getElem? (i := 1268) (by decide +kernel), List.mem_of_getElem? (i := 1442) (by decide +kernel), List.mem_of_getElem? (i := 1443) (by decide +kernel)⟩
theorem lw_p43 : lw_okq (⟨"CampAshesModel", "go", "()V"⟩, 48) := ⟨⟨by decide +kernel, by decide +kernel⟩, List.mem_of_getElem? (i := 1268) (by decide +kernel), List.mem_of_getElem? (i := 1446) (by decide +kernel), List.mem_of_getElem? (i := 1447) (by decide +kernel)⟩
theorem lw_p44 : lw_okq (⟨"CampAshesModel", "tapeAt", "(I)I"⟩, 48) := ⟨⟨by decide +kernel, by decide +kernel⟩, List.mem_of_getElem? (i := 1268) (by decide +kernel), List.mem_of_getElem? (i := 1456) (by decide +kernel), List.mem_of_getElem? (i := 1457) (by decide +kernel)⟩
theorem lw_p45 : lw_okq (⟨"CampAshesModel", "readLine", "()Z"⟩, 48) := ⟨⟨by decide +kernel, by decide +kernel⟩, List.mem_of_getElem? (i := 1268) (by decide +kernel), List.mem_of_getElem? (i := 1462) (by decide +kernel), List.mem_of_getElem? (i := 1463) (by decide +kernel)⟩
theorem lw_p46 : lw_okq (⟨"CampAshesModel", "isWord", "(I)Z"⟩, 48) := ⟨⟨by decide +kernel, by decide +kernel⟩, List.mem_of_getElem? (i := 1268) (by decide +kernel), List.mem_of_getElem? (i := 1466) (by decide +kernel), List.mem_of_getElem? (i := 1467) (by decide +kernel)⟩
theorem lw_p47 : lw_okq (⟨"CampAshesModel", "readBoy", "()Z"⟩, 48) := ⟨⟨by decide +kernel, by decide +kernel⟩, List.mem_of_getElem? (i := 1268) (by decide +kernel), List.mem_of_getElem? (i := 1476) (by decide +kernel), List.mem_of_getElem? (i := 1477) (by decide +kernel)⟩
def lw_privs_3 : List (MethodName × Nat) := [(⟨"CampAshes$Sentence", "readOne", "(LCampAshes$Tape;LCampAshes$Camp;I)Z"⟩, 7), (⟨"CampAshes$Sentence", "addStep", "(LCampAshes$Word;II)V"⟩, 7), (⟨"CampAshes$Sentence", "readComparison", "(LCampAshes$Tape;LCampAshes$Word;)Z"⟩, 7), (⟨"CampAshes$Sentence", "boysOfStep", "(LCampAshes$State;I)I"⟩, 7), (⟨"CampAshes$Sentence", "holds", "(LCampAshes$State;II)Z"⟩, 7), (⟨"java/lang/Throwable", "fillInStackTrace", "(I)Ljava/lang/Throwable;"⟩, 6), (⟨"CampAshesModel", "come", "(I)V"⟩, 48), (⟨"CampAshesModel", "startRead", "()V"⟩, 48), (⟨"CampAshesModel", "startSo", "()V"⟩, 48), (⟨"CampAshesModel", "begin", "(I)V"⟩, 48), (⟨"CampAshesModel", "take", "()I"⟩, 48), (⟨"CampAshesModel", "go", "()V"⟩, 48), (⟨"CampAshesModel", "tapeAt", "(I)I"⟩, 48), (⟨"CampAshesModel", "readLine", "()Z"⟩, 48), (⟨"CampAshesModel", "isWord", "(I)Z"⟩, 48), (⟨"CampAshesModel", "readBoy", "()Z"⟩, 48)]
theorem lw_r3 : ∀ q ∈ lw_privs_3, lw_okq q := List.forall_mem_cons.mpr ⟨lw_p32, List.forall_mem_cons.mpr ⟨lw_p33, List.forall_mem_cons.mpr ⟨lw_p34, List.forall_mem_cons.mpr ⟨lw_p35, List.forall_mem_cons.mpr ⟨lw_p36, List.forall_mem_cons.mpr ⟨lw_p37, List.forall_mem_cons.mpr ⟨lw_p38, List.forall_mem_cons.mpr ⟨lw_p39, List.forall_mem_cons.mpr ⟨lw_p40, List.forall_mem_cons.mpr ⟨lw_p41, List.forall_mem_cons.mpr ⟨lw_p42, List.forall_mem_cons.mpr ⟨lw_p43, List.forall_mem_cons.mpr ⟨lw_p44, List.forall_mem_cons.mpr ⟨lw_p45, List.forall_mem_cons.mpr ⟨lw_p46, List.forall_mem_cons.mpr ⟨lw_p47, fun _ h => absurd h List.not_mem_nil⟩⟩⟩⟩⟩⟩⟩⟩⟩⟩⟩⟩⟩⟩⟩⟩
theorem lw_p48 : lw_okq (⟨"CampAshesModel", "readFirst", "(II)Z"⟩, 48) := ⟨⟨by decide +kernel, by decide +kernel⟩, List.mem_of_getElem? (i := 1268) (by decide +kernel), List.mem_of_getElem? (i := 1480) (by decide +kernel), List.mem_of_getElem? (i := 1481) (by decide +kernel)⟩
theorem lw_p49 : lw_okq (⟨"CampAshesModel", "bad", "(I)Z"⟩, 48) := ⟨⟨by decide +kernel, by decide +kernel⟩, List.mem_of_getElem? (i := 1268) (by decide +kernel), List.mem_of_getElem? (i := 1484) (by decide +kernel), List.mem_of_getElem? (i := 1485) (by decide +kernel)⟩
theorem lw_p50 : lw_okq (⟨"CampAshesModel", "readNew", "(I)Z"⟩, 48) := ⟨⟨by decide +kernel, by decide +kernel⟩, List.mem_of_getElem? (i := 1268) (by decide +kernel), List.mem_of_getElem? (i := 1488) (by decide +kernel), List.mem_of_getElem? (i := 1489) (by decide +kernel)⟩
theorem lw_p51 : lw_okq (⟨"CampAshesModel", "isName", "()Z"⟩, 48) := ⟨⟨by decide +kernel, by decide +kernel⟩, List.mem_of_getElem? (i := 1268) (by decide +kernel), List.mem_of_getElem? (i := 1492) (by decide +kernel), List.mem_of_getElem? (i := 1493) (by decide +kernel)⟩
theorem lw_p52 : lw_okq (⟨"CampAshesModel", "readNumber", "(II)Z"⟩, 48) := ⟨⟨by decide +kernel, by decide +kernel⟩, List.mem_of_getElem? (i := 1268) (by decide +kernel), List.mem_of_getElem? (i := 1499) (by decide +kernel), List.mem_of_getElem? (i := 1500) (by decide +kernel)⟩
theorem lw_p53 : lw_okq (⟨"CampAshesModel", "put", "(IZ)Z"⟩, 48) := ⟨⟨by decide +kernel, by decide +kernel⟩, List.mem_of_getElem? (i := 1268) (by decide +kernel), List.mem_of_getElem? (i := 1506) (by decide +kernel), List.mem_of_getElem? (i := 1507) (by decide +kernel)⟩
theorem lw_p54 : lw_okq (⟨"CampAshesModel", "readEvent", "()Z"⟩, 48) := ⟨⟨by decide +kernel, by decide +kernel⟩, List.mem_of_getElem? (i := 1268) (by decide +kernel), List.mem_of_getElem? (i := 1510) (by decide +kernel), List.mem_of_getElem? (i := 1511) (by decide +kernel)⟩
theorem lw_p55 : lw_okq (⟨"CampAshesModel", "readWhose", "(I)Z"⟩, 48) := ⟨⟨by decide +kernel, by decide +kernel⟩, List.mem_of_getElem? (i := 1268) (by decide +kernel), List.mem_of_getElem? (i := 1514) (by decide +kernel), List.mem_of_getElem? (i := 1515) (by decide +kernel)⟩
theorem lw_p56 : lw_okq (⟨"CampAshesModel", "isKind", "()Z"⟩, 48) := ⟨⟨by decide +kernel, by decide +kernel⟩, List.mem_of_getElem? (i := 1268) (by decide +kernel), List.mem_of_getElem? (i := 1518) (by decide +kernel), List.mem_of_getElem? (i := 1519) (by decide +kernel)⟩
theorem lw_p57 : lw_okq (⟨"CampAshesModel", "readTakes", "()Z"⟩, 48) := ⟨⟨by decide +kernel, by decide +kernel⟩, List.mem_of_getElem? (i := 1268) (by decide +kernel), List.mem_of_getElem? (i := 1522) (by decide +kernel), List.mem_of_getElem? (i := 1523) (by decide +kernel)⟩
theorem lw_p58 : lw_okq (⟨"CampAshesModel", "readOnce", "(IIII)Z"⟩, 48) := ⟨⟨by decide +kernel, by decide +kernel⟩, List.mem_of_getElem? (i := 1268) (by decide +kernel), List.mem_of_getElem? (i := 1526) (by decide +kernel), List.mem_of_getElem? (i := 1527) (by decide +kernel)⟩
theorem lw_p59 : lw_okq (⟨"CampAshesModel", "readEnd", "()Z"⟩, 48) := ⟨⟨by decide +kernel, by decide +kernel⟩, List.mem_of_getElem? (i := 1268) (by decide +kernel), List.mem_of_getElem? (i := 1530) (by decide +kernel), List.mem_of_getElem? (i := 1531) (by decide +kernel)⟩
theorem lw_p60 : lw_okq (⟨"CampAshesModel", "isSign", "(I)Z"⟩, 48) := ⟨⟨by decide +kernel, by decide +kernel⟩, List.mem_of_getElem? (i := 1268) (by decide +kernel), List.mem_of_getElem? (i := 1534) (by decide +kernel), List.mem_of_getElem? (i := 1535) (by decide +kernel)⟩
theorem lw_p61 : lw_okq (⟨"CampAshesModel", "isBoy", "(I)Z"⟩, 48) := ⟨⟨by decide +kernel, by decide +kernel⟩, List.mem_of_getElem? (i := 1268) (by decide +kernel), List.mem_of_getElem? (i := 1546) (by decide +kernel), List.mem_of_getElem? (i := 1547) (by decide +kernel)⟩
theorem lw_p62 : lw_okq (⟨"CampAshesModel", "refuse", "()I"⟩, 48) := ⟨⟨by decide +kernel, by decide +kernel⟩, List.mem_of_getElem? (i := 1268) (by decide +kernel), List.mem_of_getElem? (i := 1550) (by decide +kernel), List.mem_of_getElem? (i := 1551) (by decide +kernel)⟩
theorem lw_p63 : lw_okq (⟨"CampAshesModel", "loadOf", "(I)I"⟩, 48) := ⟨⟨by decide +kernel, by decide +kernel⟩, List.mem_of_getElem? (i := 1268) (by decide +kernel), List.mem_of_getElem? (i := 1554) (by decide +kernel), List.mem_of_getElem? (i := 1555) (by decide +kernel)⟩
def lw_privs_4 : List (MethodName × Nat) := [(⟨"CampAshesModel", "readFirst", "(II)Z"⟩, 48), (⟨"CampAshesModel", "bad", "(I)Z"⟩, 48), (⟨"CampAshesModel", "readNew", "(I)Z"⟩, 48), (⟨"CampAshesModel", "isName", "()Z"⟩, 48), (⟨"CampAshesModel", "readNumber", "(II)Z"⟩, 48), (⟨"CampAshesModel", "put", "(IZ)Z"⟩, 48), (⟨"CampAshesModel", "readEvent", "()Z"⟩, 48), (⟨"CampAshesModel", "readWhose", "(I)Z"⟩, 48), (⟨"CampAshesModel", "isKind", "()Z"⟩, 48), (⟨"CampAshesModel", "readTakes", "()Z"⟩, 48), (⟨"CampAshesModel", "readOnce", "(IIII)Z"⟩, 48), (⟨"CampAshesModel", "readEnd", "()Z"⟩, 48), (⟨"CampAshesModel", "isSign", "(I)Z"⟩, 48), (⟨"CampAshesModel", "isBoy", "(I)Z"⟩, 48), (⟨"CampAshesModel", "refuse", "()I"⟩, 48), (⟨"CampAshesModel", "loadOf", "(I)I"⟩, 48)]
theorem lw_r4 : ∀ q ∈ lw_privs_4, lw_okq q := List.forall_mem_cons.mpr ⟨lw_p48, List.forall_mem_cons.mpr ⟨lw_p49, List.forall_mem_cons.mpr ⟨lw_p50, List.forall_mem_cons.mpr ⟨lw_p51, List.forall_mem_cons.mpr ⟨lw_p52, List.forall_mem_cons.mpr ⟨lw_p53, List.forall_mem_cons.mpr ⟨lw_p54, List.forall_mem_cons.mpr ⟨lw_p55, List.forall_mem_cons.mpr ⟨lw_p56, List.forall_mem_cons.mpr ⟨lw_p57, List.forall_mem_cons.mpr ⟨lw_p58, List.forall_mem_cons.mpr ⟨lw_p59, List.forall_mem_cons.mpr ⟨lw_p60, List.forall_mem_cons.mpr ⟨lw_p61, List.forall_mem_cons.mpr ⟨lw_p62, List.forall_mem_cons.mpr ⟨lw_p63, fun _ h => absurd h List.not_mem_nil⟩⟩⟩⟩⟩⟩⟩⟩⟩⟩⟩⟩⟩⟩⟩⟩
theorem lw_p64 : lw_okq (⟨"CampAshesModel", "sum", "(II)I"⟩, 48) := ⟨⟨by decide +kernel, by decide +kernel⟩, List.mem_of_getElem? (i := 1268) (by decide +kernel), List.mem_of_getElem? (i := 1558) (by decide +kernel), List.mem_of_getElem? (i := 1559) (by decide +kernel)⟩
theorem lw_p65 : lw_okq (⟨"CampAshesModel", "isOver", "(I)Z"⟩, 48) := ⟨⟨by decide +kernel, by decide +kernel⟩, List.mem_of_getElem? (i := 1268) (by decide +kernel), List.mem_of_getElem? (i := 1562) (by decide +kernel), List.mem_of_getElem? (i := 1563) (by decide +kernel)⟩
theorem lw_p66 : lw_okq (⟨"CampAshesModel", "isHushed", "(I)Z"⟩, 48) := ⟨⟨by decide +kernel, by decide +kernel⟩, List.mem_of_getElem? (i := 1268) (by decide +kernel), List.mem_of_getElem? (i := 1566) (by decide +kernel), List.mem_of_getElem? (i := 1567) (by decide +kernel)⟩
theorem lw_p67 : lw_okq (⟨"CampAshesModel", "onOf", "(II)I"⟩, 48) := ⟨⟨by decide +kernel, by decide +kernel⟩, List.mem_of_getElem? (i := 1268) (by decide +kernel), List.mem_of_getElem? (i := 1573) (by decide +kernel), List.mem_of_getElem? (i := 1574) (by decide +kernel)⟩
theorem lw_p68 : lw_okq (⟨"CampAshesModel", "isEvent", "(I)Z"⟩, 48) := ⟨⟨by decide +kernel, by decide +kernel⟩, List.mem_of_getElem? (i := 1268) (by decide +kernel), List.mem_of_getElem? (i := 1581) (by decide +kernel), List.mem_of_getElem? (i := 1582) (by decide +kernel)⟩
theorem lw_p69 : lw_okq (⟨"CampAshesModel", "isOneKind", "(I)Z"⟩, 48) := ⟨⟨by decide +kernel, by decide +kernel⟩, List.mem_of_getElem? (i := 1268) (by decide +kernel), List.mem_of_getElem? (i := 1593) (by decide +kernel), List.mem_of_getElem? (i := 1594) (by decide +kernel)⟩
theorem lw_p70 : lw_okq (⟨"CampAshesModel", "takesOf", "(II)I"⟩, 48) := ⟨⟨by decide +kernel, by decide +kernel⟩, List.mem_of_getElem? (i := 1268) (by decide +kernel), List.mem_of_getElem? (i := 1597) (by decide +kernel), List.mem_of_getElem? (i := 1598) (by decide +kernel)⟩
theorem lw_p71 : lw_okq (⟨"CampAshesModel", "isWet", "()Z"⟩, 48) := ⟨⟨by decide +kernel, by decide +kernel⟩, List.mem_of_getElem? (i := 1268) (by decide +kernel), List.mem_of_getElem? (i := 1609) (by decide +kernel), List.mem_of_getElem? (i := 1610) (by decide +kernel)⟩
theorem lw_p72 : lw_okq (⟨"CampAshesModel", "overs", "()I"⟩, 48) := ⟨⟨by decide +kernel, by decide +kernel⟩, List.mem_of_getElem? (i := 1268) (by decide +kernel), List.mem_of_getElem? (i := 1613) (by decide +kernel), List.mem_of_getElem? (i := 1614) (by decide +kernel)⟩
theorem lw_p73 : lw_okq (⟨"CampAshesModel", "act", "(IIIIIZ)I"⟩, 48) := ⟨⟨by decide +kernel, by decide +kernel⟩, List.mem_of_getElem? (i := 1268) (by decide +kernel), List.mem_of_getElem? (i := 1621) (by decide +kernel), List.mem_of_getElem? (i := 1622) (by decide +kernel)⟩
theorem lw_p74 : lw_okq (⟨"CampAshesModel", "why", "(IIIII)I"⟩, 48) := ⟨⟨by decide +kernel, by decide +kernel⟩, List.mem_of_getElem? (i := 1268) (by decide +kernel), List.mem_of_getElem? (i := 1625) (by decide +kernel), List.mem_of_getElem? (i := 1626) (by decide +kernel)⟩
theorem lw_p75 : lw_okq (⟨"CampAshesModel", "whySay", "(II)I"⟩, 48) := ⟨⟨by decide +kernel, by decide +kernel⟩, List.mem_of_getElem? (i := 1268) (by decide +kernel), List.mem_of_getElem? (i := 1629) (by decide +kernel), List.mem_of_getElem? (i := 1630) (by decide +kernel)⟩
theorem lw_p76 : lw_okq (⟨"CampAshesModel", "snap", "()V"⟩, 48) := ⟨⟨by decide +kernel, by decide +kernel⟩, List.mem_of_getElem? (i := 1268) (by decide +kernel), List.mem_of_getElem? (i := 1633) (by decide +kernel), List.mem_of_getElem? (i := 1634) (by decide +kernel)⟩
theorem lw_p77 : lw_okq (⟨"CampAshesModel", "live", "(IIIII)V"⟩, 48) := ⟨⟨by decide +kernel, by decide +kernel⟩, List.mem_of_getElem? (i := 1268) (by decide +kernel), List.mem_of_getElem? (i := 1637) (by decide +kernel), List.mem_of_getElem? (i := 1638) (by decide +kernel)⟩
theorem lw_p78 : lw_okq (⟨"CampAshesModel", "doTell", "(II)V"⟩, 48) := ⟨⟨by decide +kernel, by decide +kernel⟩, List.mem_of_getElem? (i := 1268) (by decide +kernel), List.mem_of_getElem? (i := 1641) (by decide +kernel), List.mem_of_getElem? (i := 1642) (by decide +kernel)⟩
theorem lw_p79 : lw_okq (⟨"CampAshesModel", "speaks", "(I)V"⟩, 48) := ⟨⟨by decide +kernel, by decide +kernel⟩, List.mem_of_getElem? (i := 1268) (by decide +kernel), List.mem_of_getElem? (i := 1648) (by decide +kernel), List.mem_of_getElem? (i := 1649) (by decide +kernel)⟩
def lw_privs_5 : List (MethodName × Nat) := [(⟨"CampAshesModel", "sum", "(II)I"⟩, 48), (⟨"CampAshesModel", "isOver", "(I)Z"⟩, 48), (⟨"CampAshesModel", "isHushed", "(I)Z"⟩, 48), (⟨"CampAshesModel", "onOf", "(II)I"⟩, 48), (⟨"CampAshesModel", "isEvent", "(I)Z"⟩, 48), (⟨"CampAshesModel", "isOneKind", "(I)Z"⟩, 48), (⟨"CampAshesModel", "takesOf", "(II)I"⟩, 48), (⟨"CampAshesModel", "isWet", "()Z"⟩, 48), (⟨"CampAshesModel", "overs", "()I"⟩, 48), (⟨"CampAshesModel", "act", "(IIIIIZ)I"⟩, 48), (⟨"CampAshesModel", "why", "(IIIII)I"⟩, 48), (⟨"CampAshesModel", "whySay", "(II)I"⟩, 48), (⟨"CampAshesModel", "snap", "()V"⟩, 48), (⟨"CampAshesModel", "live", "(IIIII)V"⟩, 48), (⟨"CampAshesModel", "doTell", "(II)V"⟩, 48), (⟨"CampAshesModel", "speaks", "(I)V"⟩, 48)]
theorem lw_r5 : ∀ q ∈ lw_privs_5, lw_okq q := List.forall_mem_cons.mpr ⟨lw_p64, List.forall_mem_cons.mpr ⟨lw_p65, List.forall_mem_cons.mpr ⟨lw_p66, List.forall_mem_cons.mpr ⟨lw_p67, List.forall_mem_cons.mpr ⟨lw_p68, List.forall_mem_cons.mpr ⟨lw_p69, List.forall_mem_cons.mpr ⟨lw_p70, List.forall_mem_cons.mpr ⟨lw_p71, List.forall_mem_cons.mpr ⟨lw_p72, List.forall_mem_cons.mpr ⟨lw_p73, List.forall_mem_cons.mpr ⟨lw_p74, List.forall_mem_cons.mpr ⟨lw_p75, List.forall_mem_cons.mpr ⟨lw_p76, List.forall_mem_cons.mpr ⟨lw_p77, List.forall_mem_cons.mpr ⟨lw_p78, List.forall_mem_cons.mpr ⟨lw_p79, fun _ h => absurd h List.not_mem_nil⟩⟩⟩⟩⟩⟩⟩⟩⟩⟩⟩⟩⟩⟩⟩⟩
theorem lw_p80 : lw_okq (⟨"CampAshesModel", "passDays", "(I)I"⟩, 48) := ⟨⟨by decide +kernel, by decide +kernel⟩, List.mem_of_getElem? (i := 1268) (by decide +kernel), List.mem_of_getElem? (i := 1676) (by decide +kernel), List.mem_of_getElem? (i := 1677) (by decide +kernel)⟩
theorem lw_p81 : lw_okq (⟨"CampAshesModel", "oneDay", "()V"⟩, 48) := ⟨⟨by decide +kernel, by decide +kernel⟩, List.mem_of_getElem? (i := 1268) (by decide +kernel), List.mem_of_getElem? (i := 1680) (by decide +kernel), List.mem_of_getElem? (i := 1681) (by decide +kernel)⟩
theorem lw_p82 : lw_okq (⟨"CampAshesModel", "tellers", "()I"⟩, 48) := ⟨⟨by decide +kernel, by decide +kernel⟩, List.mem_of_getElem? (i := 1268) (by decide +kernel), List.mem_of_getElem? (i := 1688) (by decide +kernel), List.mem_of_getElem? (i := 1689) (by decide +kernel)⟩
theorem lw_p83 : lw_okq (⟨"CampAshesModel", "mostOf", "(I)I"⟩, 48) := ⟨⟨by decide +kernel, by decide +kernel⟩, List.mem_of_getElem? (i := 1268) (by decide +kernel), List.mem_of_getElem? (i := 1692) (by decide +kernel), List.mem_of_getElem? (i := 1693) (by decide +kernel)⟩
theorem lw_p84 : lw_okq (⟨"CampAshesModel", "layMore", "(I)V"⟩, 48) := ⟨⟨by decide +kernel, by decide +kernel⟩, List.mem_of_getElem? (i := 1268) (by decide +kernel), List.mem_of_getElem? (i := 1696) (by decide +kernel), List.mem_of_getElem? (i := 1697) (by decide +kernel)⟩
theorem lw_p85 : lw_okq (⟨"CampAshesModel", "moreBy", "(II)I"⟩, 48) := ⟨⟨by decide +kernel, by decide +kernel⟩, List.mem_of_getElem? (i := 1268) (by decide +kernel), List.mem_of_getElem? (i := 1700) (by decide +kernel), List.mem_of_getElem? (i := 1701) (by decide +kernel)⟩
theorem lw_p86 : lw_okq (⟨"CampAshesModel", "takenBy", "(II)I"⟩, 48) := ⟨⟨by decide +kernel, by decide +kernel⟩, List.mem_of_getElem? (i := 1268) (by decide +kernel), List.mem_of_getElem? (i := 1704) (by decide +kernel), List.mem_of_getElem? (i := 1705) (by decide +kernel)⟩
theorem lw_p87 : lw_okq (⟨"CampAshesModel", "leftBy", "(II)I"⟩, 48) := ⟨⟨by decide +kernel, by decide +kernel⟩, List.mem_of_getElem? (i := 1268) (by decide +kernel), List.mem_of_getElem? (i := 1746) (by decide +kernel), List.mem_of_getElem? (i := 1747) (by decide +kernel)⟩
theorem lw_p88 : lw_okq (⟨"CampAshesModel", "layAside", "()V"⟩, 48) := ⟨⟨by decide +kernel, by decide +kernel⟩, List.mem_of_getElem? (i := 1268) (by decide +kernel), List.mem_of_getElem? (i := 1758) (by decide +kernel), List.mem_of_getElem? (i := 1759) (by decide +kernel)⟩
theorem lw_p89 : lw_okq (⟨"CampAshesModel", "takeBack", "()V"⟩, 48) := ⟨⟨by decide +kernel, by decide +kernel⟩, List.mem_of_getElem? (i := 1268) (by decide +kernel), List.mem_of_getElem? (i := 1762) (by decide +kernel), List.mem_of_getElem? (i := 1763) (by decide +kernel)⟩
theorem lw_p90 : lw_okq (⟨"CampAshesModel", "writeWord", "(J)V"⟩, 48) := ⟨⟨by decide +kernel, by decide +kernel⟩, List.mem_of_getElem? (i := 1268) (by decide +kernel), List.mem_of_getElem? (i := 1770) (by decide +kernel), List.mem_of_getElem? (i := 1771) (by decide +kernel)⟩
theorem lw_p91 : lw_okq (⟨"CampAshesModel", "write", "(I)V"⟩, 48) := ⟨⟨by decide +kernel, by decide +kernel⟩, List.mem_of_getElem? (i := 1268) (by decide +kernel), List.mem_of_getElem? (i := 1774) (by decide +kernel), List.mem_of_getElem? (i := 1775) (by decide +kernel)⟩
theorem lw_p92 : lw_okq (⟨"CampAshesModel", "writeNext", "(J)V"⟩, 48) := ⟨⟨by decide +kernel, by decide +kernel⟩, List.mem_of_getElem? (i := 1268) (by decide +kernel), List.mem_of_getElem? (i := 1778) (by decide +kernel), List.mem_of_getElem? (i := 1779) (by decide +kernel)⟩
theorem lw_p93 : lw_okq (⟨"CampAshesModel", "writeNumber", "(I)V"⟩, 48) := ⟨⟨by decide +kernel, by decide +kernel⟩, List.mem_of_getElem? (i := 1268) (by decide +kernel), List.mem_of_getElem? (i := 1782) (by decide +kernel), List.mem_of_getElem? (i := 1783) (by decide +kernel)⟩
theorem lw_p94 : lw_okq (⟨"CampAshesModel", "drawDays", "(II)I"⟩, 48) := ⟨⟨by decide +kernel, by decide +kernel⟩, List.mem_of_getElem? (i := 1268) (by decide +kernel), List.mem_of_getElem? (i := 1794) (by decide +kernel), List.mem_of_getElem? (i := 1795) (by decide +kernel)⟩
theorem lw_p95 : lw_okq (⟨"CampAshesModel", "draw", "(I)I"⟩, 48) := ⟨⟨by decide +kernel, by decide +kernel⟩, List.mem_of_getElem? (i := 1268) (by decide +kernel), List.mem_of_getElem? (i := 1798) (by decide +kernel), List.mem_of_getElem? (i := 1799) (by decide +kernel)⟩
def lw_privs_6 : List (MethodName × Nat) := [(⟨"CampAshesModel", "passDays", "(I)I"⟩, 48), (⟨"CampAshesModel", "oneDay", "()V"⟩, 48), (⟨"CampAshesModel", "tellers", "()I"⟩, 48), (⟨"CampAshesModel", "mostOf", "(I)I"⟩, 48), (⟨"CampAshesModel", "layMore", "(I)V"⟩, 48), (⟨"CampAshesModel", "moreBy", "(II)I"⟩, 48), (⟨"CampAshesModel", "takenBy", "(II)I"⟩, 48), (⟨"CampAshesModel", "leftBy", "(II)I"⟩, 48), (⟨"CampAshesModel", "layAside", "()V"⟩, 48), (⟨"CampAshesModel", "takeBack", "()V"⟩, 48), (⟨"CampAshesModel", "writeWord", "(J)V"⟩, 48), (⟨"CampAshesModel", "write", "(I)V"⟩, 48), (⟨"CampAshesModel", "writeNext", "(J)V"⟩, 48), (⟨"CampAshesModel", "writeNumber", "(I)V"⟩, 48), (⟨"CampAshesModel", "drawDays", "(II)I"⟩, 48), (⟨"CampAshesModel", "draw", "(I)I"⟩, 48)]
theorem lw_r6 : ∀ q ∈ lw_privs_6, lw_okq q := List.forall_mem_cons.mpr ⟨lw_p80, List.forall_mem_cons.mpr ⟨lw_p81, List.forall_mem_cons.mpr ⟨lw_p82, List.forall_mem_cons.mpr ⟨lw_p83, List.forall_mem_cons.mpr ⟨lw_p84, List.forall_mem_cons.mpr ⟨lw_p85, List.forall_mem_cons.mpr ⟨lw_p86, List.forall_mem_cons.mpr ⟨lw_p87, List.forall_mem_cons.mpr ⟨lw_p88, List.forall_mem_cons.mpr ⟨lw_p89, List.forall_mem_cons.mpr ⟨lw_p90, List.forall_mem_cons.mpr ⟨lw_p91, List.forall_mem_cons.mpr ⟨lw_p92, List.forall_mem_cons.mpr ⟨lw_p93, List.forall_mem_cons.mpr ⟨lw_p94, List.forall_mem_cons.mpr ⟨lw_p95, fun _ h => absurd h List.not_mem_nil⟩⟩⟩⟩⟩⟩⟩⟩⟩⟩⟩⟩⟩⟩⟩⟩
theorem lw_p96 : lw_okq (⟨"CampAshesModel", "drawsFor", "(I)V"⟩, 48) := ⟨⟨by decide +kernel, by decide +kernel⟩, List.mem_of_getElem? (i := 1268) (by decide +kernel), List.mem_of_getElem? (i := 1803) (by decide +kernel), List.mem_of_getElem? (i := 1804) (by decide +kernel)⟩
theorem lw_p97 : lw_okq (⟨"CampAshesModel", "readBookLine", "()Z"⟩, 48) := ⟨⟨by decide +kernel, by decide +kernel⟩, List.mem_of_getElem? (i := 1268) (by decide +kernel), List.mem_of_getElem? (i := 1815) (by decide +kernel), List.mem_of_getElem? (i := 1816) (by decide +kernel)⟩
theorem lw_p98 : lw_okq (⟨"CampAshesModel", "readDoes", "(I)Z"⟩, 48) := ⟨⟨by decide +kernel, by decide +kernel⟩, List.mem_of_getElem? (i := 1268) (by decide +kernel), List.mem_of_getElem? (i := 1819) (by decide +kernel), List.mem_of_getElem? (i := 1820) (by decide +kernel)⟩
theorem lw_p99 : lw_okq (⟨"CampAshesModel", "readNamed", "(II)Z"⟩, 48) := ⟨⟨by decide +kernel, by decide +kernel⟩, List.mem_of_getElem? (i := 1268) (by decide +kernel), List.mem_of_getElem? (i := 1823) (by decide +kernel), List.mem_of_getElem? (i := 1824) (by decide +kernel)⟩
theorem lw_p100 : lw_okq (⟨"CampAshesModel", "keep", "(IZ)Z"⟩, 48) := ⟨⟨by decide +kernel, by decide +kernel⟩, List.mem_of_getElem? (i := 1268) (by decide +kernel), List.mem_of_getElem? (i := 1827) (by decide +kernel), List.mem_of_getElem? (i := 1828) (by decide +kernel)⟩
theorem lw_p101 : lw_okq (⟨"CampAshesModel", "goBy", "(I)I"⟩, 48) := ⟨⟨by decide +kernel, by decide +kernel⟩, List.mem_of_getElem? (i := 1268) (by decide +kernel), List.mem_of_getElem? (i := 1831) (by decide +kernel), List.mem_of_getElem? (i := 1832) (by decide +kernel)⟩
theorem lw_p102 : lw_okq (⟨"CampAshesModel", "stay", "(Z)V"⟩, 48) := ⟨⟨by decide +kernel, by decide +kernel⟩, List.mem_of_getElem? (i := 1268) (by decide +kernel), List.mem_of_getElem? (i := 1835) (by decide +kernel), List.mem_of_getElem? (i := 1836) (by decide +kernel)⟩
theorem lw_p103 : lw_okq (⟨"CampAshesModel", "readOr", "()Z"⟩, 48) := ⟨⟨by decide +kernel, by decide +kernel⟩, List.mem_of_getElem? (i := 1268) (by decide +kernel), List.mem_of_getElem? (i := 1847) (by decide +kernel), List.mem_of_getElem? (i := 1848) (by decide +kernel)⟩
theorem lw_p104 : lw_okq (⟨"CampAshesModel", "readAnd", "()Z"⟩, 48) := ⟨⟨by decide +kernel, by decide +kernel⟩, List.mem_of_getElem? (i := 1268) (by decide +kernel), List.mem_of_getElem? (i := 1851) (by decide +kernel), List.mem_of_getElem? (i := 1852) (by decide +kernel)⟩
theorem lw_p105 : lw_okq (⟨"CampAshesModel", "readSaid", "()Z"⟩, 48) := ⟨⟨by decide +kernel, by decide +kernel⟩, List.mem_of_getElem? (i := 1268) (by decide +kernel), List.mem_of_getElem? (i := 1855) (by decide +kernel), List.mem_of_getElem? (i := 1856) (by decide +kernel)⟩
theorem lw_p106 : lw_okq (⟨"CampAshesModel", "readBracket", "()Z"⟩, 48) := ⟨⟨by decide +kernel, by decide +kernel⟩, List.mem_of_getElem? (i := 1268) (by decide +kernel), List.mem_of_getElem? (i := 1859) (by decide +kernel), List.mem_of_getElem? (i := 1860) (by decide +kernel)⟩
theorem lw_p107 : lw_okq (⟨"CampAshesModel", "readNot", "()Z"⟩, 48) := ⟨⟨by decide +kernel, by decide +kernel⟩, List.mem_of_getElem? (i := 1268) (by decide +kernel), List.mem_of_getElem? (i := 1863) (by decide +kernel), List.mem_of_getElem? (i := 1864) (by decide +kernel)⟩
theorem lw_p108 : lw_okq (⟨"CampAshesModel", "saysOne", "(IIII)I"⟩, 48) := ⟨⟨by decide +kernel, by decide +kernel⟩, List.mem_of_getElem? (i := 1268) (by decide +kernel), List.mem_of_getElem? (i := 1867) (by decide +kernel), List.mem_of_getElem? (i := 1868) (by decide +kernel)⟩
theorem lw_p109 : lw_okq (⟨"CampAshesModel", "readOf", "(I)Z"⟩, 48) := ⟨⟨by decide +kernel, by decide +kernel⟩, List.mem_of_getElem? (i := 1268) (by decide +kernel), List.mem_of_getElem? (i := 1871) (by decide +kernel), List.mem_of_getElem? (i := 1872) (by decide +kernel)⟩
theorem lw_p110 : lw_okq (⟨"CampAshesModel", "readEventName", "()Z"⟩, 48) := ⟨⟨by decide +kernel, by decide +kernel⟩, List.mem_of_getElem? (i := 1268) (by decide +kernel), List.mem_of_getElem? (i := 1875) (by decide +kernel), List.mem_of_getElem? (i := 1876) (by decide +kernel)⟩
theorem lw_p111 : lw_okq (⟨"CampAshesModel", "readCompare", "(I)Z"⟩, 48) := ⟨⟨by decide +kernel, by decide +kernel⟩, List.mem_of_getElem? (i := 1268) (by decide +kernel), List.mem_of_getElem? (i := 1879) (by decide +kernel), List.mem_of_getElem? (i := 1880) (by decide +kernel)⟩
def lw_privs_7 : List (MethodName × Nat) := [(⟨"CampAshesModel", "drawsFor", "(I)V"⟩, 48), (⟨"CampAshesModel", "readBookLine", "()Z"⟩, 48), (⟨"CampAshesModel", "readDoes", "(I)Z"⟩, 48), (⟨"CampAshesModel", "readNamed", "(II)Z"⟩, 48), (⟨"CampAshesModel", "keep", "(IZ)Z"⟩, 48), (⟨"CampAshesModel", "goBy", "(I)I"⟩, 48), (⟨"CampAshesModel", "stay", "(Z)V"⟩, 48), (⟨"CampAshesModel", "readOr", "()Z"⟩, 48), (⟨"CampAshesModel", "readAnd", "()Z"⟩, 48), (⟨"CampAshesModel", "readSaid", "()Z"⟩, 48), (⟨"CampAshesModel", "readBracket", "()Z"⟩, 48), (⟨"CampAshesModel", "readNot", "()Z"⟩, 48), (⟨"CampAshesModel", "saysOne", "(IIII)I"⟩, 48), (⟨"CampAshesModel", "readOf", "(I)Z"⟩, 48), (⟨"CampAshesModel", "readEventName", "()Z"⟩, 48), (⟨"CampAshesModel", "readCompare", "(I)Z"⟩, 48)]
theorem lw_r7 : ∀ q ∈ lw_privs_7, lw_okq q := List.forall_mem_cons.mpr ⟨lw_p96, List.forall_mem_cons.mpr ⟨lw_p97, List.forall_mem_cons.mpr ⟨lw_p98, List.forall_mem_cons.mpr ⟨lw_p99, List.forall_mem_cons.mpr ⟨lw_p100, List.forall_mem_cons.mpr ⟨lw_p101, List.forall_mem_cons.mpr ⟨lw_p102, List.forall_mem_cons.mpr ⟨lw_p103, List.forall_mem_cons.mpr ⟨lw_p104, List.forall_mem_cons.mpr ⟨lw_p105, List.forall_mem_cons.mpr ⟨lw_p106, List.forall_mem_cons.mpr ⟨lw_p107, List.forall_mem_cons.mpr ⟨lw_p108, List.forall_mem_cons.mpr ⟨lw_p109, List.forall_mem_cons.mpr ⟨lw_p110, List.forall_mem_cons.mpr ⟨lw_p111, fun _ h => absurd h List.not_mem_nil⟩⟩⟩⟩⟩⟩⟩⟩⟩⟩⟩⟩⟩⟩⟩⟩
theorem lw_p112 : lw_okq (⟨"CampAshesModel", "holds", "(II)Z"⟩, 48) := ⟨⟨by decide +kernel, by decide +kernel⟩, List.mem_of_getElem? (i := 1268) (by decide +kernel), List.mem_of_getElem? (i := 1887) (by decide +kernel), List.mem_of_getElem? (i := 1888) (by decide +kernel)⟩
def lw_privs_8 : List (MethodName × Nat) := [(⟨"CampAshesModel", "holds", "(II)Z"⟩, 48)]
theorem lw_r8 : ∀ q ∈ lw_privs_8, lw_okq q := List.forall_mem_cons.mpr ⟨lw_p112, fun _ h => absurd h List.not_mem_nil⟩
def lw_privs : List (MethodName × Nat) := lw_privs_1 ++ (lw_privs_2 ++ (lw_privs_3 ++ (lw_privs_4 ++ (lw_privs_5 ++ (lw_privs_6 ++ (lw_privs_7 ++ (lw_privs_8)))))))
def lw_tbl : List Cond := k2_sels lw_privs ++ tables_1
theorem lw_privs_ok : ∀ q ∈ lw_privs, lw_okq q := by
  show ∀ q ∈ lw_privs_1 ++ (lw_privs_2 ++ (lw_privs_3 ++ (lw_privs_4 ++ (lw_privs_5 ++ (lw_privs_6 ++ (lw_privs_7 ++ (lw_privs_8))))))), lw_okq q
  exact List.forall_mem_append.mpr ⟨lw_r1, List.forall_mem_append.mpr ⟨lw_r2, List.forall_mem_append.mpr ⟨lw_r3, List.forall_mem_append.mpr ⟨lw_r4, List.forall_mem_append.mpr ⟨lw_r5, List.forall_mem_append.mpr ⟨lw_r6, List.forall_mem_append.mpr ⟨lw_r7, lw_r8⟩⟩⟩⟩⟩⟩⟩
-- ===== end of PART A; then your names; then what follows =====
end
section
def RX0 : String := "CampAshes$Advice"
def TX0 : u_T := fun k => match k with
  | 0 => ("CampAshes$Advice", "row", "[I", true)
  | 1 => ("CampAshes$Advice", "rowLength", "I", false)
  | 2 => ("CampAshes$Advice", "gets", "[I", true)
  | 3 => ("CampAshes$Advice", "getters", "I", false)
  | 4 => ("CampAshes$Advice", "sayingBits", "I", false)
  | 5 => ("CampAshes$Advice", "heaviest", "[I", true)
  | _ => ("CampAshes$Advice", "bySet", "[I", true)
def tyX0 : Nat → FieldType := fun k => match k with
  | 0 => .array .int
  | 1 => .int
  | 2 => .array .int
  | 3 => .int
  | 4 => .int
  | 5 => .array .int
  | _ => .array .int
theorem nmX0 : ∀ a, a < 7 → ∀ b, b < 7 → a ≠ b → (TX0 a).2.1 ≠ (TX0 b).2.1 := by decide +kernel
theorem tyX0_ok : ∀ k, k < 7 → parseFieldDescriptor (TX0 k).2.2.1 = some (tyX0 k) := by decide +kernel
abbrev cX0_init : ByteArray := prog_2_method_1_code
def yX0_init : MethodName := ⟨RX0, "<init>", "()V"⟩
abbrev cX0_findBest : ByteArray := prog_2_method_2_code
def yX0_findBest : MethodName := ⟨RX0, "findBest", "(LCampAshes$Camp;LCampAshes$State;)I"⟩
abbrev cX0_findTellers : ByteArray := prog_2_method_3_code
def yX0_findTellers : MethodName := ⟨RX0, "findTellers", "(LCampAshes$Camp;LCampAshes$State;)I"⟩
abbrev cX0_takenBy : ByteArray := prog_2_method_4_code
def yX0_takenBy : MethodName := ⟨RX0, "takenBy", "(LCampAshes$Camp;LCampAshes$State;II)I"⟩
abbrev cX0_layRow : ByteArray := prog_2_method_5_code
def yX0_layRow : MethodName := ⟨RX0, "layRow", "(LCampAshes$Camp;LCampAshes$State;I)V"⟩
abbrev cX0_findSpread : ByteArray := prog_2_method_6_code
def yX0_findSpread : MethodName := ⟨RX0, "findSpread", "(LCampAshes$Camp;LCampAshes$State;)I"⟩
abbrev cX0_findSaying : ByteArray := prog_2_method_7_code
def yX0_findSaying : MethodName := ⟨RX0, "findSaying", "(LCampAshes$Camp;LCampAshes$State;II)I"⟩
abbrev cX0_weightOf : ByteArray := prog_2_method_8_code
def yX0_weightOf : MethodName := ⟨RX0, "weightOf", "(LCampAshes$Camp;LCampAshes$State;II)I"⟩
abbrev cX0_countTents : ByteArray := prog_2_method_9_code
def yX0_countTents : MethodName := ⟨RX0, "countTents", "(LCampAshes$Camp;LCampAshes$State;I)I"⟩
abbrev cX0_withOneMore : ByteArray := prog_2_method_10_code
def yX0_withOneMore : MethodName := ⟨RX0, "withOneMore", "(III)I"⟩
def RX1 : String := "CampAshes$Book"
def TX1 : u_T := fun k => match k with
  | 0 => ("CampAshes$Book", "acts", "[I", true)
  | 1 => ("CampAshes$Book", "doers", "[I", true)
  | 2 => ("CampAshes$Book", "events", "[I", true)
  | 3 => ("CampAshes$Book", "others", "[I", true)
  | 4 => ("CampAshes$Book", "numbers", "[I", true)
  | 5 => ("CampAshes$Book", "lineCount", "I", false)
  | 6 => ("CampAshes$Book", "judged", "Z", false)
  | 7 => ("CampAshes$Book", "why", "I", false)
  | 8 => ("CampAshes$Book", "linesDone", "I", false)
  | 9 => ("CampAshes$Book", "dayThen", "I", false)
  | _ => ("CampAshes$Book", "overThen", "I", false)
def tyX1 : Nat → FieldType := fun k => match k with
  | 0 => .array .int
  | 1 => .array .int
  | 2 => .array .int
  | 3 => .array .int
  | 4 => .array .int
  | 5 => .int
  | 6 => .boolean
  | 7 => .int
  | 8 => .int
  | 9 => .int
  | _ => .int
theorem nmX1 : ∀ a, a < 11 → ∀ b, b < 11 → a ≠ b → (TX1 a).2.1 ≠ (TX1 b).2.1 := by decide +kernel
theorem tyX1_ok : ∀ k, k < 11 → parseFieldDescriptor (TX1 k).2.2.1 = some (tyX1 k) := by decide +kernel
abbrev cX1_init : ByteArray := prog_3_method_1_code
def yX1_init : MethodName := ⟨RX1, "<init>", "()V"⟩
abbrev cX1_readText : ByteArray := prog_3_method_2_code
def yX1_readText : MethodName := ⟨RX1, "readText", "(LCampAshes$Tape;LCampAshes$Camp;)Z"⟩
abbrev cX1_readLine : ByteArray := prog_3_method_3_code
def yX1_readLine : MethodName := ⟨RX1, "readLine", "(LCampAshes$Tape;LCampAshes$Camp;)Z"⟩
abbrev cX1_readPlain : ByteArray := prog_3_method_4_code
def yX1_readPlain : MethodName := ⟨RX1, "readPlain", "(LCampAshes$Tape;)Z"⟩
abbrev cX1_readDeed : ByteArray := prog_3_method_5_code
def yX1_readDeed : MethodName := ⟨RX1, "readDeed", "(LCampAshes$Tape;LCampAshes$Camp;)Z"⟩
abbrev cX1_readGift : ByteArray := prog_3_method_6_code
def yX1_readGift : MethodName := ⟨RX1, "readGift", "(LCampAshes$Tape;LCampAshes$Camp;)Z"⟩
abbrev cX1_judge : ByteArray := prog_3_method_7_code
def yX1_judge : MethodName := ⟨RX1, "judge", "(LCampAshes$State;)I"⟩
abbrev cX1_liveLine : ByteArray := prog_3_method_8_code
def yX1_liveLine : MethodName := ⟨RX1, "liveLine", "(LCampAshes$State;I)I"⟩
abbrev cX1_liveDays : ByteArray := prog_3_method_9_code
def yX1_liveDays : MethodName := ⟨RX1, "liveDays", "(LCampAshes$State;I)I"⟩
def RX2 : String := "CampAshes$Camp"
def TX2 : u_T := fun k => match k with
  | 0 => ("CampAshes$Camp", "boyCount", "I", false)
  | 1 => ("CampAshes$Camp", "eventCount", "I", false)
  | 2 => ("CampAshes$Camp", "names", "[J", true)
  | 3 => ("CampAshes$Camp", "bears", "[I", true)
  | 4 => ("CampAshes$Camp", "owners", "[I", true)
  | 5 => ("CampAshes$Camp", "kinds", "[I", true)
  | 6 => ("CampAshes$Camp", "weights", "[I", true)
  | 7 => ("CampAshes$Camp", "taken", "[I", true)
  | 8 => ("CampAshes$Camp", "fire", "I", false)
  | 9 => ("CampAshes$Camp", "logCount", "I", false)
  | 10 => ("CampAshes$Camp", "turf", "I", false)
  | 11 => ("CampAshes$Camp", "wet", "I", false)
  | 12 => ("CampAshes$Camp", "takesTold", "I", false)
  | _ => ("CampAshes$Camp", "onceTold", "I", false)
def tyX2 : Nat → FieldType := fun k => match k with
  | 0 => .int
  | 1 => .int
  | 2 => .array .long
  | 3 => .array .int
  | 4 => .array .int
  | 5 => .array .int
  | 6 => .array .int
  | 7 => .array .int
  | 8 => .int
  | 9 => .int
  | 10 => .int
  | 11 => .int
  | 12 => .int
  | _ => .int
theorem nmX2 : ∀ a, a < 14 → ∀ b, b < 14 → a ≠ b → (TX2 a).2.1 ≠ (TX2 b).2.1 := by decide +kernel
theorem tyX2_ok : ∀ k, k < 14 → parseFieldDescriptor (TX2 k).2.2.1 = some (tyX2 k) := by decide +kernel
abbrev cX2_init : ByteArray := prog_4_method_1_code
def yX2_init : MethodName := ⟨RX2, "<init>", "()V"⟩
abbrev cX2_clear : ByteArray := prog_4_method_2_code
def yX2_clear : MethodName := ⟨RX2, "clear", "()V"⟩
abbrev cX2_copyFrom : ByteArray := prog_4_method_3_code
def yX2_copyFrom : MethodName := ⟨RX2, "copyFrom", "(LCampAshes$Camp;)V"⟩
abbrev cX2_hasBoy : ByteArray := prog_4_method_4_code
def yX2_hasBoy : MethodName := ⟨RX2, "hasBoy", "(I)Z"⟩
abbrev cX2_hasEvent : ByteArray := prog_4_method_5_code
def yX2_hasEvent : MethodName := ⟨RX2, "hasEvent", "(I)Z"⟩
abbrev cX2_boyNamed : ByteArray := prog_4_method_6_code
def yX2_boyNamed : MethodName := ⟨RX2, "boyNamed", "(J)I"⟩
abbrev cX2_eventNamed : ByteArray := prog_4_method_7_code
def yX2_eventNamed : MethodName := ⟨RX2, "eventNamed", "(J)I"⟩
abbrev cX2_readText : ByteArray := prog_4_method_8_code
def yX2_readText : MethodName := ⟨RX2, "readText", "(LCampAshes$Tape;)I"⟩
abbrev cX2_readLine : ByteArray := prog_4_method_9_code
def yX2_readLine : MethodName := ⟨RX2, "readLine", "(LCampAshes$Tape;)Z"⟩
abbrev cX2_readBoy : ByteArray := prog_4_method_10_code
def yX2_readBoy : MethodName := ⟨RX2, "readBoy", "(LCampAshes$Tape;)Z"⟩
abbrev cX2_readEvent : ByteArray := prog_4_method_11_code
def yX2_readEvent : MethodName := ⟨RX2, "readEvent", "(LCampAshes$Tape;)Z"⟩
abbrev cX2_readTakes : ByteArray := prog_4_method_12_code
def yX2_readTakes : MethodName := ⟨RX2, "readTakes", "(LCampAshes$Tape;)Z"⟩
abbrev cX2_readOnce : ByteArray := prog_4_method_13_code
def yX2_readOnce : MethodName := ⟨RX2, "readOnce", "(LCampAshes$Tape;)Z"⟩
abbrev cX2_readOnceNumber : ByteArray := prog_4_method_14_code
def yX2_readOnceNumber : MethodName := ⟨RX2, "readOnceNumber", "(LCampAshes$Tape;III)I"⟩
abbrev cX2_isNewName : ByteArray := prog_4_method_15_code
def yX2_isNewName : MethodName := ⟨RX2, "isNewName", "(LCampAshes$Tape;)Z"⟩
abbrev cX2_isKind : ByteArray := prog_4_method_16_code
def yX2_isKind : MethodName := ⟨RX2, "isKind", "(LCampAshes$Tape;)Z"⟩
def RX3 : String := "CampAshes$Draws"
def TX3 : u_T := fun k => match k with
  | _ => ("CampAshes$Draws", "x", "I", false)
def tyX3 : Nat → FieldType := fun k => match k with
  | _ => .int
theorem nmX3 : ∀ a, a < 1 → ∀ b, b < 1 → a ≠ b → (TX3 a).2.1 ≠ (TX3 b).2.1 := by decide +kernel
theorem tyX3_ok : ∀ k, k < 1 → parseFieldDescriptor (TX3 k).2.2.1 = some (tyX3 k) := by decide +kernel
abbrev cX3_init : ByteArray := prog_5_method_1_code
def yX3_init : MethodName := ⟨RX3, "<init>", "()V"⟩
abbrev cX3_start : ByteArray := prog_5_method_2_code
def yX3_start : MethodName := ⟨RX3, "start", "(I)V"⟩
abbrev cX3_draw : ByteArray := prog_5_method_3_code
def yX3_draw : MethodName := ⟨RX3, "draw", "(I)I"⟩
def RX4 : String := "CampAshes$History"
def TX4 : u_T := fun k => match k with
  | 0 => ("CampAshes$History", "ring", "[LCampAshes$State;", true)
  | 1 => ("CampAshes$History", "kept", "I", false)
  | _ => ("CampAshes$History", "next", "I", false)
def tyX4 : Nat → FieldType := fun k => match k with
  | 0 => .array (.object "CampAshes$State")
  | 1 => .int
  | _ => .int
theorem nmX4 : ∀ a, a < 3 → ∀ b, b < 3 → a ≠ b → (TX4 a).2.1 ≠ (TX4 b).2.1 := by decide +kernel
theorem tyX4_ok : ∀ k, k < 3 → parseFieldDescriptor (TX4 k).2.2.1 = some (tyX4 k) := by decide +kernel
abbrev cX4_init : ByteArray := prog_6_method_1_code
def yX4_init : MethodName := ⟨RX4, "<init>", "(LCampAshes$Camp;)V"⟩
abbrev cX4_clear : ByteArray := prog_6_method_2_code
def yX4_clear : MethodName := ⟨RX4, "clear", "()V"⟩
abbrev cX4_keep : ByteArray := prog_6_method_3_code
def yX4_keep : MethodName := ⟨RX4, "keep", "(LCampAshes$State;)V"⟩
abbrev cX4_takeBack : ByteArray := prog_6_method_4_code
def yX4_takeBack : MethodName := ⟨RX4, "takeBack", "(LCampAshes$State;)I"⟩
def RX5 : String := "CampAshes$Image"
def TX5 : u_T := fun k => match k with
  | 0 => ("CampAshes$Image", "camp", "LCampAshes$Camp;", true)
  | 1 => ("CampAshes$Image", "state", "LCampAshes$State;", true)
  | 2 => ("CampAshes$Image", "sentence", "LCampAshes$Sentence;", true)
  | _ => ("CampAshes$Image", "kept", "Z", false)
def tyX5 : Nat → FieldType := fun k => match k with
  | 0 => .object "CampAshes$Camp"
  | 1 => .object "CampAshes$State"
  | 2 => .object "CampAshes$Sentence"
  | _ => .boolean
theorem nmX5 : ∀ a, a < 4 → ∀ b, b < 4 → a ≠ b → (TX5 a).2.1 ≠ (TX5 b).2.1 := by decide +kernel
theorem tyX5_ok : ∀ k, k < 4 → parseFieldDescriptor (TX5 k).2.2.1 = some (tyX5 k) := by decide +kernel
abbrev cX5_init : ByteArray := prog_7_method_1_code
def yX5_init : MethodName := ⟨RX5, "<init>", "()V"⟩
abbrev cX5_keep : ByteArray := prog_7_method_2_code
def yX5_keep : MethodName := ⟨RX5, "keep", "(LCampAshes$Camp;LCampAshes$State;LCampAshes$Sentence;)V"⟩
abbrev cX5_giveBack : ByteArray := prog_7_method_3_code
def yX5_giveBack : MethodName := ⟨RX5, "giveBack", "(LCampAshes$Camp;LCampAshes$State;LCampAshes$Sentence;)V"⟩
def RX6 : String := "CampAshes$Laws"
def TX6 : u_T := fun k => match k with
  | _ => ("CampAshes$Laws", "latest", "I", false)
def tyX6 : Nat → FieldType := fun k => match k with
  | _ => .int
theorem nmX6 : ∀ a, a < 1 → ∀ b, b < 1 → a ≠ b → (TX6 a).2.1 ≠ (TX6 b).2.1 := by decide +kernel
theorem tyX6_ok : ∀ k, k < 1 → parseFieldDescriptor (TX6 k).2.2.1 = some (tyX6 k) := by decide +kernel
abbrev cX6_init : ByteArray := prog_8_method_1_code
def yX6_init : MethodName := ⟨RX6, "<init>", "()V"⟩
abbrev cX6_findLaws : ByteArray := prog_8_method_2_code
def yX6_findLaws : MethodName := ⟨RX6, "findLaws", "(LCampAshes$Tape;)I"⟩
abbrev cX6_leftBehind : ByteArray := prog_8_method_3_code
def yX6_leftBehind : MethodName := ⟨RX6, "leftBehind", "(III)I"⟩
abbrev cX6_findWatch : ByteArray := prog_8_method_4_code
def yX6_findWatch : MethodName := ⟨RX6, "findWatch", "()I"⟩
abbrev cX6_mostAlike : ByteArray := prog_8_method_5_code
def yX6_mostAlike : MethodName := ⟨RX6, "mostAlike", "(I)I"⟩
def RX7 : String := "CampAshes$Sentence"
def TX7 : u_T := fun k => match k with
  | 0 => ("CampAshes$Sentence", "steps", "[LCampAshes$Word;", true)
  | 1 => ("CampAshes$Sentence", "signs", "[I", true)
  | 2 => ("CampAshes$Sentence", "numbers", "[I", true)
  | 3 => ("CampAshes$Sentence", "stack", "[I", true)
  | 4 => ("CampAshes$Sentence", "stepCount", "I", false)
  | 5 => ("CampAshes$Sentence", "ones", "I", false)
  | _ => ("CampAshes$Sentence", "present", "Z", false)
def tyX7 : Nat → FieldType := fun k => match k with
  | 0 => .array (.object "CampAshes$Word")
  | 1 => .array .int
  | 2 => .array .int
  | 3 => .array .int
  | 4 => .int
  | 5 => .int
  | _ => .boolean
theorem nmX7 : ∀ a, a < 7 → ∀ b, b < 7 → a ≠ b → (TX7 a).2.1 ≠ (TX7 b).2.1 := by decide +kernel
theorem tyX7_ok : ∀ k, k < 7 → parseFieldDescriptor (TX7 k).2.2.1 = some (tyX7 k) := by decide +kernel
abbrev cX7_init : ByteArray := prog_9_method_1_code
def yX7_init : MethodName := ⟨RX7, "<init>", "()V"⟩
abbrev cX7_clear : ByteArray := prog_9_method_2_code
def yX7_clear : MethodName := ⟨RX7, "clear", "()V"⟩
abbrev cX7_copyFrom : ByteArray := prog_9_method_3_code
def yX7_copyFrom : MethodName := ⟨RX7, "copyFrom", "(LCampAshes$Sentence;)V"⟩
abbrev cX7_readText : ByteArray := prog_9_method_4_code
def yX7_readText : MethodName := ⟨RX7, "readText", "(LCampAshes$Tape;LCampAshes$Camp;)Z"⟩
abbrev cX7_readCond : ByteArray := prog_9_method_5_code
def yX7_readCond : MethodName := ⟨RX7, "readCond", "(LCampAshes$Tape;LCampAshes$Camp;I)Z"⟩
abbrev cX7_readAll : ByteArray := prog_9_method_6_code
def yX7_readAll : MethodName := ⟨RX7, "readAll", "(LCampAshes$Tape;LCampAshes$Camp;I)Z"⟩
abbrev cX7_readOne : ByteArray := prog_9_method_7_code
def yX7_readOne : MethodName := ⟨RX7, "readOne", "(LCampAshes$Tape;LCampAshes$Camp;I)Z"⟩
abbrev cX7_readComparison : ByteArray := prog_9_method_8_code
def yX7_readComparison : MethodName := ⟨RX7, "readComparison", "(LCampAshes$Tape;LCampAshes$Word;)Z"⟩
abbrev cX7_beginsOne : ByteArray := prog_9_method_9_code
def yX7_beginsOne : MethodName := ⟨RX7, "beginsOne", "(LCampAshes$Tape;)Z"⟩
abbrev cX7_isPlain : ByteArray := prog_9_method_10_code
def yX7_isPlain : MethodName := ⟨RX7, "isPlain", "(LCampAshes$Word;)Z"⟩
abbrev cX7_addStep : ByteArray := prog_9_method_11_code
def yX7_addStep : MethodName := ⟨RX7, "addStep", "(LCampAshes$Word;II)V"⟩
abbrev cX7_boysOf : ByteArray := prog_9_method_12_code
def yX7_boysOf : MethodName := ⟨RX7, "boysOf", "(LCampAshes$State;)I"⟩
abbrev cX7_boysOfStep : ByteArray := prog_9_method_13_code
def yX7_boysOfStep : MethodName := ⟨RX7, "boysOfStep", "(LCampAshes$State;I)I"⟩
abbrev cX7_holds : ByteArray := prog_9_method_14_code
def yX7_holds : MethodName := ⟨RX7, "holds", "(LCampAshes$State;II)Z"⟩
abbrev cX7_measure : ByteArray := prog_9_method_15_code
def yX7_measure : MethodName := ⟨RX7, "measure", "(LCampAshes$State;LCampAshes$Word;I)I"⟩
def RX8 : String := "CampAshes$State"
def TX8 : u_T := fun k => match k with
  | 0 => ("CampAshes$State", "camp", "LCampAshes$Camp;", true)
  | 1 => ("CampAshes$State", "on", "[I", true)
  | 2 => ("CampAshes$State", "loads", "[I", true)
  | 3 => ("CampAshes$State", "ashHeaps", "[I", true)
  | 4 => ("CampAshes$State", "wept", "[I", true)
  | 5 => ("CampAshes$State", "hushed", "I", false)
  | 6 => ("CampAshes$State", "heat", "I", false)
  | 7 => ("CampAshes$State", "logPile", "I", false)
  | 8 => ("CampAshes$State", "day", "I", false)
  | _ => ("CampAshes$State", "green", "I", false)
def tyX8 : Nat → FieldType := fun k => match k with
  | 0 => .object "CampAshes$Camp"
  | 1 => .array .int
  | 2 => .array .int
  | 3 => .array .int
  | 4 => .array .int
  | 5 => .int
  | 6 => .int
  | 7 => .int
  | 8 => .int
  | _ => .int
theorem nmX8 : ∀ a, a < 10 → ∀ b, b < 10 → a ≠ b → (TX8 a).2.1 ≠ (TX8 b).2.1 := by decide +kernel
theorem tyX8_ok : ∀ k, k < 10 → parseFieldDescriptor (TX8 k).2.2.1 = some (tyX8 k) := by decide +kernel
abbrev cX8_init : ByteArray := prog_10_method_1_code
def yX8_init : MethodName := ⟨RX8, "<init>", "(LCampAshes$Camp;)V"⟩
abbrev cX8_begin : ByteArray := prog_10_method_2_code
def yX8_begin : MethodName := ⟨RX8, "begin", "()V"⟩
abbrev cX8_copyFrom : ByteArray := prog_10_method_3_code
def yX8_copyFrom : MethodName := ⟨RX8, "copyFrom", "(LCampAshes$State;)V"⟩
abbrev cX8_onBoy : ByteArray := prog_10_method_4_code
def yX8_onBoy : MethodName := ⟨RX8, "onBoy", "(II)I"⟩
abbrev cX8_putOn : ByteArray := prog_10_method_5_code
def yX8_putOn : MethodName := ⟨RX8, "putOn", "(III)V"⟩
abbrev cX8_isOver : ByteArray := prog_10_method_6_code
def yX8_isOver : MethodName := ⟨RX8, "isOver", "(I)Z"⟩
abbrev cX8_isHushed : ByteArray := prog_10_method_7_code
def yX8_isHushed : MethodName := ⟨RX8, "isHushed", "(I)Z"⟩
abbrev cX8_isWet : ByteArray := prog_10_method_8_code
def yX8_isWet : MethodName := ⟨RX8, "isWet", "()Z"⟩
abbrev cX8_wouldTake : ByteArray := prog_10_method_9_code
def yX8_wouldTake : MethodName := ⟨RX8, "wouldTake", "(I)I"⟩
abbrev cX8_eventBits : ByteArray := prog_10_method_10_code
def yX8_eventBits : MethodName := ⟨RX8, "eventBits", "(I)I"⟩
abbrev cX8_overBits : ByteArray := prog_10_method_11_code
def yX8_overBits : MethodName := ⟨RX8, "overBits", "()I"⟩
abbrev cX8_leftOf : ByteArray := prog_10_method_12_code
def yX8_leftOf : MethodName := ⟨RX8, "leftOf", "(I)I"⟩
abbrev cX8_allLoads : ByteArray := prog_10_method_13_code
def yX8_allLoads : MethodName := ⟨RX8, "allLoads", "()I"⟩
abbrev cX8_heaviest : ByteArray := prog_10_method_14_code
def yX8_heaviest : MethodName := ⟨RX8, "heaviest", "(I)I"⟩
abbrev cX8_whyNotSpeak : ByteArray := prog_10_method_15_code
def yX8_whyNotSpeak : MethodName := ⟨RX8, "whyNotSpeak", "(II)I"⟩
abbrev cX8_tellEvent : ByteArray := prog_10_method_16_code
def yX8_tellEvent : MethodName := ⟨RX8, "tellEvent", "(II)I"⟩
abbrev cX8_lieAbout : ByteArray := prog_10_method_17_code
def yX8_lieAbout : MethodName := ⟨RX8, "lieAbout", "(II)I"⟩
abbrev cX8_hush : ByteArray := prog_10_method_18_code
def yX8_hush : MethodName := ⟨RX8, "hush", "(I)V"⟩
abbrev cX8_giveSome : ByteArray := prog_10_method_19_code
def yX8_giveSome : MethodName := ⟨RX8, "giveSome", "(IIII)I"⟩
abbrev cX8_putLogOn : ByteArray := prog_10_method_20_code
def yX8_putLogOn : MethodName := ⟨RX8, "putLogOn", "()I"⟩
abbrev cX8_rakeAshes : ByteArray := prog_10_method_21_code
def yX8_rakeAshes : MethodName := ⟨RX8, "rakeAshes", "()I"⟩
abbrev cX8_daysLeft : ByteArray := prog_10_method_22_code
def yX8_daysLeft : MethodName := ⟨RX8, "daysLeft", "()I"⟩
abbrev cX8_passDays : ByteArray := prog_10_method_23_code
def yX8_passDays : MethodName := ⟨RX8, "passDays", "(I)I"⟩
abbrev cX8_passDay : ByteArray := prog_10_method_24_code
def yX8_passDay : MethodName := ⟨RX8, "passDay", "()V"⟩
abbrev cX8_daysToCalm : ByteArray := prog_10_method_25_code
def yX8_daysToCalm : MethodName := ⟨RX8, "daysToCalm", "(I)I"⟩
abbrev cX8_allWhoAreOverTell : ByteArray := prog_10_method_26_code
def yX8_allWhoAreOverTell : MethodName := ⟨RX8, "allWhoAreOverTell", "()V"⟩
abbrev cX8_drawDays : ByteArray := prog_10_method_27_code
def yX8_drawDays : MethodName := ⟨RX8, "drawDays", "(ILCampAshes$Draws;)I"⟩
abbrev cX8_drawAct : ByteArray := prog_10_method_28_code
def yX8_drawAct : MethodName := ⟨RX8, "drawAct", "(ILCampAshes$Draws;)V"⟩
def RX9 : String := "CampAshes$Tape"
def TX9 : u_T := fun k => match k with
  | 0 => ("CampAshes$Tape", "text", "[B", true)
  | 1 => ("CampAshes$Tape", "length", "I", false)
  | 2 => ("CampAshes$Tape", "textLength", "I", false)
  | 3 => ("CampAshes$Tape", "most", "I", false)
  | 4 => ("CampAshes$Tape", "place", "I", false)
  | 5 => ("CampAshes$Tape", "sort", "I", false)
  | 6 => ("CampAshes$Tape", "at", "I", false)
  | 7 => ("CampAshes$Tape", "value", "I", false)
  | 8 => ("CampAshes$Tape", "letters", "J", false)
  | 9 => ("CampAshes$Tape", "word", "LCampAshes$Word;", false)
  | 10 => ("CampAshes$Tape", "faultKind", "I", false)
  | _ => ("CampAshes$Tape", "faultAt", "I", false)
def tyX9 : Nat → FieldType := fun k => match k with
  | 0 => .array .byte
  | 1 => .int
  | 2 => .int
  | 3 => .int
  | 4 => .int
  | 5 => .int
  | 6 => .int
  | 7 => .int
  | 8 => .long
  | 9 => .object "CampAshes$Word"
  | 10 => .int
  | _ => .int
theorem nmX9 : ∀ a, a < 12 → ∀ b, b < 12 → a ≠ b → (TX9 a).2.1 ≠ (TX9 b).2.1 := by decide +kernel
theorem tyX9_ok : ∀ k, k < 12 → parseFieldDescriptor (TX9 k).2.2.1 = some (tyX9 k) := by decide +kernel
abbrev cX9_init : ByteArray := prog_11_method_1_code
def yX9_init : MethodName := ⟨RX9, "<init>", "()V"⟩
abbrev cX9_putNumber : ByteArray := prog_11_method_2_code
def yX9_putNumber : MethodName := ⟨RX9, "putNumber", "(I)V"⟩
abbrev cX9_startText : ByteArray := prog_11_method_3_code
def yX9_startText : MethodName := ⟨RX9, "startText", "(I)V"⟩
abbrev cX9_next : ByteArray := prog_11_method_4_code
def yX9_next : MethodName := ⟨RX9, "next", "()V"⟩
abbrev cX9_readRun : ByteArray := prog_11_method_5_code
def yX9_readRun : MethodName := ⟨RX9, "readRun", "()I"⟩
abbrev cX9_readSign : ByteArray := prog_11_method_6_code
def yX9_readSign : MethodName := ⟨RX9, "readSign", "()V"⟩
abbrev cX9_hasEnded : ByteArray := prog_11_method_7_code
def yX9_hasEnded : MethodName := ⟨RX9, "hasEnded", "()Z"⟩
abbrev cX9_isWord : ByteArray := prog_11_method_8_code
def yX9_isWord : MethodName := ⟨RX9, "isWord", "(LCampAshes$Word;)Z"⟩
abbrev cX9_isSign : ByteArray := prog_11_method_9_code
def yX9_isSign : MethodName := ⟨RX9, "isSign", "(C)Z"⟩
abbrev cX9_fail : ByteArray := prog_11_method_10_code
def yX9_fail : MethodName := ⟨RX9, "fail", "(I)Z"⟩
abbrev cX9_passSign : ByteArray := prog_11_method_11_code
def yX9_passSign : MethodName := ⟨RX9, "passSign", "(C)Z"⟩
abbrev cX9_passNumber : ByteArray := prog_11_method_12_code
def yX9_passNumber : MethodName := ⟨RX9, "passNumber", "(II)I"⟩
abbrev cX9_passNamed : ByteArray := prog_11_method_13_code
def yX9_passNamed : MethodName := ⟨RX9, "passNamed", "(I)I"⟩
def RX10 : String := "CampAshes$Word"
def TX10 : u_T := fun k => match k with
  | _ => ("", "", "", false)
def tyX10 : Nat → FieldType := fun k => match k with
  | _ => .int
theorem nmX10 : ∀ a, a < 0 → ∀ b, b < 0 → a ≠ b → (TX10 a).2.1 ≠ (TX10 b).2.1 := by decide +kernel
theorem tyX10_ok : ∀ k, k < 0 → parseFieldDescriptor (TX10 k).2.2.1 = some (tyX10 k) := by decide +kernel
abbrev cX10_spelt : ByteArray := prog_12_method_5_code
def yX10_spelt : MethodName := ⟨RX10, "spelt", "(J)LCampAshes$Word;"⟩
def RX11 : String := "CampAshes"
def TX11 : u_T := fun k => match k with
  | 0 => ("CampAshes", "tape", "LCampAshes$Tape;", true)
  | 1 => ("CampAshes", "faultKind", "I", false)
  | 2 => ("CampAshes", "camp", "LCampAshes$Camp;", true)
  | 3 => ("CampAshes", "draftCamp", "LCampAshes$Camp;", true)
  | 4 => ("CampAshes", "state", "LCampAshes$State;", true)
  | 5 => ("CampAshes", "trial", "LCampAshes$State;", true)
  | 6 => ("CampAshes", "sentence", "LCampAshes$Sentence;", true)
  | 7 => ("CampAshes", "draftSentence", "LCampAshes$Sentence;", true)
  | 8 => ("CampAshes", "book", "LCampAshes$Book;", true)
  | 9 => ("CampAshes", "history", "LCampAshes$History;", true)
  | 10 => ("CampAshes", "images", "[LCampAshes$Image;", true)
  | 11 => ("CampAshes", "advice", "LCampAshes$Advice;", true)
  | 12 => ("CampAshes", "laws", "LCampAshes$Laws;", true)
  | 13 => ("CampAshes", "draws", "LCampAshes$Draws;", true)
  | 14 => ("CampAshes", "tagText", "[B", true)
  | _ => ("CampAshes", "tagBytes", "I", false)
def tyX11 : Nat → FieldType := fun k => match k with
  | 0 => .object "CampAshes$Tape"
  | 1 => .int
  | 2 => .object "CampAshes$Camp"
  | 3 => .object "CampAshes$Camp"
  | 4 => .object "CampAshes$State"
  | 5 => .object "CampAshes$State"
  | 6 => .object "CampAshes$Sentence"
  | 7 => .object "CampAshes$Sentence"
  | 8 => .object "CampAshes$Book"
  | 9 => .object "CampAshes$History"
  | 10 => .array (.object "CampAshes$Image")
  | 11 => .object "CampAshes$Advice"
  | 12 => .object "CampAshes$Laws"
  | 13 => .object "CampAshes$Draws"
  | 14 => .array .byte
  | _ => .int
theorem nmX11 : ∀ a, a < 16 → ∀ b, b < 16 → a ≠ b → (TX11 a).2.1 ≠ (TX11 b).2.1 := by decide +kernel
theorem tyX11_ok : ∀ k, k < 16 → parseFieldDescriptor (TX11 k).2.2.1 = some (tyX11 k) := by decide +kernel
abbrev cX11_init : ByteArray := prog_1_method_1_code
def yX11_init : MethodName := ⟨RX11, "<init>", "()V"⟩
abbrev cX11_feed : ByteArray := prog_1_method_2_code
def yX11_feed : MethodName := ⟨RX11, "feed", "(IIIII)I"⟩
abbrev cX11_end : ByteArray := prog_1_method_3_code
def yX11_end : MethodName := ⟨RX11, "end", "(I)Z"⟩
abbrev cX11_camp : ByteArray := prog_1_method_4_code
def yX11_camp : MethodName := ⟨RX11, "camp", "()I"⟩
abbrev cX11_fault : ByteArray := prog_1_method_5_code
def yX11_fault : MethodName := ⟨RX11, "fault", "()I"⟩
abbrev cX11_boy : ByteArray := prog_1_method_6_code
def yX11_boy : MethodName := ⟨RX11, "boy", "(II)I"⟩
abbrev cX11_on : ByteArray := prog_1_method_7_code
def yX11_on : MethodName := ⟨RX11, "on", "(II)I"⟩
abbrev cX11_event : ByteArray := prog_1_method_8_code
def yX11_event : MethodName := ⟨RX11, "event", "(II)I"⟩
abbrev cX11_takes : ByteArray := prog_1_method_9_code
def yX11_takes : MethodName := ⟨RX11, "takes", "(I)I"⟩
abbrev cX11_ashes : ByteArray := prog_1_method_10_code
def yX11_ashes : MethodName := ⟨RX11, "ashes", "(I)I"⟩
abbrev cX11_now : ByteArray := prog_1_method_11_code
def yX11_now : MethodName := ⟨RX11, "now", "(I)I"⟩
abbrev cX11_tell : ByteArray := prog_1_method_12_code
def yX11_tell : MethodName := ⟨RX11, "tell", "(II)I"⟩
abbrev cX11_lie : ByteArray := prog_1_method_13_code
def yX11_lie : MethodName := ⟨RX11, "lie", "(II)I"⟩
abbrev cX11_give : ByteArray := prog_1_method_14_code
def yX11_give : MethodName := ⟨RX11, "give", "(IIII)I"⟩
abbrev cX11_log : ByteArray := prog_1_method_15_code
def yX11_log : MethodName := ⟨RX11, "log", "()I"⟩
abbrev cX11_rake : ByteArray := prog_1_method_16_code
def yX11_rake : MethodName := ⟨RX11, "rake", "()I"⟩
abbrev cX11_days : ByteArray := prog_1_method_17_code
def yX11_days : MethodName := ⟨RX11, "days", "(I)I"⟩
abbrev cX11_undo : ByteArray := prog_1_method_18_code
def yX11_undo : MethodName := ⟨RX11, "undo", "()I"⟩
abbrev cX11_best : ByteArray := prog_1_method_19_code
def yX11_best : MethodName := ⟨RX11, "best", "()I"⟩
abbrev cX11_bestAt : ByteArray := prog_1_method_20_code
def yX11_bestAt : MethodName := ⟨RX11, "bestAt", "(I)I"⟩
abbrev cX11_spread : ByteArray := prog_1_method_21_code
def yX11_spread : MethodName := ⟨RX11, "spread", "()I"⟩
abbrev cX11_spreadOf : ByteArray := prog_1_method_22_code
def yX11_spreadOf : MethodName := ⟨RX11, "spreadOf", "(I)I"⟩
abbrev cX11_says : ByteArray := prog_1_method_23_code
def yX11_says : MethodName := ⟨RX11, "says", "(II)I"⟩
abbrev cX11_saying : ByteArray := prog_1_method_24_code
def yX11_saying : MethodName := ⟨RX11, "saying", "()I"⟩
abbrev cX11_tents : ByteArray := prog_1_method_25_code
def yX11_tents : MethodName := ⟨RX11, "tents", "(I)I"⟩
abbrev cX11_laws : ByteArray := prog_1_method_26_code
def yX11_laws : MethodName := ⟨RX11, "laws", "()I"⟩
abbrev cX11_watch : ByteArray := prog_1_method_27_code
def yX11_watch : MethodName := ⟨RX11, "watch", "()I"⟩
abbrev cX11_calm : ByteArray := prog_1_method_28_code
def yX11_calm : MethodName := ⟨RX11, "calm", "(I)I"⟩
abbrev cX11_tag : ByteArray := prog_1_method_29_code
def yX11_tag : MethodName := ⟨RX11, "tag", "(I)I"⟩
abbrev cX11_byteAt : ByteArray := prog_1_method_30_code
def yX11_byteAt : MethodName := ⟨RX11, "byteAt", "(I)I"⟩
abbrev cX11_drawn : ByteArray := prog_1_method_31_code
def yX11_drawn : MethodName := ⟨RX11, "drawn", "(II)I"⟩
abbrev cX11_odds : ByteArray := prog_1_method_32_code
def yX11_odds : MethodName := ⟨RX11, "odds", "(III)I"⟩
abbrev cX11_book : ByteArray := prog_1_method_33_code
def yX11_book : MethodName := ⟨RX11, "book", "(I)I"⟩
abbrev cX11_told : ByteArray := prog_1_method_34_code
def yX11_told : MethodName := ⟨RX11, "told", "(I)I"⟩
abbrev cX11_sentence : ByteArray := prog_1_method_35_code
def yX11_sentence : MethodName := ⟨RX11, "sentence", "()I"⟩
abbrev cX11_said : ByteArray := prog_1_method_36_code
def yX11_said : MethodName := ⟨RX11, "said", "(I)I"⟩
abbrev cX11_image : ByteArray := prog_1_method_37_code
def yX11_image : MethodName := ⟨RX11, "image", "(I)Z"⟩
abbrev cX11_restore : ByteArray := prog_1_method_38_code
def yX11_restore : MethodName := ⟨RX11, "restore", "(I)Z"⟩
abbrev cX11_count : ByteArray := prog_1_method_39_code
def yX11_count : MethodName := ⟨RX11, "count", "(I)I"⟩
abbrev cX11_keepIfDone : ByteArray := prog_1_method_40_code
def yX11_keepIfDone : MethodName := ⟨RX11, "keepIfDone", "(I)I"⟩
abbrev cX11_keepTrial : ByteArray := prog_1_method_41_code
def yX11_keepTrial : MethodName := ⟨RX11, "keepTrial", "()V"⟩
abbrev cX11_putTagByte : ByteArray := prog_1_method_42_code
def yX11_putTagByte : MethodName := ⟨RX11, "putTagByte", "(I)V"⟩
abbrev cX11_putText : ByteArray := prog_1_method_43_code
def yX11_putText : MethodName := ⟨RX11, "putText", "(Ljava/lang/String;)V"⟩
abbrev cX11_putName : ByteArray := prog_1_method_44_code
def yX11_putName : MethodName := ⟨RX11, "putName", "(J)V"⟩
abbrev cX11_putDigits : ByteArray := prog_1_method_45_code
def yX11_putDigits : MethodName := ⟨RX11, "putDigits", "(I)V"⟩
def RX12 : String := "CampAshesModel"
def TX12 : u_T := fun k => match k with
  | 0 => ("CampAshesModel", "thrown", "I", false)
  | 1 => ("CampAshesModel", "tape", "[I", true)
  | 2 => ("CampAshesModel", "taped", "I", false)
  | 3 => ("CampAshesModel", "size", "I", false)
  | 4 => ("CampAshesModel", "limit", "I", false)
  | 5 => ("CampAshesModel", "to", "I", false)
  | 6 => ("CampAshesModel", "from", "I", false)
  | 7 => ("CampAshesModel", "kind", "I", false)
  | 8 => ("CampAshesModel", "number", "I", false)
  | 9 => ("CampAshesModel", "sign", "I", false)
  | 10 => ("CampAshesModel", "fault", "I", false)
  | 11 => ("CampAshesModel", "place", "I", false)
  | 12 => ("CampAshesModel", "word", "J", false)
  | 13 => ("CampAshesModel", "told", "I", false)
  | 14 => ("CampAshesModel", "now", "[I", true)
  | 15 => ("CampAshesModel", "read", "[I", true)
  | 16 => ("CampAshesModel", "kept", "[I", true)
  | 17 => ("CampAshesModel", "snaps", "[I", true)
  | 18 => ("CampAshesModel", "aside", "[I", true)
  | 19 => ("CampAshesModel", "name", "[J", true)
  | 20 => ("CampAshesModel", "readName", "[J", true)
  | 21 => ("CampAshesModel", "keptName", "[J", true)
  | 22 => ("CampAshesModel", "isKept", "[Z", true)
  | 23 => ("CampAshesModel", "onces", "[Z", true)
  | 24 => ("CampAshesModel", "kinds", "[Z", true)
  | 25 => ("CampAshesModel", "snapMany", "I", false)
  | 26 => ("CampAshesModel", "more", "[I", true)
  | 27 => ("CampAshesModel", "row", "[I", true)
  | 28 => ("CampAshesModel", "rowMany", "I", false)
  | 29 => ("CampAshesModel", "spread", "[I", true)
  | 30 => ("CampAshesModel", "spreadMany", "I", false)
  | 31 => ("CampAshesModel", "hasSpread", "Z", false)
  | 32 => ("CampAshesModel", "saying", "I", false)
  | 33 => ("CampAshesModel", "tented", "[I", true)
  | 34 => ("CampAshesModel", "watching", "I", false)
  | 35 => ("CampAshesModel", "behinds", "[I", true)
  | 36 => ("CampAshesModel", "text", "[I", true)
  | 37 => ("CampAshesModel", "texts", "I", false)
  | 38 => ("CampAshesModel", "seed", "I", false)
  | 39 => ("CampAshesModel", "line", "[I", true)
  | 40 => ("CampAshesModel", "written", "[I", true)
  | 41 => ("CampAshesModel", "lineMany", "I", false)
  | 42 => ("CampAshesModel", "hasWritten", "Z", false)
  | 43 => ("CampAshesModel", "node", "[I", true)
  | 44 => ("CampAshesModel", "nodes", "I", false)
  | 45 => ("CampAshesModel", "onesMany", "I", false)
  | 46 => ("CampAshesModel", "within", "I", false)
  | _ => ("CampAshesModel", "top", "I", false)
def tyX12 : Nat → FieldType := fun k => match k with
  | 0 => .int
  | 1 => .array .int
  | 2 => .int
  | 3 => .int
  | 4 => .int
  | 5 => .int
  | 6 => .int
  | 7 => .int
  | 8 => .int
  | 9 => .int
  | 10 => .int
  | 11 => .int
  | 12 => .long
  | 13 => .int
  | 14 => .array .int
  | 15 => .array .int
  | 16 => .array .int
  | 17 => .array .int
  | 18 => .array .int
  | 19 => .array .long
  | 20 => .array .long
  | 21 => .array .long
  | 22 => .array .boolean
  | 23 => .array .boolean
  | 24 => .array .boolean
  | 25 => .int
  | 26 => .array .int
  | 27 => .array .int
  | 28 => .int
  | 29 => .array .int
  | 30 => .int
  | 31 => .boolean
  | 32 => .int
  | 33 => .array .int
  | 34 => .int
  | 35 => .array .int
  | 36 => .array .int
  | 37 => .int
  | 38 => .int
  | 39 => .array .int
  | 40 => .array .int
  | 41 => .int
  | 42 => .boolean
  | 43 => .array .int
  | 44 => .int
  | 45 => .int
  | 46 => .int
  | _ => .int
theorem nmX12 : ∀ a, a < 48 → ∀ b, b < 48 → a ≠ b → (TX12 a).2.1 ≠ (TX12 b).2.1 := by decide +kernel
theorem tyX12_ok : ∀ k, k < 48 → parseFieldDescriptor (TX12 k).2.2.1 = some (tyX12 k) := by decide +kernel
abbrev cX12_thrown : ByteArray := prog_14_method_1_code
def yX12_thrown : MethodName := ⟨RX12, "thrown", "()I"⟩
abbrev cX12_refuse : ByteArray := prog_14_method_2_code
def yX12_refuse : MethodName := ⟨RX12, "refuse", "()I"⟩
abbrev cX12_come : ByteArray := prog_14_method_3_code
def yX12_come : MethodName := ⟨RX12, "come", "(I)V"⟩
abbrev cX12_feed : ByteArray := prog_14_method_4_code
def yX12_feed : MethodName := ⟨RX12, "feed", "(IIIII)I"⟩
abbrev cX12_end : ByteArray := prog_14_method_5_code
def yX12_end : MethodName := ⟨RX12, "end", "(I)Z"⟩
abbrev cX12_take : ByteArray := prog_14_method_6_code
def yX12_take : MethodName := ⟨RX12, "take", "()I"⟩
abbrev cX12_isIn : ByteArray := prog_14_method_7_code
def yX12_isIn : MethodName := ⟨RX12, "isIn", "(III)Z"⟩
abbrev cX12_has : ByteArray := prog_14_method_8_code
def yX12_has : MethodName := ⟨RX12, "has", "(II)Z"⟩
abbrev cX12_bits : ByteArray := prog_14_method_9_code
def yX12_bits : MethodName := ⟨RX12, "bits", "(I)I"⟩
abbrev cX12_least : ByteArray := prog_14_method_10_code
def yX12_least : MethodName := ⟨RX12, "least", "(II)I"⟩
abbrev cX12_tapeAt : ByteArray := prog_14_method_13_code
def yX12_tapeAt : MethodName := ⟨RX12, "tapeAt", "(I)I"⟩
abbrev cX12_isDigit : ByteArray := prog_14_method_14_code
def yX12_isDigit : MethodName := ⟨RX12, "isDigit", "(I)Z"⟩
abbrev cX12_isLetter : ByteArray := prog_14_method_15_code
def yX12_isLetter : MethodName := ⟨RX12, "isLetter", "(I)Z"⟩
abbrev cX12_go : ByteArray := prog_14_method_16_code
def yX12_go : MethodName := ⟨RX12, "go", "()V"⟩
abbrev cX12_spelt : ByteArray := prog_14_method_17_code
def yX12_spelt : MethodName := ⟨RX12, "spelt", "(IIIIII)J"⟩
abbrev cX12_wordOf : ByteArray := prog_14_method_18_code
def yX12_wordOf : MethodName := ⟨RX12, "wordOf", "(I)J"⟩
abbrev cX12_isWord : ByteArray := prog_14_method_19_code
def yX12_isWord : MethodName := ⟨RX12, "isWord", "(I)Z"⟩
abbrev cX12_isSign : ByteArray := prog_14_method_20_code
def yX12_isSign : MethodName := ⟨RX12, "isSign", "(I)Z"⟩
abbrev cX12_isName : ByteArray := prog_14_method_21_code
def yX12_isName : MethodName := ⟨RX12, "isName", "()Z"⟩
abbrev cX12_bad : ByteArray := prog_14_method_22_code
def yX12_bad : MethodName := ⟨RX12, "bad", "(I)Z"⟩
abbrev cX12_readNumber : ByteArray := prog_14_method_23_code
def yX12_readNumber : MethodName := ⟨RX12, "readNumber", "(II)Z"⟩
abbrev cX12_readEnd : ByteArray := prog_14_method_24_code
def yX12_readEnd : MethodName := ⟨RX12, "readEnd", "()Z"⟩
abbrev cX12_begin : ByteArray := prog_14_method_25_code
def yX12_begin : MethodName := ⟨RX12, "begin", "(I)V"⟩
abbrev cX12_init : ByteArray := prog_14_method_26_code
def yX12_init : MethodName := ⟨RX12, "<init>", "()V"⟩
abbrev cX12_startRead : ByteArray := prog_14_method_27_code
def yX12_startRead : MethodName := ⟨RX12, "startRead", "()V"⟩
abbrev cX12_startSo : ByteArray := prog_14_method_28_code
def yX12_startSo : MethodName := ⟨RX12, "startSo", "()V"⟩
abbrev cX12_findIn : ByteArray := prog_14_method_29_code
def yX12_findIn : MethodName := ⟨RX12, "findIn", "([JIIJ)I"⟩
abbrev cX12_readNew : ByteArray := prog_14_method_30_code
def yX12_readNew : MethodName := ⟨RX12, "readNew", "(I)Z"⟩
abbrev cX12_readFirst : ByteArray := prog_14_method_31_code
def yX12_readFirst : MethodName := ⟨RX12, "readFirst", "(II)Z"⟩
abbrev cX12_put : ByteArray := prog_14_method_32_code
def yX12_put : MethodName := ⟨RX12, "put", "(IZ)Z"⟩
abbrev cX12_isKind : ByteArray := prog_14_method_33_code
def yX12_isKind : MethodName := ⟨RX12, "isKind", "()Z"⟩
abbrev cX12_readBoy : ByteArray := prog_14_method_34_code
def yX12_readBoy : MethodName := ⟨RX12, "readBoy", "()Z"⟩
abbrev cX12_readWhose : ByteArray := prog_14_method_35_code
def yX12_readWhose : MethodName := ⟨RX12, "readWhose", "(I)Z"⟩
abbrev cX12_readEvent : ByteArray := prog_14_method_36_code
def yX12_readEvent : MethodName := ⟨RX12, "readEvent", "()Z"⟩
abbrev cX12_readTakes : ByteArray := prog_14_method_37_code
def yX12_readTakes : MethodName := ⟨RX12, "readTakes", "()Z"⟩
abbrev cX12_readOnce : ByteArray := prog_14_method_38_code
def yX12_readOnce : MethodName := ⟨RX12, "readOnce", "(IIII)Z"⟩
abbrev cX12_readLine : ByteArray := prog_14_method_39_code
def yX12_readLine : MethodName := ⟨RX12, "readLine", "()Z"⟩
abbrev cX12_camp : ByteArray := prog_14_method_40_code
def yX12_camp : MethodName := ⟨RX12, "camp", "()I"⟩
abbrev cX12_fault : ByteArray := prog_14_method_41_code
def yX12_fault : MethodName := ⟨RX12, "fault", "()I"⟩
abbrev cX12_isBoy : ByteArray := prog_14_method_42_code
def yX12_isBoy : MethodName := ⟨RX12, "isBoy", "(I)Z"⟩
abbrev cX12_isEvent : ByteArray := prog_14_method_43_code
def yX12_isEvent : MethodName := ⟨RX12, "isEvent", "(I)Z"⟩
abbrev cX12_isOneKind : ByteArray := prog_14_method_44_code
def yX12_isOneKind : MethodName := ⟨RX12, "isOneKind", "(I)Z"⟩
abbrev cX12_onOf : ByteArray := prog_14_method_45_code
def yX12_onOf : MethodName := ⟨RX12, "onOf", "(II)I"⟩
abbrev cX12_sum : ByteArray := prog_14_method_46_code
def yX12_sum : MethodName := ⟨RX12, "sum", "(II)I"⟩
abbrev cX12_loadOf : ByteArray := prog_14_method_47_code
def yX12_loadOf : MethodName := ⟨RX12, "loadOf", "(I)I"⟩
abbrev cX12_isOver : ByteArray := prog_14_method_48_code
def yX12_isOver : MethodName := ⟨RX12, "isOver", "(I)Z"⟩
abbrev cX12_isHushed : ByteArray := prog_14_method_49_code
def yX12_isHushed : MethodName := ⟨RX12, "isHushed", "(I)Z"⟩
abbrev cX12_isWet : ByteArray := prog_14_method_50_code
def yX12_isWet : MethodName := ⟨RX12, "isWet", "()Z"⟩
abbrev cX12_takesOf : ByteArray := prog_14_method_51_code
def yX12_takesOf : MethodName := ⟨RX12, "takesOf", "(II)I"⟩
abbrev cX12_boy : ByteArray := prog_14_method_52_code
def yX12_boy : MethodName := ⟨RX12, "boy", "(II)I"⟩
abbrev cX12_on : ByteArray := prog_14_method_53_code
def yX12_on : MethodName := ⟨RX12, "on", "(II)I"⟩
abbrev cX12_event : ByteArray := prog_14_method_54_code
def yX12_event : MethodName := ⟨RX12, "event", "(II)I"⟩
abbrev cX12_takes : ByteArray := prog_14_method_55_code
def yX12_takes : MethodName := ⟨RX12, "takes", "(I)I"⟩
abbrev cX12_ashes : ByteArray := prog_14_method_56_code
def yX12_ashes : MethodName := ⟨RX12, "ashes", "(I)I"⟩
abbrev cX12_overs : ByteArray := prog_14_method_57_code
def yX12_overs : MethodName := ⟨RX12, "overs", "()I"⟩
abbrev cX12_now : ByteArray := prog_14_method_58_code
def yX12_now : MethodName := ⟨RX12, "now", "(I)I"⟩
abbrev cX12_snap : ByteArray := prog_14_method_59_code
def yX12_snap : MethodName := ⟨RX12, "snap", "()V"⟩
abbrev cX12_whySay : ByteArray := prog_14_method_60_code
def yX12_whySay : MethodName := ⟨RX12, "whySay", "(II)I"⟩
abbrev cX12_why : ByteArray := prog_14_method_61_code
def yX12_why : MethodName := ⟨RX12, "why", "(IIIII)I"⟩
abbrev cX12_speaks : ByteArray := prog_14_method_62_code
def yX12_speaks : MethodName := ⟨RX12, "speaks", "(I)V"⟩
abbrev cX12_doTell : ByteArray := prog_14_method_63_code
def yX12_doTell : MethodName := ⟨RX12, "doTell", "(II)V"⟩
abbrev cX12_live : ByteArray := prog_14_method_64_code
def yX12_live : MethodName := ⟨RX12, "live", "(IIIII)V"⟩
abbrev cX12_act : ByteArray := prog_14_method_65_code
def yX12_act : MethodName := ⟨RX12, "act", "(IIIIIZ)I"⟩
abbrev cX12_tell : ByteArray := prog_14_method_66_code
def yX12_tell : MethodName := ⟨RX12, "tell", "(II)I"⟩
abbrev cX12_lie : ByteArray := prog_14_method_67_code
def yX12_lie : MethodName := ⟨RX12, "lie", "(II)I"⟩
abbrev cX12_give : ByteArray := prog_14_method_68_code
def yX12_give : MethodName := ⟨RX12, "give", "(IIII)I"⟩
abbrev cX12_log : ByteArray := prog_14_method_69_code
def yX12_log : MethodName := ⟨RX12, "log", "()I"⟩
abbrev cX12_rake : ByteArray := prog_14_method_70_code
def yX12_rake : MethodName := ⟨RX12, "rake", "()I"⟩
abbrev cX12_undo : ByteArray := prog_14_method_71_code
def yX12_undo : MethodName := ⟨RX12, "undo", "()I"⟩
abbrev cX12_oneDay : ByteArray := prog_14_method_72_code
def yX12_oneDay : MethodName := ⟨RX12, "oneDay", "()V"⟩
abbrev cX12_passDays : ByteArray := prog_14_method_73_code
def yX12_passDays : MethodName := ⟨RX12, "passDays", "(I)I"⟩
abbrev cX12_days : ByteArray := prog_14_method_74_code
def yX12_days : MethodName := ⟨RX12, "days", "(I)I"⟩
abbrev cX12_mostOf : ByteArray := prog_14_method_75_code
def yX12_mostOf : MethodName := ⟨RX12, "mostOf", "(I)I"⟩
abbrev cX12_tellers : ByteArray := prog_14_method_76_code
def yX12_tellers : MethodName := ⟨RX12, "tellers", "()I"⟩
abbrev cX12_takenBy : ByteArray := prog_14_method_77_code
def yX12_takenBy : MethodName := ⟨RX12, "takenBy", "(II)I"⟩
abbrev cX12_moreBy : ByteArray := prog_14_method_78_code
def yX12_moreBy : MethodName := ⟨RX12, "moreBy", "(II)I"⟩
abbrev cX12_layMore : ByteArray := prog_14_method_79_code
def yX12_layMore : MethodName := ⟨RX12, "layMore", "(I)V"⟩
abbrev cX12_best : ByteArray := prog_14_method_80_code
def yX12_best : MethodName := ⟨RX12, "best", "()I"⟩
abbrev cX12_bestAt : ByteArray := prog_14_method_81_code
def yX12_bestAt : MethodName := ⟨RX12, "bestAt", "(I)I"⟩
abbrev cX12_spread : ByteArray := prog_14_method_82_code
def yX12_spread : MethodName := ⟨RX12, "spread", "()I"⟩
abbrev cX12_spreadOf : ByteArray := prog_14_method_83_code
def yX12_spreadOf : MethodName := ⟨RX12, "spreadOf", "(I)I"⟩
abbrev cX12_says : ByteArray := prog_14_method_84_code
def yX12_says : MethodName := ⟨RX12, "says", "(II)I"⟩
abbrev cX12_saying : ByteArray := prog_14_method_85_code
def yX12_saying : MethodName := ⟨RX12, "saying", "()I"⟩
abbrev cX12_tents : ByteArray := prog_14_method_86_code
def yX12_tents : MethodName := ⟨RX12, "tents", "(I)I"⟩
abbrev cX12_withOne : ByteArray := prog_14_method_87_code
def yX12_withOne : MethodName := ⟨RX12, "withOne", "(III)I"⟩
abbrev cX12_behindOf : ByteArray := prog_14_method_88_code
def yX12_behindOf : MethodName := ⟨RX12, "behindOf", "(III)I"⟩
abbrev cX12_leftBy : ByteArray := prog_14_method_89_code
def yX12_leftBy : MethodName := ⟨RX12, "leftBy", "(II)I"⟩
abbrev cX12_laws : ByteArray := prog_14_method_90_code
def yX12_laws : MethodName := ⟨RX12, "laws", "()I"⟩
abbrev cX12_watch : ByteArray := prog_14_method_91_code
def yX12_watch : MethodName := ⟨RX12, "watch", "()I"⟩
abbrev cX12_layAside : ByteArray := prog_14_method_92_code
def yX12_layAside : MethodName := ⟨RX12, "layAside", "()V"⟩
abbrev cX12_takeBack : ByteArray := prog_14_method_93_code
def yX12_takeBack : MethodName := ⟨RX12, "takeBack", "()V"⟩
abbrev cX12_calm : ByteArray := prog_14_method_94_code
def yX12_calm : MethodName := ⟨RX12, "calm", "(I)I"⟩
abbrev cX12_write : ByteArray := prog_14_method_95_code
def yX12_write : MethodName := ⟨RX12, "write", "(I)V"⟩
abbrev cX12_writeWord : ByteArray := prog_14_method_96_code
def yX12_writeWord : MethodName := ⟨RX12, "writeWord", "(J)V"⟩
abbrev cX12_writeNumber : ByteArray := prog_14_method_97_code
def yX12_writeNumber : MethodName := ⟨RX12, "writeNumber", "(I)V"⟩
abbrev cX12_writeNext : ByteArray := prog_14_method_98_code
def yX12_writeNext : MethodName := ⟨RX12, "writeNext", "(J)V"⟩
abbrev cX12_tag : ByteArray := prog_14_method_99_code
def yX12_tag : MethodName := ⟨RX12, "tag", "(I)I"⟩
abbrev cX12_byteAt : ByteArray := prog_14_method_100_code
def yX12_byteAt : MethodName := ⟨RX12, "byteAt", "(I)I"⟩
abbrev cX12_draw : ByteArray := prog_14_method_101_code
def yX12_draw : MethodName := ⟨RX12, "draw", "(I)I"⟩
abbrev cX12_drawsFor : ByteArray := prog_14_method_102_code
def yX12_drawsFor : MethodName := ⟨RX12, "drawsFor", "(I)V"⟩
abbrev cX12_drawDays : ByteArray := prog_14_method_103_code
def yX12_drawDays : MethodName := ⟨RX12, "drawDays", "(II)I"⟩
abbrev cX12_drawn : ByteArray := prog_14_method_104_code
def yX12_drawn : MethodName := ⟨RX12, "drawn", "(II)I"⟩
abbrev cX12_odds : ByteArray := prog_14_method_105_code
def yX12_odds : MethodName := ⟨RX12, "odds", "(III)I"⟩
abbrev cX12_keep : ByteArray := prog_14_method_106_code
def yX12_keep : MethodName := ⟨RX12, "keep", "(IZ)Z"⟩
abbrev cX12_readNamed : ByteArray := prog_14_method_107_code
def yX12_readNamed : MethodName := ⟨RX12, "readNamed", "(II)Z"⟩
abbrev cX12_readDoes : ByteArray := prog_14_method_108_code
def yX12_readDoes : MethodName := ⟨RX12, "readDoes", "(I)Z"⟩
abbrev cX12_readBookLine : ByteArray := prog_14_method_109_code
def yX12_readBookLine : MethodName := ⟨RX12, "readBookLine", "()Z"⟩
abbrev cX12_goBy : ByteArray := prog_14_method_110_code
def yX12_goBy : MethodName := ⟨RX12, "goBy", "(I)I"⟩
abbrev cX12_book : ByteArray := prog_14_method_111_code
def yX12_book : MethodName := ⟨RX12, "book", "(I)I"⟩
abbrev cX12_stay : ByteArray := prog_14_method_112_code
def yX12_stay : MethodName := ⟨RX12, "stay", "(Z)V"⟩
abbrev cX12_told : ByteArray := prog_14_method_113_code
def yX12_told : MethodName := ⟨RX12, "told", "(I)I"⟩
abbrev cX12_readEventName : ByteArray := prog_14_method_114_code
def yX12_readEventName : MethodName := ⟨RX12, "readEventName", "()Z"⟩
abbrev cX12_saysOne : ByteArray := prog_14_method_115_code
def yX12_saysOne : MethodName := ⟨RX12, "saysOne", "(IIII)I"⟩
abbrev cX12_readOr : ByteArray := prog_14_method_116_code
def yX12_readOr : MethodName := ⟨RX12, "readOr", "()Z"⟩
abbrev cX12_readAnd : ByteArray := prog_14_method_117_code
def yX12_readAnd : MethodName := ⟨RX12, "readAnd", "()Z"⟩
abbrev cX12_readSaid : ByteArray := prog_14_method_118_code
def yX12_readSaid : MethodName := ⟨RX12, "readSaid", "()Z"⟩
abbrev cX12_readNot : ByteArray := prog_14_method_119_code
def yX12_readNot : MethodName := ⟨RX12, "readNot", "()Z"⟩
abbrev cX12_readBracket : ByteArray := prog_14_method_120_code
def yX12_readBracket : MethodName := ⟨RX12, "readBracket", "()Z"⟩
abbrev cX12_readOf : ByteArray := prog_14_method_121_code
def yX12_readOf : MethodName := ⟨RX12, "readOf", "(I)Z"⟩
abbrev cX12_readCompare : ByteArray := prog_14_method_122_code
def yX12_readCompare : MethodName := ⟨RX12, "readCompare", "(I)Z"⟩
abbrev cX12_sentence : ByteArray := prog_14_method_123_code
def yX12_sentence : MethodName := ⟨RX12, "sentence", "()I"⟩
abbrev cX12_holds : ByteArray := prog_14_method_124_code
def yX12_holds : MethodName := ⟨RX12, "holds", "(II)Z"⟩
abbrev cX12_said : ByteArray := prog_14_method_125_code
def yX12_said : MethodName := ⟨RX12, "said", "(I)I"⟩
abbrev cX12_image : ByteArray := prog_14_method_126_code
def yX12_image : MethodName := ⟨RX12, "image", "(I)Z"⟩
abbrev cX12_restore : ByteArray := prog_14_method_127_code
def yX12_restore : MethodName := ⟨RX12, "restore", "(I)Z"⟩
abbrev cX12_count : ByteArray := prog_14_method_128_code
def yX12_count : MethodName := ⟨RX12, "count", "(I)I"⟩
def RJ6 : String := "java/lang/Integer"
def TJ6 : u_T := fun k => match k with
  | _ => ("", "", "", false)
def tyJ6 : Nat → FieldType := fun k => match k with
  | _ => .int
abbrev cJ6_bitCount_0f7a4 : ByteArray := prog_20_method_49_code
def yJ6_bitCount_0f7a4 : MethodName := ⟨RJ6, "bitCount", "(I)I"⟩
def RJ9 : String := "java/lang/Math"
def TJ9 : u_T := fun k => match k with
  | _ => ("", "", "", false)
def tyJ9 : Nat → FieldType := fun k => match k with
  | _ => .int
abbrev cJ9_max_7cf53 : ByteArray := prog_21_method_65_code
def yJ9_max_7cf53 : MethodName := ⟨RJ9, "max", "(II)I"⟩
abbrev cJ9_min_7cf53 : ByteArray := prog_21_method_69_code
def yJ9_min_7cf53 : MethodName := ⟨RJ9, "min", "(II)I"⟩
def RJ0 : String := "java/lang/String"
def TJ0 : u_T := fun k => match k with
  | _ => ("", "", "", false)
def tyJ0 : Nat → FieldType := fun k => match k with
  | _ => .int
abbrev cJ0_length_8abf5 : ByteArray := prog_23_method_54_code
def yJ0_length_8abf5 : MethodName := ⟨RJ0, "length", "()I"⟩
abbrev cJ0_charAt_5068e : ByteArray := prog_23_method_56_code
def yJ0_charAt_5068e : MethodName := ⟨RJ0, "charAt", "(I)C"⟩
abbrev cJ0_coder_7d493 : ByteArray := prog_23_method_152_code
def yJ0_coder_7d493 : MethodName := ⟨RJ0, "coder", "()B"⟩
abbrev cJ0_isLatin1_aae02 : ByteArray := prog_23_method_154_code
def yJ0_isLatin1_aae02 : MethodName := ⟨RJ0, "isLatin1", "()Z"⟩
abbrev cJ0_checkIndex_df160 : ByteArray := prog_23_method_155_code
def yJ0_checkIndex_df160 : MethodName := ⟨RJ0, "checkIndex", "(II)V"⟩
def RJ1 : String := "java/lang/StringLatin1"
def TJ1 : u_T := fun k => match k with
  | _ => ("", "", "", false)
def tyJ1 : Nat → FieldType := fun k => match k with
  | _ => .int
abbrev cJ1_charAt_3b067 : ByteArray := prog_24_method_2_code
def yJ1_charAt_3b067 : MethodName := ⟨RJ1, "charAt", "([BI)C"⟩
def RJ2 : String := "java/lang/StringUTF16"
def TJ2 : u_T := fun k => match k with
  | _ => ("", "", "", false)
def tyJ2 : Nat → FieldType := fun k => match k with
  | _ => .int
abbrev cJ2_getChar_3b067 : ByteArray := prog_25_method_5_code
def yJ2_getChar_3b067 : MethodName := ⟨RJ2, "getChar", "([BI)C"⟩
abbrev cJ2_length_9d52b : ByteArray := prog_25_method_6_code
def yJ2_length_9d52b : MethodName := ⟨RJ2, "length", "([B)I"⟩
abbrev cJ2_charAt_3b067 : ByteArray := prog_25_method_83_code
def yJ2_charAt_3b067 : MethodName := ⟨RJ2, "charAt", "([BI)C"⟩
abbrev cJ2_checkIndex_2214a : ByteArray := prog_25_method_91_code
def yJ2_checkIndex_2214a : MethodName := ⟨RJ2, "checkIndex", "(I[B)V"⟩
def RJ10 : String := "java/lang/System"
def TJ10 : u_T := fun k => match k with
  | _ => ("", "", "", false)
def tyJ10 : Nat → FieldType := fun k => match k with
  | _ => .int
def RJ7 : String := "java/util/Arrays"
def TJ7 : u_T := fun k => match k with
  | _ => ("", "", "", false)
def tyJ7 : Nat → FieldType := fun k => match k with
  | _ => .int
abbrev cJ7_fill_53178 : ByteArray := prog_30_method_103_code
def yJ7_fill_53178 : MethodName := ⟨RJ7, "fill", "([II)V"⟩
def RJ3 : String := "jdk/internal/util/Preconditions"
def TJ3 : u_T := fun k => match k with
  | _ => ("", "", "", false)
def tyJ3 : Nat → FieldType := fun k => match k with
  | _ => .int
abbrev cJ3_checkIndex_8e157 : ByteArray := prog_32_method_11_code
def yJ3_checkIndex_8e157 : MethodName := ⟨RJ3, "checkIndex", "(IILjava/util/function/BiFunction;)I"⟩
def RL : String := "CampAshesLaw"
abbrev cL_boy : ByteArray := method_3_code
def yL_boy : MethodName := ⟨RL, "boy", "(LCampAshes;II[J)I"⟩
abbrev cL_law : ByteArray := code
def yL_law : MethodName := ⟨RL, "law", "([I)Z"⟩
end
section
def s_dec (b : ByteArray) (t : List (Nat × Instr × Nat × Nat)) : Prop := ∀ q ∈ t, decode b q.1 = .ok (q.2.1, q.2.2.1)
-- CampAshes.<init>()V
def s_t0 : List (Nat × Instr × Nat × Nat) := [(0, .aload_n 0, 1, 0), (1, .invokespecial 1, 3, 0), (4, .aload_n 0, 1, 0), (5, .new 7, 3, 0), (8, .dup, 1, 0), (9, .invokespecial 9, 3, 0), (12, .putfield 10, 3, 0), (15, .aload_n 0, 1, 0), (16, .new 16, 3, 0), (19, .dup, 1, 0), (20, .invokespecial 18, 3, 0), (23, .putfield 19, 3, 0), (26, .aload_n 0, 1, 0), (27, .new 16, 3, 0), (30, .dup, 1, 0), (31, .invokespecial 18, 3, 0), (34, .putfield 23, 3, 0), (37, .aload_n 0, 1, 0), (38, .new 26, 3, 0), (41, .dup, 1, 0), (42, .aload_n 0, 1, 0), (43, .getfield 19, 3, 0), (46, .invokespecial 28, 3, 0), (49, .putfield 31, 3, 0), (52, .aload_n 0, 1, 0), (53, .new 26, 3, 0), (56, .dup, 1, 0), (57, .aload_n 0, 1, 0), (58, .getfield 19, 3, 0), (61, .invokespecial 28, 3, 0), (64, .putfield 35, 3, 0), (67, .aload_n 0, 1, 0), (68, .new 38, 3, 0), (71, .dup, 1, 0), (72, .invokespecial 40, 3, 0), (75, .putfield 41, 3, 0), (78, .aload_n 0, 1, 0), (79, .new 38, 3, 0), (82, .dup, 1, 0), (83, .invokespecial 40, 3, 0), (86, .putfield 45, 3, 0), (89, .aload_n 0, 1, 0), (90, .new 48, 3, 0), (93, .dup, 1, 0), (94, .invokespecial 50, 3, 0), (97, .putfield 51, 3, 0), (100, .aload_n 0, 1, 0), (101, .new 55, 3, 0), (104, .dup, 1, 0), (105, .aload_n 0, 1, 0), (106, .getfield 19, 3, 0), (109, .invokespecial 57, 3, 0), (112, .putfield 58, 3, 0), (115, .aload_n 0, 1, 0), (116, .iconst 2, 1, 0), (117, .anewarray 62, 3, 0), (120, .dup, 1, 0), (121, .iconst 0, 1, 0), (122, .new 62, 3, 0), (125, .dup, 1, 0), (126, .invokespecial 64, 3, 0), (129, .aastore, 1, 0), (130, .dup, 1, 0), (131, .iconst 1, 1, 0), (132, .new 62, 3, 0), (135, .dup, 1, 0), (136, .invokespecial 64, 3, 0), (139, .aastore, 1, 0), (140, .putfield 65, 3, 0), (143, .aload_n 0, 1, 0), (144, .new 69, 3, 0), (147, .dup, 1, 0), (148, .invokespecial 71, 3, 0), (151, .putfield 72, 3, 0), (154, .aload_n 0, 1, 0), (155, .new 76, 3, 0), (158, .dup, 1, 0), (159, .invokespecial 78, 3, 0), (162, .putfield 79, 3, 0), (165, .aload_n 0, 1, 0), (166, .new 83, 3, 0), (169, .dup, 1, 0), (170, .invokespecial 85, 3, 0), (173, .putfield 86, 3, 0), (176, .aload_n 0, 1, 0), (177, .bipush 64, 2, 0), (179, .newarray .byte, 2, 0), (181, .putfield 90, 3, 0), (184, .aload_n 0, 1, 0), (185, .getfield 31, 3, 0), (188, .invokevirtual 94, 3, 0), (191, .return_, 1, 0)]
set_option maxRecDepth 100000 in
theorem s_d0 : s_dec prog_1_method_1_code s_t0 := by unfold s_dec; decide +kernel
-- CampAshes$Tape.<init>()V
def s_t1 : List (Nat × Instr × Nat × Nat) := [(0, .aload_n 0, 1, 0), (1, .invokespecial 3, 3, 0), (4, .aload_n 0, 1, 0), (5, .sipush 940, 3, 0), (8, .newarray .byte, 2, 0), (10, .putfield 9, 3, 0), (13, .return_, 1, 0)]
set_option maxRecDepth 100000 in
theorem s_d1 : s_dec prog_11_method_1_code s_t1 := by unfold s_dec; decide +kernel
-- CampAshes$Camp.<init>()V
def s_t2 : List (Nat × Instr × Nat × Nat) := [(0, .aload_n 0, 1, 0), (1, .invokespecial 3, 3, 0), (4, .aload_n 0, 1, 0), (5, .bipush 17, 2, 0), (7, .newarray .long, 2, 0), (9, .putfield 9, 3, 0), (12, .aload_n 0, 1, 0), (13, .bipush 7, 2, 0), (15, .newarray .int, 2, 0), (17, .putfield 15, 3, 0), (20, .aload_n 0, 1, 0), (21, .bipush 10, 2, 0), (23, .newarray .int, 2, 0), (25, .putfield 19, 3, 0), (28, .aload_n 0, 1, 0), (29, .bipush 10, 2, 0), (31, .newarray .int, 2, 0), (33, .putfield 22, 3, 0), (36, .aload_n 0, 1, 0), (37, .bipush 10, 2, 0), (39, .newarray .int, 2, 0), (41, .putfield 25, 3, 0), (44, .aload_n 0, 1, 0), (45, .iconst 4, 1, 0), (46, .newarray .int, 2, 0), (48, .putfield 28, 3, 0), (51, .aload_n 0, 1, 0), (52, .invokevirtual 31, 3, 0), (55, .return_, 1, 0)]
set_option maxRecDepth 100000 in
theorem s_d2 : s_dec prog_4_method_1_code s_t2 := by unfold s_dec; decide +kernel
-- CampAshes$Camp.clear()V
def s_t3 : List (Nat × Instr × Nat × Nat) := [(0, .aload_n 0, 1, 0), (1, .iconst 0, 1, 0), (2, .putfield 34, 3, 0), (5, .aload_n 0, 1, 0), (6, .iconst 0, 1, 0), (7, .putfield 38, 3, 0), (10, .aload_n 0, 1, 0), (11, .getfield 28, 3, 0), (14, .iconst 3, 1, 0), (15, .invokestatic 41, 3, 0), (18, .aload_n 0, 1, 0), (19, .bipush 10, 2, 0), (21, .putfield 47, 3, 0), (24, .aload_n 0, 1, 0), (25, .iconst 2, 1, 0), (26, .putfield 50, 3, 0), (29, .aload_n 0, 1, 0), (30, .iconst 1, 1, 0), (31, .putfield 53, 3, 0), (34, .aload_n 0, 1, 0), (35, .iconst 0, 1, 0), (36, .putfield 56, 3, 0), (39, .aload_n 0, 1, 0), (40, .iconst 0, 1, 0), (41, .putfield 59, 3, 0), (44, .aload_n 0, 1, 0), (45, .iconst 0, 1, 0), (46, .putfield 62, 3, 0), (49, .return_, 1, 0)]
set_option maxRecDepth 100000 in
theorem s_d3 : s_dec prog_4_method_2_code s_t3 := by unfold s_dec; decide +kernel
-- java/util/Arrays.fill([II)V
def s_t4 : List (Nat × Instr × Nat × Nat) := [(0, .iconst 0, 1, 0), (1, .istore_n 2, 1, 0), (2, .aload_n 0, 1, 0), (3, .arraylength, 1, 0), (4, .istore_n 3, 1, 0), (5, .iload_n 2, 1, 0), (6, .iload_n 3, 1, 0), (7, .if_icmp .ge 13, 3, 20), (10, .aload_n 0, 1, 0), (11, .iload_n 2, 1, 0), (12, .iload_n 1, 1, 0), (13, .iastore, 1, 0), (14, .iinc 2 1, 3, 0), (17, .goto (-12), 3, 5), (20, .return_, 1, 0)]
set_option maxRecDepth 100000 in
theorem s_d4 : s_dec prog_30_method_103_code s_t4 := by unfold s_dec; decide +kernel
-- CampAshes$State.<init>(LCampAshes$Camp;)V
def s_t5 : List (Nat × Instr × Nat × Nat) := [(0, .aload_n 0, 1, 0), (1, .invokespecial 3, 3, 0), (4, .aload_n 0, 1, 0), (5, .bipush 70, 2, 0), (7, .newarray .int, 2, 0), (9, .putfield 9, 3, 0), (12, .aload_n 0, 1, 0), (13, .bipush 7, 2, 0), (15, .newarray .int, 2, 0), (17, .putfield 15, 3, 0), (20, .aload_n 0, 1, 0), (21, .iconst 4, 1, 0), (22, .newarray .int, 2, 0), (24, .putfield 18, 3, 0), (27, .aload_n 0, 1, 0), (28, .bipush 7, 2, 0), (30, .newarray .int, 2, 0), (32, .putfield 21, 3, 0), (35, .aload_n 0, 1, 0), (36, .aload_n 1, 1, 0), (37, .putfield 24, 3, 0), (40, .return_, 1, 0)]
set_option maxRecDepth 100000 in
theorem s_d5 : s_dec prog_10_method_1_code s_t5 := by unfold s_dec; decide +kernel
-- CampAshes$Sentence.<init>()V
def s_t6 : List (Nat × Instr × Nat × Nat) := [(0, .aload_n 0, 1, 0), (1, .invokespecial 3, 3, 0), (4, .aload_n 0, 1, 0), (5, .bipush 40, 2, 0), (7, .anewarray 11, 3, 0), (10, .putfield 13, 3, 0), (13, .aload_n 0, 1, 0), (14, .bipush 40, 2, 0), (16, .newarray .int, 2, 0), (18, .putfield 17, 3, 0), (21, .aload_n 0, 1, 0), (22, .bipush 40, 2, 0), (24, .newarray .int, 2, 0), (26, .putfield 21, 3, 0), (29, .aload_n 0, 1, 0), (30, .bipush 40, 2, 0), (32, .newarray .int, 2, 0), (34, .putfield 24, 3, 0), (37, .return_, 1, 0)]
set_option maxRecDepth 100000 in
theorem s_d6 : s_dec prog_9_method_1_code s_t6 := by unfold s_dec; decide +kernel
-- CampAshes$Book.<init>()V
def s_t7 : List (Nat × Instr × Nat × Nat) := [(0, .aload_n 0, 1, 0), (1, .invokespecial 3, 3, 0), (4, .aload_n 0, 1, 0), (5, .bipush 40, 2, 0), (7, .newarray .int, 2, 0), (9, .putfield 9, 3, 0), (12, .aload_n 0, 1, 0), (13, .bipush 40, 2, 0), (15, .newarray .int, 2, 0), (17, .putfield 15, 3, 0), (20, .aload_n 0, 1, 0), (21, .bipush 40, 2, 0), (23, .newarray .int, 2, 0), (25, .putfield 18, 3, 0), (28, .aload_n 0, 1, 0), (29, .bipush 40, 2, 0), (31, .newarray .int, 2, 0), (33, .putfield 21, 3, 0), (36, .aload_n 0, 1, 0), (37, .bipush 40, 2, 0), (39, .newarray .int, 2, 0), (41, .putfield 24, 3, 0), (44, .return_, 1, 0)]
set_option maxRecDepth 100000 in
theorem s_d7 : s_dec prog_3_method_1_code s_t7 := by unfold s_dec; decide +kernel
-- CampAshes$History.<init>(LCampAshes$Camp;)V
def s_t8 : List (Nat × Instr × Nat × Nat) := [(0, .aload_n 0, 1, 0), (1, .invokespecial 3, 3, 0), (4, .aload_n 0, 1, 0), (5, .bipush 8, 2, 0), (7, .anewarray 9, 3, 0), (10, .putfield 11, 3, 0), (13, .iconst 0, 1, 0), (14, .istore_n 2, 1, 0), (15, .iload_n 2, 1, 0), (16, .bipush 8, 2, 0), (18, .if_icmp .ge 23, 3, 41), (21, .aload_n 0, 1, 0), (22, .getfield 11, 3, 0), (25, .iload_n 2, 1, 0), (26, .new 9, 3, 0), (29, .dup, 1, 0), (30, .aload_n 1, 1, 0), (31, .invokespecial 17, 3, 0), (34, .aastore, 1, 0), (35, .iinc 2 1, 3, 0), (38, .goto (-23), 3, 15), (41, .return_, 1, 0)]
set_option maxRecDepth 100000 in
theorem s_d8 : s_dec prog_6_method_1_code s_t8 := by unfold s_dec; decide +kernel
-- CampAshes$Image.<init>()V
def s_t9 : List (Nat × Instr × Nat × Nat) := [(0, .aload_n 0, 1, 0), (1, .invokespecial 1, 3, 0), (4, .aload_n 0, 1, 0), (5, .new 7, 3, 0), (8, .dup, 1, 0), (9, .invokespecial 9, 3, 0), (12, .putfield 10, 3, 0), (15, .aload_n 0, 1, 0), (16, .new 16, 3, 0), (19, .dup, 1, 0), (20, .aload_n 0, 1, 0), (21, .getfield 10, 3, 0), (24, .invokespecial 18, 3, 0), (27, .putfield 21, 3, 0), (30, .aload_n 0, 1, 0), (31, .new 25, 3, 0), (34, .dup, 1, 0), (35, .invokespecial 27, 3, 0), (38, .putfield 28, 3, 0), (41, .return_, 1, 0)]
set_option maxRecDepth 100000 in
theorem s_d9 : s_dec prog_7_method_1_code s_t9 := by unfold s_dec; decide +kernel
-- CampAshes$Advice.<init>()V
def s_t10 : List (Nat × Instr × Nat × Nat) := [(0, .aload_n 0, 1, 0), (1, .invokespecial 3, 3, 0), (4, .aload_n 0, 1, 0), (5, .bipush 7, 2, 0), (7, .newarray .int, 2, 0), (9, .putfield 9, 3, 0), (12, .aload_n 0, 1, 0), (13, .bipush 7, 2, 0), (15, .newarray .int, 2, 0), (17, .putfield 15, 3, 0), (20, .aload_n 0, 1, 0), (21, .iconst (-1), 1, 0), (22, .putfield 18, 3, 0), (25, .aload_n 0, 1, 0), (26, .bipush 7, 2, 0), (28, .newarray .int, 2, 0), (30, .putfield 22, 3, 0), (33, .aload_n 0, 1, 0), (34, .sipush 128, 3, 0), (37, .newarray .int, 2, 0), (39, .putfield 25, 3, 0), (42, .return_, 1, 0)]
set_option maxRecDepth 100000 in
theorem s_d10 : s_dec prog_2_method_1_code s_t10 := by unfold s_dec; decide +kernel
-- CampAshes$Laws.<init>()V
def s_t11 : List (Nat × Instr × Nat × Nat) := [(0, .aload_n 0, 1, 0), (1, .invokespecial 3, 3, 0), (4, .return_, 1, 0)]
set_option maxRecDepth 100000 in
theorem s_d11 : s_dec prog_8_method_1_code s_t11 := by unfold s_dec; decide +kernel
-- CampAshes$Draws.<init>()V
def s_t12 : List (Nat × Instr × Nat × Nat) := [(0, .aload_n 0, 1, 0), (1, .invokespecial 1, 3, 0), (4, .return_, 1, 0)]
set_option maxRecDepth 100000 in
theorem s_d12 : s_dec prog_5_method_1_code s_t12 := by unfold s_dec; decide +kernel
-- CampAshes$State.begin()V
def s_t13 : List (Nat × Instr × Nat × Nat) := [(0, .aload_n 0, 1, 0), (1, .getfield 9, 3, 0), (4, .iconst 0, 1, 0), (5, .invokestatic 28, 3, 0), (8, .aload_n 0, 1, 0), (9, .getfield 15, 3, 0), (12, .iconst 0, 1, 0), (13, .invokestatic 28, 3, 0), (16, .aload_n 0, 1, 0), (17, .getfield 18, 3, 0), (20, .iconst 0, 1, 0), (21, .invokestatic 28, 3, 0), (24, .aload_n 0, 1, 0), (25, .getfield 21, 3, 0), (28, .iconst 0, 1, 0), (29, .invokestatic 28, 3, 0), (32, .aload_n 0, 1, 0), (33, .iconst 0, 1, 0), (34, .putfield 34, 3, 0), (37, .aload_n 0, 1, 0), (38, .aload_n 0, 1, 0), (39, .getfield 24, 3, 0), (42, .getfield 38, 3, 0), (45, .putfield 43, 3, 0), (48, .aload_n 0, 1, 0), (49, .aload_n 0, 1, 0), (50, .getfield 24, 3, 0), (53, .getfield 46, 3, 0), (56, .putfield 49, 3, 0), (59, .aload_n 0, 1, 0), (60, .iconst 0, 1, 0), (61, .putfield 52, 3, 0), (64, .aload_n 0, 1, 0), (65, .iconst 0, 1, 0), (66, .putfield 55, 3, 0), (69, .iconst 0, 1, 0), (70, .istore_n 1, 1, 0), (71, .iload_n 1, 1, 0), (72, .aload_n 0, 1, 0), (73, .getfield 24, 3, 0), (76, .getfield 58, 3, 0), (79, .if_icmp .ge 32, 3, 111), (82, .aload_n 0, 1, 0), (83, .iload_n 1, 1, 0), (84, .aload_n 0, 1, 0), (85, .getfield 24, 3, 0), (88, .getfield 61, 3, 0), (91, .iload_n 1, 1, 0), (92, .iaload, 1, 0), (93, .aload_n 0, 1, 0), (94, .getfield 24, 3, 0), (97, .getfield 64, 3, 0), (100, .iload_n 1, 1, 0), (101, .iaload, 1, 0), (102, .invokevirtual 67, 3, 0), (105, .iinc 1 1, 3, 0), (108, .goto (-37), 3, 71), (111, .return_, 1, 0)]
set_option maxRecDepth 100000 in
theorem s_d13 : s_dec prog_10_method_2_code s_t13 := by unfold s_dec; decide +kernel
-- CampAshes$State.putOn(III)V
def s_t14 : List (Nat × Instr × Nat × Nat) := [(0, .aload_n 0, 1, 0), (1, .getfield 9, 3, 0), (4, .iload_n 1, 1, 0), (5, .bipush 7, 2, 0), (7, .imul, 1, 0), (8, .iload_n 2, 1, 0), (9, .iadd, 1, 0), (10, .dup2, 1, 0), (11, .iaload, 1, 0), (12, .iload_n 3, 1, 0), (13, .iadd, 1, 0), (14, .iastore, 1, 0), (15, .aload_n 0, 1, 0), (16, .getfield 15, 3, 0), (19, .iload_n 2, 1, 0), (20, .dup2, 1, 0), (21, .iaload, 1, 0), (22, .iload_n 3, 1, 0), (23, .iadd, 1, 0), (24, .iastore, 1, 0), (25, .return_, 1, 0)]
set_option maxRecDepth 100000 in
theorem s_d14 : s_dec prog_10_method_5_code s_t14 := by unfold s_dec; decide +kernel
-- CampAshes.feed(IIIII)I
def s_t15 : List (Nat × Instr × Nat × Nat) := [(0, .aload_n 0, 1, 0), (1, .getfield 10, 3, 0), (4, .getfield 97, 3, 0), (7, .bipush 20, 2, 0), (9, .iadd, 1, 0), (10, .sipush 940, 3, 0), (13, .if_icmp .le 5, 3, 18), (16, .iconst (-1), 1, 0), (17, .ireturn, 1, 0), (18, .aload_n 0, 1, 0), (19, .getfield 10, 3, 0), (22, .iload_n 1, 1, 0), (23, .invokevirtual 101, 3, 0), (26, .aload_n 0, 1, 0), (27, .getfield 10, 3, 0), (30, .iload_n 2, 1, 0), (31, .invokevirtual 101, 3, 0), (34, .aload_n 0, 1, 0), (35, .getfield 10, 3, 0), (38, .iload_n 3, 1, 0), (39, .invokevirtual 101, 3, 0), (42, .aload_n 0, 1, 0), (43, .getfield 10, 3, 0), (46, .iload 4, 2, 0), (48, .invokevirtual 101, 3, 0), (51, .aload_n 0, 1, 0), (52, .getfield 10, 3, 0), (55, .iload 5, 2, 0), (57, .invokevirtual 101, 3, 0), (60, .aload_n 0, 1, 0), (61, .getfield 10, 3, 0), (64, .getfield 97, 3, 0), (67, .ireturn, 1, 0)]
set_option maxRecDepth 100000 in
theorem s_d15 : s_dec prog_1_method_2_code s_t15 := by unfold s_dec; decide +kernel
-- CampAshes$Tape.putNumber(I)V
def s_t16 : List (Nat × Instr × Nat × Nat) := [(0, .bipush 24, 2, 0), (2, .istore_n 2, 1, 0), (3, .iload_n 2, 1, 0), (4, .ifCond .lt 42, 3, 46), (7, .aload_n 0, 1, 0), (8, .getfield 15, 3, 0), (11, .sipush 940, 3, 0), (14, .if_icmp .ge 32, 3, 46), (17, .aload_n 0, 1, 0), (18, .getfield 9, 3, 0), (21, .aload_n 0, 1, 0), (22, .getfield 15, 3, 0), (25, .iload_n 1, 1, 0), (26, .iload_n 2, 1, 0), (27, .ishr, 1, 0), (28, .i2b, 1, 0), (29, .bastore, 1, 0), (30, .aload_n 0, 1, 0), (31, .dup, 1, 0), (32, .getfield 15, 3, 0), (35, .iconst 1, 1, 0), (36, .iadd, 1, 0), (37, .putfield 15, 3, 0), (40, .iinc 2 (-8), 3, 0), (43, .goto (-40), 3, 3), (46, .return_, 1, 0)]
set_option maxRecDepth 100000 in
theorem s_d16 : s_dec prog_11_method_2_code s_t16 := by unfold s_dec; decide +kernel
-- CampAshes.end(I)Z
def s_t17 : List (Nat × Instr × Nat × Nat) := [(0, .iload_n 1, 1, 0), (1, .ifCond .lt 14, 3, 15), (4, .iload_n 1, 1, 0), (5, .aload_n 0, 1, 0), (6, .getfield 10, 3, 0), (9, .getfield 97, 3, 0), (12, .if_icmp .le 5, 3, 17), (15, .iconst 0, 1, 0), (16, .ireturn, 1, 0), (17, .aload_n 0, 1, 0), (18, .getfield 10, 3, 0), (21, .iload_n 1, 1, 0), (22, .putfield 97, 3, 0), (25, .iconst 1, 1, 0), (26, .ireturn, 1, 0)]
set_option maxRecDepth 100000 in
theorem s_d17 : s_dec prog_1_method_3_code s_t17 := by unfold s_dec; decide +kernel
-- CampAshes.camp()I
def s_t18 : List (Nat × Instr × Nat × Nat) := [(0, .aload_n 0, 1, 0), (1, .getfield 10, 3, 0), (4, .sipush 900, 3, 0), (7, .invokevirtual 105, 3, 0), (10, .aload_n 0, 1, 0), (11, .getfield 23, 3, 0), (14, .aload_n 0, 1, 0), (15, .getfield 10, 3, 0), (18, .invokevirtual 108, 3, 0), (21, .istore_n 1, 1, 0), (22, .aload_n 0, 1, 0), (23, .aload_n 0, 1, 0), (24, .getfield 10, 3, 0), (27, .getfield 112, 3, 0), (30, .putfield 115, 3, 0), (33, .iload_n 1, 1, 0), (34, .iconst (-1), 1, 0), (35, .if_icmp .ne 13, 3, 48), (38, .iconst (-1), 1, 0), (39, .aload_n 0, 1, 0), (40, .getfield 10, 3, 0), (43, .getfield 116, 3, 0), (46, .isub, 1, 0), (47, .ireturn, 1, 0), (48, .aload_n 0, 1, 0), (49, .getfield 19, 3, 0), (52, .aload_n 0, 1, 0), (53, .getfield 23, 3, 0), (56, .invokevirtual 119, 3, 0), (59, .aload_n 0, 1, 0), (60, .getfield 31, 3, 0), (63, .invokevirtual 94, 3, 0), (66, .aload_n 0, 1, 0), (67, .getfield 41, 3, 0), (70, .invokevirtual 122, 3, 0), (73, .aload_n 0, 1, 0), (74, .getfield 58, 3, 0), (77, .invokevirtual 125, 3, 0), (80, .iload_n 1, 1, 0), (81, .ireturn, 1, 0)]
set_option maxRecDepth 100000 in
theorem s_d18 : s_dec prog_1_method_4_code s_t18 := by unfold s_dec; decide +kernel
-- CampAshes$Tape.startText(I)V
def s_t19 : List (Nat × Instr × Nat × Nat) := [(0, .aload_n 0, 1, 0), (1, .aload_n 0, 1, 0), (2, .getfield 15, 3, 0), (5, .putfield 19, 3, 0), (8, .aload_n 0, 1, 0), (9, .iconst 0, 1, 0), (10, .putfield 15, 3, 0), (13, .aload_n 0, 1, 0), (14, .iload_n 1, 1, 0), (15, .putfield 22, 3, 0), (18, .aload_n 0, 1, 0), (19, .iconst 0, 1, 0), (20, .putfield 25, 3, 0), (23, .aload_n 0, 1, 0), (24, .iconst 0, 1, 0), (25, .putfield 28, 3, 0), (28, .aload_n 0, 1, 0), (29, .iconst 0, 1, 0), (30, .putfield 31, 3, 0), (33, .aload_n 0, 1, 0), (34, .invokevirtual 34, 3, 0), (37, .return_, 1, 0)]
set_option maxRecDepth 100000 in
theorem s_d19 : s_dec prog_11_method_3_code s_t19 := by unfold s_dec; decide +kernel
-- CampAshes$Tape.next()V
def s_t20 : List (Nat × Instr × Nat × Nat) := [(0, .aload_n 0, 1, 0), (1, .getfield 19, 3, 0), (4, .aload_n 0, 1, 0), (5, .getfield 22, 3, 0), (8, .invokestatic 37, 3, 0), (11, .istore_n 1, 1, 0), (12, .aload_n 0, 1, 0), (13, .getfield 25, 3, 0), (16, .iload_n 1, 1, 0), (17, .if_icmp .ge 44, 3, 61), (20, .aload_n 0, 1, 0), (21, .getfield 9, 3, 0), (24, .aload_n 0, 1, 0), (25, .getfield 25, 3, 0), (28, .baload, 1, 0), (29, .bipush 32, 2, 0), (31, .if_icmp .eq 17, 3, 48), (34, .aload_n 0, 1, 0), (35, .getfield 9, 3, 0), (38, .aload_n 0, 1, 0), (39, .getfield 25, 3, 0), (42, .baload, 1, 0), (43, .bipush 10, 2, 0), (45, .if_icmp .ne 16, 3, 61), (48, .aload_n 0, 1, 0), (49, .dup, 1, 0), (50, .getfield 25, 3, 0), (53, .iconst 1, 1, 0), (54, .iadd, 1, 0), (55, .putfield 25, 3, 0), (58, .goto (-46), 3, 12), (61, .aload_n 0, 1, 0), (62, .aconst_null, 1, 0), (63, .putfield 43, 3, 0), (66, .aload_n 0, 1, 0), (67, .iconst 0, 1, 0), (68, .putfield 47, 3, 0), (71, .aload_n 0, 1, 0), (72, .lconst 0, 1, 0), (73, .putfield 50, 3, 0), (76, .aload_n 0, 1, 0), (77, .getfield 25, 3, 0), (80, .iload_n 1, 1, 0), (81, .if_icmp .lt 14, 3, 95), (84, .aload_n 0, 1, 0), (85, .iload_n 1, 1, 0), (86, .putfield 54, 3, 0), (89, .aload_n 0, 1, 0), (90, .iconst 0, 1, 0), (91, .putfield 57, 3, 0), (94, .return_, 1, 0), (95, .aload_n 0, 1, 0), (96, .aload_n 0, 1, 0), (97, .getfield 25, 3, 0), (100, .putfield 54, 3, 0), (103, .aload_n 0, 1, 0), (104, .invokevirtual 60, 3, 0), (107, .istore_n 2, 1, 0), (108, .aload_n 0, 1, 0), (109, .getfield 25, 3, 0), (112, .aload_n 0, 1, 0), (113, .getfield 54, 3, 0), (116, .isub, 1, 0), (117, .istore_n 3, 1, 0), (118, .iload_n 3, 1, 0), (119, .ifCond .ne 10, 3, 129), (122, .aload_n 0, 1, 0), (123, .invokevirtual 64, 3, 0), (126, .goto 62, 3, 188), (129, .iload_n 2, 1, 0), (130, .ifCond .ne 39, 3, 169), (133, .iload_n 3, 1, 0), (134, .bipush 7, 2, 0), (136, .if_icmp .gt 33, 3, 169), (139, .aload_n 0, 1, 0), (140, .aload_n 0, 1, 0), (141, .getfield 50, 3, 0), (144, .invokestatic 67, 3, 0), (147, .putfield 43, 3, 0), (150, .aload_n 0, 1, 0), (151, .aload_n 0, 1, 0), (152, .getfield 43, 3, 0), (155, .ifnonnull 7, 3, 162), (158, .iconst 3, 1, 0), (159, .goto 4, 3, 163), (162, .iconst 2, 1, 0), (163, .putfield 57, 3, 0), (166, .goto 22, 3, 188), (169, .aload_n 0, 1, 0), (170, .iload_n 2, 1, 0), (171, .iload_n 3, 1, 0), (172, .if_icmp .ne 12, 3, 184), (175, .iload_n 3, 1, 0), (176, .iconst 3, 1, 0), (177, .if_icmp .gt 7, 3, 184), (180, .iconst 4, 1, 0), (181, .goto 4, 3, 185), (184, .iconst 1, 1, 0), (185, .putfield 57, 3, 0), (188, .return_, 1, 0)]
set_option maxRecDepth 100000 in
theorem s_d20 : s_dec prog_11_method_4_code s_t20 := by unfold s_dec; decide +kernel
-- java/lang/Math.min(II)I
def s_t21 : List (Nat × Instr × Nat × Nat) := [(0, .iload_n 0, 1, 0), (1, .iload_n 1, 1, 0), (2, .if_icmp .gt 7, 3, 9), (5, .iload_n 0, 1, 0), (6, .goto 4, 3, 10), (9, .iload_n 1, 1, 0), (10, .ireturn, 1, 0)]
set_option maxRecDepth 100000 in
theorem s_d21 : s_dec prog_21_method_69_code s_t21 := by unfold s_dec; decide +kernel
end
section
-- CampAshes$Tape.readRun()I
def s_t22 : List (Nat × Instr × Nat × Nat) := [(0, .iconst 0, 1, 0), (1, .istore_n 1, 1, 0), (2, .aload_n 0, 1, 0), (3, .getfield 25, 3, 0), (6, .aload_n 0, 1, 0), (7, .getfield 19, 3, 0), (10, .if_icmp .ge 92, 3, 102), (13, .aload_n 0, 1, 0), (14, .getfield 9, 3, 0), (17, .aload_n 0, 1, 0), (18, .getfield 25, 3, 0), (21, .baload, 1, 0), (22, .istore_n 2, 1, 0), (23, .iload_n 2, 1, 0), (24, .bipush 97, 2, 0), (26, .if_icmp .lt 32, 3, 58), (29, .iload_n 2, 1, 0), (30, .bipush 122, 2, 0), (32, .if_icmp .gt 26, 3, 58), (35, .aload_n 0, 1, 0), (36, .aload_n 0, 1, 0), (37, .getfield 50, 3, 0), (40, .ldc2_w 73, 3, 0), (43, .lmul, 1, 0), (44, .iload_n 2, 1, 0), (45, .bipush 97, 2, 0), (47, .isub, 1, 0), (48, .iconst 1, 1, 0), (49, .iadd, 1, 0), (50, .i2l, 1, 0), (51, .ladd, 1, 0), (52, .putfield 50, 3, 0), (55, .goto 34, 3, 89), (58, .iload_n 2, 1, 0), (59, .bipush 48, 2, 0), (61, .if_icmp .lt 41, 3, 102), (64, .iload_n 2, 1, 0), (65, .bipush 57, 2, 0), (67, .if_icmp .gt 35, 3, 102), (70, .aload_n 0, 1, 0), (71, .aload_n 0, 1, 0), (72, .getfield 47, 3, 0), (75, .bipush 10, 2, 0), (77, .imul, 1, 0), (78, .iload_n 2, 1, 0), (79, .bipush 48, 2, 0), (81, .isub, 1, 0), (82, .iadd, 1, 0), (83, .putfield 47, 3, 0), (86, .iinc 1 1, 3, 0), (89, .aload_n 0, 1, 0), (90, .dup, 1, 0), (91, .getfield 25, 3, 0), (94, .iconst 1, 1, 0), (95, .iadd, 1, 0), (96, .putfield 25, 3, 0), (99, .goto (-97), 3, 2), (102, .iload_n 1, 1, 0), (103, .ireturn, 1, 0)]
set_option maxRecDepth 100000 in
theorem s_d22 : s_dec prog_11_method_5_code s_t22 := by unfold s_dec; decide +kernel
-- CampAshes$Tape.readSign()V
def s_t23 : List (Nat × Instr × Nat × Nat) := [(0, .aload_n 0, 1, 0), (1, .aload_n 0, 1, 0), (2, .getfield 9, 3, 0), (5, .aload_n 0, 1, 0), (6, .getfield 25, 3, 0), (9, .baload, 1, 0), (10, .putfield 47, 3, 0), (13, .aload_n 0, 1, 0), (14, .getfield 47, 3, 0), (17, .bipush 59, 2, 0), (19, .if_icmp .eq 48, 3, 67), (22, .aload_n 0, 1, 0), (23, .getfield 47, 3, 0), (26, .bipush 60, 2, 0), (28, .if_icmp .eq 39, 3, 67), (31, .aload_n 0, 1, 0), (32, .getfield 47, 3, 0), (35, .bipush 61, 2, 0), (37, .if_icmp .eq 30, 3, 67), (40, .aload_n 0, 1, 0), (41, .getfield 47, 3, 0), (44, .bipush 62, 2, 0), (46, .if_icmp .eq 21, 3, 67), (49, .aload_n 0, 1, 0), (50, .getfield 47, 3, 0), (53, .bipush 40, 2, 0), (55, .if_icmp .eq 12, 3, 67), (58, .aload_n 0, 1, 0), (59, .getfield 47, 3, 0), (62, .bipush 41, 2, 0), (64, .if_icmp .ne 7, 3, 71), (67, .iconst 1, 1, 0), (68, .goto 4, 3, 72), (71, .iconst 0, 1, 0), (72, .istore_n 1, 1, 0), (73, .aload_n 0, 1, 0), (74, .iload_n 1, 1, 0), (75, .ifCond .eq 7, 3, 82), (78, .iconst 5, 1, 0), (79, .goto 4, 3, 83), (82, .iconst 1, 1, 0), (83, .putfield 57, 3, 0), (86, .aload_n 0, 1, 0), (87, .dup, 1, 0), (88, .getfield 25, 3, 0), (91, .iconst 1, 1, 0), (92, .iadd, 1, 0), (93, .putfield 25, 3, 0), (96, .return_, 1, 0)]
set_option maxRecDepth 100000 in
theorem s_d23 : s_dec prog_11_method_6_code s_t23 := by unfold s_dec; decide +kernel
-- CampAshes$Word.spelt(J)LCampAshes$Word;
def s_t24 : List (Nat × Instr × Nat × Nat) := [(0, .getstatic 135, 3, 0), (3, .astore_n 2, 1, 0), (4, .aload_n 2, 1, 0), (5, .arraylength, 1, 0), (6, .istore_n 3, 1, 0), (7, .iconst 0, 1, 0), (8, .istore 4, 2, 0), (10, .iload 4, 2, 0), (12, .iload_n 3, 1, 0), (13, .if_icmp .ge 28, 3, 41), (16, .aload_n 2, 1, 0), (17, .iload 4, 2, 0), (19, .aaload, 1, 0), (20, .astore 5, 2, 0), (22, .aload 5, 2, 0), (24, .getfield 127, 3, 0), (27, .lload_n 0, 1, 0), (28, .lcmp, 1, 0), (29, .ifCond .ne 6, 3, 35), (32, .aload 5, 2, 0), (34, .areturn, 1, 0), (35, .iinc 4 1, 3, 0), (38, .goto (-28), 3, 10), (41, .aconst_null, 1, 0), (42, .areturn, 1, 0)]
set_option maxRecDepth 100000 in
theorem s_d24 : s_dec prog_12_method_5_code s_t24 := by unfold s_dec; decide +kernel
-- CampAshes$Camp.readText(LCampAshes$Tape;)I
def s_t25 : List (Nat × Instr × Nat × Nat) := [(0, .aload_n 0, 1, 0), (1, .invokevirtual 31, 3, 0), (4, .iconst 0, 1, 0), (5, .istore_n 2, 1, 0), (6, .iload_n 2, 1, 0), (7, .sipush 940, 3, 0), (10, .if_icmp .ge 37, 3, 47), (13, .aload_n 1, 1, 0), (14, .invokevirtual 71, 3, 0), (17, .ifCond .eq 5, 3, 22), (20, .iload_n 2, 1, 0), (21, .ireturn, 1, 0), (22, .aload_n 0, 1, 0), (23, .aload_n 1, 1, 0), (24, .invokevirtual 77, 3, 0), (27, .ifCond .eq 12, 3, 39), (30, .aload_n 1, 1, 0), (31, .bipush 59, 2, 0), (33, .invokevirtual 81, 3, 0), (36, .ifCond .ne 5, 3, 41), (39, .iconst (-1), 1, 0), (40, .ireturn, 1, 0), (41, .iinc 2 1, 3, 0), (44, .goto (-38), 3, 6), (47, .aload_n 1, 1, 0), (48, .iconst 1, 1, 0), (49, .invokevirtual 85, 3, 0), (52, .pop, 1, 0), (53, .iconst (-1), 1, 0), (54, .ireturn, 1, 0)]
set_option maxRecDepth 100000 in
theorem s_d25 : s_dec prog_4_method_8_code s_t25 := by unfold s_dec; decide +kernel
-- CampAshes$Tape.hasEnded()Z
def s_t26 : List (Nat × Instr × Nat × Nat) := [(0, .aload_n 0, 1, 0), (1, .getfield 57, 3, 0), (4, .ifCond .ne 18, 3, 22), (7, .aload_n 0, 1, 0), (8, .getfield 19, 3, 0), (11, .aload_n 0, 1, 0), (12, .getfield 22, 3, 0), (15, .if_icmp .gt 7, 3, 22), (18, .iconst 1, 1, 0), (19, .goto 4, 3, 23), (22, .iconst 0, 1, 0), (23, .ireturn, 1, 0)]
set_option maxRecDepth 100000 in
theorem s_d26 : s_dec prog_11_method_7_code s_t26 := by unfold s_dec; decide +kernel
-- CampAshes$Camp.readLine(LCampAshes$Tape;)Z
def s_t27 : List (Nat × Instr × Nat × Nat) := [(0, .aload_n 1, 1, 0), (1, .getstatic 89, 3, 0), (4, .invokevirtual 95, 3, 0), (7, .ifCond .eq 9, 3, 16), (10, .aload_n 0, 1, 0), (11, .aload_n 1, 1, 0), (12, .invokevirtual 99, 3, 0), (15, .ireturn, 1, 0), (16, .aload_n 1, 1, 0), (17, .getstatic 102, 3, 0), (20, .invokevirtual 95, 3, 0), (23, .ifCond .eq 9, 3, 32), (26, .aload_n 0, 1, 0), (27, .aload_n 1, 1, 0), (28, .invokevirtual 105, 3, 0), (31, .ireturn, 1, 0), (32, .aload_n 1, 1, 0), (33, .getstatic 108, 3, 0), (36, .invokevirtual 95, 3, 0), (39, .ifCond .eq 9, 3, 48), (42, .aload_n 0, 1, 0), (43, .aload_n 1, 1, 0), (44, .invokevirtual 111, 3, 0), (47, .ireturn, 1, 0), (48, .aload_n 0, 1, 0), (49, .aload_n 1, 1, 0), (50, .invokevirtual 114, 3, 0), (53, .ireturn, 1, 0)]
set_option maxRecDepth 100000 in
theorem s_d27 : s_dec prog_4_method_9_code s_t27 := by unfold s_dec; decide +kernel
-- CampAshes$Tape.isWord(LCampAshes$Word;)Z
def s_t28 : List (Nat × Instr × Nat × Nat) := [(0, .aload_n 0, 1, 0), (1, .getfield 57, 3, 0), (4, .iconst 2, 1, 0), (5, .if_icmp .ne 15, 3, 20), (8, .aload_n 0, 1, 0), (9, .getfield 43, 3, 0), (12, .aload_n 1, 1, 0), (13, .if_acmp .ne 7, 3, 20), (16, .iconst 1, 1, 0), (17, .goto 4, 3, 21), (20, .iconst 0, 1, 0), (21, .ireturn, 1, 0)]
set_option maxRecDepth 100000 in
theorem s_d28 : s_dec prog_11_method_8_code s_t28 := by unfold s_dec; decide +kernel
-- CampAshes$Camp.readBoy(LCampAshes$Tape;)Z
def s_t29 : List (Nat × Instr × Nat × Nat) := [(0, .aload_n 0, 1, 0), (1, .getfield 34, 3, 0), (4, .bipush 7, 2, 0), (6, .if_icmp .lt 9, 3, 15), (9, .aload_n 1, 1, 0), (10, .iconst 4, 1, 0), (11, .invokevirtual 85, 3, 0), (14, .ireturn, 1, 0), (15, .aload_n 1, 1, 0), (16, .invokevirtual 117, 3, 0), (19, .aload_n 0, 1, 0), (20, .aload_n 1, 1, 0), (21, .invokevirtual 120, 3, 0), (24, .ifCond .ne 5, 3, 29), (27, .iconst 0, 1, 0), (28, .ireturn, 1, 0), (29, .aload_n 0, 1, 0), (30, .getfield 9, 3, 0), (33, .aload_n 0, 1, 0), (34, .getfield 34, 3, 0), (37, .aload_n 1, 1, 0), (38, .getfield 123, 3, 0), (41, .lastore, 1, 0), (42, .aload_n 1, 1, 0), (43, .invokevirtual 117, 3, 0), (46, .aload_n 1, 1, 0), (47, .iconst 1, 1, 0), (48, .bipush 60, 2, 0), (50, .invokevirtual 127, 3, 0), (53, .istore_n 2, 1, 0), (54, .iload_n 2, 1, 0), (55, .iconst (-1), 1, 0), (56, .if_icmp .ne 5, 3, 61), (59, .iconst 0, 1, 0), (60, .ireturn, 1, 0), (61, .aload_n 0, 1, 0), (62, .getfield 15, 3, 0), (65, .aload_n 0, 1, 0), (66, .getfield 34, 3, 0), (69, .iload_n 2, 1, 0), (70, .iastore, 1, 0), (71, .aload_n 0, 1, 0), (72, .dup, 1, 0), (73, .getfield 34, 3, 0), (76, .iconst 1, 1, 0), (77, .iadd, 1, 0), (78, .putfield 34, 3, 0), (81, .iconst 1, 1, 0), (82, .ireturn, 1, 0)]
set_option maxRecDepth 100000 in
theorem s_d29 : s_dec prog_4_method_10_code s_t29 := by unfold s_dec; decide +kernel
-- CampAshes$Tape.fail(I)Z
def s_t30 : List (Nat × Instr × Nat × Nat) := [(0, .aload_n 0, 1, 0), (1, .iload_n 1, 1, 0), (2, .putfield 28, 3, 0), (5, .aload_n 0, 1, 0), (6, .aload_n 0, 1, 0), (7, .getfield 54, 3, 0), (10, .putfield 31, 3, 0), (13, .iconst 0, 1, 0), (14, .ireturn, 1, 0)]
set_option maxRecDepth 100000 in
theorem s_d30 : s_dec prog_11_method_10_code s_t30 := by unfold s_dec; decide +kernel
-- CampAshes$Camp.isNewName(LCampAshes$Tape;)Z
def s_t31 : List (Nat × Instr × Nat × Nat) := [(0, .aload_n 1, 1, 0), (1, .getfield 164, 3, 0), (4, .iconst 3, 1, 0), (5, .if_icmp .eq 9, 3, 14), (8, .aload_n 1, 1, 0), (9, .iconst 1, 1, 0), (10, .invokevirtual 85, 3, 0), (13, .ireturn, 1, 0), (14, .aload_n 0, 1, 0), (15, .aload_n 1, 1, 0), (16, .getfield 123, 3, 0), (19, .invokevirtual 131, 3, 0), (22, .iconst (-1), 1, 0), (23, .if_icmp .ne 15, 3, 38), (26, .aload_n 0, 1, 0), (27, .aload_n 1, 1, 0), (28, .getfield 123, 3, 0), (31, .invokevirtual 167, 3, 0), (34, .iconst (-1), 1, 0), (35, .if_icmp .eq 9, 3, 44), (38, .aload_n 1, 1, 0), (39, .iconst 3, 1, 0), (40, .invokevirtual 85, 3, 0), (43, .ireturn, 1, 0), (44, .iconst 1, 1, 0), (45, .ireturn, 1, 0)]
set_option maxRecDepth 100000 in
theorem s_d31 : s_dec prog_4_method_15_code s_t31 := by unfold s_dec; decide +kernel
-- CampAshes$Camp.boyNamed(J)I
def s_t32 : List (Nat × Instr × Nat × Nat) := [(0, .iconst 0, 1, 0), (1, .istore_n 3, 1, 0), (2, .iload_n 3, 1, 0), (3, .aload_n 0, 1, 0), (4, .getfield 34, 3, 0), (7, .if_icmp .ge 22, 3, 29), (10, .aload_n 0, 1, 0), (11, .getfield 9, 3, 0), (14, .iload_n 3, 1, 0), (15, .laload, 1, 0), (16, .lload_n 1, 1, 0), (17, .lcmp, 1, 0), (18, .ifCond .ne 5, 3, 23), (21, .iload_n 3, 1, 0), (22, .ireturn, 1, 0), (23, .iinc 3 1, 3, 0), (26, .goto (-24), 3, 2), (29, .iconst (-1), 1, 0), (30, .ireturn, 1, 0)]
set_option maxRecDepth 100000 in
theorem s_d32 : s_dec prog_4_method_6_code s_t32 := by unfold s_dec; decide +kernel
-- CampAshes$Camp.eventNamed(J)I
def s_t33 : List (Nat × Instr × Nat × Nat) := [(0, .iconst 0, 1, 0), (1, .istore_n 3, 1, 0), (2, .iload_n 3, 1, 0), (3, .aload_n 0, 1, 0), (4, .getfield 38, 3, 0), (7, .if_icmp .ge 25, 3, 32), (10, .aload_n 0, 1, 0), (11, .getfield 9, 3, 0), (14, .bipush 7, 2, 0), (16, .iload_n 3, 1, 0), (17, .iadd, 1, 0), (18, .laload, 1, 0), (19, .lload_n 1, 1, 0), (20, .lcmp, 1, 0), (21, .ifCond .ne 5, 3, 26), (24, .iload_n 3, 1, 0), (25, .ireturn, 1, 0), (26, .iinc 3 1, 3, 0), (29, .goto (-27), 3, 2), (32, .iconst (-1), 1, 0), (33, .ireturn, 1, 0)]
set_option maxRecDepth 100000 in
theorem s_d33 : s_dec prog_4_method_7_code s_t33 := by unfold s_dec; decide +kernel
-- CampAshes$Tape.passNumber(II)I
def s_t34 : List (Nat × Instr × Nat × Nat) := [(0, .aload_n 0, 1, 0), (1, .getfield 57, 3, 0), (4, .iconst 4, 1, 0), (5, .if_icmp .eq 11, 3, 16), (8, .aload_n 0, 1, 0), (9, .iconst 1, 1, 0), (10, .invokevirtual 79, 3, 0), (13, .pop, 1, 0), (14, .iconst (-1), 1, 0), (15, .ireturn, 1, 0), (16, .aload_n 0, 1, 0), (17, .getfield 47, 3, 0), (20, .iload_n 1, 1, 0), (21, .if_icmp .lt 11, 3, 32), (24, .aload_n 0, 1, 0), (25, .getfield 47, 3, 0), (28, .iload_n 2, 1, 0), (29, .if_icmp .le 11, 3, 40), (32, .aload_n 0, 1, 0), (33, .iconst 2, 1, 0), (34, .invokevirtual 79, 3, 0), (37, .pop, 1, 0), (38, .iconst (-1), 1, 0), (39, .ireturn, 1, 0), (40, .aload_n 0, 1, 0), (41, .getfield 47, 3, 0), (44, .istore_n 3, 1, 0), (45, .aload_n 0, 1, 0), (46, .invokevirtual 34, 3, 0), (49, .iload_n 3, 1, 0), (50, .ireturn, 1, 0)]
set_option maxRecDepth 100000 in
theorem s_d34 : s_dec prog_11_method_12_code s_t34 := by unfold s_dec; decide +kernel
-- CampAshes$Camp.readEvent(LCampAshes$Tape;)Z
def s_t35 : List (Nat × Instr × Nat × Nat) := [(0, .aload_n 0, 1, 0), (1, .getfield 38, 3, 0), (4, .bipush 10, 2, 0), (6, .if_icmp .lt 9, 3, 15), (9, .aload_n 1, 1, 0), (10, .iconst 4, 1, 0), (11, .invokevirtual 85, 3, 0), (14, .ireturn, 1, 0), (15, .aload_n 1, 1, 0), (16, .invokevirtual 117, 3, 0), (19, .aload_n 0, 1, 0), (20, .aload_n 1, 1, 0), (21, .invokevirtual 120, 3, 0), (24, .ifCond .ne 5, 3, 29), (27, .iconst 0, 1, 0), (28, .ireturn, 1, 0), (29, .aload_n 0, 1, 0), (30, .getfield 9, 3, 0), (33, .bipush 7, 2, 0), (35, .aload_n 0, 1, 0), (36, .getfield 38, 3, 0), (39, .iadd, 1, 0), (40, .aload_n 1, 1, 0), (41, .getfield 123, 3, 0), (44, .lastore, 1, 0), (45, .aload_n 1, 1, 0), (46, .invokevirtual 117, 3, 0), (49, .aload_n 1, 1, 0), (50, .aload_n 0, 1, 0), (51, .aload_n 1, 1, 0), (52, .getfield 123, 3, 0), (55, .invokevirtual 131, 3, 0), (58, .invokevirtual 135, 3, 0), (61, .istore_n 2, 1, 0), (62, .iload_n 2, 1, 0), (63, .iconst (-1), 1, 0), (64, .if_icmp .eq 10, 3, 74), (67, .aload_n 1, 1, 0), (68, .invokestatic 139, 3, 0), (71, .ifCond .ne 5, 3, 76), (74, .iconst 0, 1, 0), (75, .ireturn, 1, 0), (76, .aload_n 1, 1, 0), (77, .getfield 142, 3, 0), (80, .getfield 145, 3, 0), (83, .istore_n 3, 1, 0), (84, .aload_n 1, 1, 0), (85, .invokevirtual 117, 3, 0), (88, .aload_n 1, 1, 0), (89, .iconst 1, 1, 0), (90, .bipush 40, 2, 0), (92, .invokevirtual 127, 3, 0), (95, .istore 4, 2, 0), (97, .iload 4, 2, 0), (99, .iconst (-1), 1, 0), (100, .if_icmp .ne 5, 3, 105), (103, .iconst 0, 1, 0), (104, .ireturn, 1, 0), (105, .aload_n 0, 1, 0), (106, .getfield 19, 3, 0), (109, .aload_n 0, 1, 0), (110, .getfield 38, 3, 0), (113, .iload_n 2, 1, 0), (114, .iastore, 1, 0), (115, .aload_n 0, 1, 0), (116, .getfield 22, 3, 0), (119, .aload_n 0, 1, 0), (120, .getfield 38, 3, 0), (123, .iload_n 3, 1, 0), (124, .iastore, 1, 0), (125, .aload_n 0, 1, 0), (126, .getfield 25, 3, 0), (129, .aload_n 0, 1, 0), (130, .getfield 38, 3, 0), (133, .iload 4, 2, 0), (135, .iastore, 1, 0), (136, .aload_n 0, 1, 0), (137, .dup, 1, 0), (138, .getfield 38, 3, 0), (141, .iconst 1, 1, 0), (142, .iadd, 1, 0), (143, .putfield 38, 3, 0), (146, .iconst 1, 1, 0), (147, .ireturn, 1, 0)]
set_option maxRecDepth 100000 in
theorem s_d35 : s_dec prog_4_method_11_code s_t35 := by unfold s_dec; decide +kernel
-- CampAshes$Tape.passNamed(I)I
def s_t36 : List (Nat × Instr × Nat × Nat) := [(0, .aload_n 0, 1, 0), (1, .getfield 57, 3, 0), (4, .iconst 3, 1, 0), (5, .if_icmp .eq 11, 3, 16), (8, .aload_n 0, 1, 0), (9, .iconst 1, 1, 0), (10, .invokevirtual 79, 3, 0), (13, .pop, 1, 0), (14, .iconst (-1), 1, 0), (15, .ireturn, 1, 0), (16, .iload_n 1, 1, 0), (17, .iconst (-1), 1, 0), (18, .if_icmp .ne 11, 3, 29), (21, .aload_n 0, 1, 0), (22, .iconst 3, 1, 0), (23, .invokevirtual 79, 3, 0), (26, .pop, 1, 0), (27, .iconst (-1), 1, 0), (28, .ireturn, 1, 0), (29, .aload_n 0, 1, 0), (30, .invokevirtual 34, 3, 0), (33, .iload_n 1, 1, 0), (34, .ireturn, 1, 0)]
set_option maxRecDepth 100000 in
theorem s_d36 : s_dec prog_11_method_13_code s_t36 := by unfold s_dec; decide +kernel
-- CampAshes$Camp.isKind(LCampAshes$Tape;)Z
def s_t37 : List (Nat × Instr × Nat × Nat) := [(0, .aload_n 0, 1, 0), (1, .getfield 142, 3, 0), (4, .ifnull 14, 3, 18), (7, .aload_n 0, 1, 0), (8, .getfield 142, 3, 0), (11, .getfield 145, 3, 0), (14, .iconst (-1), 1, 0), (15, .if_icmp .ne 9, 3, 24), (18, .aload_n 0, 1, 0), (19, .iconst 1, 1, 0), (20, .invokevirtual 85, 3, 0), (23, .ireturn, 1, 0), (24, .iconst 1, 1, 0), (25, .ireturn, 1, 0)]
set_option maxRecDepth 100000 in
theorem s_d37 : s_dec prog_4_method_16_code s_t37 := by unfold s_dec; decide +kernel
-- CampAshes$Camp.readTakes(LCampAshes$Tape;)Z
def s_t38 : List (Nat × Instr × Nat × Nat) := [(0, .aload_n 1, 1, 0), (1, .invokevirtual 117, 3, 0), (4, .aload_n 1, 1, 0), (5, .invokestatic 139, 3, 0), (8, .ifCond .ne 5, 3, 13), (11, .iconst 0, 1, 0), (12, .ireturn, 1, 0), (13, .aload_n 1, 1, 0), (14, .getfield 142, 3, 0), (17, .getfield 145, 3, 0), (20, .istore_n 2, 1, 0), (21, .aload_n 0, 1, 0), (22, .getfield 59, 3, 0), (25, .iload_n 2, 1, 0), (26, .ishr, 1, 0), (27, .iconst 1, 1, 0), (28, .iand, 1, 0), (29, .iconst 1, 1, 0), (30, .if_icmp .ne 9, 3, 39), (33, .aload_n 1, 1, 0), (34, .iconst 3, 1, 0), (35, .invokevirtual 85, 3, 0), (38, .ireturn, 1, 0), (39, .aload_n 1, 1, 0), (40, .invokevirtual 117, 3, 0), (43, .aload_n 1, 1, 0), (44, .iconst 0, 1, 0), (45, .bipush 9, 2, 0), (47, .invokevirtual 127, 3, 0), (50, .istore_n 3, 1, 0), (51, .iload_n 3, 1, 0), (52, .iconst (-1), 1, 0), (53, .if_icmp .ne 5, 3, 58), (56, .iconst 0, 1, 0), (57, .ireturn, 1, 0), (58, .aload_n 0, 1, 0), (59, .getfield 28, 3, 0), (62, .iload_n 2, 1, 0), (63, .iload_n 3, 1, 0), (64, .iastore, 1, 0), (65, .aload_n 0, 1, 0), (66, .dup, 1, 0), (67, .getfield 59, 3, 0), (70, .iconst 1, 1, 0), (71, .iload_n 2, 1, 0), (72, .ishl, 1, 0), (73, .ior, 1, 0), (74, .putfield 59, 3, 0), (77, .iconst 1, 1, 0), (78, .ireturn, 1, 0)]
set_option maxRecDepth 100000 in
theorem s_d38 : s_dec prog_4_method_12_code s_t38 := by unfold s_dec; decide +kernel
-- CampAshes$Camp.readOnce(LCampAshes$Tape;)Z
def s_t39 : List (Nat × Instr × Nat × Nat) := [(0, .aload_n 1, 1, 0), (1, .getstatic 148, 3, 0), (4, .invokevirtual 95, 3, 0), (7, .ifCond .eq 30, 3, 37), (10, .aload_n 0, 1, 0), (11, .aload_n 0, 1, 0), (12, .aload_n 1, 1, 0), (13, .iconst 1, 1, 0), (14, .iconst 0, 1, 0), (15, .bipush 30, 2, 0), (17, .invokevirtual 151, 3, 0), (20, .putfield 47, 3, 0), (23, .aload_n 0, 1, 0), (24, .getfield 47, 3, 0), (27, .iconst (-1), 1, 0), (28, .if_icmp .eq 7, 3, 35), (31, .iconst 1, 1, 0), (32, .goto 4, 3, 36), (35, .iconst 0, 1, 0), (36, .ireturn, 1, 0), (37, .aload_n 1, 1, 0), (38, .getstatic 155, 3, 0), (41, .invokevirtual 95, 3, 0), (44, .ifCond .eq 30, 3, 74), (47, .aload_n 0, 1, 0), (48, .aload_n 0, 1, 0), (49, .aload_n 1, 1, 0), (50, .iconst 2, 1, 0), (51, .iconst 0, 1, 0), (52, .bipush 20, 2, 0), (54, .invokevirtual 151, 3, 0), (57, .putfield 50, 3, 0), (60, .aload_n 0, 1, 0), (61, .getfield 50, 3, 0), (64, .iconst (-1), 1, 0), (65, .if_icmp .eq 7, 3, 72), (68, .iconst 1, 1, 0), (69, .goto 4, 3, 73), (72, .iconst 0, 1, 0), (73, .ireturn, 1, 0), (74, .aload_n 1, 1, 0), (75, .getstatic 158, 3, 0), (78, .invokevirtual 95, 3, 0), (81, .ifCond .eq 30, 3, 111), (84, .aload_n 0, 1, 0), (85, .aload_n 0, 1, 0), (86, .aload_n 1, 1, 0), (87, .iconst 4, 1, 0), (88, .iconst 0, 1, 0), (89, .bipush 9, 2, 0), (91, .invokevirtual 151, 3, 0), (94, .putfield 53, 3, 0), (97, .aload_n 0, 1, 0), (98, .getfield 53, 3, 0), (101, .iconst (-1), 1, 0), (102, .if_icmp .eq 7, 3, 109), (105, .iconst 1, 1, 0), (106, .goto 4, 3, 110), (109, .iconst 0, 1, 0), (110, .ireturn, 1, 0), (111, .aload_n 1, 1, 0), (112, .getstatic 161, 3, 0), (115, .invokevirtual 95, 3, 0), (118, .ifCond .eq 31, 3, 149), (121, .aload_n 0, 1, 0), (122, .aload_n 0, 1, 0), (123, .aload_n 1, 1, 0), (124, .bipush 8, 2, 0), (126, .iconst 2, 1, 0), (127, .bipush 30, 2, 0), (129, .invokevirtual 151, 3, 0), (132, .putfield 56, 3, 0), (135, .aload_n 0, 1, 0), (136, .getfield 56, 3, 0), (139, .iconst (-1), 1, 0), (140, .if_icmp .eq 7, 3, 147), (143, .iconst 1, 1, 0), (144, .goto 4, 3, 148), (147, .iconst 0, 1, 0), (148, .ireturn, 1, 0), (149, .aload_n 1, 1, 0), (150, .iconst 1, 1, 0), (151, .invokevirtual 85, 3, 0), (154, .ireturn, 1, 0)]
set_option maxRecDepth 100000 in
theorem s_d39 : s_dec prog_4_method_13_code s_t39 := by unfold s_dec; decide +kernel
-- CampAshes$Camp.readOnceNumber(LCampAshes$Tape;III)I
def s_t40 : List (Nat × Instr × Nat × Nat) := [(0, .aload_n 0, 1, 0), (1, .getfield 62, 3, 0), (4, .iload_n 2, 1, 0), (5, .iand, 1, 0), (6, .ifCond .eq 11, 3, 17), (9, .aload_n 1, 1, 0), (10, .iconst 3, 1, 0), (11, .invokevirtual 85, 3, 0), (14, .pop, 1, 0), (15, .iconst (-1), 1, 0), (16, .ireturn, 1, 0), (17, .aload_n 0, 1, 0), (18, .dup, 1, 0), (19, .getfield 62, 3, 0), (22, .iload_n 2, 1, 0), (23, .ior, 1, 0), (24, .putfield 62, 3, 0), (27, .aload_n 1, 1, 0), (28, .invokevirtual 117, 3, 0), (31, .aload_n 1, 1, 0), (32, .iload_n 3, 1, 0), (33, .iload 4, 2, 0), (35, .invokevirtual 127, 3, 0), (38, .ireturn, 1, 0)]
set_option maxRecDepth 100000 in
theorem s_d40 : s_dec prog_4_method_14_code s_t40 := by unfold s_dec; decide +kernel
end
section
-- CampAshes$Tape.passSign(C)Z
def s_t41 : List (Nat × Instr × Nat × Nat) := [(0, .aload_n 0, 1, 0), (1, .iload_n 1, 1, 0), (2, .invokevirtual 75, 3, 0), (5, .ifCond .ne 9, 3, 14), (8, .aload_n 0, 1, 0), (9, .iconst 1, 1, 0), (10, .invokevirtual 79, 3, 0), (13, .ireturn, 1, 0), (14, .aload_n 0, 1, 0), (15, .invokevirtual 34, 3, 0), (18, .iconst 1, 1, 0), (19, .ireturn, 1, 0)]
set_option maxRecDepth 100000 in
theorem s_d41 : s_dec prog_11_method_11_code s_t41 := by unfold s_dec; decide +kernel
-- CampAshes$Tape.isSign(C)Z
def s_t42 : List (Nat × Instr × Nat × Nat) := [(0, .aload_n 0, 1, 0), (1, .getfield 57, 3, 0), (4, .iconst 5, 1, 0), (5, .if_icmp .ne 15, 3, 20), (8, .aload_n 0, 1, 0), (9, .getfield 47, 3, 0), (12, .iload_n 1, 1, 0), (13, .if_icmp .ne 7, 3, 20), (16, .iconst 1, 1, 0), (17, .goto 4, 3, 21), (20, .iconst 0, 1, 0), (21, .ireturn, 1, 0)]
set_option maxRecDepth 100000 in
theorem s_d42 : s_dec prog_11_method_9_code s_t42 := by unfold s_dec; decide +kernel
-- CampAshes$Camp.copyFrom(LCampAshes$Camp;)V
def s_t43 : List (Nat × Instr × Nat × Nat) := [(0, .aload_n 0, 1, 0), (1, .aload_n 1, 1, 0), (2, .getfield 34, 3, 0), (5, .putfield 34, 3, 0), (8, .aload_n 0, 1, 0), (9, .aload_n 1, 1, 0), (10, .getfield 38, 3, 0), (13, .putfield 38, 3, 0), (16, .aload_n 1, 1, 0), (17, .getfield 9, 3, 0), (20, .iconst 0, 1, 0), (21, .aload_n 0, 1, 0), (22, .getfield 9, 3, 0), (25, .iconst 0, 1, 0), (26, .bipush 17, 2, 0), (28, .invokestatic 65, 3, 0), (31, .aload_n 1, 1, 0), (32, .getfield 15, 3, 0), (35, .iconst 0, 1, 0), (36, .aload_n 0, 1, 0), (37, .getfield 15, 3, 0), (40, .iconst 0, 1, 0), (41, .bipush 7, 2, 0), (43, .invokestatic 65, 3, 0), (46, .aload_n 1, 1, 0), (47, .getfield 19, 3, 0), (50, .iconst 0, 1, 0), (51, .aload_n 0, 1, 0), (52, .getfield 19, 3, 0), (55, .iconst 0, 1, 0), (56, .bipush 10, 2, 0), (58, .invokestatic 65, 3, 0), (61, .aload_n 1, 1, 0), (62, .getfield 22, 3, 0), (65, .iconst 0, 1, 0), (66, .aload_n 0, 1, 0), (67, .getfield 22, 3, 0), (70, .iconst 0, 1, 0), (71, .bipush 10, 2, 0), (73, .invokestatic 65, 3, 0), (76, .aload_n 1, 1, 0), (77, .getfield 25, 3, 0), (80, .iconst 0, 1, 0), (81, .aload_n 0, 1, 0), (82, .getfield 25, 3, 0), (85, .iconst 0, 1, 0), (86, .bipush 10, 2, 0), (88, .invokestatic 65, 3, 0), (91, .aload_n 1, 1, 0), (92, .getfield 28, 3, 0), (95, .iconst 0, 1, 0), (96, .aload_n 0, 1, 0), (97, .getfield 28, 3, 0), (100, .iconst 0, 1, 0), (101, .iconst 4, 1, 0), (102, .invokestatic 65, 3, 0), (105, .aload_n 0, 1, 0), (106, .aload_n 1, 1, 0), (107, .getfield 47, 3, 0), (110, .putfield 47, 3, 0), (113, .aload_n 0, 1, 0), (114, .aload_n 1, 1, 0), (115, .getfield 50, 3, 0), (118, .putfield 50, 3, 0), (121, .aload_n 0, 1, 0), (122, .aload_n 1, 1, 0), (123, .getfield 53, 3, 0), (126, .putfield 53, 3, 0), (129, .aload_n 0, 1, 0), (130, .aload_n 1, 1, 0), (131, .getfield 56, 3, 0), (134, .putfield 56, 3, 0), (137, .return_, 1, 0)]
set_option maxRecDepth 100000 in
theorem s_d43 : s_dec prog_4_method_3_code s_t43 := by unfold s_dec; decide +kernel
-- CampAshes$Sentence.clear()V
def s_t44 : List (Nat × Instr × Nat × Nat) := [(0, .aload_n 0, 1, 0), (1, .iconst 0, 1, 0), (2, .putfield 27, 3, 0), (5, .aload_n 0, 1, 0), (6, .iconst 0, 1, 0), (7, .putfield 31, 3, 0), (10, .aload_n 0, 1, 0), (11, .iconst 0, 1, 0), (12, .putfield 34, 3, 0), (15, .return_, 1, 0)]
set_option maxRecDepth 100000 in
theorem s_d44 : s_dec prog_9_method_2_code s_t44 := by unfold s_dec; decide +kernel
-- CampAshes$History.clear()V
def s_t45 : List (Nat × Instr × Nat × Nat) := [(0, .aload_n 0, 1, 0), (1, .iconst 0, 1, 0), (2, .putfield 20, 3, 0), (5, .return_, 1, 0)]
set_option maxRecDepth 100000 in
theorem s_d45 : s_dec prog_6_method_2_code s_t45 := by unfold s_dec; decide +kernel
-- CampAshes.fault()I
def s_t46 : List (Nat × Instr × Nat × Nat) := [(0, .aload_n 0, 1, 0), (1, .getfield 115, 3, 0), (4, .ireturn, 1, 0)]
set_option maxRecDepth 100000 in
theorem s_d46 : s_dec prog_1_method_5_code s_t46 := by unfold s_dec; decide +kernel
-- CampAshes.on(II)I
def s_t47 : List (Nat × Instr × Nat × Nat) := [(0, .aload_n 0, 1, 0), (1, .getfield 19, 3, 0), (4, .iload_n 1, 1, 0), (5, .invokevirtual 159, 3, 0), (8, .ifCond .eq 14, 3, 22), (11, .aload_n 0, 1, 0), (12, .getfield 19, 3, 0), (15, .iload_n 2, 1, 0), (16, .invokevirtual 126, 3, 0), (19, .ifCond .ne 5, 3, 24), (22, .iconst (-1), 1, 0), (23, .ireturn, 1, 0), (24, .aload_n 0, 1, 0), (25, .getfield 31, 3, 0), (28, .iload_n 1, 1, 0), (29, .iload_n 2, 1, 0), (30, .invokevirtual 162, 3, 0), (33, .ireturn, 1, 0)]
set_option maxRecDepth 100000 in
theorem s_d47 : s_dec prog_1_method_7_code s_t47 := by unfold s_dec; decide +kernel
-- CampAshes$Camp.hasEvent(I)Z
def s_t48 : List (Nat × Instr × Nat × Nat) := [(0, .iload_n 1, 1, 0), (1, .ifCond .lt 15, 3, 16), (4, .iload_n 1, 1, 0), (5, .aload_n 0, 1, 0), (6, .getfield 38, 3, 0), (9, .if_icmp .ge 7, 3, 16), (12, .iconst 1, 1, 0), (13, .goto 4, 3, 17), (16, .iconst 0, 1, 0), (17, .ireturn, 1, 0)]
set_option maxRecDepth 100000 in
theorem s_d48 : s_dec prog_4_method_5_code s_t48 := by unfold s_dec; decide +kernel
-- CampAshes$Camp.hasBoy(I)Z
def s_t49 : List (Nat × Instr × Nat × Nat) := [(0, .iload_n 1, 1, 0), (1, .ifCond .lt 15, 3, 16), (4, .iload_n 1, 1, 0), (5, .aload_n 0, 1, 0), (6, .getfield 34, 3, 0), (9, .if_icmp .ge 7, 3, 16), (12, .iconst 1, 1, 0), (13, .goto 4, 3, 17), (16, .iconst 0, 1, 0), (17, .ireturn, 1, 0)]
set_option maxRecDepth 100000 in
theorem s_d49 : s_dec prog_4_method_4_code s_t49 := by unfold s_dec; decide +kernel
-- CampAshes$State.onBoy(II)I
def s_t50 : List (Nat × Instr × Nat × Nat) := [(0, .aload_n 0, 1, 0), (1, .getfield 9, 3, 0), (4, .iload_n 1, 1, 0), (5, .bipush 7, 2, 0), (7, .imul, 1, 0), (8, .iload_n 2, 1, 0), (9, .iadd, 1, 0), (10, .iaload, 1, 0), (11, .ireturn, 1, 0)]
set_option maxRecDepth 100000 in
theorem s_d50 : s_dec prog_10_method_4_code s_t50 := by unfold s_dec; decide +kernel
-- CampAshes.event(II)I
def s_t51 : List (Nat × Instr × Nat × Nat) := [(0, .aload_n 0, 1, 0), (1, .getfield 19, 3, 0), (4, .iload_n 1, 1, 0), (5, .invokevirtual 159, 3, 0), (8, .ifCond .ne 5, 3, 13), (11, .iconst (-1), 1, 0), (12, .ireturn, 1, 0), (13, .iload_n 2, 1, 0), (14, .tableswitch 69 0 3 #[30, 40, 50, 60], 30, 0), (44, .aload_n 0, 1, 0), (45, .getfield 19, 3, 0), (48, .getfield 166, 3, 0), (51, .iload_n 1, 1, 0), (52, .iaload, 1, 0), (53, .ireturn, 1, 0), (54, .aload_n 0, 1, 0), (55, .getfield 19, 3, 0), (58, .getfield 169, 3, 0), (61, .iload_n 1, 1, 0), (62, .iaload, 1, 0), (63, .ireturn, 1, 0), (64, .aload_n 0, 1, 0), (65, .getfield 19, 3, 0), (68, .getfield 172, 3, 0), (71, .iload_n 1, 1, 0), (72, .iaload, 1, 0), (73, .ireturn, 1, 0), (74, .aload_n 0, 1, 0), (75, .getfield 31, 3, 0), (78, .iload_n 1, 1, 0), (79, .invokevirtual 175, 3, 0), (82, .ireturn, 1, 0), (83, .iconst (-1), 1, 0), (84, .ireturn, 1, 0)]
set_option maxRecDepth 100000 in
theorem s_d51 : s_dec prog_1_method_8_code s_t51 := by unfold s_dec; decide +kernel
-- CampAshes$State.leftOf(I)I
def s_t52 : List (Nat × Instr × Nat × Nat) := [(0, .iconst 0, 1, 0), (1, .istore_n 2, 1, 0), (2, .iconst 0, 1, 0), (3, .istore_n 3, 1, 0), (4, .iload_n 3, 1, 0), (5, .aload_n 0, 1, 0), (6, .getfield 24, 3, 0), (9, .getfield 90, 3, 0), (12, .if_icmp .ge 18, 3, 30), (15, .iload_n 2, 1, 0), (16, .aload_n 0, 1, 0), (17, .iload_n 1, 1, 0), (18, .iload_n 3, 1, 0), (19, .invokevirtual 86, 3, 0), (22, .iadd, 1, 0), (23, .istore_n 2, 1, 0), (24, .iinc 3 1, 3, 0), (27, .goto (-23), 3, 4), (30, .iload_n 2, 1, 0), (31, .ireturn, 1, 0)]
set_option maxRecDepth 100000 in
theorem s_d52 : s_dec prog_10_method_12_code s_t52 := by unfold s_dec; decide +kernel
-- CampAshes.takes(I)I
def s_t53 : List (Nat × Instr × Nat × Nat) := [(0, .iload_n 1, 1, 0), (1, .ifCond .lt 19, 3, 20), (4, .iload_n 1, 1, 0), (5, .iconst 4, 1, 0), (6, .if_icmp .ge 14, 3, 20), (9, .aload_n 0, 1, 0), (10, .getfield 31, 3, 0), (13, .iload_n 1, 1, 0), (14, .invokevirtual 178, 3, 0), (17, .goto 4, 3, 21), (20, .iconst (-1), 1, 0), (21, .ireturn, 1, 0)]
set_option maxRecDepth 100000 in
theorem s_d53 : s_dec prog_1_method_9_code s_t53 := by unfold s_dec; decide +kernel
-- CampAshes$State.wouldTake(I)I
def s_t54 : List (Nat × Instr × Nat × Nat) := [(0, .aload_n 0, 1, 0), (1, .getfield 24, 3, 0), (4, .getfield 83, 3, 0), (7, .iload_n 1, 1, 0), (8, .iaload, 1, 0), (9, .aload_n 0, 1, 0), (10, .getfield 43, 3, 0), (13, .iconst 5, 1, 0), (14, .idiv, 1, 0), (15, .iadd, 1, 0), (16, .ireturn, 1, 0)]
set_option maxRecDepth 100000 in
theorem s_d54 : s_dec prog_10_method_9_code s_t54 := by unfold s_dec; decide +kernel
-- CampAshes.ashes(I)I
def s_t55 : List (Nat × Instr × Nat × Nat) := [(0, .iload_n 1, 1, 0), (1, .ifCond .lt 20, 3, 21), (4, .iload_n 1, 1, 0), (5, .iconst 4, 1, 0), (6, .if_icmp .ge 15, 3, 21), (9, .aload_n 0, 1, 0), (10, .getfield 31, 3, 0), (13, .getfield 181, 3, 0), (16, .iload_n 1, 1, 0), (17, .iaload, 1, 0), (18, .goto 4, 3, 22), (21, .iconst (-1), 1, 0), (22, .ireturn, 1, 0)]
set_option maxRecDepth 100000 in
theorem s_d55 : s_dec prog_1_method_10_code s_t55 := by unfold s_dec; decide +kernel
-- CampAshes.now(I)I
def s_t56 : List (Nat × Instr × Nat × Nat) := [(0, .iload_n 1, 1, 0), (1, .tableswitch 119 0 7 #[47, 55, 63, 71, 87, 95, 103, 111], 47, 0), (48, .aload_n 0, 1, 0), (49, .getfield 31, 3, 0), (52, .getfield 184, 3, 0), (55, .ireturn, 1, 0), (56, .aload_n 0, 1, 0), (57, .getfield 31, 3, 0), (60, .getfield 187, 3, 0), (63, .ireturn, 1, 0), (64, .aload_n 0, 1, 0), (65, .getfield 31, 3, 0), (68, .getfield 190, 3, 0), (71, .ireturn, 1, 0), (72, .aload_n 0, 1, 0), (73, .getfield 31, 3, 0), (76, .invokevirtual 193, 3, 0), (79, .ifCond .eq 7, 3, 86), (82, .iconst 1, 1, 0), (83, .goto 4, 3, 87), (86, .iconst 0, 1, 0), (87, .ireturn, 1, 0), (88, .aload_n 0, 1, 0), (89, .getfield 31, 3, 0), (92, .invokevirtual 197, 3, 0), (95, .ireturn, 1, 0), (96, .aload_n 0, 1, 0), (97, .getfield 31, 3, 0), (100, .getfield 201, 3, 0), (103, .ireturn, 1, 0), (104, .aload_n 0, 1, 0), (105, .getfield 31, 3, 0), (108, .getfield 204, 3, 0), (111, .ireturn, 1, 0), (112, .aload_n 0, 1, 0), (113, .getfield 31, 3, 0), (116, .invokevirtual 207, 3, 0), (119, .ireturn, 1, 0), (120, .iconst (-1), 1, 0), (121, .ireturn, 1, 0)]
set_option maxRecDepth 100000 in
theorem s_d56 : s_dec prog_1_method_11_code s_t56 := by unfold s_dec; decide +kernel
-- CampAshes$State.isWet()Z
def s_t57 : List (Nat × Instr × Nat × Nat) := [(0, .aload_n 0, 1, 0), (1, .getfield 24, 3, 0), (4, .getfield 80, 3, 0), (7, .ifCond .le 24, 3, 31), (10, .aload_n 0, 1, 0), (11, .getfield 52, 3, 0), (14, .iconst 1, 1, 0), (15, .iadd, 1, 0), (16, .aload_n 0, 1, 0), (17, .getfield 24, 3, 0), (20, .getfield 80, 3, 0), (23, .irem, 1, 0), (24, .ifCond .ne 7, 3, 31), (27, .iconst 1, 1, 0), (28, .goto 4, 3, 32), (31, .iconst 0, 1, 0), (32, .ireturn, 1, 0)]
set_option maxRecDepth 100000 in
theorem s_d57 : s_dec prog_10_method_8_code s_t57 := by unfold s_dec; decide +kernel
-- CampAshes$State.overBits()I
def s_t58 : List (Nat × Instr × Nat × Nat) := [(0, .iconst 0, 1, 0), (1, .istore_n 1, 1, 0), (2, .iconst 0, 1, 0), (3, .istore_n 2, 1, 0), (4, .iload_n 2, 1, 0), (5, .aload_n 0, 1, 0), (6, .getfield 24, 3, 0), (9, .getfield 90, 3, 0), (12, .if_icmp .ge 23, 3, 35), (15, .aload_n 0, 1, 0), (16, .iload_n 2, 1, 0), (17, .invokevirtual 93, 3, 0), (20, .ifCond .eq 9, 3, 29), (23, .iload_n 1, 1, 0), (24, .iconst 1, 1, 0), (25, .iload_n 2, 1, 0), (26, .ishl, 1, 0), (27, .ior, 1, 0), (28, .istore_n 1, 1, 0), (29, .iinc 2 1, 3, 0), (32, .goto (-28), 3, 4), (35, .iload_n 1, 1, 0), (36, .ireturn, 1, 0)]
set_option maxRecDepth 100000 in
theorem s_d58 : s_dec prog_10_method_11_code s_t58 := by unfold s_dec; decide +kernel
-- CampAshes$State.isOver(I)Z
def s_t59 : List (Nat × Instr × Nat × Nat) := [(0, .aload_n 0, 1, 0), (1, .getfield 15, 3, 0), (4, .iload_n 1, 1, 0), (5, .iaload, 1, 0), (6, .aload_n 0, 1, 0), (7, .getfield 24, 3, 0), (10, .getfield 77, 3, 0), (13, .iload_n 1, 1, 0), (14, .iaload, 1, 0), (15, .if_icmp .le 7, 3, 22), (18, .iconst 1, 1, 0), (19, .goto 4, 3, 23), (22, .iconst 0, 1, 0), (23, .ireturn, 1, 0)]
set_option maxRecDepth 100000 in
theorem s_d59 : s_dec prog_10_method_6_code s_t59 := by unfold s_dec; decide +kernel
-- CampAshes$State.allLoads()I
def s_t60 : List (Nat × Instr × Nat × Nat) := [(0, .iconst 0, 1, 0), (1, .istore_n 1, 1, 0), (2, .iconst 0, 1, 0), (3, .istore_n 2, 1, 0), (4, .iload_n 2, 1, 0), (5, .aload_n 0, 1, 0), (6, .getfield 24, 3, 0), (9, .getfield 90, 3, 0), (12, .if_icmp .ge 18, 3, 30), (15, .iload_n 1, 1, 0), (16, .aload_n 0, 1, 0), (17, .getfield 15, 3, 0), (20, .iload_n 2, 1, 0), (21, .iaload, 1, 0), (22, .iadd, 1, 0), (23, .istore_n 1, 1, 0), (24, .iinc 2 1, 3, 0), (27, .goto (-23), 3, 4), (30, .iload_n 1, 1, 0), (31, .ireturn, 1, 0)]
set_option maxRecDepth 100000 in
theorem s_d60 : s_dec prog_10_method_13_code s_t60 := by unfold s_dec; decide +kernel
-- CampAshes.tell(II)I
def s_t61 : List (Nat × Instr × Nat × Nat) := [(0, .aload_n 0, 1, 0), (1, .getfield 19, 3, 0), (4, .iload_n 1, 1, 0), (5, .invokevirtual 126, 3, 0), (8, .ifCond .eq 14, 3, 22), (11, .aload_n 0, 1, 0), (12, .getfield 19, 3, 0), (15, .iload_n 2, 1, 0), (16, .invokevirtual 159, 3, 0), (19, .ifCond .ne 5, 3, 24), (22, .iconst (-1), 1, 0), (23, .ireturn, 1, 0), (24, .aload_n 0, 1, 0), (25, .getfield 35, 3, 0), (28, .aload_n 0, 1, 0), (29, .getfield 31, 3, 0), (32, .invokevirtual 210, 3, 0), (35, .aload_n 0, 1, 0), (36, .aload_n 0, 1, 0), (37, .getfield 35, 3, 0), (40, .iload_n 1, 1, 0), (41, .iload_n 2, 1, 0), (42, .invokevirtual 213, 3, 0), (45, .invokevirtual 216, 3, 0), (48, .ireturn, 1, 0)]
set_option maxRecDepth 100000 in
theorem s_d61 : s_dec prog_1_method_12_code s_t61 := by unfold s_dec; decide +kernel
-- CampAshes$State.copyFrom(LCampAshes$State;)V
def s_t62 : List (Nat × Instr × Nat × Nat) := [(0, .aload_n 1, 1, 0), (1, .getfield 9, 3, 0), (4, .iconst 0, 1, 0), (5, .aload_n 0, 1, 0), (6, .getfield 9, 3, 0), (9, .iconst 0, 1, 0), (10, .bipush 70, 2, 0), (12, .invokestatic 71, 3, 0), (15, .aload_n 1, 1, 0), (16, .getfield 15, 3, 0), (19, .iconst 0, 1, 0), (20, .aload_n 0, 1, 0), (21, .getfield 15, 3, 0), (24, .iconst 0, 1, 0), (25, .bipush 7, 2, 0), (27, .invokestatic 71, 3, 0), (30, .aload_n 1, 1, 0), (31, .getfield 18, 3, 0), (34, .iconst 0, 1, 0), (35, .aload_n 0, 1, 0), (36, .getfield 18, 3, 0), (39, .iconst 0, 1, 0), (40, .iconst 4, 1, 0), (41, .invokestatic 71, 3, 0), (44, .aload_n 1, 1, 0), (45, .getfield 21, 3, 0), (48, .iconst 0, 1, 0), (49, .aload_n 0, 1, 0), (50, .getfield 21, 3, 0), (53, .iconst 0, 1, 0), (54, .bipush 7, 2, 0), (56, .invokestatic 71, 3, 0), (59, .aload_n 0, 1, 0), (60, .aload_n 1, 1, 0), (61, .getfield 34, 3, 0), (64, .putfield 34, 3, 0), (67, .aload_n 0, 1, 0), (68, .aload_n 1, 1, 0), (69, .getfield 43, 3, 0), (72, .putfield 43, 3, 0), (75, .aload_n 0, 1, 0), (76, .aload_n 1, 1, 0), (77, .getfield 49, 3, 0), (80, .putfield 49, 3, 0), (83, .aload_n 0, 1, 0), (84, .aload_n 1, 1, 0), (85, .getfield 52, 3, 0), (88, .putfield 52, 3, 0), (91, .aload_n 0, 1, 0), (92, .aload_n 1, 1, 0), (93, .getfield 55, 3, 0), (96, .putfield 55, 3, 0), (99, .return_, 1, 0)]
set_option maxRecDepth 100000 in
theorem s_d62 : s_dec prog_10_method_3_code s_t62 := by unfold s_dec; decide +kernel
-- CampAshes$State.tellEvent(II)I
def s_t63 : List (Nat × Instr × Nat × Nat) := [(0, .aload_n 0, 1, 0), (1, .iload_n 1, 1, 0), (2, .iload_n 2, 1, 0), (3, .invokevirtual 104, 3, 0), (6, .istore_n 3, 1, 0), (7, .iload_n 3, 1, 0), (8, .ifCond .ne 57, 3, 65), (11, .aload_n 0, 1, 0), (12, .getfield 24, 3, 0), (15, .getfield 107, 3, 0), (18, .iload_n 2, 1, 0), (19, .iaload, 1, 0), (20, .istore 4, 2, 0), (22, .aload_n 0, 1, 0), (23, .iload 4, 2, 0), (25, .invokevirtual 110, 3, 0), (28, .aload_n 0, 1, 0), (29, .iload_n 2, 1, 0), (30, .iload_n 1, 1, 0), (31, .invokevirtual 86, 3, 0), (34, .invokestatic 114, 3, 0), (37, .istore 5, 2, 0), (39, .aload_n 0, 1, 0), (40, .iload_n 2, 1, 0), (41, .iload_n 1, 1, 0), (42, .iload 5, 2, 0), (44, .ineg, 1, 0), (45, .invokevirtual 67, 3, 0), (48, .aload_n 0, 1, 0), (49, .getfield 18, 3, 0), (52, .iload 4, 2, 0), (54, .dup2, 1, 0), (55, .iaload, 1, 0), (56, .iload 5, 2, 0), (58, .iadd, 1, 0), (59, .iastore, 1, 0), (60, .aload_n 0, 1, 0), (61, .iload_n 1, 1, 0), (62, .invokevirtual 119, 3, 0), (65, .iload_n 3, 1, 0), (66, .ireturn, 1, 0)]
set_option maxRecDepth 100000 in
theorem s_d63 : s_dec prog_10_method_16_code s_t63 := by unfold s_dec; decide +kernel
-- CampAshes$State.whyNotSpeak(II)I
def s_t64 : List (Nat × Instr × Nat × Nat) := [(0, .aload_n 0, 1, 0), (1, .iload_n 2, 1, 0), (2, .iload_n 1, 1, 0), (3, .invokevirtual 86, 3, 0), (6, .ifCond .ne 5, 3, 11), (9, .iconst 1, 1, 0), (10, .ireturn, 1, 0), (11, .aload_n 0, 1, 0), (12, .invokevirtual 97, 3, 0), (15, .ifCond .eq 5, 3, 20), (18, .iconst 2, 1, 0), (19, .ireturn, 1, 0), (20, .aload_n 0, 1, 0), (21, .getfield 43, 3, 0), (24, .ifCond .ne 5, 3, 29), (27, .iconst 3, 1, 0), (28, .ireturn, 1, 0), (29, .aload_n 0, 1, 0), (30, .iload_n 1, 1, 0), (31, .invokevirtual 101, 3, 0), (34, .ifCond .eq 7, 3, 41), (37, .iconst 4, 1, 0), (38, .goto 4, 3, 42), (41, .iconst 0, 1, 0), (42, .ireturn, 1, 0)]
set_option maxRecDepth 100000 in
theorem s_d64 : s_dec prog_10_method_15_code s_t64 := by unfold s_dec; decide +kernel
-- CampAshes$State.isHushed(I)Z
def s_t65 : List (Nat × Instr × Nat × Nat) := [(0, .aload_n 0, 1, 0), (1, .getfield 34, 3, 0), (4, .iload_n 1, 1, 0), (5, .ishr, 1, 0), (6, .iconst 1, 1, 0), (7, .iand, 1, 0), (8, .iconst 1, 1, 0), (9, .if_icmp .ne 7, 3, 16), (12, .iconst 1, 1, 0), (13, .goto 4, 3, 17), (16, .iconst 0, 1, 0), (17, .ireturn, 1, 0)]
set_option maxRecDepth 100000 in
theorem s_d65 : s_dec prog_10_method_7_code s_t65 := by unfold s_dec; decide +kernel
-- CampAshes$State.hush(I)V
def s_t66 : List (Nat × Instr × Nat × Nat) := [(0, .aload_n 0, 1, 0), (1, .dup, 1, 0), (2, .getfield 43, 3, 0), (5, .iconst 1, 1, 0), (6, .isub, 1, 0), (7, .putfield 43, 3, 0), (10, .aload_n 0, 1, 0), (11, .dup, 1, 0), (12, .getfield 34, 3, 0), (15, .iconst 1, 1, 0), (16, .iload_n 1, 1, 0), (17, .ishl, 1, 0), (18, .ior, 1, 0), (19, .putfield 34, 3, 0), (22, .return_, 1, 0)]
set_option maxRecDepth 100000 in
theorem s_d66 : s_dec prog_10_method_18_code s_t66 := by unfold s_dec; decide +kernel
-- CampAshes.keepIfDone(I)I
def s_t67 : List (Nat × Instr × Nat × Nat) := [(0, .iload_n 1, 1, 0), (1, .ifCond .ne 7, 3, 8), (4, .aload_n 0, 1, 0), (5, .invokevirtual 235, 3, 0), (8, .iload_n 1, 1, 0), (9, .ireturn, 1, 0)]
set_option maxRecDepth 100000 in
theorem s_d67 : s_dec prog_1_method_40_code s_t67 := by unfold s_dec; decide +kernel
-- CampAshes.keepTrial()V
def s_t68 : List (Nat × Instr × Nat × Nat) := [(0, .aload_n 0, 1, 0), (1, .getfield 58, 3, 0), (4, .aload_n 0, 1, 0), (5, .getfield 31, 3, 0), (8, .invokevirtual 373, 3, 0), (11, .aload_n 0, 1, 0), (12, .getfield 31, 3, 0), (15, .aload_n 0, 1, 0), (16, .getfield 35, 3, 0), (19, .invokevirtual 210, 3, 0), (22, .return_, 1, 0)]
set_option maxRecDepth 100000 in
theorem s_d68 : s_dec prog_1_method_41_code s_t68 := by unfold s_dec; decide +kernel
-- CampAshes$History.keep(LCampAshes$State;)V
def s_t69 : List (Nat × Instr × Nat × Nat) := [(0, .aload_n 0, 1, 0), (1, .getfield 11, 3, 0), (4, .aload_n 0, 1, 0), (5, .getfield 24, 3, 0), (8, .aaload, 1, 0), (9, .aload_n 1, 1, 0), (10, .invokevirtual 27, 3, 0), (13, .aload_n 0, 1, 0), (14, .aload_n 0, 1, 0), (15, .getfield 24, 3, 0), (18, .iconst 1, 1, 0), (19, .iadd, 1, 0), (20, .bipush 8, 2, 0), (22, .irem, 1, 0), (23, .putfield 24, 3, 0), (26, .aload_n 0, 1, 0), (27, .aload_n 0, 1, 0), (28, .getfield 20, 3, 0), (31, .iconst 1, 1, 0), (32, .iadd, 1, 0), (33, .bipush 8, 2, 0), (35, .invokestatic 31, 3, 0), (38, .putfield 20, 3, 0), (41, .return_, 1, 0)]
set_option maxRecDepth 100000 in
theorem s_d69 : s_dec prog_6_method_3_code s_t69 := by unfold s_dec; decide +kernel
-- CampAshes.lie(II)I
def s_t70 : List (Nat × Instr × Nat × Nat) := [(0, .aload_n 0, 1, 0), (1, .getfield 19, 3, 0), (4, .iload_n 1, 1, 0), (5, .invokevirtual 126, 3, 0), (8, .ifCond .eq 14, 3, 22), (11, .aload_n 0, 1, 0), (12, .getfield 19, 3, 0), (15, .iload_n 2, 1, 0), (16, .invokevirtual 159, 3, 0), (19, .ifCond .ne 5, 3, 24), (22, .iconst (-1), 1, 0), (23, .ireturn, 1, 0), (24, .aload_n 0, 1, 0), (25, .getfield 35, 3, 0), (28, .aload_n 0, 1, 0), (29, .getfield 31, 3, 0), (32, .invokevirtual 210, 3, 0), (35, .aload_n 0, 1, 0), (36, .aload_n 0, 1, 0), (37, .getfield 35, 3, 0), (40, .iload_n 1, 1, 0), (41, .iload_n 2, 1, 0), (42, .invokevirtual 219, 3, 0), (45, .invokevirtual 216, 3, 0), (48, .ireturn, 1, 0)]
set_option maxRecDepth 100000 in
theorem s_d70 : s_dec prog_1_method_13_code s_t70 := by unfold s_dec; decide +kernel
-- CampAshes$State.lieAbout(II)I
def s_t71 : List (Nat × Instr × Nat × Nat) := [(0, .aload_n 0, 1, 0), (1, .iload_n 1, 1, 0), (2, .iload_n 2, 1, 0), (3, .invokevirtual 104, 3, 0), (6, .istore_n 3, 1, 0), (7, .iload_n 3, 1, 0), (8, .ifCond .ne 37, 3, 45), (11, .aload_n 0, 1, 0), (12, .iload_n 2, 1, 0), (13, .iload_n 1, 1, 0), (14, .iconst 2, 1, 0), (15, .bipush 99, 2, 0), (17, .aload_n 0, 1, 0), (18, .iload_n 2, 1, 0), (19, .iload_n 1, 1, 0), (20, .invokevirtual 86, 3, 0), (23, .isub, 1, 0), (24, .invokestatic 114, 3, 0), (27, .invokevirtual 67, 3, 0), (30, .aload_n 0, 1, 0), (31, .dup, 1, 0), (32, .getfield 55, 3, 0), (35, .iconst 1, 1, 0), (36, .iadd, 1, 0), (37, .putfield 55, 3, 0), (40, .aload_n 0, 1, 0), (41, .iload_n 1, 1, 0), (42, .invokevirtual 119, 3, 0), (45, .iload_n 3, 1, 0), (46, .ireturn, 1, 0)]
set_option maxRecDepth 100000 in
theorem s_d71 : s_dec prog_10_method_17_code s_t71 := by unfold s_dec; decide +kernel
end
section
-- CampAshes.give(IIII)I
def s_t72 : List (Nat × Instr × Nat × Nat) := [(0, .aload_n 0, 1, 0), (1, .getfield 19, 3, 0), (4, .iload_n 1, 1, 0), (5, .invokevirtual 126, 3, 0), (8, .ifCond .eq 38, 3, 46), (11, .aload_n 0, 1, 0), (12, .getfield 19, 3, 0), (15, .iload_n 2, 1, 0), (16, .invokevirtual 159, 3, 0), (19, .ifCond .eq 27, 3, 46), (22, .aload_n 0, 1, 0), (23, .getfield 19, 3, 0), (26, .iload_n 3, 1, 0), (27, .invokevirtual 126, 3, 0), (30, .ifCond .eq 16, 3, 46), (33, .iload 4, 2, 0), (35, .iconst 1, 1, 0), (36, .if_icmp .lt 10, 3, 46), (39, .iload 4, 2, 0), (41, .bipush 40, 2, 0), (43, .if_icmp .le 5, 3, 48), (46, .iconst (-1), 1, 0), (47, .ireturn, 1, 0), (48, .aload_n 0, 1, 0), (49, .getfield 35, 3, 0), (52, .aload_n 0, 1, 0), (53, .getfield 31, 3, 0), (56, .invokevirtual 210, 3, 0), (59, .aload_n 0, 1, 0), (60, .aload_n 0, 1, 0), (61, .getfield 35, 3, 0), (64, .iload_n 1, 1, 0), (65, .iload_n 2, 1, 0), (66, .iload_n 3, 1, 0), (67, .iload 4, 2, 0), (69, .invokevirtual 222, 3, 0), (72, .invokevirtual 216, 3, 0), (75, .ireturn, 1, 0)]
set_option maxRecDepth 100000 in
theorem s_d72 : s_dec prog_1_method_14_code s_t72 := by unfold s_dec; decide +kernel
-- CampAshes$State.giveSome(IIII)I
def s_t73 : List (Nat × Instr × Nat × Nat) := [(0, .iload_n 1, 1, 0), (1, .iload_n 3, 1, 0), (2, .if_icmp .ne 5, 3, 7), (5, .iconst 1, 1, 0), (6, .ireturn, 1, 0), (7, .aload_n 0, 1, 0), (8, .iload_n 2, 1, 0), (9, .iload_n 1, 1, 0), (10, .invokevirtual 86, 3, 0), (13, .iload 4, 2, 0), (15, .if_icmp .ge 5, 3, 20), (18, .iconst 2, 1, 0), (19, .ireturn, 1, 0), (20, .aload_n 0, 1, 0), (21, .getfield 15, 3, 0), (24, .iload_n 3, 1, 0), (25, .iaload, 1, 0), (26, .iload 4, 2, 0), (28, .iadd, 1, 0), (29, .aload_n 0, 1, 0), (30, .getfield 24, 3, 0), (33, .getfield 77, 3, 0), (36, .iload_n 3, 1, 0), (37, .iaload, 1, 0), (38, .if_icmp .le 5, 3, 43), (41, .iconst 3, 1, 0), (42, .ireturn, 1, 0), (43, .aload_n 0, 1, 0), (44, .iload_n 2, 1, 0), (45, .iload_n 1, 1, 0), (46, .iload 4, 2, 0), (48, .ineg, 1, 0), (49, .invokevirtual 67, 3, 0), (52, .aload_n 0, 1, 0), (53, .iload_n 2, 1, 0), (54, .iload_n 3, 1, 0), (55, .iload 4, 2, 0), (57, .invokevirtual 67, 3, 0), (60, .iconst 0, 1, 0), (61, .ireturn, 1, 0)]
set_option maxRecDepth 100000 in
theorem s_d73 : s_dec prog_10_method_19_code s_t73 := by unfold s_dec; decide +kernel
-- CampAshes.log()I
def s_t74 : List (Nat × Instr × Nat × Nat) := [(0, .aload_n 0, 1, 0), (1, .getfield 35, 3, 0), (4, .aload_n 0, 1, 0), (5, .getfield 31, 3, 0), (8, .invokevirtual 210, 3, 0), (11, .aload_n 0, 1, 0), (12, .aload_n 0, 1, 0), (13, .getfield 35, 3, 0), (16, .invokevirtual 226, 3, 0), (19, .invokevirtual 216, 3, 0), (22, .ireturn, 1, 0)]
set_option maxRecDepth 100000 in
theorem s_d74 : s_dec prog_1_method_15_code s_t74 := by unfold s_dec; decide +kernel
-- CampAshes$State.putLogOn()I
def s_t75 : List (Nat × Instr × Nat × Nat) := [(0, .aload_n 0, 1, 0), (1, .getfield 49, 3, 0), (4, .ifCond .ne 5, 3, 9), (7, .iconst 1, 1, 0), (8, .ireturn, 1, 0), (9, .aload_n 0, 1, 0), (10, .getfield 43, 3, 0), (13, .bipush 30, 2, 0), (15, .if_icmp .ne 5, 3, 20), (18, .iconst 2, 1, 0), (19, .ireturn, 1, 0), (20, .aload_n 0, 1, 0), (21, .dup, 1, 0), (22, .getfield 49, 3, 0), (25, .iconst 1, 1, 0), (26, .isub, 1, 0), (27, .putfield 49, 3, 0), (30, .aload_n 0, 1, 0), (31, .aload_n 0, 1, 0), (32, .getfield 43, 3, 0), (35, .iconst 4, 1, 0), (36, .iadd, 1, 0), (37, .bipush 30, 2, 0), (39, .invokestatic 114, 3, 0), (42, .putfield 43, 3, 0), (45, .iconst 0, 1, 0), (46, .ireturn, 1, 0)]
set_option maxRecDepth 100000 in
theorem s_d75 : s_dec prog_10_method_20_code s_t75 := by unfold s_dec; decide +kernel
-- CampAshes.rake()I
def s_t76 : List (Nat × Instr × Nat × Nat) := [(0, .aload_n 0, 1, 0), (1, .getfield 35, 3, 0), (4, .aload_n 0, 1, 0), (5, .getfield 31, 3, 0), (8, .invokevirtual 210, 3, 0), (11, .aload_n 0, 1, 0), (12, .aload_n 0, 1, 0), (13, .getfield 35, 3, 0), (16, .invokevirtual 229, 3, 0), (19, .invokevirtual 216, 3, 0), (22, .ireturn, 1, 0)]
set_option maxRecDepth 100000 in
theorem s_d76 : s_dec prog_1_method_16_code s_t76 := by unfold s_dec; decide +kernel
-- CampAshes$State.rakeAshes()I
def s_t77 : List (Nat × Instr × Nat × Nat) := [(0, .iconst 0, 1, 0), (1, .istore_n 1, 1, 0), (2, .iconst 0, 1, 0), (3, .istore_n 2, 1, 0), (4, .iload_n 2, 1, 0), (5, .iconst 4, 1, 0), (6, .if_icmp .ge 18, 3, 24), (9, .iload_n 1, 1, 0), (10, .aload_n 0, 1, 0), (11, .getfield 18, 3, 0), (14, .iload_n 2, 1, 0), (15, .iaload, 1, 0), (16, .iadd, 1, 0), (17, .istore_n 1, 1, 0), (18, .iinc 2 1, 3, 0), (21, .goto (-17), 3, 4), (24, .iload_n 1, 1, 0), (25, .ifCond .ne 5, 3, 30), (28, .iconst 1, 1, 0), (29, .ireturn, 1, 0), (30, .aload_n 0, 1, 0), (31, .getfield 18, 3, 0), (34, .iconst 0, 1, 0), (35, .invokestatic 28, 3, 0), (38, .iconst 0, 1, 0), (39, .ireturn, 1, 0)]
set_option maxRecDepth 100000 in
theorem s_d77 : s_dec prog_10_method_21_code s_t77 := by unfold s_dec; decide +kernel
-- CampAshes.days(I)I
def s_t78 : List (Nat × Instr × Nat × Nat) := [(0, .iload_n 1, 1, 0), (1, .iconst 1, 1, 0), (2, .if_icmp .lt 9, 3, 11), (5, .iload_n 1, 1, 0), (6, .bipush 60, 2, 0), (8, .if_icmp .le 5, 3, 13), (11, .iconst (-1), 1, 0), (12, .ireturn, 1, 0), (13, .aload_n 0, 1, 0), (14, .getfield 35, 3, 0), (17, .aload_n 0, 1, 0), (18, .getfield 31, 3, 0), (21, .invokevirtual 210, 3, 0), (24, .aload_n 0, 1, 0), (25, .getfield 35, 3, 0), (28, .iload_n 1, 1, 0), (29, .invokevirtual 232, 3, 0), (32, .istore_n 2, 1, 0), (33, .iload_n 2, 1, 0), (34, .ifCond .le 7, 3, 41), (37, .aload_n 0, 1, 0), (38, .invokevirtual 235, 3, 0), (41, .iload_n 2, 1, 0), (42, .ireturn, 1, 0)]
set_option maxRecDepth 100000 in
theorem s_d78 : s_dec prog_1_method_17_code s_t78 := by unfold s_dec; decide +kernel
-- CampAshes$State.passDays(I)I
def s_t79 : List (Nat × Instr × Nat × Nat) := [(0, .iload_n 1, 1, 0), (1, .aload_n 0, 1, 0), (2, .invokevirtual 123, 3, 0), (5, .invokestatic 114, 3, 0), (8, .istore_n 2, 1, 0), (9, .iconst 0, 1, 0), (10, .istore_n 3, 1, 0), (11, .iload_n 3, 1, 0), (12, .iload_n 2, 1, 0), (13, .if_icmp .ge 13, 3, 26), (16, .aload_n 0, 1, 0), (17, .invokevirtual 127, 3, 0), (20, .iinc 3 1, 3, 0), (23, .goto (-12), 3, 11), (26, .iload_n 2, 1, 0), (27, .ireturn, 1, 0)]
set_option maxRecDepth 100000 in
theorem s_d79 : s_dec prog_10_method_23_code s_t79 := by unfold s_dec; decide +kernel
-- CampAshes$State.daysLeft()I
def s_t80 : List (Nat × Instr × Nat × Nat) := [(0, .sipush 400, 3, 0), (3, .aload_n 0, 1, 0), (4, .getfield 52, 3, 0), (7, .isub, 1, 0), (8, .ireturn, 1, 0)]
set_option maxRecDepth 100000 in
theorem s_d80 : s_dec prog_10_method_22_code s_t80 := by unfold s_dec; decide +kernel
-- CampAshes$State.passDay()V
def s_t81 : List (Nat × Instr × Nat × Nat) := [(0, .iconst 0, 1, 0), (1, .istore_n 1, 1, 0), (2, .iload_n 1, 1, 0), (3, .aload_n 0, 1, 0), (4, .getfield 24, 3, 0), (7, .getfield 90, 3, 0), (10, .if_icmp .ge 27, 3, 37), (13, .aload_n 0, 1, 0), (14, .iload_n 1, 1, 0), (15, .invokevirtual 93, 3, 0), (18, .ifCond .eq 13, 3, 31), (21, .aload_n 0, 1, 0), (22, .getfield 21, 3, 0), (25, .iload_n 1, 1, 0), (26, .dup2, 1, 0), (27, .iaload, 1, 0), (28, .iconst 1, 1, 0), (29, .iadd, 1, 0), (30, .iastore, 1, 0), (31, .iinc 1 1, 3, 0), (34, .goto (-32), 3, 2), (37, .aload_n 0, 1, 0), (38, .aload_n 0, 1, 0), (39, .getfield 43, 3, 0), (42, .iconst 2, 1, 0), (43, .idiv, 1, 0), (44, .aload_n 0, 1, 0), (45, .getfield 24, 3, 0), (48, .getfield 130, 3, 0), (51, .iadd, 1, 0), (52, .bipush 30, 2, 0), (54, .invokestatic 114, 3, 0), (57, .putfield 43, 3, 0), (60, .aload_n 0, 1, 0), (61, .dup, 1, 0), (62, .getfield 52, 3, 0), (65, .iconst 1, 1, 0), (66, .iadd, 1, 0), (67, .putfield 52, 3, 0), (70, .aload_n 0, 1, 0), (71, .iconst 0, 1, 0), (72, .putfield 34, 3, 0), (75, .return_, 1, 0)]
set_option maxRecDepth 100000 in
theorem s_d81 : s_dec prog_10_method_24_code s_t81 := by unfold s_dec; decide +kernel
-- CampAshes.undo()I
def s_t82 : List (Nat × Instr × Nat × Nat) := [(0, .aload_n 0, 1, 0), (1, .getfield 58, 3, 0), (4, .aload_n 0, 1, 0), (5, .getfield 31, 3, 0), (8, .invokevirtual 238, 3, 0), (11, .ireturn, 1, 0)]
set_option maxRecDepth 100000 in
theorem s_d82 : s_dec prog_1_method_18_code s_t82 := by unfold s_dec; decide +kernel
-- CampAshes$History.takeBack(LCampAshes$State;)I
def s_t83 : List (Nat × Instr × Nat × Nat) := [(0, .aload_n 0, 1, 0), (1, .getfield 20, 3, 0), (4, .ifCond .ne 5, 3, 9), (7, .iconst (-1), 1, 0), (8, .ireturn, 1, 0), (9, .aload_n 0, 1, 0), (10, .dup, 1, 0), (11, .getfield 20, 3, 0), (14, .iconst 1, 1, 0), (15, .isub, 1, 0), (16, .putfield 20, 3, 0), (19, .aload_n 0, 1, 0), (20, .aload_n 0, 1, 0), (21, .getfield 24, 3, 0), (24, .bipush 8, 2, 0), (26, .iadd, 1, 0), (27, .iconst 1, 1, 0), (28, .isub, 1, 0), (29, .bipush 8, 2, 0), (31, .irem, 1, 0), (32, .putfield 24, 3, 0), (35, .aload_n 1, 1, 0), (36, .aload_n 0, 1, 0), (37, .getfield 11, 3, 0), (40, .aload_n 0, 1, 0), (41, .getfield 24, 3, 0), (44, .aaload, 1, 0), (45, .invokevirtual 27, 3, 0), (48, .aload_n 0, 1, 0), (49, .getfield 20, 3, 0), (52, .ireturn, 1, 0)]
set_option maxRecDepth 100000 in
theorem s_d83 : s_dec prog_6_method_4_code s_t83 := by unfold s_dec; decide +kernel
-- CampAshes.best()I
def s_t84 : List (Nat × Instr × Nat × Nat) := [(0, .aload_n 0, 1, 0), (1, .getfield 72, 3, 0), (4, .aload_n 0, 1, 0), (5, .getfield 19, 3, 0), (8, .aload_n 0, 1, 0), (9, .getfield 31, 3, 0), (12, .invokevirtual 242, 3, 0), (15, .ireturn, 1, 0)]
set_option maxRecDepth 100000 in
theorem s_d84 : s_dec prog_1_method_19_code s_t84 := by unfold s_dec; decide +kernel
-- CampAshes$Advice.findBest(LCampAshes$Camp;LCampAshes$State;)I
def s_t85 : List (Nat × Instr × Nat × Nat) := [(0, .aload_n 0, 1, 0), (1, .aload_n 1, 1, 0), (2, .aload_n 2, 1, 0), (3, .invokevirtual 28, 3, 0), (6, .istore_n 3, 1, 0), (7, .bipush 127, 2, 0), (9, .istore 4, 2, 0), (11, .iload 4, 2, 0), (13, .ifCond .lt 89, 3, 102), (16, .aload_n 0, 1, 0), (17, .getfield 25, 3, 0), (20, .iload 4, 2, 0), (22, .iconst 0, 1, 0), (23, .iastore, 1, 0), (24, .iconst 0, 1, 0), (25, .istore 5, 2, 0), (27, .iload 5, 2, 0), (29, .aload_n 1, 1, 0), (30, .getfield 32, 3, 0), (33, .if_icmp .ge 63, 3, 96), (36, .iload_n 3, 1, 0), (37, .iload 4, 2, 0), (39, .iconst (-1), 1, 0), (40, .ixor, 1, 0), (41, .iand, 1, 0), (42, .iconst 1, 1, 0), (43, .iload 5, 2, 0), (45, .ishl, 1, 0), (46, .iand, 1, 0), (47, .ifCond .eq 43, 3, 90), (50, .aload_n 0, 1, 0), (51, .getfield 25, 3, 0), (54, .iload 4, 2, 0), (56, .aload_n 0, 1, 0), (57, .getfield 25, 3, 0), (60, .iload 4, 2, 0), (62, .iaload, 1, 0), (63, .aload_n 0, 1, 0), (64, .aload_n 1, 1, 0), (65, .aload_n 2, 1, 0), (66, .iload 5, 2, 0), (68, .iload 4, 2, 0), (70, .invokevirtual 37, 3, 0), (73, .aload_n 0, 1, 0), (74, .getfield 25, 3, 0), (77, .iload 4, 2, 0), (79, .iconst 1, 1, 0), (80, .iload 5, 2, 0), (82, .ishl, 1, 0), (83, .ior, 1, 0), (84, .iaload, 1, 0), (85, .iadd, 1, 0), (86, .invokestatic 41, 3, 0), (89, .iastore, 1, 0), (90, .iinc 5 1, 3, 0), (93, .goto (-66), 3, 27), (96, .iinc 4 (-1), 3, 0), (99, .goto (-88), 3, 11), (102, .aload_n 0, 1, 0), (103, .aload_n 1, 1, 0), (104, .aload_n 2, 1, 0), (105, .iload_n 3, 1, 0), (106, .invokevirtual 47, 3, 0), (109, .aload_n 0, 1, 0), (110, .getfield 25, 3, 0), (113, .iconst 0, 1, 0), (114, .iaload, 1, 0), (115, .ireturn, 1, 0)]
set_option maxRecDepth 100000 in
theorem s_d85 : s_dec prog_2_method_2_code s_t85 := by unfold s_dec; decide +kernel
-- CampAshes$Advice.findTellers(LCampAshes$Camp;LCampAshes$State;)I
def s_t86 : List (Nat × Instr × Nat × Nat) := [(0, .iconst 0, 1, 0), (1, .istore_n 3, 1, 0), (2, .iconst 0, 1, 0), (3, .istore 4, 2, 0), (5, .iload 4, 2, 0), (7, .aload_n 1, 1, 0), (8, .getfield 32, 3, 0), (11, .if_icmp .ge 50, 3, 61), (14, .aload_n 2, 1, 0), (15, .iload 4, 2, 0), (17, .invokevirtual 51, 3, 0), (20, .istore 5, 2, 0), (22, .aload_n 0, 1, 0), (23, .getfield 22, 3, 0), (26, .iload 4, 2, 0), (28, .iload 5, 2, 0), (30, .iastore, 1, 0), (31, .iload 5, 2, 0), (33, .iconst (-1), 1, 0), (34, .if_icmp .eq 21, 3, 55), (37, .aload_n 2, 1, 0), (38, .iload 4, 2, 0), (40, .iload 5, 2, 0), (42, .invokevirtual 56, 3, 0), (45, .ifCond .ne 10, 3, 55), (48, .iload_n 3, 1, 0), (49, .iconst 1, 1, 0), (50, .iload 4, 2, 0), (52, .ishl, 1, 0), (53, .ior, 1, 0), (54, .istore_n 3, 1, 0), (55, .iinc 4 1, 3, 0), (58, .goto (-53), 3, 5), (61, .iload_n 3, 1, 0), (62, .ireturn, 1, 0)]
set_option maxRecDepth 100000 in
theorem s_d86 : s_dec prog_2_method_3_code s_t86 := by unfold s_dec; decide +kernel
-- CampAshes$State.heaviest(I)I
def s_t87 : List (Nat × Instr × Nat × Nat) := [(0, .iconst (-1), 1, 0), (1, .istore_n 2, 1, 0), (2, .iconst 0, 1, 0), (3, .istore_n 3, 1, 0), (4, .iconst 0, 1, 0), (5, .istore 4, 2, 0), (7, .iload 4, 2, 0), (9, .aload_n 0, 1, 0), (10, .getfield 24, 3, 0), (13, .getfield 58, 3, 0), (16, .if_icmp .ge 31, 3, 47), (19, .aload_n 0, 1, 0), (20, .iload 4, 2, 0), (22, .iload_n 1, 1, 0), (23, .invokevirtual 86, 3, 0), (26, .iload_n 3, 1, 0), (27, .if_icmp .le 14, 3, 41), (30, .aload_n 0, 1, 0), (31, .iload 4, 2, 0), (33, .iload_n 1, 1, 0), (34, .invokevirtual 86, 3, 0), (37, .istore_n 3, 1, 0), (38, .iload 4, 2, 0), (40, .istore_n 2, 1, 0), (41, .iinc 4 1, 3, 0), (44, .goto (-37), 3, 7), (47, .iload_n 2, 1, 0), (48, .ireturn, 1, 0)]
set_option maxRecDepth 100000 in
theorem s_d87 : s_dec prog_10_method_14_code s_t87 := by unfold s_dec; decide +kernel
-- CampAshes$Advice.takenBy(LCampAshes$Camp;LCampAshes$State;II)I
def s_t88 : List (Nat × Instr × Nat × Nat) := [(0, .aload_n 0, 1, 0), (1, .getfield 22, 3, 0), (4, .iload_n 3, 1, 0), (5, .iaload, 1, 0), (6, .istore 5, 2, 0), (8, .aload_n 2, 1, 0), (9, .getfield 59, 3, 0), (12, .iload 4, 2, 0), (14, .invokestatic 62, 3, 0), (17, .isub, 1, 0), (18, .istore 6, 2, 0), (20, .iload 5, 2, 0), (22, .iconst (-1), 1, 0), (23, .if_icmp .eq 8, 3, 31), (26, .iload 6, 2, 0), (28, .ifCond .gt 5, 3, 33), (31, .iconst 0, 1, 0), (32, .ireturn, 1, 0), (33, .aload_n 2, 1, 0), (34, .iload 5, 2, 0), (36, .iload_n 3, 1, 0), (37, .invokevirtual 67, 3, 0), (40, .aload_n 1, 1, 0), (41, .getfield 70, 3, 0), (44, .aload_n 1, 1, 0), (45, .getfield 73, 3, 0), (48, .iload 5, 2, 0), (50, .iaload, 1, 0), (51, .iaload, 1, 0), (52, .iload 6, 2, 0), (54, .iconst 5, 1, 0), (55, .idiv, 1, 0), (56, .iadd, 1, 0), (57, .invokestatic 76, 3, 0), (60, .ireturn, 1, 0)]
set_option maxRecDepth 100000 in
theorem s_d88 : s_dec prog_2_method_4_code s_t88 := by unfold s_dec; decide +kernel
-- java/lang/Integer.bitCount(I)I
def s_t89 : List (Nat × Instr × Nat × Nat) := [(0, .iload_n 0, 1, 0), (1, .iload_n 0, 1, 0), (2, .iconst 1, 1, 0), (3, .iushr, 1, 0), (4, .ldc_w 265, 3, 0), (7, .iand, 1, 0), (8, .isub, 1, 0), (9, .istore_n 0, 1, 0), (10, .iload_n 0, 1, 0), (11, .ldc_w 266, 3, 0), (14, .iand, 1, 0), (15, .iload_n 0, 1, 0), (16, .iconst 2, 1, 0), (17, .iushr, 1, 0), (18, .ldc_w 266, 3, 0), (21, .iand, 1, 0), (22, .iadd, 1, 0), (23, .istore_n 0, 1, 0), (24, .iload_n 0, 1, 0), (25, .iload_n 0, 1, 0), (26, .iconst 4, 1, 0), (27, .iushr, 1, 0), (28, .iadd, 1, 0), (29, .ldc_w 267, 3, 0), (32, .iand, 1, 0), (33, .istore_n 0, 1, 0), (34, .iload_n 0, 1, 0), (35, .iload_n 0, 1, 0), (36, .bipush 8, 2, 0), (38, .iushr, 1, 0), (39, .iadd, 1, 0), (40, .istore_n 0, 1, 0), (41, .iload_n 0, 1, 0), (42, .iload_n 0, 1, 0), (43, .bipush 16, 2, 0), (45, .iushr, 1, 0), (46, .iadd, 1, 0), (47, .istore_n 0, 1, 0), (48, .iload_n 0, 1, 0), (49, .bipush 63, 2, 0), (51, .iand, 1, 0), (52, .ireturn, 1, 0)]
set_option maxRecDepth 100000 in
theorem s_d89 : s_dec prog_20_method_49_code s_t89 := by unfold s_dec; decide +kernel
-- java/lang/Math.max(II)I
def s_t90 : List (Nat × Instr × Nat × Nat) := [(0, .iload_n 0, 1, 0), (1, .iload_n 1, 1, 0), (2, .if_icmp .lt 7, 3, 9), (5, .iload_n 0, 1, 0), (6, .goto 4, 3, 10), (9, .iload_n 1, 1, 0), (10, .ireturn, 1, 0)]
set_option maxRecDepth 100000 in
theorem s_d90 : s_dec prog_21_method_65_code s_t90 := by unfold s_dec; decide +kernel
-- CampAshes$Advice.layRow(LCampAshes$Camp;LCampAshes$State;I)V
def s_t91 : List (Nat × Instr × Nat × Nat) := [(0, .iconst 0, 1, 0), (1, .istore 4, 2, 0), (3, .aload_n 0, 1, 0), (4, .iload_n 3, 1, 0), (5, .invokestatic 62, 3, 0), (8, .putfield 79, 3, 0), (11, .iconst 0, 1, 0), (12, .istore 5, 2, 0), (14, .iload 5, 2, 0), (16, .aload_n 0, 1, 0), (17, .getfield 79, 3, 0), (20, .if_icmp .ge 107, 3, 127), (23, .iconst 0, 1, 0), (24, .istore 6, 2, 0), (26, .iload 6, 2, 0), (28, .aload_n 1, 1, 0), (29, .getfield 32, 3, 0), (32, .if_icmp .ge 89, 3, 121), (35, .iload_n 3, 1, 0), (36, .iload 4, 2, 0), (38, .iconst (-1), 1, 0), (39, .ixor, 1, 0), (40, .iand, 1, 0), (41, .iconst 1, 1, 0), (42, .iload 6, 2, 0), (44, .ishl, 1, 0), (45, .iand, 1, 0), (46, .ifCond .eq 7, 3, 53), (49, .iconst 1, 1, 0), (50, .goto 4, 3, 54), (53, .iconst 0, 1, 0), (54, .istore 7, 2, 0), (56, .iload 7, 2, 0), (58, .ifCond .eq 57, 3, 115), (61, .aload_n 0, 1, 0), (62, .aload_n 1, 1, 0), (63, .aload_n 2, 1, 0), (64, .iload 6, 2, 0), (66, .iload 4, 2, 0), (68, .invokevirtual 37, 3, 0), (71, .aload_n 0, 1, 0), (72, .getfield 25, 3, 0), (75, .iload 4, 2, 0), (77, .iconst 1, 1, 0), (78, .iload 6, 2, 0), (80, .ishl, 1, 0), (81, .ior, 1, 0), (82, .iaload, 1, 0), (83, .iadd, 1, 0), (84, .aload_n 0, 1, 0), (85, .getfield 25, 3, 0), (88, .iload 4, 2, 0), (90, .iaload, 1, 0), (91, .if_icmp .ne 24, 3, 115), (94, .aload_n 0, 1, 0), (95, .getfield 9, 3, 0), (98, .iload 5, 2, 0), (100, .iload 6, 2, 0), (102, .iastore, 1, 0), (103, .iload 4, 2, 0), (105, .iconst 1, 1, 0), (106, .iload 6, 2, 0), (108, .ishl, 1, 0), (109, .ior, 1, 0), (110, .istore 4, 2, 0), (112, .goto 9, 3, 121), (115, .iinc 6 1, 3, 0), (118, .goto (-92), 3, 26), (121, .iinc 5 1, 3, 0), (124, .goto (-110), 3, 14), (127, .return_, 1, 0)]
set_option maxRecDepth 100000 in
theorem s_d91 : s_dec prog_2_method_5_code s_t91 := by unfold s_dec; decide +kernel
-- CampAshes.bestAt(I)I
def s_t92 : List (Nat × Instr × Nat × Nat) := [(0, .iload_n 1, 1, 0), (1, .ifCond .lt 26, 3, 27), (4, .iload_n 1, 1, 0), (5, .aload_n 0, 1, 0), (6, .getfield 72, 3, 0), (9, .getfield 246, 3, 0), (12, .if_icmp .ge 15, 3, 27), (15, .aload_n 0, 1, 0), (16, .getfield 72, 3, 0), (19, .getfield 249, 3, 0), (22, .iload_n 1, 1, 0), (23, .iaload, 1, 0), (24, .goto 4, 3, 28), (27, .iconst (-1), 1, 0), (28, .ireturn, 1, 0)]
set_option maxRecDepth 100000 in
theorem s_d92 : s_dec prog_1_method_20_code s_t92 := by unfold s_dec; decide +kernel
-- CampAshes.spread()I
def s_t93 : List (Nat × Instr × Nat × Nat) := [(0, .aload_n 0, 1, 0), (1, .getfield 72, 3, 0), (4, .aload_n 0, 1, 0), (5, .getfield 19, 3, 0), (8, .aload_n 0, 1, 0), (9, .getfield 31, 3, 0), (12, .invokevirtual 252, 3, 0), (15, .ireturn, 1, 0)]
set_option maxRecDepth 100000 in
theorem s_d93 : s_dec prog_1_method_21_code s_t93 := by unfold s_dec; decide +kernel
end
section
-- CampAshes$Advice.findSpread(LCampAshes$Camp;LCampAshes$State;)I
def s_t94 : List (Nat × Instr × Nat × Nat) := [(0, .iconst 0, 1, 0), (1, .istore_n 3, 1, 0), (2, .iconst 0, 1, 0), (3, .istore 4, 2, 0), (5, .iconst 0, 1, 0), (6, .istore 5, 2, 0), (8, .iload 5, 2, 0), (10, .aload_n 1, 1, 0), (11, .getfield 32, 3, 0), (14, .if_icmp .ge 46, 3, 60), (17, .aload_n 1, 1, 0), (18, .getfield 82, 3, 0), (21, .iload 5, 2, 0), (23, .iaload, 1, 0), (24, .aload_n 2, 1, 0), (25, .getfield 85, 3, 0), (28, .iload 5, 2, 0), (30, .iaload, 1, 0), (31, .isub, 1, 0), (32, .istore 6, 2, 0), (34, .iload 6, 2, 0), (36, .ifCond .ge 11, 3, 47), (39, .iload_n 3, 1, 0), (40, .iload 6, 2, 0), (42, .isub, 1, 0), (43, .istore_n 3, 1, 0), (44, .goto 10, 3, 54), (47, .iload 4, 2, 0), (49, .iload 6, 2, 0), (51, .iadd, 1, 0), (52, .istore 4, 2, 0), (54, .iinc 5 1, 3, 0), (57, .goto (-49), 3, 8), (60, .iload_n 3, 1, 0), (61, .iload 4, 2, 0), (63, .if_icmp .le 5, 3, 68), (66, .iconst (-1), 1, 0), (67, .ireturn, 1, 0), (68, .aload_n 0, 1, 0), (69, .getfield 15, 3, 0), (72, .iconst 0, 1, 0), (73, .invokestatic 88, 3, 0), (76, .iload_n 3, 1, 0), (77, .istore 5, 2, 0), (79, .iconst 0, 1, 0), (80, .istore 6, 2, 0), (82, .iload 6, 2, 0), (84, .aload_n 1, 1, 0), (85, .getfield 32, 3, 0), (88, .if_icmp .ge 57, 3, 145), (91, .aload_n 2, 1, 0), (92, .iload 6, 2, 0), (94, .invokevirtual 94, 3, 0), (97, .ifCond .ne 42, 3, 139), (100, .aload_n 0, 1, 0), (101, .getfield 15, 3, 0), (104, .iload 6, 2, 0), (106, .iload 5, 2, 0), (108, .aload_n 1, 1, 0), (109, .getfield 82, 3, 0), (112, .iload 6, 2, 0), (114, .iaload, 1, 0), (115, .aload_n 2, 1, 0), (116, .getfield 85, 3, 0), (119, .iload 6, 2, 0), (121, .iaload, 1, 0), (122, .isub, 1, 0), (123, .invokestatic 76, 3, 0), (126, .iastore, 1, 0), (127, .iload 5, 2, 0), (129, .aload_n 0, 1, 0), (130, .getfield 15, 3, 0), (133, .iload 6, 2, 0), (135, .iaload, 1, 0), (136, .isub, 1, 0), (137, .istore 5, 2, 0), (139, .iinc 6 1, 3, 0), (142, .goto (-60), 3, 82), (145, .aload_n 0, 1, 0), (146, .aload_n 1, 1, 0), (147, .getfield 32, 3, 0), (150, .putfield 98, 3, 0), (153, .iload_n 3, 1, 0), (154, .ireturn, 1, 0)]
set_option maxRecDepth 100000 in
theorem s_d94 : s_dec prog_2_method_6_code s_t94 := by unfold s_dec; decide +kernel
-- CampAshes.spreadOf(I)I
def s_t95 : List (Nat × Instr × Nat × Nat) := [(0, .iload_n 1, 1, 0), (1, .ifCond .lt 26, 3, 27), (4, .iload_n 1, 1, 0), (5, .aload_n 0, 1, 0), (6, .getfield 72, 3, 0), (9, .getfield 255, 3, 0), (12, .if_icmp .ge 15, 3, 27), (15, .aload_n 0, 1, 0), (16, .getfield 72, 3, 0), (19, .getfield 258, 3, 0), (22, .iload_n 1, 1, 0), (23, .iaload, 1, 0), (24, .goto 4, 3, 28), (27, .iconst (-1), 1, 0), (28, .ireturn, 1, 0)]
set_option maxRecDepth 100000 in
theorem s_d95 : s_dec prog_1_method_22_code s_t95 := by unfold s_dec; decide +kernel
-- CampAshes.says(II)I
def s_t96 : List (Nat × Instr × Nat × Nat) := [(0, .aload_n 0, 1, 0), (1, .getfield 19, 3, 0), (4, .iload_n 1, 1, 0), (5, .invokevirtual 126, 3, 0), (8, .ifCond .eq 15, 3, 23), (11, .iload_n 2, 1, 0), (12, .iconst 1, 1, 0), (13, .if_icmp .lt 10, 3, 23), (16, .iload_n 2, 1, 0), (17, .sipush 200, 3, 0), (20, .if_icmp .le 5, 3, 25), (23, .iconst (-1), 1, 0), (24, .ireturn, 1, 0), (25, .aload_n 0, 1, 0), (26, .getfield 72, 3, 0), (29, .aload_n 0, 1, 0), (30, .getfield 19, 3, 0), (33, .aload_n 0, 1, 0), (34, .getfield 31, 3, 0), (37, .iload_n 1, 1, 0), (38, .iload_n 2, 1, 0), (39, .invokevirtual 261, 3, 0), (42, .ireturn, 1, 0)]
set_option maxRecDepth 100000 in
theorem s_d96 : s_dec prog_1_method_23_code s_t96 := by unfold s_dec; decide +kernel
-- CampAshes$Advice.findSaying(LCampAshes$Camp;LCampAshes$State;II)I
def s_t97 : List (Nat × Instr × Nat × Nat) := [(0, .aload_n 2, 1, 0), (1, .iload_n 3, 1, 0), (2, .invokevirtual 101, 3, 0), (5, .istore 5, 2, 0), (7, .bipush 11, 2, 0), (9, .istore 6, 2, 0), (11, .iconst 0, 1, 0), (12, .istore 7, 2, 0), (14, .iconst 1, 1, 0), (15, .istore 8, 2, 0), (17, .iload 8, 2, 0), (19, .iconst 1, 1, 0), (20, .aload_n 1, 1, 0), (21, .getfield 104, 3, 0), (24, .ishl, 1, 0), (25, .if_icmp .ge 54, 3, 79), (28, .iload 8, 2, 0), (30, .invokestatic 62, 3, 0), (33, .istore 9, 2, 0), (35, .iload 8, 2, 0), (37, .iload 5, 2, 0), (39, .iconst (-1), 1, 0), (40, .ixor, 1, 0), (41, .iand, 1, 0), (42, .ifCond .ne 31, 3, 73), (45, .iload 9, 2, 0), (47, .iload 6, 2, 0), (49, .if_icmp .ge 24, 3, 73), (52, .aload_n 1, 1, 0), (53, .aload_n 2, 1, 0), (54, .iload_n 3, 1, 0), (55, .iload 8, 2, 0), (57, .invokestatic 107, 3, 0), (60, .iload 4, 2, 0), (62, .if_icmp .ne 11, 3, 73), (65, .iload 9, 2, 0), (67, .istore 6, 2, 0), (69, .iload 8, 2, 0), (71, .istore 7, 2, 0), (73, .iinc 8 1, 3, 0), (76, .goto (-59), 3, 17), (79, .iload 7, 2, 0), (81, .ifCond .ne 5, 3, 86), (84, .iconst (-1), 1, 0), (85, .ireturn, 1, 0), (86, .aload_n 0, 1, 0), (87, .iload 7, 2, 0), (89, .putfield 18, 3, 0), (92, .iload 6, 2, 0), (94, .ireturn, 1, 0)]
set_option maxRecDepth 100000 in
theorem s_d97 : s_dec prog_2_method_7_code s_t97 := by unfold s_dec; decide +kernel
-- CampAshes$State.eventBits(I)I
def s_t98 : List (Nat × Instr × Nat × Nat) := [(0, .iconst 0, 1, 0), (1, .istore_n 2, 1, 0), (2, .iconst 0, 1, 0), (3, .istore_n 3, 1, 0), (4, .iload_n 3, 1, 0), (5, .aload_n 0, 1, 0), (6, .getfield 24, 3, 0), (9, .getfield 58, 3, 0), (12, .if_icmp .ge 24, 3, 36), (15, .aload_n 0, 1, 0), (16, .iload_n 3, 1, 0), (17, .iload_n 1, 1, 0), (18, .invokevirtual 86, 3, 0), (21, .ifCond .le 9, 3, 30), (24, .iload_n 2, 1, 0), (25, .iconst 1, 1, 0), (26, .iload_n 3, 1, 0), (27, .ishl, 1, 0), (28, .ior, 1, 0), (29, .istore_n 2, 1, 0), (30, .iinc 3 1, 3, 0), (33, .goto (-29), 3, 4), (36, .iload_n 2, 1, 0), (37, .ireturn, 1, 0)]
set_option maxRecDepth 100000 in
theorem s_d98 : s_dec prog_10_method_10_code s_t98 := by unfold s_dec; decide +kernel
-- CampAshes$Advice.weightOf(LCampAshes$Camp;LCampAshes$State;II)I
def s_t99 : List (Nat × Instr × Nat × Nat) := [(0, .iconst 0, 1, 0), (1, .istore 4, 2, 0), (3, .iconst 0, 1, 0), (4, .istore 5, 2, 0), (6, .iload 5, 2, 0), (8, .aload_n 0, 1, 0), (9, .getfield 104, 3, 0), (12, .if_icmp .ge 31, 3, 43), (15, .iload_n 3, 1, 0), (16, .iload 5, 2, 0), (18, .ishr, 1, 0), (19, .iconst 1, 1, 0), (20, .iand, 1, 0), (21, .iconst 1, 1, 0), (22, .if_icmp .ne 15, 3, 37), (25, .iload 4, 2, 0), (27, .aload_n 1, 1, 0), (28, .iload 5, 2, 0), (30, .iload_n 2, 1, 0), (31, .invokevirtual 67, 3, 0), (34, .iadd, 1, 0), (35, .istore 4, 2, 0), (37, .iinc 5 1, 3, 0), (40, .goto (-34), 3, 6), (43, .iload 4, 2, 0), (45, .ireturn, 1, 0)]
set_option maxRecDepth 100000 in
theorem s_d99 : s_dec prog_2_method_8_code s_t99 := by unfold s_dec; decide +kernel
-- CampAshes.saying()I
def s_t100 : List (Nat × Instr × Nat × Nat) := [(0, .aload_n 0, 1, 0), (1, .getfield 72, 3, 0), (4, .getfield 265, 3, 0), (7, .ireturn, 1, 0)]
set_option maxRecDepth 100000 in
theorem s_d100 : s_dec prog_1_method_24_code s_t100 := by unfold s_dec; decide +kernel
-- CampAshes.tents(I)I
def s_t101 : List (Nat × Instr × Nat × Nat) := [(0, .iload_n 1, 1, 0), (1, .iconst 1, 1, 0), (2, .if_icmp .lt 10, 3, 12), (5, .iload_n 1, 1, 0), (6, .sipush 400, 3, 0), (9, .if_icmp .le 5, 3, 14), (12, .iconst (-1), 1, 0), (13, .ireturn, 1, 0), (14, .aload_n 0, 1, 0), (15, .getfield 72, 3, 0), (18, .aload_n 0, 1, 0), (19, .getfield 19, 3, 0), (22, .aload_n 0, 1, 0), (23, .getfield 31, 3, 0), (26, .iload_n 1, 1, 0), (27, .invokevirtual 268, 3, 0), (30, .ireturn, 1, 0)]
set_option maxRecDepth 100000 in
theorem s_d101 : s_dec prog_1_method_25_code s_t101 := by unfold s_dec; decide +kernel
-- CampAshes$Advice.countTents(LCampAshes$Camp;LCampAshes$State;I)I
def s_t102 : List (Nat × Instr × Nat × Nat) := [(0, .iconst 0, 1, 0), (1, .istore 4, 2, 0), (3, .iload 4, 2, 0), (5, .aload_n 1, 1, 0), (6, .getfield 32, 3, 0), (9, .if_icmp .ge 22, 3, 31), (12, .aload_n 2, 1, 0), (13, .getfield 85, 3, 0), (16, .iload 4, 2, 0), (18, .iaload, 1, 0), (19, .iload_n 3, 1, 0), (20, .if_icmp .le 5, 3, 25), (23, .iconst (-1), 1, 0), (24, .ireturn, 1, 0), (25, .iinc 4 1, 3, 0), (28, .goto (-25), 3, 3), (31, .iconst 1, 1, 0), (32, .aload_n 1, 1, 0), (33, .getfield 32, 3, 0), (36, .ishl, 1, 0), (37, .iconst 1, 1, 0), (38, .isub, 1, 0), (39, .istore 4, 2, 0), (41, .aload_n 0, 1, 0), (42, .getfield 25, 3, 0), (45, .iconst 0, 1, 0), (46, .iconst 0, 1, 0), (47, .iastore, 1, 0), (48, .iconst 1, 1, 0), (49, .istore 5, 2, 0), (51, .iload 5, 2, 0), (53, .iload 4, 2, 0), (55, .if_icmp .gt 89, 3, 144), (58, .aload_n 0, 1, 0), (59, .getfield 25, 3, 0), (62, .iload 5, 2, 0), (64, .ldc 110, 2, 0), (66, .iastore, 1, 0), (67, .iconst 0, 1, 0), (68, .istore 6, 2, 0), (70, .iload 6, 2, 0), (72, .aload_n 1, 1, 0), (73, .getfield 32, 3, 0), (76, .if_icmp .ge 62, 3, 138), (79, .iload 5, 2, 0), (81, .iload 6, 2, 0), (83, .ishr, 1, 0), (84, .iconst 1, 1, 0), (85, .iand, 1, 0), (86, .iconst 1, 1, 0), (87, .if_icmp .ne 45, 3, 132), (90, .aload_n 0, 1, 0), (91, .getfield 25, 3, 0), (94, .iload 5, 2, 0), (96, .aload_n 0, 1, 0), (97, .getfield 25, 3, 0), (100, .iload 5, 2, 0), (102, .iaload, 1, 0), (103, .aload_n 0, 1, 0), (104, .getfield 25, 3, 0), (107, .iload 5, 2, 0), (109, .iconst 1, 1, 0), (110, .iload 6, 2, 0), (112, .ishl, 1, 0), (113, .iconst (-1), 1, 0), (114, .ixor, 1, 0), (115, .iand, 1, 0), (116, .iaload, 1, 0), (117, .aload_n 2, 1, 0), (118, .getfield 85, 3, 0), (121, .iload 6, 2, 0), (123, .iaload, 1, 0), (124, .iload_n 3, 1, 0), (125, .invokestatic 111, 3, 0), (128, .invokestatic 76, 3, 0), (131, .iastore, 1, 0), (132, .iinc 6 1, 3, 0), (135, .goto (-65), 3, 70), (138, .iinc 5 1, 3, 0), (141, .goto (-90), 3, 51), (144, .aload_n 0, 1, 0), (145, .getfield 25, 3, 0), (148, .iload 4, 2, 0), (150, .iaload, 1, 0), (151, .sipush 1024, 3, 0), (154, .idiv, 1, 0), (155, .ireturn, 1, 0)]
set_option maxRecDepth 100000 in
theorem s_d102 : s_dec prog_2_method_9_code s_t102 := by unfold s_dec; decide +kernel
-- CampAshes$Advice.withOneMore(III)I
def s_t103 : List (Nat × Instr × Nat × Nat) := [(0, .iload_n 0, 1, 0), (1, .sipush 1024, 3, 0), (4, .if_icmp .lt 18, 3, 22), (7, .iload_n 0, 1, 0), (8, .sipush 1024, 3, 0), (11, .irem, 1, 0), (12, .iload_n 1, 1, 0), (13, .iadd, 1, 0), (14, .iload_n 2, 1, 0), (15, .if_icmp .gt 7, 3, 22), (18, .iconst 1, 1, 0), (19, .goto 4, 3, 23), (22, .iconst 0, 1, 0), (23, .istore_n 3, 1, 0), (24, .iload_n 3, 1, 0), (25, .ifCond .eq 9, 3, 34), (28, .iload_n 0, 1, 0), (29, .iload_n 1, 1, 0), (30, .iadd, 1, 0), (31, .goto 16, 3, 47), (34, .iload_n 0, 1, 0), (35, .sipush 1024, 3, 0), (38, .idiv, 1, 0), (39, .iconst 1, 1, 0), (40, .iadd, 1, 0), (41, .sipush 1024, 3, 0), (44, .imul, 1, 0), (45, .iload_n 1, 1, 0), (46, .iadd, 1, 0), (47, .ireturn, 1, 0)]
set_option maxRecDepth 100000 in
theorem s_d103 : s_dec prog_2_method_10_code s_t103 := by unfold s_dec; decide +kernel
-- CampAshes.laws()I
def s_t104 : List (Nat × Instr × Nat × Nat) := [(0, .aload_n 0, 1, 0), (1, .getfield 79, 3, 0), (4, .aload_n 0, 1, 0), (5, .getfield 10, 3, 0), (8, .invokevirtual 272, 3, 0), (11, .istore_n 1, 1, 0), (12, .aload_n 0, 1, 0), (13, .getfield 10, 3, 0), (16, .iconst 0, 1, 0), (17, .putfield 97, 3, 0), (20, .iload_n 1, 1, 0), (21, .ireturn, 1, 0)]
set_option maxRecDepth 100000 in
theorem s_d104 : s_dec prog_1_method_26_code s_t104 := by unfold s_dec; decide +kernel
-- CampAshes$Laws.findLaws(LCampAshes$Tape;)I
def s_t105 : List (Nat × Instr × Nat × Nat) := [(0, .aload_n 1, 1, 0), (1, .getfield 9, 3, 0), (4, .istore_n 2, 1, 0), (5, .iload_n 2, 1, 0), (6, .iconst 3, 1, 0), (7, .if_icmp .lt 15, 3, 22), (10, .iload_n 2, 1, 0), (11, .bipush 18, 2, 0), (13, .if_icmp .gt 9, 3, 22), (16, .iload_n 2, 1, 0), (17, .iconst 3, 1, 0), (18, .irem, 1, 0), (19, .ifCond .eq 5, 3, 24), (22, .iconst (-1), 1, 0), (23, .ireturn, 1, 0), (24, .sipush 1023, 3, 0), (27, .istore_n 3, 1, 0), (28, .iconst 0, 1, 0), (29, .istore 4, 2, 0), (31, .iload 4, 2, 0), (33, .iconst 2, 1, 0), (34, .iadd, 1, 0), (35, .iload_n 2, 1, 0), (36, .if_icmp .ge 98, 3, 134), (39, .aload_n 1, 1, 0), (40, .getfield 17, 3, 0), (43, .iload 4, 2, 0), (45, .baload, 1, 0), (46, .sipush 255, 3, 0), (49, .iand, 1, 0), (50, .istore 5, 2, 0), (52, .iload 5, 2, 0), (54, .iconst 1, 1, 0), (55, .if_icmp .lt 10, 3, 65), (58, .iload 5, 2, 0), (60, .bipush 30, 2, 0), (62, .if_icmp .le 5, 3, 67), (65, .iconst (-1), 1, 0), (66, .ireturn, 1, 0), (67, .iconst 0, 1, 0), (68, .istore 6, 2, 0), (70, .iload 6, 2, 0), (72, .bipush 10, 2, 0), (74, .if_icmp .ge 54, 3, 128), (77, .iload 6, 2, 0), (79, .iload 5, 2, 0), (81, .aload_n 1, 1, 0), (82, .getfield 17, 3, 0), (85, .iload 4, 2, 0), (87, .iconst 1, 1, 0), (88, .iadd, 1, 0), (89, .baload, 1, 0), (90, .sipush 255, 3, 0), (93, .iand, 1, 0), (94, .invokestatic 21, 3, 0), (97, .aload_n 1, 1, 0), (98, .getfield 17, 3, 0), (101, .iload 4, 2, 0), (103, .iconst 2, 1, 0), (104, .iadd, 1, 0), (105, .baload, 1, 0), (106, .sipush 255, 3, 0), (109, .iand, 1, 0), (110, .if_icmp .eq 12, 3, 122), (113, .iload_n 3, 1, 0), (114, .iconst 1, 1, 0), (115, .iload 6, 2, 0), (117, .ishl, 1, 0), (118, .iconst (-1), 1, 0), (119, .ixor, 1, 0), (120, .iand, 1, 0), (121, .istore_n 3, 1, 0), (122, .iinc 6 1, 3, 0), (125, .goto (-55), 3, 70), (128, .iinc 4 3, 3, 0), (131, .goto (-100), 3, 31), (134, .iload_n 3, 1, 0), (135, .ifCond .le 8, 3, 143), (138, .aload_n 0, 1, 0), (139, .iload_n 3, 1, 0), (140, .putfield 25, 3, 0), (143, .iload_n 3, 1, 0), (144, .ireturn, 1, 0)]
set_option maxRecDepth 100000 in
theorem s_d105 : s_dec prog_8_method_2_code s_t105 := by unfold s_dec; decide +kernel
-- CampAshes$Laws.leftBehind(III)I
def s_t106 : List (Nat × Instr × Nat × Nat) := [(0, .iconst 0, 1, 0), (1, .iload_n 2, 1, 0), (2, .iload_n 0, 1, 0), (3, .isub, 1, 0), (4, .iload_n 1, 1, 0), (5, .iconst 5, 1, 0), (6, .idiv, 1, 0), (7, .isub, 1, 0), (8, .invokestatic 28, 3, 0), (11, .ireturn, 1, 0)]
set_option maxRecDepth 100000 in
theorem s_d106 : s_dec prog_8_method_3_code s_t106 := by unfold s_dec; decide +kernel
-- CampAshes.watch()I
def s_t107 : List (Nat × Instr × Nat × Nat) := [(0, .aload_n 0, 1, 0), (1, .getfield 79, 3, 0), (4, .invokevirtual 275, 3, 0), (7, .ireturn, 1, 0)]
set_option maxRecDepth 100000 in
theorem s_d107 : s_dec prog_1_method_27_code s_t107 := by unfold s_dec; decide +kernel
-- CampAshes$Laws.findWatch()I
def s_t108 : List (Nat × Instr × Nat × Nat) := [(0, .aload_n 0, 1, 0), (1, .getfield 25, 3, 0), (4, .ifCond .ne 5, 3, 9), (7, .iconst (-1), 1, 0), (8, .ireturn, 1, 0), (9, .iconst 1, 1, 0), (10, .istore_n 1, 1, 0), (11, .bipush 11, 2, 0), (13, .istore_n 2, 1, 0), (14, .iconst 1, 1, 0), (15, .istore_n 3, 1, 0), (16, .iload_n 3, 1, 0), (17, .bipush 40, 2, 0), (19, .if_icmp .gt 27, 3, 46), (22, .aload_n 0, 1, 0), (23, .iload_n 3, 1, 0), (24, .invokevirtual 34, 3, 0), (27, .istore 4, 2, 0), (29, .iload 4, 2, 0), (31, .iload_n 2, 1, 0), (32, .if_icmp .ge 8, 3, 40), (35, .iload 4, 2, 0), (37, .istore_n 2, 1, 0), (38, .iload_n 3, 1, 0), (39, .istore_n 1, 1, 0), (40, .iinc 3 1, 3, 0), (43, .goto (-27), 3, 16), (46, .iload_n 1, 1, 0), (47, .ireturn, 1, 0)]
set_option maxRecDepth 100000 in
theorem s_d108 : s_dec prog_8_method_4_code s_t108 := by unfold s_dec; decide +kernel
-- CampAshes$Laws.mostAlike(I)I
def s_t109 : List (Nat × Instr × Nat × Nat) := [(0, .iconst 0, 1, 0), (1, .istore_n 2, 1, 0), (2, .iconst 0, 1, 0), (3, .istore_n 3, 1, 0), (4, .iload_n 3, 1, 0), (5, .bipush 10, 2, 0), (7, .if_icmp .ge 93, 3, 100), (10, .iconst 0, 1, 0), (11, .istore 4, 2, 0), (13, .iconst 0, 1, 0), (14, .istore 5, 2, 0), (16, .iload 5, 2, 0), (18, .bipush 10, 2, 0), (20, .if_icmp .ge 67, 3, 87), (23, .iload_n 3, 1, 0), (24, .bipush 10, 2, 0), (26, .iload_n 1, 1, 0), (27, .invokestatic 21, 3, 0), (30, .iload 5, 2, 0), (32, .bipush 10, 2, 0), (34, .iload_n 1, 1, 0), (35, .invokestatic 21, 3, 0), (38, .if_icmp .ne 7, 3, 45), (41, .iconst 1, 1, 0), (42, .goto 4, 3, 46), (45, .iconst 0, 1, 0), (46, .istore 6, 2, 0), (48, .iload 6, 2, 0), (50, .ifCond .eq 31, 3, 81), (53, .aload_n 0, 1, 0), (54, .getfield 25, 3, 0), (57, .iload_n 3, 1, 0), (58, .ishr, 1, 0), (59, .iconst 1, 1, 0), (60, .iand, 1, 0), (61, .iconst 1, 1, 0), (62, .if_icmp .ne 19, 3, 81), (65, .aload_n 0, 1, 0), (66, .getfield 25, 3, 0), (69, .iload 5, 2, 0), (71, .ishr, 1, 0), (72, .iconst 1, 1, 0), (73, .iand, 1, 0), (74, .iconst 1, 1, 0), (75, .if_icmp .ne 6, 3, 81), (78, .iinc 4 1, 3, 0), (81, .iinc 5 1, 3, 0), (84, .goto (-68), 3, 16), (87, .iload_n 2, 1, 0), (88, .iload 4, 2, 0), (90, .invokestatic 28, 3, 0), (93, .istore_n 2, 1, 0), (94, .iinc 3 1, 3, 0), (97, .goto (-93), 3, 4), (100, .iload_n 2, 1, 0), (101, .ireturn, 1, 0)]
set_option maxRecDepth 100000 in
theorem s_d109 : s_dec prog_8_method_5_code s_t109 := by unfold s_dec; decide +kernel
-- CampAshes.calm(I)I
def s_t110 : List (Nat × Instr × Nat × Nat) := [(0, .aload_n 0, 1, 0), (1, .getfield 19, 3, 0), (4, .iload_n 1, 1, 0), (5, .invokevirtual 126, 3, 0), (8, .ifCond .ne 5, 3, 13), (11, .iconst (-1), 1, 0), (12, .ireturn, 1, 0), (13, .aload_n 0, 1, 0), (14, .getfield 35, 3, 0), (17, .aload_n 0, 1, 0), (18, .getfield 31, 3, 0), (21, .invokevirtual 210, 3, 0), (24, .aload_n 0, 1, 0), (25, .getfield 35, 3, 0), (28, .iload_n 1, 1, 0), (29, .invokevirtual 278, 3, 0), (32, .ireturn, 1, 0)]
set_option maxRecDepth 100000 in
theorem s_d110 : s_dec prog_1_method_28_code s_t110 := by unfold s_dec; decide +kernel
-- CampAshes$State.daysToCalm(I)I
def s_t111 : List (Nat × Instr × Nat × Nat) := [(0, .aload_n 0, 1, 0), (1, .invokevirtual 123, 3, 0), (4, .istore_n 2, 1, 0), (5, .iconst 0, 1, 0), (6, .istore_n 3, 1, 0), (7, .iload_n 3, 1, 0), (8, .iload_n 2, 1, 0), (9, .if_icmp .gt 32, 3, 41), (12, .aload_n 0, 1, 0), (13, .iload_n 1, 1, 0), (14, .invokevirtual 93, 3, 0), (17, .ifCond .ne 5, 3, 22), (20, .iload_n 3, 1, 0), (21, .ireturn, 1, 0), (22, .iload_n 3, 1, 0), (23, .iload_n 2, 1, 0), (24, .if_icmp .ge 11, 3, 35), (27, .aload_n 0, 1, 0), (28, .invokevirtual 133, 3, 0), (31, .aload_n 0, 1, 0), (32, .invokevirtual 127, 3, 0), (35, .iinc 3 1, 3, 0), (38, .goto (-31), 3, 7), (41, .iconst (-1), 1, 0), (42, .ireturn, 1, 0)]
set_option maxRecDepth 100000 in
theorem s_d111 : s_dec prog_10_method_25_code s_t111 := by unfold s_dec; decide +kernel
-- CampAshes$State.allWhoAreOverTell()V
def s_t112 : List (Nat × Instr × Nat × Nat) := [(0, .iconst 0, 1, 0), (1, .istore_n 1, 1, 0), (2, .iload_n 1, 1, 0), (3, .aload_n 0, 1, 0), (4, .getfield 24, 3, 0), (7, .getfield 90, 3, 0), (10, .if_icmp .ge 39, 3, 49), (13, .aload_n 0, 1, 0), (14, .iload_n 1, 1, 0), (15, .invokevirtual 93, 3, 0), (18, .ifCond .eq 11, 3, 29), (21, .aload_n 0, 1, 0), (22, .iload_n 1, 1, 0), (23, .invokevirtual 136, 3, 0), (26, .goto 4, 3, 30), (29, .iconst (-1), 1, 0), (30, .istore_n 2, 1, 0), (31, .iload_n 2, 1, 0), (32, .iconst (-1), 1, 0), (33, .if_icmp .eq 10, 3, 43), (36, .aload_n 0, 1, 0), (37, .iload_n 1, 1, 0), (38, .iload_n 2, 1, 0), (39, .invokevirtual 139, 3, 0), (42, .pop, 1, 0), (43, .iinc 1 1, 3, 0), (46, .goto (-44), 3, 2), (49, .return_, 1, 0)]
set_option maxRecDepth 100000 in
theorem s_d112 : s_dec prog_10_method_26_code s_t112 := by unfold s_dec; decide +kernel
end
section
-- CampAshes.tag(I)I
def s_t113 : List (Nat × Instr × Nat × Nat) := [(0, .aload_n 0, 1, 0), (1, .getfield 19, 3, 0), (4, .iload_n 1, 1, 0), (5, .invokevirtual 126, 3, 0), (8, .ifCond .ne 5, 3, 13), (11, .iconst (-1), 1, 0), (12, .ireturn, 1, 0), (13, .aload_n 0, 1, 0), (14, .iconst 0, 1, 0), (15, .putfield 281, 3, 0), (18, .aload_n 0, 1, 0), (19, .aload_n 0, 1, 0), (20, .getfield 19, 3, 0), (23, .getfield 284, 3, 0), (26, .iload_n 1, 1, 0), (27, .laload, 1, 0), (28, .invokevirtual 288, 3, 0), (31, .aload_n 0, 1, 0), (32, .ldc_w 292, 3, 0), (35, .invokevirtual 294, 3, 0), (38, .aload_n 0, 1, 0), (39, .aload_n 0, 1, 0), (40, .getfield 31, 3, 0), (43, .getfield 137, 3, 0), (46, .iload_n 1, 1, 0), (47, .iaload, 1, 0), (48, .invokevirtual 297, 3, 0), (51, .aload_n 0, 1, 0), (52, .ldc_w 300, 3, 0), (55, .invokevirtual 294, 3, 0), (58, .aload_n 0, 1, 0), (59, .aload_n 0, 1, 0), (60, .getfield 19, 3, 0), (63, .getfield 141, 3, 0), (66, .iload_n 1, 1, 0), (67, .iaload, 1, 0), (68, .invokevirtual 297, 3, 0), (71, .aload_n 0, 1, 0), (72, .getfield 31, 3, 0), (75, .iload_n 1, 1, 0), (76, .invokevirtual 144, 3, 0), (79, .ifCond .eq 10, 3, 89), (82, .aload_n 0, 1, 0), (83, .ldc_w 302, 3, 0), (86, .invokevirtual 294, 3, 0), (89, .aload_n 0, 1, 0), (90, .getfield 281, 3, 0), (93, .ireturn, 1, 0)]
set_option maxRecDepth 100000 in
theorem s_d113 : s_dec prog_1_method_29_code s_t113 := by unfold s_dec; decide +kernel
-- CampAshes.putName(J)V
def s_t114 : List (Nat × Instr × Nat × Nat) := [(0, .bipush 30, 2, 0), (2, .istore_n 3, 1, 0), (3, .iload_n 3, 1, 0), (4, .ifCond .lt 33, 3, 37), (7, .lload_n 1, 1, 0), (8, .iload_n 3, 1, 0), (9, .lshr, 1, 0), (10, .ldc2_w 386, 3, 0), (13, .land, 1, 0), (14, .l2i, 1, 0), (15, .istore 4, 2, 0), (17, .iload 4, 2, 0), (19, .ifCond .le 12, 3, 31), (22, .aload_n 0, 1, 0), (23, .bipush 96, 2, 0), (25, .iload 4, 2, 0), (27, .iadd, 1, 0), (28, .invokevirtual 383, 3, 0), (31, .iinc 3 (-5), 3, 0), (34, .goto (-31), 3, 3), (37, .return_, 1, 0)]
set_option maxRecDepth 100000 in
theorem s_d114 : s_dec prog_1_method_44_code s_t114 := by unfold s_dec; decide +kernel
-- CampAshes.putTagByte(I)V
def s_t115 : List (Nat × Instr × Nat × Nat) := [(0, .aload_n 0, 1, 0), (1, .getfield 281, 3, 0), (4, .bipush 64, 2, 0), (6, .if_icmp .ge 24, 3, 30), (9, .aload_n 0, 1, 0), (10, .getfield 90, 3, 0), (13, .aload_n 0, 1, 0), (14, .getfield 281, 3, 0), (17, .iload_n 1, 1, 0), (18, .i2b, 1, 0), (19, .bastore, 1, 0), (20, .aload_n 0, 1, 0), (21, .dup, 1, 0), (22, .getfield 281, 3, 0), (25, .iconst 1, 1, 0), (26, .iadd, 1, 0), (27, .putfield 281, 3, 0), (30, .return_, 1, 0)]
set_option maxRecDepth 100000 in
theorem s_d115 : s_dec prog_1_method_42_code s_t115 := by unfold s_dec; decide +kernel
-- CampAshes.putText(Ljava/lang/String;)V
def s_t116 : List (Nat × Instr × Nat × Nat) := [(0, .iconst 0, 1, 0), (1, .istore_n 2, 1, 0), (2, .iload_n 2, 1, 0), (3, .aload_n 1, 1, 0), (4, .invokevirtual 375, 3, 0), (7, .if_icmp .ge 18, 3, 25), (10, .aload_n 0, 1, 0), (11, .aload_n 1, 1, 0), (12, .iload_n 2, 1, 0), (13, .invokevirtual 379, 3, 0), (16, .invokevirtual 383, 3, 0), (19, .iinc 2 1, 3, 0), (22, .goto (-20), 3, 2), (25, .return_, 1, 0)]
set_option maxRecDepth 100000 in
theorem s_d116 : s_dec prog_1_method_43_code s_t116 := by unfold s_dec; decide +kernel
-- CampAshes.putDigits(I)V
def s_t117 : List (Nat × Instr × Nat × Nat) := [(0, .iload_n 1, 1, 0), (1, .bipush 100, 2, 0), (3, .if_icmp .lt 17, 3, 20), (6, .aload_n 0, 1, 0), (7, .bipush 48, 2, 0), (9, .iload_n 1, 1, 0), (10, .bipush 100, 2, 0), (12, .idiv, 1, 0), (13, .bipush 10, 2, 0), (15, .irem, 1, 0), (16, .iadd, 1, 0), (17, .invokevirtual 383, 3, 0), (20, .iload_n 1, 1, 0), (21, .bipush 10, 2, 0), (23, .if_icmp .lt 17, 3, 40), (26, .aload_n 0, 1, 0), (27, .bipush 48, 2, 0), (29, .iload_n 1, 1, 0), (30, .bipush 10, 2, 0), (32, .idiv, 1, 0), (33, .bipush 10, 2, 0), (35, .irem, 1, 0), (36, .iadd, 1, 0), (37, .invokevirtual 383, 3, 0), (40, .aload_n 0, 1, 0), (41, .bipush 48, 2, 0), (43, .iload_n 1, 1, 0), (44, .bipush 10, 2, 0), (46, .irem, 1, 0), (47, .iadd, 1, 0), (48, .invokevirtual 383, 3, 0), (51, .return_, 1, 0)]
set_option maxRecDepth 100000 in
theorem s_d117 : s_dec prog_1_method_45_code s_t117 := by unfold s_dec; decide +kernel
-- CampAshes.byteAt(I)I
def s_t118 : List (Nat × Instr × Nat × Nat) := [(0, .iload_n 1, 1, 0), (1, .ifCond .lt 20, 3, 21), (4, .iload_n 1, 1, 0), (5, .aload_n 0, 1, 0), (6, .getfield 281, 3, 0), (9, .if_icmp .ge 12, 3, 21), (12, .aload_n 0, 1, 0), (13, .getfield 90, 3, 0), (16, .iload_n 1, 1, 0), (17, .baload, 1, 0), (18, .goto 4, 3, 22), (21, .iconst (-1), 1, 0), (22, .ireturn, 1, 0)]
set_option maxRecDepth 100000 in
theorem s_d118 : s_dec prog_1_method_30_code s_t118 := by unfold s_dec; decide +kernel
-- CampAshes.drawn(II)I
def s_t119 : List (Nat × Instr × Nat × Nat) := [(0, .iload_n 1, 1, 0), (1, .iconst 1, 1, 0), (2, .if_icmp .lt 9, 3, 11), (5, .iload_n 1, 1, 0), (6, .bipush 60, 2, 0), (8, .if_icmp .le 5, 3, 13), (11, .iconst (-1), 1, 0), (12, .ireturn, 1, 0), (13, .aload_n 0, 1, 0), (14, .getfield 35, 3, 0), (17, .aload_n 0, 1, 0), (18, .getfield 31, 3, 0), (21, .invokevirtual 210, 3, 0), (24, .aload_n 0, 1, 0), (25, .getfield 86, 3, 0), (28, .iload_n 2, 1, 0), (29, .invokevirtual 304, 3, 0), (32, .aload_n 0, 1, 0), (33, .getfield 35, 3, 0), (36, .iload_n 1, 1, 0), (37, .aload_n 0, 1, 0), (38, .getfield 86, 3, 0), (41, .invokevirtual 307, 3, 0), (44, .istore_n 3, 1, 0), (45, .iload_n 3, 1, 0), (46, .ifCond .le 7, 3, 53), (49, .aload_n 0, 1, 0), (50, .invokevirtual 235, 3, 0), (53, .iload_n 3, 1, 0), (54, .ireturn, 1, 0)]
set_option maxRecDepth 100000 in
theorem s_d119 : s_dec prog_1_method_31_code s_t119 := by unfold s_dec; decide +kernel
-- CampAshes$Draws.start(I)V
def s_t120 : List (Nat × Instr × Nat × Nat) := [(0, .aload_n 0, 1, 0), (1, .iload_n 1, 1, 0), (2, .putfield 7, 3, 0), (5, .return_, 1, 0)]
set_option maxRecDepth 100000 in
theorem s_d120 : s_dec prog_5_method_2_code s_t120 := by unfold s_dec; decide +kernel
-- CampAshes$State.drawDays(ILCampAshes$Draws;)I
def s_t121 : List (Nat × Instr × Nat × Nat) := [(0, .iload_n 1, 1, 0), (1, .aload_n 0, 1, 0), (2, .invokevirtual 123, 3, 0), (5, .invokestatic 114, 3, 0), (8, .istore_n 3, 1, 0), (9, .iconst 0, 1, 0), (10, .istore 4, 2, 0), (12, .iload 4, 2, 0), (14, .iload_n 3, 1, 0), (15, .if_icmp .ge 54, 3, 69), (18, .aload_n 2, 1, 0), (19, .iconst 4, 1, 0), (20, .invokevirtual 142, 3, 0), (23, .ifCond .ne 8, 3, 31), (26, .aload_n 0, 1, 0), (27, .invokevirtual 147, 3, 0), (30, .pop, 1, 0), (31, .iconst 0, 1, 0), (32, .istore 5, 2, 0), (34, .iload 5, 2, 0), (36, .aload_n 0, 1, 0), (37, .getfield 24, 3, 0), (40, .getfield 90, 3, 0), (43, .if_icmp .ge 16, 3, 59), (46, .aload_n 0, 1, 0), (47, .iload 5, 2, 0), (49, .aload_n 2, 1, 0), (50, .invokevirtual 150, 3, 0), (53, .iinc 5 1, 3, 0), (56, .goto (-22), 3, 34), (59, .aload_n 0, 1, 0), (60, .invokevirtual 127, 3, 0), (63, .iinc 4 1, 3, 0), (66, .goto (-54), 3, 12), (69, .iload_n 3, 1, 0), (70, .ireturn, 1, 0)]
set_option maxRecDepth 100000 in
theorem s_d121 : s_dec prog_10_method_27_code s_t121 := by unfold s_dec; decide +kernel
-- CampAshes$Draws.draw(I)I
def s_t122 : List (Nat × Instr × Nat × Nat) := [(0, .aload_n 0, 1, 0), (1, .aload_n 0, 1, 0), (2, .getfield 7, 3, 0), (5, .ldc 13, 2, 0), (7, .imul, 1, 0), (8, .sipush 12345, 3, 0), (11, .iadd, 1, 0), (12, .putfield 7, 3, 0), (15, .iload_n 1, 1, 0), (16, .ifCond .le 15, 3, 31), (19, .aload_n 0, 1, 0), (20, .getfield 7, 3, 0), (23, .bipush 8, 2, 0), (25, .iushr, 1, 0), (26, .iload_n 1, 1, 0), (27, .irem, 1, 0), (28, .goto 4, 3, 32), (31, .iconst 0, 1, 0), (32, .ireturn, 1, 0)]
set_option maxRecDepth 100000 in
theorem s_d122 : s_dec prog_5_method_3_code s_t122 := by unfold s_dec; decide +kernel
-- CampAshes$State.drawAct(ILCampAshes$Draws;)V
def s_t123 : List (Nat × Instr × Nat × Nat) := [(0, .aload_n 2, 1, 0), (1, .iconst 4, 1, 0), (2, .invokevirtual 142, 3, 0), (5, .istore_n 3, 1, 0), (6, .iload_n 3, 1, 0), (7, .iconst 3, 1, 0), (8, .if_icmp .eq 13, 3, 21), (11, .aload_n 0, 1, 0), (12, .getfield 24, 3, 0), (15, .getfield 58, 3, 0), (18, .ifCond .ne 4, 3, 22), (21, .return_, 1, 0), (22, .aload_n 2, 1, 0), (23, .aload_n 0, 1, 0), (24, .getfield 24, 3, 0), (27, .getfield 58, 3, 0), (30, .invokevirtual 142, 3, 0), (33, .istore 4, 2, 0), (35, .iload_n 3, 1, 0), (36, .iconst 2, 1, 0), (37, .if_icmp .ne 14, 3, 51), (40, .aload_n 0, 1, 0), (41, .iload_n 1, 1, 0), (42, .iload 4, 2, 0), (44, .invokevirtual 154, 3, 0), (47, .pop, 1, 0), (48, .goto 11, 3, 59), (51, .aload_n 0, 1, 0), (52, .iload_n 1, 1, 0), (53, .iload 4, 2, 0), (55, .invokevirtual 139, 3, 0), (58, .pop, 1, 0), (59, .return_, 1, 0)]
set_option maxRecDepth 100000 in
theorem s_d123 : s_dec prog_10_method_28_code s_t123 := by unfold s_dec; decide +kernel
-- CampAshes.odds(III)I
def s_t124 : List (Nat × Instr × Nat × Nat) := [(0, .aload_n 0, 1, 0), (1, .getfield 19, 3, 0), (4, .iload_n 1, 1, 0), (5, .invokevirtual 126, 3, 0), (8, .ifCond .eq 14, 3, 22), (11, .iload_n 2, 1, 0), (12, .iconst 1, 1, 0), (13, .if_icmp .lt 9, 3, 22), (16, .iload_n 2, 1, 0), (17, .bipush 30, 2, 0), (19, .if_icmp .le 5, 3, 24), (22, .iconst (-1), 1, 0), (23, .ireturn, 1, 0), (24, .iconst 0, 1, 0), (25, .istore 4, 2, 0), (27, .iconst 0, 1, 0), (28, .istore 5, 2, 0), (30, .iload 5, 2, 0), (32, .iload_n 2, 1, 0), (33, .if_icmp .ge 59, 3, 92), (36, .aload_n 0, 1, 0), (37, .getfield 35, 3, 0), (40, .aload_n 0, 1, 0), (41, .getfield 31, 3, 0), (44, .invokevirtual 210, 3, 0), (47, .aload_n 0, 1, 0), (48, .getfield 86, 3, 0), (51, .iload_n 3, 1, 0), (52, .iload 5, 2, 0), (54, .iadd, 1, 0), (55, .invokevirtual 304, 3, 0), (58, .aload_n 0, 1, 0), (59, .getfield 35, 3, 0), (62, .bipush 20, 2, 0), (64, .aload_n 0, 1, 0), (65, .getfield 86, 3, 0), (68, .invokevirtual 307, 3, 0), (71, .pop, 1, 0), (72, .aload_n 0, 1, 0), (73, .getfield 35, 3, 0), (76, .iload_n 1, 1, 0), (77, .invokevirtual 144, 3, 0), (80, .ifCond .ne 6, 3, 86), (83, .iinc 4 1, 3, 0), (86, .iinc 5 1, 3, 0), (89, .goto (-59), 3, 30), (92, .iload 4, 2, 0), (94, .ireturn, 1, 0)]
set_option maxRecDepth 100000 in
theorem s_d124 : s_dec prog_1_method_32_code s_t124 := by unfold s_dec; decide +kernel
-- CampAshes.book(I)I
def s_t125 : List (Nat × Instr × Nat × Nat) := [(0, .iload_n 1, 1, 0), (1, .ifCond .eq 12, 3, 13), (4, .iload_n 1, 1, 0), (5, .iconst 1, 1, 0), (6, .if_icmp .eq 7, 3, 13), (9, .sipush (-1000), 3, 0), (12, .ireturn, 1, 0), (13, .aload_n 0, 1, 0), (14, .getfield 10, 3, 0), (17, .sipush 400, 3, 0), (20, .invokevirtual 105, 3, 0), (23, .aload_n 0, 1, 0), (24, .getfield 51, 3, 0), (27, .aload_n 0, 1, 0), (28, .getfield 10, 3, 0), (31, .aload_n 0, 1, 0), (32, .getfield 19, 3, 0), (35, .invokevirtual 311, 3, 0), (38, .istore_n 2, 1, 0), (39, .aload_n 0, 1, 0), (40, .aload_n 0, 1, 0), (41, .getfield 10, 3, 0), (44, .getfield 112, 3, 0), (47, .putfield 115, 3, 0), (50, .iload_n 2, 1, 0), (51, .ifCond .ne 14, 3, 65), (54, .bipush (-2), 2, 0), (56, .aload_n 0, 1, 0), (57, .getfield 10, 3, 0), (60, .getfield 116, 3, 0), (63, .isub, 1, 0), (64, .ireturn, 1, 0), (65, .aload_n 0, 1, 0), (66, .getfield 35, 3, 0), (69, .aload_n 0, 1, 0), (70, .getfield 31, 3, 0), (73, .invokevirtual 210, 3, 0), (76, .aload_n 0, 1, 0), (77, .getfield 51, 3, 0), (80, .aload_n 0, 1, 0), (81, .getfield 35, 3, 0), (84, .invokevirtual 314, 3, 0), (87, .istore_n 3, 1, 0), (88, .iload_n 1, 1, 0), (89, .iconst 1, 1, 0), (90, .if_icmp .ne 17, 3, 107), (93, .aload_n 0, 1, 0), (94, .getfield 51, 3, 0), (97, .getfield 317, 3, 0), (100, .ifCond .le 7, 3, 107), (103, .aload_n 0, 1, 0), (104, .invokevirtual 235, 3, 0), (107, .iload_n 3, 1, 0), (108, .ireturn, 1, 0)]
set_option maxRecDepth 100000 in
theorem s_d125 : s_dec prog_1_method_33_code s_t125 := by unfold s_dec; decide +kernel
-- CampAshes$Book.readText(LCampAshes$Tape;LCampAshes$Camp;)Z
def s_t126 : List (Nat × Instr × Nat × Nat) := [(0, .aload_n 0, 1, 0), (1, .iconst 0, 1, 0), (2, .putfield 27, 3, 0), (5, .iconst 0, 1, 0), (6, .istore_n 3, 1, 0), (7, .iload_n 3, 1, 0), (8, .bipush 40, 2, 0), (10, .if_icmp .gt 48, 3, 58), (13, .aload_n 1, 1, 0), (14, .invokevirtual 31, 3, 0), (17, .ifCond .eq 5, 3, 22), (20, .iconst 1, 1, 0), (21, .ireturn, 1, 0), (22, .aload_n 0, 1, 0), (23, .aload_n 1, 1, 0), (24, .aload_n 2, 1, 0), (25, .invokevirtual 37, 3, 0), (28, .ifCond .eq 12, 3, 40), (31, .aload_n 1, 1, 0), (32, .bipush 59, 2, 0), (34, .invokevirtual 41, 3, 0), (37, .ifCond .ne 5, 3, 42), (40, .iconst 0, 1, 0), (41, .ireturn, 1, 0), (42, .aload_n 0, 1, 0), (43, .dup, 1, 0), (44, .getfield 27, 3, 0), (47, .iconst 1, 1, 0), (48, .iadd, 1, 0), (49, .putfield 27, 3, 0), (52, .iinc 3 1, 3, 0), (55, .goto (-48), 3, 7), (58, .aload_n 1, 1, 0), (59, .iconst 4, 1, 0), (60, .invokevirtual 45, 3, 0), (63, .ireturn, 1, 0)]
set_option maxRecDepth 100000 in
theorem s_d126 : s_dec prog_3_method_2_code s_t126 := by unfold s_dec; decide +kernel
-- CampAshes$Book.readLine(LCampAshes$Tape;LCampAshes$Camp;)Z
def s_t127 : List (Nat × Instr × Nat × Nat) := [(0, .aload_n 1, 1, 0), (1, .getstatic 49, 3, 0), (4, .invokevirtual 55, 3, 0), (7, .ifCond .ne 23, 3, 30), (10, .aload_n 1, 1, 0), (11, .getstatic 59, 3, 0), (14, .invokevirtual 55, 3, 0), (17, .ifCond .ne 13, 3, 30), (20, .aload_n 1, 1, 0), (21, .getstatic 62, 3, 0), (24, .invokevirtual 55, 3, 0), (27, .ifCond .eq 7, 3, 34), (30, .iconst 1, 1, 0), (31, .goto 4, 3, 35), (34, .iconst 0, 1, 0), (35, .istore_n 3, 1, 0), (36, .iload_n 3, 1, 0), (37, .ifCond .ne 17, 3, 54), (40, .aload_n 1, 1, 0), (41, .getfield 65, 3, 0), (44, .iconst 3, 1, 0), (45, .if_icmp .eq 9, 3, 54), (48, .aload_n 1, 1, 0), (49, .iconst 1, 1, 0), (50, .invokevirtual 45, 3, 0), (53, .ireturn, 1, 0), (54, .iload_n 3, 1, 0), (55, .ifCond .ne 21, 3, 76), (58, .aload_n 2, 1, 0), (59, .aload_n 1, 1, 0), (60, .getfield 68, 3, 0), (63, .invokevirtual 72, 3, 0), (66, .iconst (-1), 1, 0), (67, .if_icmp .ne 9, 3, 76), (70, .aload_n 1, 1, 0), (71, .iconst 3, 1, 0), (72, .invokevirtual 45, 3, 0), (75, .ireturn, 1, 0), (76, .aload_n 0, 1, 0), (77, .getfield 27, 3, 0), (80, .bipush 40, 2, 0), (82, .if_icmp .lt 9, 3, 91), (85, .aload_n 1, 1, 0), (86, .iconst 4, 1, 0), (87, .invokevirtual 45, 3, 0), (90, .ireturn, 1, 0), (91, .iload_n 3, 1, 0), (92, .ifCond .eq 11, 3, 103), (95, .aload_n 0, 1, 0), (96, .aload_n 1, 1, 0), (97, .invokevirtual 78, 3, 0), (100, .goto 9, 3, 109), (103, .aload_n 0, 1, 0), (104, .aload_n 1, 1, 0), (105, .aload_n 2, 1, 0), (106, .invokevirtual 82, 3, 0), (109, .ireturn, 1, 0)]
set_option maxRecDepth 100000 in
theorem s_d127 : s_dec prog_3_method_3_code s_t127 := by unfold s_dec; decide +kernel
-- CampAshes$Book.readPlain(LCampAshes$Tape;)Z
def s_t128 : List (Nat × Instr × Nat × Nat) := [(0, .aload_n 1, 1, 0), (1, .getfield 85, 3, 0), (4, .astore_n 2, 1, 0), (5, .aload_n 1, 1, 0), (6, .invokevirtual 88, 3, 0), (9, .aload_n 2, 1, 0), (10, .getstatic 62, 3, 0), (13, .if_acmp .ne 49, 3, 62), (16, .aload_n 0, 1, 0), (17, .getfield 9, 3, 0), (20, .aload_n 0, 1, 0), (21, .getfield 27, 3, 0), (24, .bipush 50, 2, 0), (26, .iastore, 1, 0), (27, .aload_n 0, 1, 0), (28, .getfield 24, 3, 0), (31, .aload_n 0, 1, 0), (32, .getfield 27, 3, 0), (35, .aload_n 1, 1, 0), (36, .iconst 1, 1, 0), (37, .bipush 60, 2, 0), (39, .invokevirtual 91, 3, 0), (42, .iastore, 1, 0), (43, .aload_n 0, 1, 0), (44, .getfield 24, 3, 0), (47, .aload_n 0, 1, 0), (48, .getfield 27, 3, 0), (51, .iaload, 1, 0), (52, .iconst (-1), 1, 0), (53, .if_icmp .eq 7, 3, 60), (56, .iconst 1, 1, 0), (57, .goto 4, 3, 61), (60, .iconst 0, 1, 0), (61, .ireturn, 1, 0), (62, .aload_n 0, 1, 0), (63, .getfield 9, 3, 0), (66, .aload_n 0, 1, 0), (67, .getfield 27, 3, 0), (70, .aload_n 2, 1, 0), (71, .getstatic 49, 3, 0), (74, .if_acmp .ne 8, 3, 82), (77, .bipush 30, 2, 0), (79, .goto 5, 3, 84), (82, .bipush 40, 2, 0), (84, .iastore, 1, 0), (85, .iconst 1, 1, 0), (86, .ireturn, 1, 0)]
set_option maxRecDepth 100000 in
theorem s_d128 : s_dec prog_3_method_4_code s_t128 := by unfold s_dec; decide +kernel
-- CampAshes$Book.readDeed(LCampAshes$Tape;LCampAshes$Camp;)Z
def s_t129 : List (Nat × Instr × Nat × Nat) := [(0, .aload_n 0, 1, 0), (1, .getfield 15, 3, 0), (4, .aload_n 0, 1, 0), (5, .getfield 27, 3, 0), (8, .aload_n 1, 1, 0), (9, .aload_n 2, 1, 0), (10, .aload_n 1, 1, 0), (11, .getfield 68, 3, 0), (14, .invokevirtual 72, 3, 0), (17, .invokevirtual 95, 3, 0), (20, .iastore, 1, 0), (21, .aload_n 1, 1, 0), (22, .getstatic 99, 3, 0), (25, .invokevirtual 55, 3, 0), (28, .ifCond .eq 16, 3, 44), (31, .aload_n 0, 1, 0), (32, .getfield 9, 3, 0), (35, .aload_n 0, 1, 0), (36, .getfield 27, 3, 0), (39, .iconst 0, 1, 0), (40, .iastore, 1, 0), (41, .goto 57, 3, 98), (44, .aload_n 1, 1, 0), (45, .getstatic 102, 3, 0), (48, .invokevirtual 55, 3, 0), (51, .ifCond .eq 17, 3, 68), (54, .aload_n 0, 1, 0), (55, .getfield 9, 3, 0), (58, .aload_n 0, 1, 0), (59, .getfield 27, 3, 0), (62, .bipush 10, 2, 0), (64, .iastore, 1, 0), (65, .goto 33, 3, 98), (68, .aload_n 1, 1, 0), (69, .getstatic 105, 3, 0), (72, .invokevirtual 55, 3, 0), (75, .ifCond .eq 17, 3, 92), (78, .aload_n 0, 1, 0), (79, .getfield 9, 3, 0), (82, .aload_n 0, 1, 0), (83, .getfield 27, 3, 0), (86, .bipush 20, 2, 0), (88, .iastore, 1, 0), (89, .goto 9, 3, 98), (92, .aload_n 1, 1, 0), (93, .iconst 1, 1, 0), (94, .invokevirtual 45, 3, 0), (97, .ireturn, 1, 0), (98, .aload_n 1, 1, 0), (99, .invokevirtual 88, 3, 0), (102, .aload_n 0, 1, 0), (103, .getfield 18, 3, 0), (106, .aload_n 0, 1, 0), (107, .getfield 27, 3, 0), (110, .aload_n 1, 1, 0), (111, .aload_n 2, 1, 0), (112, .aload_n 1, 1, 0), (113, .getfield 68, 3, 0), (116, .invokevirtual 108, 3, 0), (119, .invokevirtual 95, 3, 0), (122, .iastore, 1, 0), (123, .aload_n 0, 1, 0), (124, .getfield 18, 3, 0), (127, .aload_n 0, 1, 0), (128, .getfield 27, 3, 0), (131, .iaload, 1, 0), (132, .iconst (-1), 1, 0), (133, .if_icmp .ne 5, 3, 138), (136, .iconst 0, 1, 0), (137, .ireturn, 1, 0), (138, .aload_n 0, 1, 0), (139, .getfield 9, 3, 0), (142, .aload_n 0, 1, 0), (143, .getfield 27, 3, 0), (146, .iaload, 1, 0), (147, .bipush 20, 2, 0), (149, .if_icmp .ne 12, 3, 161), (152, .aload_n 0, 1, 0), (153, .aload_n 1, 1, 0), (154, .aload_n 2, 1, 0), (155, .invokevirtual 111, 3, 0), (158, .ifCond .eq 7, 3, 165), (161, .iconst 1, 1, 0), (162, .goto 4, 3, 166), (165, .iconst 0, 1, 0), (166, .ireturn, 1, 0)]
set_option maxRecDepth 100000 in
theorem s_d129 : s_dec prog_3_method_5_code s_t129 := by unfold s_dec; decide +kernel
-- CampAshes$Book.readGift(LCampAshes$Tape;LCampAshes$Camp;)Z
def s_t130 : List (Nat × Instr × Nat × Nat) := [(0, .aload_n 0, 1, 0), (1, .getfield 21, 3, 0), (4, .aload_n 0, 1, 0), (5, .getfield 27, 3, 0), (8, .aload_n 1, 1, 0), (9, .aload_n 2, 1, 0), (10, .aload_n 1, 1, 0), (11, .getfield 68, 3, 0), (14, .invokevirtual 72, 3, 0), (17, .invokevirtual 95, 3, 0), (20, .iastore, 1, 0), (21, .aload_n 0, 1, 0), (22, .getfield 21, 3, 0), (25, .aload_n 0, 1, 0), (26, .getfield 27, 3, 0), (29, .iaload, 1, 0), (30, .iconst (-1), 1, 0), (31, .if_icmp .ne 5, 3, 36), (34, .iconst 0, 1, 0), (35, .ireturn, 1, 0), (36, .aload_n 0, 1, 0), (37, .getfield 24, 3, 0), (40, .aload_n 0, 1, 0), (41, .getfield 27, 3, 0), (44, .aload_n 1, 1, 0), (45, .iconst 1, 1, 0), (46, .bipush 40, 2, 0), (48, .invokevirtual 91, 3, 0), (51, .iastore, 1, 0), (52, .aload_n 0, 1, 0), (53, .getfield 24, 3, 0), (56, .aload_n 0, 1, 0), (57, .getfield 27, 3, 0), (60, .iaload, 1, 0), (61, .iconst (-1), 1, 0), (62, .if_icmp .eq 7, 3, 69), (65, .iconst 1, 1, 0), (66, .goto 4, 3, 70), (69, .iconst 0, 1, 0), (70, .ireturn, 1, 0)]
set_option maxRecDepth 100000 in
theorem s_d130 : s_dec prog_3_method_6_code s_t130 := by unfold s_dec; decide +kernel
end
section
-- CampAshes$Book.judge(LCampAshes$State;)I
def s_t131 : List (Nat × Instr × Nat × Nat) := [(0, .aload_n 0, 1, 0), (1, .iconst 0, 1, 0), (2, .putfield 114, 3, 0), (5, .aload_n 0, 1, 0), (6, .iconst 0, 1, 0), (7, .putfield 117, 3, 0), (10, .iconst 0, 1, 0), (11, .istore_n 2, 1, 0), (12, .iload_n 2, 1, 0), (13, .aload_n 0, 1, 0), (14, .getfield 27, 3, 0), (17, .if_icmp .ge 52, 3, 69), (20, .aload_n 0, 1, 0), (21, .getfield 114, 3, 0), (24, .ifCond .ne 45, 3, 69), (27, .aload_n 0, 1, 0), (28, .aload_n 1, 1, 0), (29, .iload_n 2, 1, 0), (30, .invokevirtual 120, 3, 0), (33, .istore_n 3, 1, 0), (34, .iload_n 3, 1, 0), (35, .ifCond .ne 16, 3, 51), (38, .aload_n 0, 1, 0), (39, .dup, 1, 0), (40, .getfield 117, 3, 0), (43, .iconst 1, 1, 0), (44, .iadd, 1, 0), (45, .putfield 117, 3, 0), (48, .goto 15, 3, 63), (51, .aload_n 0, 1, 0), (52, .aload_n 0, 1, 0), (53, .getfield 9, 3, 0), (56, .iload_n 2, 1, 0), (57, .iaload, 1, 0), (58, .iload_n 3, 1, 0), (59, .iadd, 1, 0), (60, .putfield 114, 3, 0), (63, .iinc 2 1, 3, 0), (66, .goto (-54), 3, 12), (69, .aload_n 0, 1, 0), (70, .iconst 1, 1, 0), (71, .putfield 124, 3, 0), (74, .aload_n 0, 1, 0), (75, .aload_n 1, 1, 0), (76, .getfield 128, 3, 0), (79, .putfield 133, 3, 0), (82, .aload_n 0, 1, 0), (83, .aload_n 1, 1, 0), (84, .invokevirtual 136, 3, 0), (87, .putfield 140, 3, 0), (90, .aload_n 0, 1, 0), (91, .getfield 114, 3, 0), (94, .ifCond .ne 7, 3, 101), (97, .iconst (-1), 1, 0), (98, .goto 7, 3, 105), (101, .aload_n 0, 1, 0), (102, .getfield 117, 3, 0), (105, .ireturn, 1, 0)]
set_option maxRecDepth 100000 in
theorem s_d131 : s_dec prog_3_method_7_code s_t131 := by unfold s_dec; decide +kernel
-- CampAshes$Book.liveLine(LCampAshes$State;I)I
def s_t132 : List (Nat × Instr × Nat × Nat) := [(0, .aload_n 0, 1, 0), (1, .getfield 9, 3, 0), (4, .iload_n 2, 1, 0), (5, .iaload, 1, 0), (6, .lookupswitch 123 #[(0, 50), (10, 67), (20, 84), (30, 113), (40, 118)], 50, 0), (56, .aload_n 1, 1, 0), (57, .aload_n 0, 1, 0), (58, .getfield 15, 3, 0), (61, .iload_n 2, 1, 0), (62, .iaload, 1, 0), (63, .aload_n 0, 1, 0), (64, .getfield 18, 3, 0), (67, .iload_n 2, 1, 0), (68, .iaload, 1, 0), (69, .invokevirtual 143, 3, 0), (72, .ireturn, 1, 0), (73, .aload_n 1, 1, 0), (74, .aload_n 0, 1, 0), (75, .getfield 15, 3, 0), (78, .iload_n 2, 1, 0), (79, .iaload, 1, 0), (80, .aload_n 0, 1, 0), (81, .getfield 18, 3, 0), (84, .iload_n 2, 1, 0), (85, .iaload, 1, 0), (86, .invokevirtual 146, 3, 0), (89, .ireturn, 1, 0), (90, .aload_n 1, 1, 0), (91, .aload_n 0, 1, 0), (92, .getfield 15, 3, 0), (95, .iload_n 2, 1, 0), (96, .iaload, 1, 0), (97, .aload_n 0, 1, 0), (98, .getfield 18, 3, 0), (101, .iload_n 2, 1, 0), (102, .iaload, 1, 0), (103, .aload_n 0, 1, 0), (104, .getfield 21, 3, 0), (107, .iload_n 2, 1, 0), (108, .iaload, 1, 0), (109, .aload_n 0, 1, 0), (110, .getfield 24, 3, 0), (113, .iload_n 2, 1, 0), (114, .iaload, 1, 0), (115, .invokevirtual 149, 3, 0), (118, .ireturn, 1, 0), (119, .aload_n 1, 1, 0), (120, .invokevirtual 153, 3, 0), (123, .ireturn, 1, 0), (124, .aload_n 1, 1, 0), (125, .invokevirtual 156, 3, 0), (128, .ireturn, 1, 0), (129, .aload_n 1, 1, 0), (130, .aload_n 0, 1, 0), (131, .getfield 24, 3, 0), (134, .iload_n 2, 1, 0), (135, .iaload, 1, 0), (136, .invokestatic 159, 3, 0), (139, .ireturn, 1, 0)]
set_option maxRecDepth 100000 in
theorem s_d132 : s_dec prog_3_method_8_code s_t132 := by unfold s_dec; decide +kernel
-- CampAshes$Book.liveDays(LCampAshes$State;I)I
def s_t133 : List (Nat × Instr × Nat × Nat) := [(0, .iload_n 1, 1, 0), (1, .aload_n 0, 1, 0), (2, .invokevirtual 162, 3, 0), (5, .if_icmp .le 5, 3, 10), (8, .iconst 1, 1, 0), (9, .ireturn, 1, 0), (10, .aload_n 0, 1, 0), (11, .iload_n 1, 1, 0), (12, .invokevirtual 165, 3, 0), (15, .pop, 1, 0), (16, .iconst 0, 1, 0), (17, .ireturn, 1, 0)]
set_option maxRecDepth 100000 in
theorem s_d133 : s_dec prog_3_method_9_code s_t133 := by unfold s_dec; decide +kernel
-- CampAshes.told(I)I
def s_t134 : List (Nat × Instr × Nat × Nat) := [(0, .aload_n 0, 1, 0), (1, .getfield 51, 3, 0), (4, .getfield 320, 3, 0), (7, .ifCond .ne 5, 3, 12), (10, .iconst (-1), 1, 0), (11, .ireturn, 1, 0), (12, .iload_n 1, 1, 0), (13, .tableswitch 63 0 3 #[31, 39, 47, 55], 31, 0), (44, .aload_n 0, 1, 0), (45, .getfield 51, 3, 0), (48, .getfield 324, 3, 0), (51, .ireturn, 1, 0), (52, .aload_n 0, 1, 0), (53, .getfield 51, 3, 0), (56, .getfield 317, 3, 0), (59, .ireturn, 1, 0), (60, .aload_n 0, 1, 0), (61, .getfield 51, 3, 0), (64, .getfield 327, 3, 0), (67, .ireturn, 1, 0), (68, .aload_n 0, 1, 0), (69, .getfield 51, 3, 0), (72, .getfield 330, 3, 0), (75, .ireturn, 1, 0), (76, .iconst (-1), 1, 0), (77, .ireturn, 1, 0)]
set_option maxRecDepth 100000 in
theorem s_d134 : s_dec prog_1_method_34_code s_t134 := by unfold s_dec; decide +kernel
-- CampAshes.sentence()I
def s_t135 : List (Nat × Instr × Nat × Nat) := [(0, .aload_n 0, 1, 0), (1, .getfield 10, 3, 0), (4, .sipush 200, 3, 0), (7, .invokevirtual 105, 3, 0), (10, .aload_n 0, 1, 0), (11, .getfield 45, 3, 0), (14, .aload_n 0, 1, 0), (15, .getfield 10, 3, 0), (18, .aload_n 0, 1, 0), (19, .getfield 19, 3, 0), (22, .invokevirtual 333, 3, 0), (25, .istore_n 1, 1, 0), (26, .aload_n 0, 1, 0), (27, .aload_n 0, 1, 0), (28, .getfield 10, 3, 0), (31, .getfield 112, 3, 0), (34, .putfield 115, 3, 0), (37, .iload_n 1, 1, 0), (38, .ifCond .ne 13, 3, 51), (41, .iconst (-1), 1, 0), (42, .aload_n 0, 1, 0), (43, .getfield 10, 3, 0), (46, .getfield 116, 3, 0), (49, .isub, 1, 0), (50, .ireturn, 1, 0), (51, .aload_n 0, 1, 0), (52, .getfield 41, 3, 0), (55, .aload_n 0, 1, 0), (56, .getfield 45, 3, 0), (59, .invokevirtual 334, 3, 0), (62, .aload_n 0, 1, 0), (63, .getfield 41, 3, 0), (66, .getfield 337, 3, 0), (69, .ireturn, 1, 0)]
set_option maxRecDepth 100000 in
theorem s_d135 : s_dec prog_1_method_35_code s_t135 := by unfold s_dec; decide +kernel
-- CampAshes$Sentence.readText(LCampAshes$Tape;LCampAshes$Camp;)Z
def s_t136 : List (Nat × Instr × Nat × Nat) := [(0, .aload_n 0, 1, 0), (1, .invokevirtual 44, 3, 0), (4, .aload_n 0, 1, 0), (5, .aload_n 1, 1, 0), (6, .aload_n 2, 1, 0), (7, .iconst 1, 1, 0), (8, .invokevirtual 47, 3, 0), (11, .ifCond .ne 5, 3, 16), (14, .iconst 0, 1, 0), (15, .ireturn, 1, 0), (16, .aload_n 1, 1, 0), (17, .invokevirtual 51, 3, 0), (20, .ifCond .ne 9, 3, 29), (23, .aload_n 1, 1, 0), (24, .iconst 1, 1, 0), (25, .invokevirtual 57, 3, 0), (28, .ireturn, 1, 0), (29, .aload_n 0, 1, 0), (30, .iconst 1, 1, 0), (31, .putfield 34, 3, 0), (34, .iconst 1, 1, 0), (35, .ireturn, 1, 0)]
set_option maxRecDepth 100000 in
theorem s_d136 : s_dec prog_9_method_4_code s_t136 := by unfold s_dec; decide +kernel
-- CampAshes$Sentence.readCond(LCampAshes$Tape;LCampAshes$Camp;I)Z
def s_t137 : List (Nat × Instr × Nat × Nat) := [(0, .aload_n 0, 1, 0), (1, .aload_n 1, 1, 0), (2, .aload_n 2, 1, 0), (3, .iload_n 3, 1, 0), (4, .invokevirtual 61, 3, 0), (7, .ifCond .ne 5, 3, 12), (10, .iconst 0, 1, 0), (11, .ireturn, 1, 0), (12, .iconst 0, 1, 0), (13, .istore 4, 2, 0), (15, .iload 4, 2, 0), (17, .bipush 20, 2, 0), (19, .if_icmp .ge 44, 3, 63), (22, .aload_n 1, 1, 0), (23, .getstatic 64, 3, 0), (26, .invokevirtual 68, 3, 0), (29, .ifCond .eq 34, 3, 63), (32, .aload_n 1, 1, 0), (33, .invokevirtual 72, 3, 0), (36, .aload_n 0, 1, 0), (37, .aload_n 1, 1, 0), (38, .aload_n 2, 1, 0), (39, .iload_n 3, 1, 0), (40, .invokevirtual 61, 3, 0), (43, .ifCond .ne 5, 3, 48), (46, .iconst 0, 1, 0), (47, .ireturn, 1, 0), (48, .aload_n 0, 1, 0), (49, .getstatic 64, 3, 0), (52, .iconst 0, 1, 0), (53, .iconst 0, 1, 0), (54, .invokevirtual 75, 3, 0), (57, .iinc 4 1, 3, 0), (60, .goto (-45), 3, 15), (63, .iconst 1, 1, 0), (64, .ireturn, 1, 0)]
set_option maxRecDepth 100000 in
theorem s_d137 : s_dec prog_9_method_5_code s_t137 := by unfold s_dec; decide +kernel
-- CampAshes$Sentence.readAll(LCampAshes$Tape;LCampAshes$Camp;I)Z
def s_t138 : List (Nat × Instr × Nat × Nat) := [(0, .aload_n 0, 1, 0), (1, .aload_n 1, 1, 0), (2, .aload_n 2, 1, 0), (3, .iload_n 3, 1, 0), (4, .invokevirtual 79, 3, 0), (7, .ifCond .ne 5, 3, 12), (10, .iconst 0, 1, 0), (11, .ireturn, 1, 0), (12, .iconst 0, 1, 0), (13, .istore 4, 2, 0), (15, .iload 4, 2, 0), (17, .bipush 20, 2, 0), (19, .if_icmp .ge 44, 3, 63), (22, .aload_n 1, 1, 0), (23, .getstatic 82, 3, 0), (26, .invokevirtual 68, 3, 0), (29, .ifCond .eq 34, 3, 63), (32, .aload_n 1, 1, 0), (33, .invokevirtual 72, 3, 0), (36, .aload_n 0, 1, 0), (37, .aload_n 1, 1, 0), (38, .aload_n 2, 1, 0), (39, .iload_n 3, 1, 0), (40, .invokevirtual 79, 3, 0), (43, .ifCond .ne 5, 3, 48), (46, .iconst 0, 1, 0), (47, .ireturn, 1, 0), (48, .aload_n 0, 1, 0), (49, .getstatic 82, 3, 0), (52, .iconst 0, 1, 0), (53, .iconst 0, 1, 0), (54, .invokevirtual 75, 3, 0), (57, .iinc 4 1, 3, 0), (60, .goto (-45), 3, 15), (63, .iconst 1, 1, 0), (64, .ireturn, 1, 0)]
set_option maxRecDepth 100000 in
theorem s_d138 : s_dec prog_9_method_6_code s_t138 := by unfold s_dec; decide +kernel
-- CampAshes$Sentence.readOne(LCampAshes$Tape;LCampAshes$Camp;I)Z
def s_t139 : List (Nat × Instr × Nat × Nat) := [(0, .aload_n 1, 1, 0), (1, .invokestatic 85, 3, 0), (4, .ifCond .ne 9, 3, 13), (7, .aload_n 1, 1, 0), (8, .iconst 1, 1, 0), (9, .invokevirtual 57, 3, 0), (12, .ireturn, 1, 0), (13, .aload_n 0, 1, 0), (14, .getfield 31, 3, 0), (17, .bipush 20, 2, 0), (19, .if_icmp .ge 9, 3, 28), (22, .iload_n 3, 1, 0), (23, .bipush 8, 2, 0), (25, .if_icmp .le 9, 3, 34), (28, .aload_n 1, 1, 0), (29, .iconst 4, 1, 0), (30, .invokevirtual 57, 3, 0), (33, .ireturn, 1, 0), (34, .aload_n 0, 1, 0), (35, .dup, 1, 0), (36, .getfield 31, 3, 0), (39, .iconst 1, 1, 0), (40, .iadd, 1, 0), (41, .putfield 31, 3, 0), (44, .aload_n 1, 1, 0), (45, .getfield 89, 3, 0), (48, .astore 4, 2, 0), (50, .aload_n 1, 1, 0), (51, .invokevirtual 72, 3, 0), (54, .aload 4, 2, 0), (56, .ifnonnull 30, 3, 86), (59, .aload_n 0, 1, 0), (60, .aload_n 1, 1, 0), (61, .aload_n 2, 1, 0), (62, .iload_n 3, 1, 0), (63, .iconst 1, 1, 0), (64, .iadd, 1, 0), (65, .invokevirtual 47, 3, 0), (68, .ifCond .eq 16, 3, 84), (71, .aload_n 1, 1, 0), (72, .bipush 41, 2, 0), (74, .invokevirtual 92, 3, 0), (77, .ifCond .eq 7, 3, 84), (80, .iconst 1, 1, 0), (81, .goto 4, 3, 85), (84, .iconst 0, 1, 0), (85, .ireturn, 1, 0), (86, .aload 4, 2, 0), (88, .getstatic 96, 3, 0), (91, .if_acmp .ne 26, 3, 117), (94, .aload_n 0, 1, 0), (95, .aload_n 1, 1, 0), (96, .aload_n 2, 1, 0), (97, .iload_n 3, 1, 0), (98, .iconst 1, 1, 0), (99, .iadd, 1, 0), (100, .invokevirtual 79, 3, 0), (103, .istore 5, 2, 0), (105, .aload_n 0, 1, 0), (106, .getstatic 96, 3, 0), (109, .iconst 0, 1, 0), (110, .iconst 0, 1, 0), (111, .invokevirtual 75, 3, 0), (114, .iload 5, 2, 0), (116, .ireturn, 1, 0), (117, .aload 4, 2, 0), (119, .invokestatic 99, 3, 0), (122, .ifCond .eq 13, 3, 135), (125, .aload_n 0, 1, 0), (126, .aload 4, 2, 0), (128, .iconst 0, 1, 0), (129, .iconst 0, 1, 0), (130, .invokevirtual 75, 3, 0), (133, .iconst 1, 1, 0), (134, .ireturn, 1, 0), (135, .aload 4, 2, 0), (137, .getstatic 102, 3, 0), (140, .if_acmp .eq 11, 3, 151), (143, .aload 4, 2, 0), (145, .getstatic 105, 3, 0), (148, .if_acmp .ne 38, 3, 186), (151, .aload_n 1, 1, 0), (152, .aload_n 2, 1, 0), (153, .aload_n 1, 1, 0), (154, .getfield 108, 3, 0), (157, .invokevirtual 112, 3, 0), (160, .invokevirtual 118, 3, 0), (163, .istore 5, 2, 0), (165, .aload_n 0, 1, 0), (166, .aload 4, 2, 0), (168, .iconst 0, 1, 0), (169, .iload 5, 2, 0), (171, .invokevirtual 75, 3, 0), (174, .iload 5, 2, 0), (176, .iconst (-1), 1, 0), (177, .if_icmp .eq 7, 3, 184), (180, .iconst 1, 1, 0), (181, .goto 4, 3, 185), (184, .iconst 0, 1, 0), (185, .ireturn, 1, 0), (186, .aload_n 0, 1, 0), (187, .aload_n 1, 1, 0), (188, .aload 4, 2, 0), (190, .invokevirtual 122, 3, 0), (193, .ireturn, 1, 0)]
set_option maxRecDepth 100000 in
theorem s_d139 : s_dec prog_9_method_7_code s_t139 := by unfold s_dec; decide +kernel
-- CampAshes$Sentence.beginsOne(LCampAshes$Tape;)Z
def s_t140 : List (Nat × Instr × Nat × Nat) := [(0, .aload_n 0, 1, 0), (1, .getfield 89, 3, 0), (4, .astore_n 1, 1, 0), (5, .aload_n 0, 1, 0), (6, .bipush 40, 2, 0), (8, .invokevirtual 126, 3, 0), (11, .ifCond .ne 59, 3, 70), (14, .aload_n 1, 1, 0), (15, .getstatic 96, 3, 0), (18, .if_acmp .eq 52, 3, 70), (21, .aload_n 1, 1, 0), (22, .invokestatic 99, 3, 0), (25, .ifCond .ne 45, 3, 70), (28, .aload_n 1, 1, 0), (29, .getstatic 102, 3, 0), (32, .if_acmp .eq 38, 3, 70), (35, .aload_n 1, 1, 0), (36, .getstatic 105, 3, 0), (39, .if_acmp .eq 31, 3, 70), (42, .aload_n 1, 1, 0), (43, .getstatic 135, 3, 0), (46, .if_acmp .eq 24, 3, 70), (49, .aload_n 1, 1, 0), (50, .getstatic 138, 3, 0), (53, .if_acmp .eq 17, 3, 70), (56, .aload_n 1, 1, 0), (57, .getstatic 141, 3, 0), (60, .if_acmp .eq 10, 3, 70), (63, .aload_n 1, 1, 0), (64, .getstatic 144, 3, 0), (67, .if_acmp .ne 7, 3, 74), (70, .iconst 1, 1, 0), (71, .goto 4, 3, 75), (74, .iconst 0, 1, 0), (75, .ireturn, 1, 0)]
set_option maxRecDepth 100000 in
theorem s_d140 : s_dec prog_9_method_9_code s_t140 := by unfold s_dec; decide +kernel
-- CampAshes$Sentence.isPlain(LCampAshes$Word;)Z
def s_t141 : List (Nat × Instr × Nat × Nat) := [(0, .aload_n 0, 1, 0), (1, .getstatic 147, 3, 0), (4, .if_acmp .eq 17, 3, 21), (7, .aload_n 0, 1, 0), (8, .getstatic 150, 3, 0), (11, .if_acmp .eq 10, 3, 21), (14, .aload_n 0, 1, 0), (15, .getstatic 153, 3, 0), (18, .if_acmp .ne 7, 3, 25), (21, .iconst 1, 1, 0), (22, .goto 4, 3, 26), (25, .iconst 0, 1, 0), (26, .ireturn, 1, 0)]
set_option maxRecDepth 100000 in
theorem s_d141 : s_dec prog_9_method_10_code s_t141 := by unfold s_dec; decide +kernel
-- CampAshes$Sentence.addStep(LCampAshes$Word;II)V
def s_t142 : List (Nat × Instr × Nat × Nat) := [(0, .aload_n 0, 1, 0), (1, .getfield 27, 3, 0), (4, .bipush 40, 2, 0), (6, .if_icmp .ge 43, 3, 49), (9, .aload_n 0, 1, 0), (10, .getfield 13, 3, 0), (13, .aload_n 0, 1, 0), (14, .getfield 27, 3, 0), (17, .aload_n 1, 1, 0), (18, .aastore, 1, 0), (19, .aload_n 0, 1, 0), (20, .getfield 17, 3, 0), (23, .aload_n 0, 1, 0), (24, .getfield 27, 3, 0), (27, .iload_n 2, 1, 0), (28, .iastore, 1, 0), (29, .aload_n 0, 1, 0), (30, .getfield 21, 3, 0), (33, .aload_n 0, 1, 0), (34, .getfield 27, 3, 0), (37, .iload_n 3, 1, 0), (38, .iastore, 1, 0), (39, .aload_n 0, 1, 0), (40, .dup, 1, 0), (41, .getfield 27, 3, 0), (44, .iconst 1, 1, 0), (45, .iadd, 1, 0), (46, .putfield 27, 3, 0), (49, .return_, 1, 0)]
set_option maxRecDepth 100000 in
theorem s_d142 : s_dec prog_9_method_11_code s_t142 := by unfold s_dec; decide +kernel
-- CampAshes$Sentence.readComparison(LCampAshes$Tape;LCampAshes$Word;)Z
def s_t143 : List (Nat × Instr × Nat × Nat) := [(0, .aload_n 1, 1, 0), (1, .bipush 60, 2, 0), (3, .invokevirtual 126, 3, 0), (6, .ifCond .ne 27, 3, 33), (9, .aload_n 1, 1, 0), (10, .bipush 61, 2, 0), (12, .invokevirtual 126, 3, 0), (15, .ifCond .ne 18, 3, 33), (18, .aload_n 1, 1, 0), (19, .bipush 62, 2, 0), (21, .invokevirtual 126, 3, 0), (24, .ifCond .ne 9, 3, 33), (27, .aload_n 1, 1, 0), (28, .iconst 1, 1, 0), (29, .invokevirtual 57, 3, 0), (32, .ireturn, 1, 0), (33, .aload_n 1, 1, 0), (34, .getfield 129, 3, 0), (37, .istore_n 3, 1, 0), (38, .aload_n 1, 1, 0), (39, .invokevirtual 72, 3, 0), (42, .aload_n 1, 1, 0), (43, .getfield 132, 3, 0), (46, .iconst 4, 1, 0), (47, .if_icmp .eq 9, 3, 56), (50, .aload_n 1, 1, 0), (51, .iconst 1, 1, 0), (52, .invokevirtual 57, 3, 0), (55, .ireturn, 1, 0), (56, .aload_n 0, 1, 0), (57, .aload_n 2, 1, 0), (58, .iload_n 3, 1, 0), (59, .aload_n 1, 1, 0), (60, .getfield 129, 3, 0), (63, .invokevirtual 75, 3, 0), (66, .aload_n 1, 1, 0), (67, .invokevirtual 72, 3, 0), (70, .iconst 1, 1, 0), (71, .ireturn, 1, 0)]
set_option maxRecDepth 100000 in
theorem s_d143 : s_dec prog_9_method_8_code s_t143 := by unfold s_dec; decide +kernel
-- CampAshes$Sentence.copyFrom(LCampAshes$Sentence;)V
def s_t144 : List (Nat × Instr × Nat × Nat) := [(0, .iconst 0, 1, 0), (1, .istore_n 2, 1, 0), (2, .iload_n 2, 1, 0), (3, .bipush 40, 2, 0), (5, .if_icmp .ge 21, 3, 26), (8, .aload_n 0, 1, 0), (9, .getfield 13, 3, 0), (12, .iload_n 2, 1, 0), (13, .aload_n 1, 1, 0), (14, .getfield 13, 3, 0), (17, .iload_n 2, 1, 0), (18, .aaload, 1, 0), (19, .aastore, 1, 0), (20, .iinc 2 1, 3, 0), (23, .goto (-21), 3, 2), (26, .aload_n 1, 1, 0), (27, .getfield 17, 3, 0), (30, .iconst 0, 1, 0), (31, .aload_n 0, 1, 0), (32, .getfield 17, 3, 0), (35, .iconst 0, 1, 0), (36, .bipush 40, 2, 0), (38, .invokestatic 38, 3, 0), (41, .aload_n 1, 1, 0), (42, .getfield 21, 3, 0), (45, .iconst 0, 1, 0), (46, .aload_n 0, 1, 0), (47, .getfield 21, 3, 0), (50, .iconst 0, 1, 0), (51, .bipush 40, 2, 0), (53, .invokestatic 38, 3, 0), (56, .aload_n 0, 1, 0), (57, .aload_n 1, 1, 0), (58, .getfield 27, 3, 0), (61, .putfield 27, 3, 0), (64, .aload_n 0, 1, 0), (65, .aload_n 1, 1, 0), (66, .getfield 31, 3, 0), (69, .putfield 31, 3, 0), (72, .aload_n 0, 1, 0), (73, .aload_n 1, 1, 0), (74, .getfield 34, 3, 0), (77, .putfield 34, 3, 0), (80, .return_, 1, 0)]
set_option maxRecDepth 100000 in
theorem s_d144 : s_dec prog_9_method_3_code s_t144 := by unfold s_dec; decide +kernel
-- CampAshes.said(I)I
def s_t145 : List (Nat × Instr × Nat × Nat) := [(0, .aload_n 0, 1, 0), (1, .getfield 41, 3, 0), (4, .getfield 340, 3, 0), (7, .ifCond .eq 8, 3, 15), (10, .iload_n 1, 1, 0), (11, .iconst (-1), 1, 0), (12, .if_icmp .ge 5, 3, 17), (15, .iconst (-1), 1, 0), (16, .ireturn, 1, 0), (17, .aload_n 0, 1, 0), (18, .getfield 41, 3, 0), (21, .aload_n 0, 1, 0), (22, .getfield 31, 3, 0), (25, .invokevirtual 343, 3, 0), (28, .istore_n 2, 1, 0), (29, .iload_n 1, 1, 0), (30, .iconst (-1), 1, 0), (31, .if_icmp .ne 8, 3, 39), (34, .iload_n 2, 1, 0), (35, .invokestatic 346, 3, 0), (38, .ireturn, 1, 0), (39, .iconst 0, 1, 0), (40, .istore_n 3, 1, 0), (41, .iconst 0, 1, 0), (42, .istore 4, 2, 0), (44, .iload 4, 2, 0), (46, .bipush 7, 2, 0), (48, .if_icmp .ge 30, 3, 78), (51, .iload_n 2, 1, 0), (52, .iload 4, 2, 0), (54, .ishr, 1, 0), (55, .iconst 1, 1, 0), (56, .iand, 1, 0), (57, .iconst 1, 1, 0), (58, .if_icmp .ne 14, 3, 72), (61, .iload_n 3, 1, 0), (62, .iload_n 1, 1, 0), (63, .if_icmp .ne 6, 3, 69), (66, .iload 4, 2, 0), (68, .ireturn, 1, 0), (69, .iinc 3 1, 3, 0), (72, .iinc 4 1, 3, 0), (75, .goto (-31), 3, 44), (78, .iconst (-1), 1, 0), (79, .ireturn, 1, 0)]
set_option maxRecDepth 100000 in
theorem s_d145 : s_dec prog_1_method_36_code s_t145 := by unfold s_dec; decide +kernel
end
section
-- CampAshes$Sentence.boysOf(LCampAshes$State;)I
def s_t146 : List (Nat × Instr × Nat × Nat) := [(0, .iconst 1, 1, 0), (1, .aload_n 1, 1, 0), (2, .getfield 156, 3, 0), (5, .getfield 162, 3, 0), (8, .ishl, 1, 0), (9, .iconst 1, 1, 0), (10, .isub, 1, 0), (11, .istore_n 2, 1, 0), (12, .iconst 0, 1, 0), (13, .istore_n 3, 1, 0), (14, .iconst 0, 1, 0), (15, .istore 4, 2, 0), (17, .iload 4, 2, 0), (19, .aload_n 0, 1, 0), (20, .getfield 27, 3, 0), (23, .if_icmp .ge 152, 3, 175), (26, .aload_n 0, 1, 0), (27, .getfield 13, 3, 0), (30, .iload 4, 2, 0), (32, .aaload, 1, 0), (33, .astore 5, 2, 0), (35, .aload 5, 2, 0), (37, .getstatic 96, 3, 0), (40, .if_acmp .ne 31, 3, 71), (43, .iload_n 3, 1, 0), (44, .iconst 1, 1, 0), (45, .if_icmp .lt 26, 3, 71), (48, .aload_n 0, 1, 0), (49, .getfield 24, 3, 0), (52, .iload_n 3, 1, 0), (53, .iconst 1, 1, 0), (54, .isub, 1, 0), (55, .iload_n 2, 1, 0), (56, .aload_n 0, 1, 0), (57, .getfield 24, 3, 0), (60, .iload_n 3, 1, 0), (61, .iconst 1, 1, 0), (62, .isub, 1, 0), (63, .iaload, 1, 0), (64, .iconst (-1), 1, 0), (65, .ixor, 1, 0), (66, .iand, 1, 0), (67, .iastore, 1, 0), (68, .goto 101, 3, 169), (71, .aload 5, 2, 0), (73, .getstatic 82, 3, 0), (76, .if_acmp .eq 11, 3, 87), (79, .aload 5, 2, 0), (81, .getstatic 64, 3, 0), (84, .if_acmp .ne 63, 3, 147), (87, .iload_n 3, 1, 0), (88, .iconst 2, 1, 0), (89, .if_icmp .lt 58, 3, 147), (92, .iinc 3 (-1), 3, 0), (95, .aload_n 0, 1, 0), (96, .getfield 24, 3, 0), (99, .iload_n 3, 1, 0), (100, .iaload, 1, 0), (101, .istore 6, 2, 0), (103, .aload_n 0, 1, 0), (104, .getfield 24, 3, 0), (107, .iload_n 3, 1, 0), (108, .iconst 1, 1, 0), (109, .isub, 1, 0), (110, .aload 5, 2, 0), (112, .getstatic 82, 3, 0), (115, .if_acmp .ne 17, 3, 132), (118, .aload_n 0, 1, 0), (119, .getfield 24, 3, 0), (122, .iload_n 3, 1, 0), (123, .iconst 1, 1, 0), (124, .isub, 1, 0), (125, .iaload, 1, 0), (126, .iload 6, 2, 0), (128, .iand, 1, 0), (129, .goto 14, 3, 143), (132, .aload_n 0, 1, 0), (133, .getfield 24, 3, 0), (136, .iload_n 3, 1, 0), (137, .iconst 1, 1, 0), (138, .isub, 1, 0), (139, .iaload, 1, 0), (140, .iload 6, 2, 0), (142, .ior, 1, 0), (143, .iastore, 1, 0), (144, .goto 25, 3, 169), (147, .iload_n 3, 1, 0), (148, .bipush 40, 2, 0), (150, .if_icmp .ge 19, 3, 169), (153, .aload_n 0, 1, 0), (154, .getfield 24, 3, 0), (157, .iload_n 3, 1, 0), (158, .aload_n 0, 1, 0), (159, .aload_n 1, 1, 0), (160, .iload 4, 2, 0), (162, .invokevirtual 165, 3, 0), (165, .iastore, 1, 0), (166, .iinc 3 1, 3, 0), (169, .iinc 4 1, 3, 0), (172, .goto (-155), 3, 17), (175, .iload_n 3, 1, 0), (176, .iconst 1, 1, 0), (177, .if_icmp .ne 12, 3, 189), (180, .aload_n 0, 1, 0), (181, .getfield 24, 3, 0), (184, .iconst 0, 1, 0), (185, .iaload, 1, 0), (186, .goto 4, 3, 190), (189, .iconst 0, 1, 0), (190, .ireturn, 1, 0)]
set_option maxRecDepth 100000 in
theorem s_d146 : s_dec prog_9_method_12_code s_t146 := by unfold s_dec; decide +kernel
-- CampAshes$Sentence.boysOfStep(LCampAshes$State;I)I
def s_t147 : List (Nat × Instr × Nat × Nat) := [(0, .iconst 0, 1, 0), (1, .istore_n 3, 1, 0), (2, .iconst 0, 1, 0), (3, .istore 4, 2, 0), (5, .iload 4, 2, 0), (7, .aload_n 1, 1, 0), (8, .getfield 156, 3, 0), (11, .getfield 162, 3, 0), (14, .if_icmp .ge 27, 3, 41), (17, .aload_n 0, 1, 0), (18, .aload_n 1, 1, 0), (19, .iload_n 2, 1, 0), (20, .iload 4, 2, 0), (22, .invokevirtual 169, 3, 0), (25, .ifCond .eq 10, 3, 35), (28, .iload_n 3, 1, 0), (29, .iconst 1, 1, 0), (30, .iload 4, 2, 0), (32, .ishl, 1, 0), (33, .ior, 1, 0), (34, .istore_n 3, 1, 0), (35, .iinc 4 1, 3, 0), (38, .goto (-33), 3, 5), (41, .iload_n 3, 1, 0), (42, .ireturn, 1, 0)]
set_option maxRecDepth 100000 in
theorem s_d147 : s_dec prog_9_method_13_code s_t147 := by unfold s_dec; decide +kernel
-- CampAshes$Sentence.holds(LCampAshes$State;II)Z
def s_t148 : List (Nat × Instr × Nat × Nat) := [(0, .aload_n 0, 1, 0), (1, .getfield 13, 3, 0), (4, .iload_n 2, 1, 0), (5, .aaload, 1, 0), (6, .astore 4, 2, 0), (8, .aload_n 0, 1, 0), (9, .getfield 21, 3, 0), (12, .iload_n 2, 1, 0), (13, .iaload, 1, 0), (14, .istore 5, 2, 0), (16, .aload 4, 2, 0), (18, .getstatic 147, 3, 0), (21, .if_acmp .ne 9, 3, 30), (24, .aload_n 1, 1, 0), (25, .iload_n 3, 1, 0), (26, .invokevirtual 173, 3, 0), (29, .ireturn, 1, 0), (30, .aload 4, 2, 0), (32, .getstatic 150, 3, 0), (35, .if_acmp .ne 9, 3, 44), (38, .aload_n 1, 1, 0), (39, .iload_n 3, 1, 0), (40, .invokevirtual 176, 3, 0), (43, .ireturn, 1, 0), (44, .aload 4, 2, 0), (46, .getstatic 153, 3, 0), (49, .if_acmp .ne 18, 3, 67), (52, .aload_n 1, 1, 0), (53, .getfield 179, 3, 0), (56, .iload_n 3, 1, 0), (57, .iaload, 1, 0), (58, .ifCond .ne 7, 3, 65), (61, .iconst 1, 1, 0), (62, .goto 4, 3, 66), (65, .iconst 0, 1, 0), (66, .ireturn, 1, 0), (67, .aload 4, 2, 0), (69, .getstatic 102, 3, 0), (72, .if_acmp .ne 31, 3, 103), (75, .aload_n 1, 1, 0), (76, .getfield 156, 3, 0), (79, .iload 5, 2, 0), (81, .invokevirtual 182, 3, 0), (84, .ifCond .eq 17, 3, 101), (87, .aload_n 1, 1, 0), (88, .iload 5, 2, 0), (90, .iload_n 3, 1, 0), (91, .invokevirtual 185, 3, 0), (94, .ifCond .le 7, 3, 101), (97, .iconst 1, 1, 0), (98, .goto 4, 3, 102), (101, .iconst 0, 1, 0), (102, .ireturn, 1, 0), (103, .aload 4, 2, 0), (105, .getstatic 105, 3, 0), (108, .if_acmp .ne 35, 3, 143), (111, .aload_n 1, 1, 0), (112, .getfield 156, 3, 0), (115, .iload 5, 2, 0), (117, .invokevirtual 182, 3, 0), (120, .ifCond .eq 21, 3, 141), (123, .aload_n 1, 1, 0), (124, .getfield 156, 3, 0), (127, .getfield 189, 3, 0), (130, .iload 5, 2, 0), (132, .iaload, 1, 0), (133, .iload_n 3, 1, 0), (134, .if_icmp .ne 7, 3, 141), (137, .iconst 1, 1, 0), (138, .goto 4, 3, 142), (141, .iconst 0, 1, 0), (142, .ireturn, 1, 0), (143, .aload_n 1, 1, 0), (144, .aload 4, 2, 0), (146, .iload_n 3, 1, 0), (147, .invokestatic 192, 3, 0), (150, .istore 6, 2, 0), (152, .aload_n 0, 1, 0), (153, .getfield 17, 3, 0), (156, .iload_n 2, 1, 0), (157, .iaload, 1, 0), (158, .bipush 60, 2, 0), (160, .if_icmp .ne 16, 3, 176), (163, .iload 6, 2, 0), (165, .iload 5, 2, 0), (167, .if_icmp .ge 7, 3, 174), (170, .iconst 1, 1, 0), (171, .goto 4, 3, 175), (174, .iconst 0, 1, 0), (175, .ireturn, 1, 0), (176, .aload_n 0, 1, 0), (177, .getfield 17, 3, 0), (180, .iload_n 2, 1, 0), (181, .iaload, 1, 0), (182, .bipush 62, 2, 0), (184, .if_icmp .ne 18, 3, 202), (187, .iload 6, 2, 0), (189, .iload 5, 2, 0), (191, .if_icmp .le 7, 3, 198), (194, .iconst 1, 1, 0), (195, .goto 19, 3, 214), (198, .iconst 0, 1, 0), (199, .goto 15, 3, 214), (202, .iload 6, 2, 0), (204, .iload 5, 2, 0), (206, .if_icmp .ne 7, 3, 213), (209, .iconst 1, 1, 0), (210, .goto 4, 3, 214), (213, .iconst 0, 1, 0), (214, .ireturn, 1, 0)]
set_option maxRecDepth 100000 in
theorem s_d148 : s_dec prog_9_method_14_code s_t148 := by unfold s_dec; decide +kernel
-- CampAshes$Sentence.measure(LCampAshes$State;LCampAshes$Word;I)I
def s_t149 : List (Nat × Instr × Nat × Nat) := [(0, .aload_n 1, 1, 0), (1, .getstatic 135, 3, 0), (4, .if_acmp .ne 10, 3, 14), (7, .aload_n 0, 1, 0), (8, .getfield 179, 3, 0), (11, .iload_n 2, 1, 0), (12, .iaload, 1, 0), (13, .ireturn, 1, 0), (14, .aload_n 1, 1, 0), (15, .getstatic 138, 3, 0), (18, .if_acmp .ne 13, 3, 31), (21, .aload_n 0, 1, 0), (22, .getfield 156, 3, 0), (25, .getfield 196, 3, 0), (28, .iload_n 2, 1, 0), (29, .iaload, 1, 0), (30, .ireturn, 1, 0), (31, .aload_n 1, 1, 0), (32, .getstatic 141, 3, 0), (35, .if_acmp .ne 12, 3, 47), (38, .aload_n 0, 1, 0), (39, .getfield 199, 3, 0), (42, .iload_n 2, 1, 0), (43, .iaload, 1, 0), (44, .goto 4, 3, 48), (47, .iload_n 2, 1, 0), (48, .ireturn, 1, 0)]
set_option maxRecDepth 100000 in
theorem s_d149 : s_dec prog_9_method_15_code s_t149 := by unfold s_dec; decide +kernel
-- CampAshes.image(I)Z
def s_t150 : List (Nat × Instr × Nat × Nat) := [(0, .iload_n 1, 1, 0), (1, .ifCond .lt 8, 3, 9), (4, .iload_n 1, 1, 0), (5, .iconst 2, 1, 0), (6, .if_icmp .lt 5, 3, 11), (9, .iconst 0, 1, 0), (10, .ireturn, 1, 0), (11, .aload_n 0, 1, 0), (12, .getfield 65, 3, 0), (15, .iload_n 1, 1, 0), (16, .aaload, 1, 0), (17, .aload_n 0, 1, 0), (18, .getfield 19, 3, 0), (21, .aload_n 0, 1, 0), (22, .getfield 31, 3, 0), (25, .aload_n 0, 1, 0), (26, .getfield 41, 3, 0), (29, .invokevirtual 351, 3, 0), (32, .iconst 1, 1, 0), (33, .ireturn, 1, 0)]
set_option maxRecDepth 100000 in
theorem s_d150 : s_dec prog_1_method_37_code s_t150 := by unfold s_dec; decide +kernel
-- CampAshes$Image.keep(LCampAshes$Camp;LCampAshes$State;LCampAshes$Sentence;)V
def s_t151 : List (Nat × Instr × Nat × Nat) := [(0, .aload_n 0, 1, 0), (1, .getfield 10, 3, 0), (4, .aload_n 1, 1, 0), (5, .invokevirtual 32, 3, 0), (8, .aload_n 0, 1, 0), (9, .getfield 21, 3, 0), (12, .aload_n 2, 1, 0), (13, .invokevirtual 35, 3, 0), (16, .aload_n 0, 1, 0), (17, .getfield 28, 3, 0), (20, .aload_n 3, 1, 0), (21, .invokevirtual 38, 3, 0), (24, .aload_n 0, 1, 0), (25, .iconst 1, 1, 0), (26, .putfield 41, 3, 0), (29, .return_, 1, 0)]
set_option maxRecDepth 100000 in
theorem s_d151 : s_dec prog_7_method_2_code s_t151 := by unfold s_dec; decide +kernel
-- CampAshes.restore(I)Z
def s_t152 : List (Nat × Instr × Nat × Nat) := [(0, .iload_n 1, 1, 0), (1, .ifCond .lt 20, 3, 21), (4, .iload_n 1, 1, 0), (5, .iconst 2, 1, 0), (6, .if_icmp .ge 15, 3, 21), (9, .aload_n 0, 1, 0), (10, .getfield 65, 3, 0), (13, .iload_n 1, 1, 0), (14, .aaload, 1, 0), (15, .getfield 355, 3, 0), (18, .ifCond .ne 5, 3, 23), (21, .iconst 0, 1, 0), (22, .ireturn, 1, 0), (23, .aload_n 0, 1, 0), (24, .getfield 65, 3, 0), (27, .iload_n 1, 1, 0), (28, .aaload, 1, 0), (29, .aload_n 0, 1, 0), (30, .getfield 19, 3, 0), (33, .aload_n 0, 1, 0), (34, .getfield 31, 3, 0), (37, .aload_n 0, 1, 0), (38, .getfield 41, 3, 0), (41, .invokevirtual 358, 3, 0), (44, .aload_n 0, 1, 0), (45, .getfield 58, 3, 0), (48, .invokevirtual 125, 3, 0), (51, .iconst 1, 1, 0), (52, .ireturn, 1, 0)]
set_option maxRecDepth 100000 in
theorem s_d152 : s_dec prog_1_method_38_code s_t152 := by unfold s_dec; decide +kernel
-- CampAshes$Image.giveBack(LCampAshes$Camp;LCampAshes$State;LCampAshes$Sentence;)V
def s_t153 : List (Nat × Instr × Nat × Nat) := [(0, .aload_n 1, 1, 0), (1, .aload_n 0, 1, 0), (2, .getfield 10, 3, 0), (5, .invokevirtual 32, 3, 0), (8, .aload_n 2, 1, 0), (9, .aload_n 0, 1, 0), (10, .getfield 21, 3, 0), (13, .invokevirtual 35, 3, 0), (16, .aload_n 3, 1, 0), (17, .aload_n 0, 1, 0), (18, .getfield 28, 3, 0), (21, .invokevirtual 38, 3, 0), (24, .return_, 1, 0)]
set_option maxRecDepth 100000 in
theorem s_d153 : s_dec prog_7_method_3_code s_t153 := by unfold s_dec; decide +kernel
-- CampAshes.count(I)I
def s_t154 : List (Nat × Instr × Nat × Nat) := [(0, .iload_n 1, 1, 0), (1, .tableswitch 75 0 4 #[35, 43, 51, 59, 67], 35, 0), (36, .aload_n 0, 1, 0), (37, .getfield 19, 3, 0), (40, .getfield 361, 3, 0), (43, .ireturn, 1, 0), (44, .aload_n 0, 1, 0), (45, .getfield 19, 3, 0), (48, .getfield 364, 3, 0), (51, .ireturn, 1, 0), (52, .aload_n 0, 1, 0), (53, .getfield 19, 3, 0), (56, .getfield 367, 3, 0), (59, .ireturn, 1, 0), (60, .aload_n 0, 1, 0), (61, .getfield 19, 3, 0), (64, .getfield 370, 3, 0), (67, .ireturn, 1, 0), (68, .aload_n 0, 1, 0), (69, .getfield 10, 3, 0), (72, .getfield 97, 3, 0), (75, .ireturn, 1, 0), (76, .iconst (-1), 1, 0), (77, .ireturn, 1, 0)]
set_option maxRecDepth 100000 in
theorem s_d154 : s_dec prog_1_method_39_code s_t154 := by unfold s_dec; decide +kernel
-- CampAshes.boy(II)I
def s_t155 : List (Nat × Instr × Nat × Nat) := [(0, .aload_n 0, 1, 0), (1, .getfield 19, 3, 0), (4, .iload_n 1, 1, 0), (5, .invokevirtual 126, 3, 0), (8, .ifCond .ne 13, 3, 21), (11, .new 130, 3, 0), (14, .dup, 1, 0), (15, .ldc 132, 2, 0), (17, .invokespecial 134, 3, 0), (20, .athrow, 1, 0), (21, .iload_n 2, 1, 0), (22, .tableswitch 111 0 5 #[38, 48, 58, 75, 92, 102], 38, 0), (60, .aload_n 0, 1, 0), (61, .getfield 31, 3, 0), (64, .getfield 137, 3, 0), (67, .iload_n 1, 1, 0), (68, .iaload, 1, 0), (69, .ireturn, 1, 0), (70, .aload_n 0, 1, 0), (71, .getfield 19, 3, 0), (74, .getfield 141, 3, 0), (77, .iload_n 1, 1, 0), (78, .iaload, 1, 0), (79, .ireturn, 1, 0), (80, .aload_n 0, 1, 0), (81, .getfield 31, 3, 0), (84, .iload_n 1, 1, 0), (85, .invokevirtual 144, 3, 0), (88, .ifCond .eq 7, 3, 95), (91, .iconst 1, 1, 0), (92, .goto 4, 3, 96), (95, .iconst 0, 1, 0), (96, .ireturn, 1, 0), (97, .aload_n 0, 1, 0), (98, .getfield 31, 3, 0), (101, .iload_n 1, 1, 0), (102, .invokevirtual 147, 3, 0), (105, .ifCond .eq 7, 3, 112), (108, .iconst 1, 1, 0), (109, .goto 4, 3, 113), (112, .iconst 0, 1, 0), (113, .ireturn, 1, 0), (114, .aload_n 0, 1, 0), (115, .getfield 31, 3, 0), (118, .getfield 150, 3, 0), (121, .iload_n 1, 1, 0), (122, .iaload, 1, 0), (123, .ireturn, 1, 0), (124, .aload_n 0, 1, 0), (125, .getfield 31, 3, 0), (128, .iload_n 1, 1, 0), (129, .invokevirtual 153, 3, 0), (132, .ireturn, 1, 0), (133, .new 130, 3, 0), (136, .dup, 1, 0), (137, .ldc 157, 2, 0), (139, .invokespecial 134, 3, 0), (142, .athrow, 1, 0)]
set_option maxRecDepth 100000 in
theorem s_d155 : s_dec prog_1_method_6_code s_t155 := by unfold s_dec; decide +kernel
-- CampAshesModel.thrown()I
def s_t156 : List (Nat × Instr × Nat × Nat) := [(0, .aload_n 0, 1, 0), (1, .getfield 1, 3, 0), (4, .ireturn, 1, 0)]
set_option maxRecDepth 100000 in
theorem s_d156 : s_dec prog_14_method_1_code s_t156 := by unfold s_dec; decide +kernel
-- CampAshesModel.feed(IIIII)I
def s_t157 : List (Nat × Instr × Nat × Nat) := [(0, .aload_n 0, 1, 0), (1, .iconst 0, 1, 0), (2, .putfield 1, 3, 0), (5, .aload_n 0, 1, 0), (6, .getfield 11, 3, 0), (9, .bipush 20, 2, 0), (11, .iadd, 1, 0), (12, .sipush 940, 3, 0), (15, .if_icmp .le 5, 3, 20), (18, .iconst (-1), 1, 0), (19, .ireturn, 1, 0), (20, .aload_n 0, 1, 0), (21, .iload_n 1, 1, 0), (22, .invokevirtual 14, 3, 0), (25, .aload_n 0, 1, 0), (26, .iload_n 2, 1, 0), (27, .invokevirtual 14, 3, 0), (30, .aload_n 0, 1, 0), (31, .iload_n 3, 1, 0), (32, .invokevirtual 14, 3, 0), (35, .aload_n 0, 1, 0), (36, .iload 4, 2, 0), (38, .invokevirtual 14, 3, 0), (41, .aload_n 0, 1, 0), (42, .iload 5, 2, 0), (44, .invokevirtual 14, 3, 0), (47, .aload_n 0, 1, 0), (48, .getfield 11, 3, 0), (51, .ireturn, 1, 0)]
set_option maxRecDepth 100000 in
theorem s_d157 : s_dec prog_14_method_4_code s_t157 := by unfold s_dec; decide +kernel
-- CampAshesModel.come(I)V
def s_t158 : List (Nat × Instr × Nat × Nat) := [(0, .bipush 24, 2, 0), (2, .istore_n 2, 1, 0), (3, .iload_n 2, 1, 0), (4, .ifCond .lt 35, 3, 39), (7, .aload_n 0, 1, 0), (8, .getfield 7, 3, 0), (11, .aload_n 0, 1, 0), (12, .getfield 11, 3, 0), (15, .iload_n 1, 1, 0), (16, .iload_n 2, 1, 0), (17, .iushr, 1, 0), (18, .sipush 255, 3, 0), (21, .iand, 1, 0), (22, .iastore, 1, 0), (23, .aload_n 0, 1, 0), (24, .dup, 1, 0), (25, .getfield 11, 3, 0), (28, .iconst 1, 1, 0), (29, .iadd, 1, 0), (30, .putfield 11, 3, 0), (33, .iinc 2 (-8), 3, 0), (36, .goto (-33), 3, 3), (39, .return_, 1, 0)]
set_option maxRecDepth 100000 in
theorem s_d158 : s_dec prog_14_method_3_code s_t158 := by unfold s_dec; decide +kernel
-- CampAshesModel.end(I)Z
def s_t159 : List (Nat × Instr × Nat × Nat) := [(0, .aload_n 0, 1, 0), (1, .iconst 0, 1, 0), (2, .putfield 1, 3, 0), (5, .iload_n 1, 1, 0), (6, .ifCond .lt 11, 3, 17), (9, .iload_n 1, 1, 0), (10, .aload_n 0, 1, 0), (11, .getfield 11, 3, 0), (14, .if_icmp .le 5, 3, 19), (17, .iconst 0, 1, 0), (18, .ireturn, 1, 0), (19, .aload_n 0, 1, 0), (20, .iload_n 1, 1, 0), (21, .putfield 11, 3, 0), (24, .iconst 1, 1, 0), (25, .ireturn, 1, 0)]
set_option maxRecDepth 100000 in
theorem s_d159 : s_dec prog_14_method_5_code s_t159 := by unfold s_dec; decide +kernel
-- CampAshesModel.<init>()V
def s_t160 : List (Nat × Instr × Nat × Nat) := [(0, .aload_n 0, 1, 0), (1, .invokespecial 93, 3, 0), (4, .aload_n 0, 1, 0), (5, .sipush 940, 3, 0), (8, .newarray .int, 2, 0), (10, .putfield 7, 3, 0), (13, .aload_n 0, 1, 0), (14, .sipush 375, 3, 0), (17, .newarray .int, 2, 0), (19, .putfield 98, 3, 0), (22, .aload_n 0, 1, 0), (23, .bipush 47, 2, 0), (25, .newarray .int, 2, 0), (27, .putfield 101, 3, 0), (30, .aload_n 0, 1, 0), (31, .sipush 750, 3, 0), (34, .newarray .int, 2, 0), (36, .putfield 104, 3, 0), (39, .aload_n 0, 1, 0), (40, .sipush 688, 3, 0), (43, .newarray .int, 2, 0), (45, .putfield 107, 3, 0), (48, .aload_n 0, 1, 0), (49, .bipush 86, 2, 0), (51, .newarray .int, 2, 0), (53, .putfield 110, 3, 0), (56, .aload_n 0, 1, 0), (57, .bipush 17, 2, 0), (59, .newarray .long, 2, 0), (61, .putfield 113, 3, 0), (64, .aload_n 0, 1, 0), (65, .bipush 17, 2, 0), (67, .newarray .long, 2, 0), (69, .putfield 117, 3, 0), (72, .aload_n 0, 1, 0), (73, .bipush 34, 2, 0), (75, .newarray .long, 2, 0), (77, .putfield 120, 3, 0), (80, .aload_n 0, 1, 0), (81, .iconst 2, 1, 0), (82, .newarray .boolean, 2, 0), (84, .putfield 123, 3, 0), (87, .aload_n 0, 1, 0), (88, .iconst 4, 1, 0), (89, .newarray .boolean, 2, 0), (91, .putfield 127, 3, 0), (94, .aload_n 0, 1, 0), (95, .iconst 4, 1, 0), (96, .newarray .boolean, 2, 0), (98, .putfield 130, 3, 0), (101, .aload_n 0, 1, 0), (102, .sipush 128, 3, 0), (105, .newarray .int, 2, 0), (107, .putfield 133, 3, 0), (110, .aload_n 0, 1, 0), (111, .bipush 7, 2, 0), (113, .newarray .int, 2, 0), (115, .putfield 136, 3, 0), (118, .aload_n 0, 1, 0), (119, .bipush 7, 2, 0), (121, .newarray .int, 2, 0), (123, .putfield 139, 3, 0), (126, .aload_n 0, 1, 0), (127, .iconst (-1), 1, 0), (128, .putfield 142, 3, 0), (131, .aload_n 0, 1, 0), (132, .sipush 128, 3, 0), (135, .newarray .int, 2, 0), (137, .putfield 145, 3, 0), (140, .aload_n 0, 1, 0), (141, .iconst (-1), 1, 0), (142, .putfield 148, 3, 0), (145, .aload_n 0, 1, 0), (146, .bipush 41, 2, 0), (148, .newarray .int, 2, 0), (150, .putfield 151, 3, 0), (153, .aload_n 0, 1, 0), (154, .bipush 64, 2, 0), (156, .newarray .int, 2, 0), (158, .putfield 154, 3, 0), (161, .aload_n 0, 1, 0), (162, .sipush 200, 3, 0), (165, .newarray .int, 2, 0), (167, .putfield 157, 3, 0), (170, .aload_n 0, 1, 0), (171, .iconst 4, 1, 0), (172, .newarray .int, 2, 0), (174, .putfield 160, 3, 0), (177, .aload_n 0, 1, 0), (178, .sipush 240, 3, 0), (181, .newarray .int, 2, 0), (183, .putfield 163, 3, 0), (186, .aload_n 0, 1, 0), (187, .invokevirtual 166, 3, 0), (190, .iconst 0, 1, 0), (191, .istore_n 1, 1, 0), (192, .iload_n 1, 1, 0), (193, .bipush 47, 2, 0), (195, .if_icmp .ge 21, 3, 216), (198, .aload_n 0, 1, 0), (199, .getfield 98, 3, 0), (202, .iload_n 1, 1, 0), (203, .aload_n 0, 1, 0), (204, .getfield 101, 3, 0), (207, .iload_n 1, 1, 0), (208, .iaload, 1, 0), (209, .iastore, 1, 0), (210, .iinc 1 1, 3, 0), (213, .goto (-21), 3, 192), (216, .aload_n 0, 1, 0), (217, .invokevirtual 169, 3, 0), (220, .return_, 1, 0)]
set_option maxRecDepth 100000 in
theorem s_d160 : s_dec prog_14_method_26_code s_t160 := by unfold s_dec; decide +kernel
end
section
-- CampAshesModel.startRead()V
def s_t161 : List (Nat × Instr × Nat × Nat) := [(0, .iconst 0, 1, 0), (1, .istore_n 1, 1, 0), (2, .iload_n 1, 1, 0), (3, .bipush 47, 2, 0), (5, .if_icmp .ge 16, 3, 21), (8, .aload_n 0, 1, 0), (9, .getfield 101, 3, 0), (12, .iload_n 1, 1, 0), (13, .iconst 0, 1, 0), (14, .iastore, 1, 0), (15, .iinc 1 1, 3, 0), (18, .goto (-16), 3, 2), (21, .iconst 0, 1, 0), (22, .istore_n 1, 1, 0), (23, .iload_n 1, 1, 0), (24, .iconst 4, 1, 0), (25, .if_icmp .ge 33, 3, 58), (28, .aload_n 0, 1, 0), (29, .getfield 127, 3, 0), (32, .iload_n 1, 1, 0), (33, .iconst 0, 1, 0), (34, .bastore, 1, 0), (35, .aload_n 0, 1, 0), (36, .getfield 130, 3, 0), (39, .iload_n 1, 1, 0), (40, .iconst 0, 1, 0), (41, .bastore, 1, 0), (42, .aload_n 0, 1, 0), (43, .getfield 101, 3, 0), (46, .bipush 6, 2, 0), (48, .iload_n 1, 1, 0), (49, .iadd, 1, 0), (50, .iconst 3, 1, 0), (51, .iastore, 1, 0), (52, .iinc 1 1, 3, 0), (55, .goto (-32), 3, 23), (58, .aload_n 0, 1, 0), (59, .getfield 101, 3, 0), (62, .iconst 2, 1, 0), (63, .bipush 10, 2, 0), (65, .iastore, 1, 0), (66, .aload_n 0, 1, 0), (67, .getfield 101, 3, 0), (70, .iconst 3, 1, 0), (71, .iconst 2, 1, 0), (72, .iastore, 1, 0), (73, .aload_n 0, 1, 0), (74, .getfield 101, 3, 0), (77, .iconst 4, 1, 0), (78, .iconst 1, 1, 0), (79, .iastore, 1, 0), (80, .return_, 1, 0)]
set_option maxRecDepth 100000 in
theorem s_d161 : s_dec prog_14_method_27_code s_t161 := by unfold s_dec; decide +kernel
-- CampAshesModel.startSo()V
def s_t162 : List (Nat × Instr × Nat × Nat) := [(0, .bipush 47, 2, 0), (2, .istore_n 1, 1, 0), (3, .iload_n 1, 1, 0), (4, .sipush 375, 3, 0), (7, .if_icmp .ge 16, 3, 23), (10, .aload_n 0, 1, 0), (11, .getfield 98, 3, 0), (14, .iload_n 1, 1, 0), (15, .iconst 0, 1, 0), (16, .iastore, 1, 0), (17, .iinc 1 1, 3, 0), (20, .goto (-17), 3, 3), (23, .aload_n 0, 1, 0), (24, .getfield 98, 3, 0), (27, .bipush 48, 2, 0), (29, .aload_n 0, 1, 0), (30, .getfield 98, 3, 0), (33, .iconst 2, 1, 0), (34, .iaload, 1, 0), (35, .iastore, 1, 0), (36, .aload_n 0, 1, 0), (37, .getfield 98, 3, 0), (40, .bipush 49, 2, 0), (42, .aload_n 0, 1, 0), (43, .getfield 98, 3, 0), (46, .iconst 3, 1, 0), (47, .iaload, 1, 0), (48, .iastore, 1, 0), (49, .iconst 0, 1, 0), (50, .istore_n 1, 1, 0), (51, .iload_n 1, 1, 0), (52, .aload_n 0, 1, 0), (53, .getfield 98, 3, 0), (56, .iconst 1, 1, 0), (57, .iaload, 1, 0), (58, .if_icmp .ge 40, 3, 98), (61, .aload_n 0, 1, 0), (62, .getfield 98, 3, 0), (65, .bipush 63, 2, 0), (67, .bipush 10, 2, 0), (69, .aload_n 0, 1, 0), (70, .getfield 98, 3, 0), (73, .bipush 17, 2, 0), (75, .iload_n 1, 1, 0), (76, .iadd, 1, 0), (77, .iaload, 1, 0), (78, .imul, 1, 0), (79, .iadd, 1, 0), (80, .iload_n 1, 1, 0), (81, .iadd, 1, 0), (82, .aload_n 0, 1, 0), (83, .getfield 98, 3, 0), (86, .bipush 37, 2, 0), (88, .iload_n 1, 1, 0), (89, .iadd, 1, 0), (90, .iaload, 1, 0), (91, .iastore, 1, 0), (92, .iinc 1 1, 3, 0), (95, .goto (-44), 3, 51), (98, .return_, 1, 0)]
set_option maxRecDepth 100000 in
theorem s_d162 : s_dec prog_14_method_28_code s_t162 := by unfold s_dec; decide +kernel
-- CampAshesModel.camp()I
def s_t163 : List (Nat × Instr × Nat × Nat) := [(0, .aload_n 0, 1, 0), (1, .sipush 900, 3, 0), (4, .invokevirtual 216, 3, 0), (7, .aload_n 0, 1, 0), (8, .invokevirtual 166, 3, 0), (11, .iconst 0, 1, 0), (12, .istore_n 1, 1, 0), (13, .aload_n 0, 1, 0), (14, .getfield 30, 3, 0), (17, .ifCond .eq 30, 3, 47), (20, .aload_n 0, 1, 0), (21, .invokevirtual 219, 3, 0), (24, .ifCond .eq 10, 3, 34), (27, .aload_n 0, 1, 0), (28, .invokevirtual 222, 3, 0), (31, .ifCond .ne 10, 3, 41), (34, .iconst (-1), 1, 0), (35, .aload_n 0, 1, 0), (36, .getfield 69, 3, 0), (39, .isub, 1, 0), (40, .ireturn, 1, 0), (41, .iinc 1 1, 3, 0), (44, .goto (-31), 3, 13), (47, .iconst 0, 1, 0), (48, .istore_n 2, 1, 0), (49, .iload_n 2, 1, 0), (50, .bipush 47, 2, 0), (52, .if_icmp .ge 21, 3, 73), (55, .aload_n 0, 1, 0), (56, .getfield 98, 3, 0), (59, .iload_n 2, 1, 0), (60, .aload_n 0, 1, 0), (61, .getfield 101, 3, 0), (64, .iload_n 2, 1, 0), (65, .iaload, 1, 0), (66, .iastore, 1, 0), (67, .iinc 2 1, 3, 0), (70, .goto (-21), 3, 49), (73, .iconst 0, 1, 0), (74, .istore_n 2, 1, 0), (75, .iload_n 2, 1, 0), (76, .bipush 17, 2, 0), (78, .if_icmp .ge 21, 3, 99), (81, .aload_n 0, 1, 0), (82, .getfield 113, 3, 0), (85, .iload_n 2, 1, 0), (86, .aload_n 0, 1, 0), (87, .getfield 117, 3, 0), (90, .iload_n 2, 1, 0), (91, .laload, 1, 0), (92, .lastore, 1, 0), (93, .iinc 2 1, 3, 0), (96, .goto (-21), 3, 75), (99, .aload_n 0, 1, 0), (100, .invokevirtual 169, 3, 0), (103, .aload_n 0, 1, 0), (104, .iconst 0, 1, 0), (105, .putfield 225, 3, 0), (108, .iload_n 1, 1, 0), (109, .ireturn, 1, 0)]
set_option maxRecDepth 100000 in
theorem s_d163 : s_dec prog_14_method_40_code s_t163 := by unfold s_dec; decide +kernel
-- CampAshesModel.begin(I)V
def s_t164 : List (Nat × Instr × Nat × Nat) := [(0, .aload_n 0, 1, 0), (1, .iconst 0, 1, 0), (2, .putfield 1, 3, 0), (5, .aload_n 0, 1, 0), (6, .aload_n 0, 1, 0), (7, .invokevirtual 89, 3, 0), (10, .putfield 18, 3, 0), (13, .aload_n 0, 1, 0), (14, .iload_n 1, 1, 0), (15, .putfield 27, 3, 0), (18, .aload_n 0, 1, 0), (19, .iconst 0, 1, 0), (20, .putfield 66, 3, 0), (23, .aload_n 0, 1, 0), (24, .iconst 0, 1, 0), (25, .putfield 21, 3, 0), (28, .aload_n 0, 1, 0), (29, .invokevirtual 82, 3, 0), (32, .return_, 1, 0)]
set_option maxRecDepth 100000 in
theorem s_d164 : s_dec prog_14_method_25_code s_t164 := by unfold s_dec; decide +kernel
-- CampAshesModel.take()I
def s_t165 : List (Nat × Instr × Nat × Nat) := [(0, .aload_n 0, 1, 0), (1, .getfield 11, 3, 0), (4, .istore_n 1, 1, 0), (5, .aload_n 0, 1, 0), (6, .iconst 0, 1, 0), (7, .putfield 11, 3, 0), (10, .iload_n 1, 1, 0), (11, .ireturn, 1, 0)]
set_option maxRecDepth 100000 in
theorem s_d165 : s_dec prog_14_method_6_code s_t165 := by unfold s_dec; decide +kernel
-- CampAshesModel.go()V
def s_t166 : List (Nat × Instr × Nat × Nat) := [(0, .aload_n 0, 1, 0), (1, .getfield 21, 3, 0), (4, .aload_n 0, 1, 0), (5, .getfield 18, 3, 0), (8, .if_icmp .ge 44, 3, 52), (11, .aload_n 0, 1, 0), (12, .getfield 7, 3, 0), (15, .aload_n 0, 1, 0), (16, .getfield 21, 3, 0), (19, .iaload, 1, 0), (20, .bipush 32, 2, 0), (22, .if_icmp .eq 17, 3, 39), (25, .aload_n 0, 1, 0), (26, .getfield 7, 3, 0), (29, .aload_n 0, 1, 0), (30, .getfield 21, 3, 0), (33, .iaload, 1, 0), (34, .bipush 10, 2, 0), (36, .if_icmp .ne 16, 3, 52), (39, .aload_n 0, 1, 0), (40, .dup, 1, 0), (41, .getfield 21, 3, 0), (44, .iconst 1, 1, 0), (45, .iadd, 1, 0), (46, .putfield 21, 3, 0), (49, .goto (-49), 3, 0), (52, .aload_n 0, 1, 0), (53, .aload_n 0, 1, 0), (54, .getfield 21, 3, 0), (57, .putfield 24, 3, 0), (60, .aload_n 0, 1, 0), (61, .getfield 18, 3, 0), (64, .aload_n 0, 1, 0), (65, .getfield 27, 3, 0), (68, .if_icmp .le 28, 3, 96), (71, .aload_n 0, 1, 0), (72, .getfield 24, 3, 0), (75, .aload_n 0, 1, 0), (76, .getfield 27, 3, 0), (79, .if_icmp .lt 17, 3, 96), (82, .aload_n 0, 1, 0), (83, .aload_n 0, 1, 0), (84, .getfield 27, 3, 0), (87, .putfield 24, 3, 0), (90, .aload_n 0, 1, 0), (91, .iconst 1, 1, 0), (92, .putfield 30, 3, 0), (95, .return_, 1, 0), (96, .aload_n 0, 1, 0), (97, .getfield 21, 3, 0), (100, .aload_n 0, 1, 0), (101, .getfield 18, 3, 0), (104, .if_icmp .lt 9, 3, 113), (107, .aload_n 0, 1, 0), (108, .iconst 0, 1, 0), (109, .putfield 30, 3, 0), (112, .return_, 1, 0), (113, .aload_n 0, 1, 0), (114, .getfield 7, 3, 0), (117, .aload_n 0, 1, 0), (118, .getfield 21, 3, 0), (121, .iaload, 1, 0), (122, .istore_n 1, 1, 0), (123, .iload_n 1, 1, 0), (124, .invokestatic 33, 3, 0), (127, .ifCond .ne 71, 3, 198), (130, .iload_n 1, 1, 0), (131, .invokestatic 37, 3, 0), (134, .ifCond .ne 64, 3, 198), (137, .aload_n 0, 1, 0), (138, .iload_n 1, 1, 0), (139, .bipush 59, 2, 0), (141, .if_icmp .eq 33, 3, 174), (144, .iload_n 1, 1, 0), (145, .bipush 60, 2, 0), (147, .if_icmp .eq 27, 3, 174), (150, .iload_n 1, 1, 0), (151, .bipush 61, 2, 0), (153, .if_icmp .eq 21, 3, 174), (156, .iload_n 1, 1, 0), (157, .bipush 62, 2, 0), (159, .if_icmp .eq 15, 3, 174), (162, .iload_n 1, 1, 0), (163, .bipush 40, 2, 0), (165, .if_icmp .eq 9, 3, 174), (168, .iload_n 1, 1, 0), (169, .bipush 41, 2, 0), (171, .if_icmp .ne 7, 3, 178), (174, .iconst 4, 1, 0), (175, .goto 4, 3, 179), (178, .iconst 1, 1, 0), (179, .putfield 30, 3, 0), (182, .aload_n 0, 1, 0), (183, .iload_n 1, 1, 0), (184, .putfield 40, 3, 0), (187, .aload_n 0, 1, 0), (188, .dup, 1, 0), (189, .getfield 21, 3, 0), (192, .iconst 1, 1, 0), (193, .iadd, 1, 0), (194, .putfield 21, 3, 0), (197, .return_, 1, 0), (198, .iload_n 1, 1, 0), (199, .invokestatic 33, 3, 0), (202, .istore_n 2, 1, 0), (203, .iconst 1, 1, 0), (204, .istore_n 3, 1, 0), (205, .aload_n 0, 1, 0), (206, .lconst 0, 1, 0), (207, .putfield 43, 3, 0), (210, .aload_n 0, 1, 0), (211, .iconst 0, 1, 0), (212, .putfield 47, 3, 0), (215, .aload_n 0, 1, 0), (216, .aload_n 0, 1, 0), (217, .getfield 21, 3, 0), (220, .invokevirtual 50, 3, 0), (223, .invokestatic 33, 3, 0), (226, .ifCond .ne 17, 3, 243), (229, .aload_n 0, 1, 0), (230, .aload_n 0, 1, 0), (231, .getfield 21, 3, 0), (234, .invokevirtual 50, 3, 0), (237, .invokestatic 37, 3, 0), (240, .ifCond .eq 110, 3, 350), (243, .aload_n 0, 1, 0), (244, .getfield 7, 3, 0), (247, .aload_n 0, 1, 0), (248, .getfield 21, 3, 0), (251, .iaload, 1, 0), (252, .istore 4, 2, 0), (254, .iload_n 3, 1, 0), (255, .ifCond .eq 16, 3, 271), (258, .iload 4, 2, 0), (260, .invokestatic 33, 3, 0), (263, .iload_n 2, 1, 0), (264, .if_icmp .ne 7, 3, 271), (267, .iconst 1, 1, 0), (268, .goto 4, 3, 272), (271, .iconst 0, 1, 0), (272, .istore_n 3, 1, 0), (273, .aload_n 0, 1, 0), (274, .getfield 21, 3, 0), (277, .aload_n 0, 1, 0), (278, .getfield 24, 3, 0), (281, .isub, 1, 0), (282, .bipush 7, 2, 0), (284, .if_icmp .ge 23, 3, 307), (287, .aload_n 0, 1, 0), (288, .ldc2_w 54, 3, 0), (291, .aload_n 0, 1, 0), (292, .getfield 43, 3, 0), (295, .lmul, 1, 0), (296, .iload 4, 2, 0), (298, .i2l, 1, 0), (299, .ladd, 1, 0), (300, .ldc2_w 56, 3, 0), (303, .lsub, 1, 0), (304, .putfield 43, 3, 0), (307, .aload_n 0, 1, 0), (308, .getfield 21, 3, 0), (311, .aload_n 0, 1, 0), (312, .getfield 24, 3, 0), (315, .isub, 1, 0), (316, .iconst 3, 1, 0), (317, .if_icmp .ge 20, 3, 337), (320, .aload_n 0, 1, 0), (321, .bipush 10, 2, 0), (323, .aload_n 0, 1, 0), (324, .getfield 47, 3, 0), (327, .imul, 1, 0), (328, .iload 4, 2, 0), (330, .iadd, 1, 0), (331, .bipush 48, 2, 0), (333, .isub, 1, 0), (334, .putfield 47, 3, 0), (337, .aload_n 0, 1, 0), (338, .dup, 1, 0), (339, .getfield 21, 3, 0), (342, .iconst 1, 1, 0), (343, .iadd, 1, 0), (344, .putfield 21, 3, 0), (347, .goto (-132), 3, 215), (350, .aload_n 0, 1, 0), (351, .iload_n 3, 1, 0), (352, .ifCond .eq 25, 3, 377), (355, .aload_n 0, 1, 0), (356, .getfield 21, 3, 0), (359, .aload_n 0, 1, 0), (360, .getfield 24, 3, 0), (363, .isub, 1, 0), (364, .iload_n 2, 1, 0), (365, .ifCond .eq 8, 3, 373), (368, .bipush 7, 2, 0), (370, .goto 4, 3, 374), (373, .iconst 3, 1, 0), (374, .if_icmp .le 7, 3, 381), (377, .iconst 1, 1, 0), (378, .goto 12, 3, 390), (381, .iload_n 2, 1, 0), (382, .ifCond .eq 7, 3, 389), (385, .iconst 2, 1, 0), (386, .goto 4, 3, 390), (389, .iconst 3, 1, 0), (390, .putfield 30, 3, 0), (393, .return_, 1, 0)]
set_option maxRecDepth 100000 in
theorem s_d166 : s_dec prog_14_method_16_code s_t166 := by unfold s_dec; decide +kernel
-- CampAshesModel.isLetter(I)Z
def s_t167 : List (Nat × Instr × Nat × Nat) := [(0, .iload_n 0, 1, 0), (1, .bipush 97, 2, 0), (3, .if_icmp .lt 13, 3, 16), (6, .iload_n 0, 1, 0), (7, .bipush 122, 2, 0), (9, .if_icmp .gt 7, 3, 16), (12, .iconst 1, 1, 0), (13, .goto 4, 3, 17), (16, .iconst 0, 1, 0), (17, .ireturn, 1, 0)]
set_option maxRecDepth 100000 in
theorem s_d167 : s_dec prog_14_method_15_code s_t167 := by unfold s_dec; decide +kernel
-- CampAshesModel.isDigit(I)Z
def s_t168 : List (Nat × Instr × Nat × Nat) := [(0, .iload_n 0, 1, 0), (1, .bipush 48, 2, 0), (3, .if_icmp .lt 13, 3, 16), (6, .iload_n 0, 1, 0), (7, .bipush 57, 2, 0), (9, .if_icmp .gt 7, 3, 16), (12, .iconst 1, 1, 0), (13, .goto 4, 3, 17), (16, .iconst 0, 1, 0), (17, .ireturn, 1, 0)]
set_option maxRecDepth 100000 in
theorem s_d168 : s_dec prog_14_method_14_code s_t168 := by unfold s_dec; decide +kernel
-- CampAshesModel.tapeAt(I)I
def s_t169 : List (Nat × Instr × Nat × Nat) := [(0, .iload_n 1, 1, 0), (1, .aload_n 0, 1, 0), (2, .getfield 18, 3, 0), (5, .if_icmp .ge 12, 3, 17), (8, .aload_n 0, 1, 0), (9, .getfield 7, 3, 0), (12, .iload_n 1, 1, 0), (13, .iaload, 1, 0), (14, .goto 4, 3, 18), (17, .iconst 0, 1, 0), (18, .ireturn, 1, 0)]
set_option maxRecDepth 100000 in
theorem s_d169 : s_dec prog_14_method_13_code s_t169 := by unfold s_dec; decide +kernel
-- CampAshesModel.readLine()Z
def s_t170 : List (Nat × Instr × Nat × Nat) := [(0, .aload_n 0, 1, 0), (1, .iconst 0, 1, 0), (2, .invokevirtual 180, 3, 0), (5, .ifCond .eq 8, 3, 13), (8, .aload_n 0, 1, 0), (9, .invokevirtual 203, 3, 0), (12, .ireturn, 1, 0), (13, .aload_n 0, 1, 0), (14, .iconst 1, 1, 0), (15, .invokevirtual 180, 3, 0), (18, .ifCond .eq 8, 3, 26), (21, .aload_n 0, 1, 0), (22, .invokevirtual 206, 3, 0), (25, .ireturn, 1, 0), (26, .aload_n 0, 1, 0), (27, .iconst 2, 1, 0), (28, .invokevirtual 180, 3, 0), (31, .ifCond .eq 8, 3, 39), (34, .aload_n 0, 1, 0), (35, .invokevirtual 209, 3, 0), (38, .ireturn, 1, 0), (39, .aload_n 0, 1, 0), (40, .iconst 3, 1, 0), (41, .invokevirtual 180, 3, 0), (44, .ifCond .eq 13, 3, 57), (47, .aload_n 0, 1, 0), (48, .iconst 0, 1, 0), (49, .iconst 2, 1, 0), (50, .iconst 0, 1, 0), (51, .bipush 30, 2, 0), (53, .invokevirtual 212, 3, 0), (56, .ireturn, 1, 0), (57, .aload_n 0, 1, 0), (58, .iconst 4, 1, 0), (59, .invokevirtual 180, 3, 0), (62, .ifCond .eq 13, 3, 75), (65, .aload_n 0, 1, 0), (66, .iconst 1, 1, 0), (67, .iconst 3, 1, 0), (68, .iconst 0, 1, 0), (69, .bipush 20, 2, 0), (71, .invokevirtual 212, 3, 0), (74, .ireturn, 1, 0), (75, .aload_n 0, 1, 0), (76, .iconst 5, 1, 0), (77, .invokevirtual 180, 3, 0), (80, .ifCond .eq 13, 3, 93), (83, .aload_n 0, 1, 0), (84, .iconst 2, 1, 0), (85, .iconst 4, 1, 0), (86, .iconst 0, 1, 0), (87, .bipush 9, 2, 0), (89, .invokevirtual 212, 3, 0), (92, .ireturn, 1, 0), (93, .aload_n 0, 1, 0), (94, .bipush 6, 2, 0), (96, .invokevirtual 180, 3, 0), (99, .ifCond .eq 15, 3, 114), (102, .aload_n 0, 1, 0), (103, .iconst 3, 1, 0), (104, .iconst 5, 1, 0), (105, .iconst 2, 1, 0), (106, .bipush 30, 2, 0), (108, .invokevirtual 212, 3, 0), (111, .goto 8, 3, 119), (114, .aload_n 0, 1, 0), (115, .iconst 1, 1, 0), (116, .invokevirtual 72, 3, 0), (119, .ireturn, 1, 0)]
set_option maxRecDepth 100000 in
theorem s_d170 : s_dec prog_14_method_39_code s_t170 := by unfold s_dec; decide +kernel
-- CampAshesModel.isWord(I)Z
def s_t171 : List (Nat × Instr × Nat × Nat) := [(0, .aload_n 0, 1, 0), (1, .getfield 30, 3, 0), (4, .iconst 2, 1, 0), (5, .if_icmp .ne 19, 3, 24), (8, .aload_n 0, 1, 0), (9, .getfield 43, 3, 0), (12, .iload_n 1, 1, 0), (13, .invokestatic 62, 3, 0), (16, .lcmp, 1, 0), (17, .ifCond .ne 7, 3, 24), (20, .iconst 1, 1, 0), (21, .goto 4, 3, 25), (24, .iconst 0, 1, 0), (25, .ireturn, 1, 0)]
set_option maxRecDepth 100000 in
theorem s_d171 : s_dec prog_14_method_19_code s_t171 := by unfold s_dec; decide +kernel
end
section
-- CampAshesModel.wordOf(I)J
def s_t172 : List (Nat × Instr × Nat × Nat) := [(0, .iload_n 0, 1, 0), (1, .tableswitch 519 0 27 #[127, 140, 155, 170, 184, 198, 212, 225, 239, 254, 269, 282, 297, 311, 326, 339, 353, 366, 378, 391, 404, 418, 434, 449, 462, 475, 489, 504], 127, 0), (128, .bipush 98, 2, 0), (130, .bipush 111, 2, 0), (132, .bipush 121, 2, 0), (134, .iconst 0, 1, 0), (135, .iconst 0, 1, 0), (136, .iconst 0, 1, 0), (137, .invokestatic 58, 3, 0), (140, .lreturn, 1, 0), (141, .bipush 101, 2, 0), (143, .bipush 118, 2, 0), (145, .bipush 101, 2, 0), (147, .bipush 110, 2, 0), (149, .bipush 116, 2, 0), (151, .iconst 0, 1, 0), (152, .invokestatic 58, 3, 0), (155, .lreturn, 1, 0), (156, .bipush 116, 2, 0), (158, .bipush 97, 2, 0), (160, .bipush 107, 2, 0), (162, .bipush 101, 2, 0), (164, .bipush 115, 2, 0), (166, .iconst 0, 1, 0), (167, .invokestatic 58, 3, 0), (170, .lreturn, 1, 0), (171, .bipush 102, 2, 0), (173, .bipush 105, 2, 0), (175, .bipush 114, 2, 0), (177, .bipush 101, 2, 0), (179, .iconst 0, 1, 0), (180, .iconst 0, 1, 0), (181, .invokestatic 58, 3, 0), (184, .lreturn, 1, 0), (185, .bipush 108, 2, 0), (187, .bipush 111, 2, 0), (189, .bipush 103, 2, 0), (191, .bipush 115, 2, 0), (193, .iconst 0, 1, 0), (194, .iconst 0, 1, 0), (195, .invokestatic 58, 3, 0), (198, .lreturn, 1, 0), (199, .bipush 116, 2, 0), (201, .bipush 117, 2, 0), (203, .bipush 114, 2, 0), (205, .bipush 102, 2, 0), (207, .iconst 0, 1, 0), (208, .iconst 0, 1, 0), (209, .invokestatic 58, 3, 0), (212, .lreturn, 1, 0), (213, .bipush 119, 2, 0), (215, .bipush 101, 2, 0), (217, .bipush 116, 2, 0), (219, .iconst 0, 1, 0), (220, .iconst 0, 1, 0), (221, .iconst 0, 1, 0), (222, .invokestatic 58, 3, 0), (225, .lreturn, 1, 0), (226, .bipush 102, 2, 0), (228, .bipush 101, 2, 0), (230, .bipush 97, 2, 0), (232, .bipush 114, 2, 0), (234, .iconst 0, 1, 0), (235, .iconst 0, 1, 0), (236, .invokestatic 58, 3, 0), (239, .lreturn, 1, 0), (240, .bipush 115, 2, 0), (242, .bipush 104, 2, 0), (244, .bipush 97, 2, 0), (246, .bipush 109, 2, 0), (248, .bipush 101, 2, 0), (250, .iconst 0, 1, 0), (251, .invokestatic 58, 3, 0), (254, .lreturn, 1, 0), (255, .bipush 103, 2, 0), (257, .bipush 114, 2, 0), (259, .bipush 105, 2, 0), (261, .bipush 101, 2, 0), (263, .bipush 102, 2, 0), (265, .iconst 0, 1, 0), (266, .invokestatic 58, 3, 0), (269, .lreturn, 1, 0), (270, .bipush 106, 2, 0), (272, .bipush 111, 2, 0), (274, .bipush 121, 2, 0), (276, .iconst 0, 1, 0), (277, .iconst 0, 1, 0), (278, .iconst 0, 1, 0), (279, .invokestatic 58, 3, 0), (282, .lreturn, 1, 0), (283, .bipush 116, 2, 0), (285, .bipush 101, 2, 0), (287, .bipush 108, 2, 0), (289, .bipush 108, 2, 0), (291, .bipush 115, 2, 0), (293, .iconst 0, 1, 0), (294, .invokestatic 58, 3, 0), (297, .lreturn, 1, 0), (298, .bipush 108, 2, 0), (300, .bipush 105, 2, 0), (302, .bipush 101, 2, 0), (304, .bipush 115, 2, 0), (306, .iconst 0, 1, 0), (307, .iconst 0, 1, 0), (308, .invokestatic 58, 3, 0), (311, .lreturn, 1, 0), (312, .bipush 103, 2, 0), (314, .bipush 105, 2, 0), (316, .bipush 118, 2, 0), (318, .bipush 101, 2, 0), (320, .bipush 115, 2, 0), (322, .iconst 0, 1, 0), (323, .invokestatic 58, 3, 0), (326, .lreturn, 1, 0), (327, .bipush 108, 2, 0), (329, .bipush 111, 2, 0), (331, .bipush 103, 2, 0), (333, .iconst 0, 1, 0), (334, .iconst 0, 1, 0), (335, .iconst 0, 1, 0), (336, .invokestatic 58, 3, 0), (339, .lreturn, 1, 0), (340, .bipush 114, 2, 0), (342, .bipush 97, 2, 0), (344, .bipush 107, 2, 0), (346, .bipush 101, 2, 0), (348, .iconst 0, 1, 0), (349, .iconst 0, 1, 0), (350, .invokestatic 58, 3, 0), (353, .lreturn, 1, 0), (354, .bipush 100, 2, 0), (356, .bipush 97, 2, 0), (358, .bipush 121, 2, 0), (360, .iconst 0, 1, 0), (361, .iconst 0, 1, 0), (362, .iconst 0, 1, 0), (363, .invokestatic 58, 3, 0), (366, .lreturn, 1, 0), (367, .bipush 111, 2, 0), (369, .bipush 114, 2, 0), (371, .iconst 0, 1, 0), (372, .iconst 0, 1, 0), (373, .iconst 0, 1, 0), (374, .iconst 0, 1, 0), (375, .invokestatic 58, 3, 0), (378, .lreturn, 1, 0), (379, .bipush 97, 2, 0), (381, .bipush 110, 2, 0), (383, .bipush 100, 2, 0), (385, .iconst 0, 1, 0), (386, .iconst 0, 1, 0), (387, .iconst 0, 1, 0), (388, .invokestatic 58, 3, 0), (391, .lreturn, 1, 0), (392, .bipush 110, 2, 0), (394, .bipush 111, 2, 0), (396, .bipush 116, 2, 0), (398, .iconst 0, 1, 0), (399, .iconst 0, 1, 0), (400, .iconst 0, 1, 0), (401, .invokestatic 58, 3, 0), (404, .lreturn, 1, 0), (405, .bipush 111, 2, 0), (407, .bipush 118, 2, 0), (409, .bipush 101, 2, 0), (411, .bipush 114, 2, 0), (413, .iconst 0, 1, 0), (414, .iconst 0, 1, 0), (415, .invokestatic 58, 3, 0), (418, .lreturn, 1, 0), (419, .bipush 104, 2, 0), (421, .bipush 117, 2, 0), (423, .bipush 115, 2, 0), (425, .bipush 104, 2, 0), (427, .bipush 101, 2, 0), (429, .bipush 100, 2, 0), (431, .invokestatic 58, 3, 0), (434, .lreturn, 1, 0), (435, .bipush 108, 2, 0), (437, .bipush 105, 2, 0), (439, .bipush 103, 2, 0), (441, .bipush 104, 2, 0), (443, .bipush 116, 2, 0), (445, .iconst 0, 1, 0), (446, .invokestatic 58, 3, 0), (449, .lreturn, 1, 0), (450, .bipush 104, 2, 0), (452, .bipush 97, 2, 0), (454, .bipush 115, 2, 0), (456, .iconst 0, 1, 0), (457, .iconst 0, 1, 0), (458, .iconst 0, 1, 0), (459, .invokestatic 58, 3, 0), (462, .lreturn, 1, 0), (463, .bipush 104, 2, 0), (465, .bipush 105, 2, 0), (467, .bipush 115, 2, 0), (469, .iconst 0, 1, 0), (470, .iconst 0, 1, 0), (471, .iconst 0, 1, 0), (472, .invokestatic 58, 3, 0), (475, .lreturn, 1, 0), (476, .bipush 108, 2, 0), (478, .bipush 111, 2, 0), (480, .bipush 97, 2, 0), (482, .bipush 100, 2, 0), (484, .iconst 0, 1, 0), (485, .iconst 0, 1, 0), (486, .invokestatic 58, 3, 0), (489, .lreturn, 1, 0), (490, .bipush 98, 2, 0), (492, .bipush 101, 2, 0), (494, .bipush 97, 2, 0), (496, .bipush 114, 2, 0), (498, .bipush 115, 2, 0), (500, .iconst 0, 1, 0), (501, .invokestatic 58, 3, 0), (504, .lreturn, 1, 0), (505, .bipush 116, 2, 0), (507, .bipush 101, 2, 0), (509, .bipush 97, 2, 0), (511, .bipush 114, 2, 0), (513, .bipush 115, 2, 0), (515, .iconst 0, 1, 0), (516, .invokestatic 58, 3, 0), (519, .lreturn, 1, 0), (520, .bipush 110, 2, 0), (522, .bipush 117, 2, 0), (524, .bipush 109, 2, 0), (526, .bipush 98, 2, 0), (528, .bipush 101, 2, 0), (530, .bipush 114, 2, 0), (532, .invokestatic 58, 3, 0), (535, .lreturn, 1, 0)]
set_option maxRecDepth 100000 in
theorem s_d172 : s_dec prog_14_method_18_code s_t172 := by unfold s_dec; decide +kernel
-- CampAshesModel.spelt(IIIIII)J
def s_t173 : List (Nat × Instr × Nat × Nat) := [(0, .ldc2_w 54, 3, 0), (3, .iload_n 0, 1, 0), (4, .i2l, 1, 0), (5, .ldc2_w 56, 3, 0), (8, .lsub, 1, 0), (9, .lmul, 1, 0), (10, .iload_n 1, 1, 0), (11, .i2l, 1, 0), (12, .ladd, 1, 0), (13, .ldc2_w 56, 3, 0), (16, .lsub, 1, 0), (17, .lstore 6, 2, 0), (19, .iload_n 2, 1, 0), (20, .ifCond .le 18, 3, 38), (23, .ldc2_w 54, 3, 0), (26, .lload 6, 2, 0), (28, .lmul, 1, 0), (29, .iload_n 2, 1, 0), (30, .i2l, 1, 0), (31, .ladd, 1, 0), (32, .ldc2_w 56, 3, 0), (35, .lsub, 1, 0), (36, .lstore 6, 2, 0), (38, .iload_n 3, 1, 0), (39, .ifCond .le 18, 3, 57), (42, .ldc2_w 54, 3, 0), (45, .lload 6, 2, 0), (47, .lmul, 1, 0), (48, .iload_n 3, 1, 0), (49, .i2l, 1, 0), (50, .ladd, 1, 0), (51, .ldc2_w 56, 3, 0), (54, .lsub, 1, 0), (55, .lstore 6, 2, 0), (57, .iload 4, 2, 0), (59, .ifCond .le 19, 3, 78), (62, .ldc2_w 54, 3, 0), (65, .lload 6, 2, 0), (67, .lmul, 1, 0), (68, .iload 4, 2, 0), (70, .i2l, 1, 0), (71, .ladd, 1, 0), (72, .ldc2_w 56, 3, 0), (75, .lsub, 1, 0), (76, .lstore 6, 2, 0), (78, .iload 5, 2, 0), (80, .ifCond .le 19, 3, 99), (83, .ldc2_w 54, 3, 0), (86, .lload 6, 2, 0), (88, .lmul, 1, 0), (89, .iload 5, 2, 0), (91, .i2l, 1, 0), (92, .ladd, 1, 0), (93, .ldc2_w 56, 3, 0), (96, .lsub, 1, 0), (97, .lstore 6, 2, 0), (99, .lload 6, 2, 0), (101, .lreturn, 1, 0)]
set_option maxRecDepth 100000 in
theorem s_d173 : s_dec prog_14_method_17_code s_t173 := by unfold s_dec; decide +kernel
-- CampAshesModel.readBoy()Z
def s_t174 : List (Nat × Instr × Nat × Nat) := [(0, .aload_n 0, 1, 0), (1, .iconst 0, 1, 0), (2, .bipush 7, 2, 0), (4, .invokevirtual 183, 3, 0), (7, .ifCond .ne 5, 3, 12), (10, .iconst 0, 1, 0), (11, .ireturn, 1, 0), (12, .aload_n 0, 1, 0), (13, .getfield 101, 3, 0), (16, .iconst 0, 1, 0), (17, .iaload, 1, 0), (18, .istore_n 1, 1, 0), (19, .aload_n 0, 1, 0), (20, .iload_n 1, 1, 0), (21, .invokevirtual 187, 3, 0), (24, .ifCond .eq 21, 3, 45), (27, .aload_n 0, 1, 0), (28, .bipush 10, 2, 0), (30, .iload_n 1, 1, 0), (31, .iadd, 1, 0), (32, .aload_n 0, 1, 0), (33, .iconst 1, 1, 0), (34, .bipush 60, 2, 0), (36, .invokevirtual 190, 3, 0), (39, .invokevirtual 193, 3, 0), (42, .ifCond .ne 5, 3, 47), (45, .iconst 0, 1, 0), (46, .ireturn, 1, 0), (47, .aload_n 0, 1, 0), (48, .getfield 101, 3, 0), (51, .iconst 0, 1, 0), (52, .dup2, 1, 0), (53, .iaload, 1, 0), (54, .iconst 1, 1, 0), (55, .iadd, 1, 0), (56, .iastore, 1, 0), (57, .iconst 1, 1, 0), (58, .ireturn, 1, 0)]
set_option maxRecDepth 100000 in
theorem s_d174 : s_dec prog_14_method_34_code s_t174 := by unfold s_dec; decide +kernel
-- CampAshesModel.readFirst(II)Z
def s_t175 : List (Nat × Instr × Nat × Nat) := [(0, .aload_n 0, 1, 0), (1, .getfield 101, 3, 0), (4, .iload_n 1, 1, 0), (5, .iaload, 1, 0), (6, .iload_n 2, 1, 0), (7, .if_icmp .ne 9, 3, 16), (10, .aload_n 0, 1, 0), (11, .iconst 4, 1, 0), (12, .invokevirtual 72, 3, 0), (15, .ireturn, 1, 0), (16, .aload_n 0, 1, 0), (17, .invokevirtual 82, 3, 0), (20, .iconst 1, 1, 0), (21, .ireturn, 1, 0)]
set_option maxRecDepth 100000 in
theorem s_d175 : s_dec prog_14_method_31_code s_t175 := by unfold s_dec; decide +kernel
-- CampAshesModel.bad(I)Z
def s_t176 : List (Nat × Instr × Nat × Nat) := [(0, .aload_n 0, 1, 0), (1, .aload_n 0, 1, 0), (2, .getfield 30, 3, 0), (5, .iconst 1, 1, 0), (6, .if_icmp .ne 7, 3, 13), (9, .iconst 1, 1, 0), (10, .goto 4, 3, 14), (13, .iload_n 1, 1, 0), (14, .putfield 66, 3, 0), (17, .aload_n 0, 1, 0), (18, .aload_n 0, 1, 0), (19, .getfield 24, 3, 0), (22, .putfield 69, 3, 0), (25, .iconst 0, 1, 0), (26, .ireturn, 1, 0)]
set_option maxRecDepth 100000 in
theorem s_d176 : s_dec prog_14_method_22_code s_t176 := by unfold s_dec; decide +kernel
-- CampAshesModel.readNew(I)Z
def s_t177 : List (Nat × Instr × Nat × Nat) := [(0, .aload_n 0, 1, 0), (1, .invokevirtual 172, 3, 0), (4, .ifCond .ne 9, 3, 13), (7, .aload_n 0, 1, 0), (8, .iconst 1, 1, 0), (9, .invokevirtual 72, 3, 0), (12, .ireturn, 1, 0), (13, .aload_n 0, 1, 0), (14, .getfield 117, 3, 0), (17, .iconst 0, 1, 0), (18, .aload_n 0, 1, 0), (19, .getfield 101, 3, 0), (22, .iconst 0, 1, 0), (23, .iaload, 1, 0), (24, .aload_n 0, 1, 0), (25, .getfield 43, 3, 0), (28, .invokestatic 176, 3, 0), (31, .iconst (-1), 1, 0), (32, .if_icmp .ne 26, 3, 58), (35, .aload_n 0, 1, 0), (36, .getfield 117, 3, 0), (39, .bipush 7, 2, 0), (41, .aload_n 0, 1, 0), (42, .getfield 101, 3, 0), (45, .iconst 1, 1, 0), (46, .iaload, 1, 0), (47, .aload_n 0, 1, 0), (48, .getfield 43, 3, 0), (51, .invokestatic 176, 3, 0), (54, .iconst (-1), 1, 0), (55, .if_icmp .eq 9, 3, 64), (58, .aload_n 0, 1, 0), (59, .iconst 3, 1, 0), (60, .invokevirtual 72, 3, 0), (63, .ireturn, 1, 0), (64, .aload_n 0, 1, 0), (65, .getfield 117, 3, 0), (68, .iload_n 1, 1, 0), (69, .aload_n 0, 1, 0), (70, .getfield 43, 3, 0), (73, .lastore, 1, 0), (74, .aload_n 0, 1, 0), (75, .invokevirtual 82, 3, 0), (78, .iconst 1, 1, 0), (79, .ireturn, 1, 0)]
set_option maxRecDepth 100000 in
theorem s_d177 : s_dec prog_14_method_30_code s_t177 := by unfold s_dec; decide +kernel
-- CampAshesModel.isName()Z
def s_t178 : List (Nat × Instr × Nat × Nat) := [(0, .aload_n 0, 1, 0), (1, .getfield 30, 3, 0), (4, .iconst 2, 1, 0), (5, .if_icmp .eq 5, 3, 10), (8, .iconst 0, 1, 0), (9, .ireturn, 1, 0), (10, .iconst 0, 1, 0), (11, .istore_n 1, 1, 0), (12, .iload_n 1, 1, 0), (13, .bipush 28, 2, 0), (15, .if_icmp .gt 23, 3, 38), (18, .aload_n 0, 1, 0), (19, .getfield 43, 3, 0), (22, .iload_n 1, 1, 0), (23, .invokestatic 62, 3, 0), (26, .lcmp, 1, 0), (27, .ifCond .ne 5, 3, 32), (30, .iconst 0, 1, 0), (31, .ireturn, 1, 0), (32, .iinc 1 1, 3, 0), (35, .goto (-23), 3, 12), (38, .iconst 1, 1, 0), (39, .ireturn, 1, 0)]
set_option maxRecDepth 100000 in
theorem s_d178 : s_dec prog_14_method_21_code s_t178 := by unfold s_dec; decide +kernel
-- CampAshesModel.findIn([JIIJ)I
def s_t179 : List (Nat × Instr × Nat × Nat) := [(0, .iconst 0, 1, 0), (1, .istore 5, 2, 0), (3, .iload 5, 2, 0), (5, .iload_n 2, 1, 0), (6, .if_icmp .ge 23, 3, 29), (9, .aload_n 0, 1, 0), (10, .iload_n 1, 1, 0), (11, .iload 5, 2, 0), (13, .iadd, 1, 0), (14, .laload, 1, 0), (15, .lload_n 3, 1, 0), (16, .lcmp, 1, 0), (17, .ifCond .ne 6, 3, 23), (20, .iload 5, 2, 0), (22, .ireturn, 1, 0), (23, .iinc 5 1, 3, 0), (26, .goto (-23), 3, 3), (29, .iconst (-1), 1, 0), (30, .ireturn, 1, 0)]
set_option maxRecDepth 100000 in
theorem s_d179 : s_dec prog_14_method_29_code s_t179 := by unfold s_dec; decide +kernel
-- CampAshesModel.readNumber(II)Z
def s_t180 : List (Nat × Instr × Nat × Nat) := [(0, .aload_n 0, 1, 0), (1, .getfield 30, 3, 0), (4, .iconst 3, 1, 0), (5, .if_icmp .eq 9, 3, 14), (8, .aload_n 0, 1, 0), (9, .iconst 1, 1, 0), (10, .invokevirtual 72, 3, 0), (13, .ireturn, 1, 0), (14, .aload_n 0, 1, 0), (15, .getfield 47, 3, 0), (18, .iload_n 1, 1, 0), (19, .iload_n 2, 1, 0), (20, .invokestatic 75, 3, 0), (23, .ifCond .ne 9, 3, 32), (26, .aload_n 0, 1, 0), (27, .iconst 2, 1, 0), (28, .invokevirtual 72, 3, 0), (31, .ireturn, 1, 0), (32, .aload_n 0, 1, 0), (33, .aload_n 0, 1, 0), (34, .getfield 47, 3, 0), (37, .putfield 79, 3, 0), (40, .aload_n 0, 1, 0), (41, .invokevirtual 82, 3, 0), (44, .iconst 1, 1, 0), (45, .ireturn, 1, 0)]
set_option maxRecDepth 100000 in
theorem s_d180 : s_dec prog_14_method_23_code s_t180 := by unfold s_dec; decide +kernel
-- CampAshesModel.isIn(III)Z
def s_t181 : List (Nat × Instr × Nat × Nat) := [(0, .iload_n 0, 1, 0), (1, .iload_n 1, 1, 0), (2, .if_icmp .lt 12, 3, 14), (5, .iload_n 0, 1, 0), (6, .iload_n 2, 1, 0), (7, .if_icmp .gt 7, 3, 14), (10, .iconst 1, 1, 0), (11, .goto 4, 3, 15), (14, .iconst 0, 1, 0), (15, .ireturn, 1, 0)]
set_option maxRecDepth 100000 in
theorem s_d181 : s_dec prog_14_method_7_code s_t181 := by unfold s_dec; decide +kernel
-- CampAshesModel.put(IZ)Z
def s_t182 : List (Nat × Instr × Nat × Nat) := [(0, .iload_n 2, 1, 0), (1, .ifCond .eq 13, 3, 14), (4, .aload_n 0, 1, 0), (5, .getfield 101, 3, 0), (8, .iload_n 1, 1, 0), (9, .aload_n 0, 1, 0), (10, .getfield 79, 3, 0), (13, .iastore, 1, 0), (14, .iload_n 2, 1, 0), (15, .ireturn, 1, 0)]
set_option maxRecDepth 100000 in
theorem s_d182 : s_dec prog_14_method_32_code s_t182 := by unfold s_dec; decide +kernel
-- CampAshesModel.readEvent()Z
def s_t183 : List (Nat × Instr × Nat × Nat) := [(0, .aload_n 0, 1, 0), (1, .iconst 1, 1, 0), (2, .bipush 10, 2, 0), (4, .invokevirtual 183, 3, 0), (7, .ifCond .ne 5, 3, 12), (10, .iconst 0, 1, 0), (11, .ireturn, 1, 0), (12, .aload_n 0, 1, 0), (13, .getfield 101, 3, 0), (16, .iconst 1, 1, 0), (17, .iaload, 1, 0), (18, .istore_n 1, 1, 0), (19, .aload_n 0, 1, 0), (20, .bipush 7, 2, 0), (22, .iload_n 1, 1, 0), (23, .iadd, 1, 0), (24, .invokevirtual 187, 3, 0), (27, .ifCond .eq 26, 3, 53), (30, .aload_n 0, 1, 0), (31, .iload_n 1, 1, 0), (32, .invokevirtual 197, 3, 0), (35, .ifCond .eq 18, 3, 53), (38, .aload_n 0, 1, 0), (39, .bipush 27, 2, 0), (41, .iload_n 1, 1, 0), (42, .iadd, 1, 0), (43, .aload_n 0, 1, 0), (44, .invokevirtual 200, 3, 0), (47, .invokevirtual 193, 3, 0), (50, .ifCond .ne 5, 3, 55), (53, .iconst 0, 1, 0), (54, .ireturn, 1, 0), (55, .aload_n 0, 1, 0), (56, .invokevirtual 82, 3, 0), (59, .aload_n 0, 1, 0), (60, .bipush 37, 2, 0), (62, .iload_n 1, 1, 0), (63, .iadd, 1, 0), (64, .aload_n 0, 1, 0), (65, .iconst 1, 1, 0), (66, .bipush 40, 2, 0), (68, .invokevirtual 190, 3, 0), (71, .invokevirtual 193, 3, 0), (74, .ifCond .ne 5, 3, 79), (77, .iconst 0, 1, 0), (78, .ireturn, 1, 0), (79, .aload_n 0, 1, 0), (80, .getfield 101, 3, 0), (83, .iconst 1, 1, 0), (84, .dup2, 1, 0), (85, .iaload, 1, 0), (86, .iconst 1, 1, 0), (87, .iadd, 1, 0), (88, .iastore, 1, 0), (89, .iconst 1, 1, 0), (90, .ireturn, 1, 0)]
set_option maxRecDepth 100000 in
theorem s_d183 : s_dec prog_14_method_36_code s_t183 := by unfold s_dec; decide +kernel
-- CampAshesModel.readWhose(I)Z
def s_t184 : List (Nat × Instr × Nat × Nat) := [(0, .aload_n 0, 1, 0), (1, .invokevirtual 172, 3, 0), (4, .ifCond .ne 9, 3, 13), (7, .aload_n 0, 1, 0), (8, .iconst 1, 1, 0), (9, .invokevirtual 72, 3, 0), (12, .ireturn, 1, 0), (13, .aload_n 0, 1, 0), (14, .getfield 101, 3, 0), (17, .bipush 17, 2, 0), (19, .iload_n 1, 1, 0), (20, .iadd, 1, 0), (21, .aload_n 0, 1, 0), (22, .getfield 117, 3, 0), (25, .iconst 0, 1, 0), (26, .aload_n 0, 1, 0), (27, .getfield 101, 3, 0), (30, .iconst 0, 1, 0), (31, .iaload, 1, 0), (32, .aload_n 0, 1, 0), (33, .getfield 43, 3, 0), (36, .invokestatic 176, 3, 0), (39, .iastore, 1, 0), (40, .aload_n 0, 1, 0), (41, .getfield 101, 3, 0), (44, .bipush 17, 2, 0), (46, .iload_n 1, 1, 0), (47, .iadd, 1, 0), (48, .iaload, 1, 0), (49, .iconst (-1), 1, 0), (50, .if_icmp .ne 9, 3, 59), (53, .aload_n 0, 1, 0), (54, .iconst 3, 1, 0), (55, .invokevirtual 72, 3, 0), (58, .ireturn, 1, 0), (59, .aload_n 0, 1, 0), (60, .invokevirtual 82, 3, 0), (63, .iconst 1, 1, 0), (64, .ireturn, 1, 0)]
set_option maxRecDepth 100000 in
theorem s_d184 : s_dec prog_14_method_35_code s_t184 := by unfold s_dec; decide +kernel
-- CampAshesModel.isKind()Z
def s_t185 : List (Nat × Instr × Nat × Nat) := [(0, .bipush 7, 2, 0), (2, .istore_n 1, 1, 0), (3, .iload_n 1, 1, 0), (4, .bipush 10, 2, 0), (6, .if_icmp .gt 17, 3, 23), (9, .aload_n 0, 1, 0), (10, .iload_n 1, 1, 0), (11, .invokevirtual 180, 3, 0), (14, .ifCond .ne 9, 3, 23), (17, .iinc 1 1, 3, 0), (20, .goto (-17), 3, 3), (23, .iload_n 1, 1, 0), (24, .bipush 10, 2, 0), (26, .if_icmp .le 9, 3, 35), (29, .aload_n 0, 1, 0), (30, .iconst 1, 1, 0), (31, .invokevirtual 72, 3, 0), (34, .ireturn, 1, 0), (35, .aload_n 0, 1, 0), (36, .iload_n 1, 1, 0), (37, .bipush 7, 2, 0), (39, .isub, 1, 0), (40, .putfield 79, 3, 0), (43, .iconst 1, 1, 0), (44, .ireturn, 1, 0)]
set_option maxRecDepth 100000 in
theorem s_d185 : s_dec prog_14_method_33_code s_t185 := by unfold s_dec; decide +kernel
-- CampAshesModel.readTakes()Z
def s_t186 : List (Nat × Instr × Nat × Nat) := [(0, .aload_n 0, 1, 0), (1, .invokevirtual 82, 3, 0), (4, .aload_n 0, 1, 0), (5, .invokevirtual 200, 3, 0), (8, .ifCond .ne 5, 3, 13), (11, .iconst 0, 1, 0), (12, .ireturn, 1, 0), (13, .aload_n 0, 1, 0), (14, .getfield 79, 3, 0), (17, .istore_n 1, 1, 0), (18, .aload_n 0, 1, 0), (19, .getfield 130, 3, 0), (22, .iload_n 1, 1, 0), (23, .baload, 1, 0), (24, .ifCond .eq 9, 3, 33), (27, .aload_n 0, 1, 0), (28, .iconst 3, 1, 0), (29, .invokevirtual 72, 3, 0), (32, .ireturn, 1, 0), (33, .aload_n 0, 1, 0), (34, .getfield 130, 3, 0), (37, .iload_n 1, 1, 0), (38, .iconst 1, 1, 0), (39, .bastore, 1, 0), (40, .aload_n 0, 1, 0), (41, .invokevirtual 82, 3, 0), (44, .aload_n 0, 1, 0), (45, .bipush 6, 2, 0), (47, .iload_n 1, 1, 0), (48, .iadd, 1, 0), (49, .aload_n 0, 1, 0), (50, .iconst 0, 1, 0), (51, .bipush 9, 2, 0), (53, .invokevirtual 190, 3, 0), (56, .invokevirtual 193, 3, 0), (59, .ireturn, 1, 0)]
set_option maxRecDepth 100000 in
theorem s_d186 : s_dec prog_14_method_37_code s_t186 := by unfold s_dec; decide +kernel
end
section
-- CampAshesModel.readOnce(IIII)Z
def s_t187 : List (Nat × Instr × Nat × Nat) := [(0, .aload_n 0, 1, 0), (1, .getfield 127, 3, 0), (4, .iload_n 1, 1, 0), (5, .baload, 1, 0), (6, .ifCond .eq 9, 3, 15), (9, .aload_n 0, 1, 0), (10, .iconst 3, 1, 0), (11, .invokevirtual 72, 3, 0), (14, .ireturn, 1, 0), (15, .aload_n 0, 1, 0), (16, .getfield 127, 3, 0), (19, .iload_n 1, 1, 0), (20, .iconst 1, 1, 0), (21, .bastore, 1, 0), (22, .aload_n 0, 1, 0), (23, .invokevirtual 82, 3, 0), (26, .aload_n 0, 1, 0), (27, .iload_n 2, 1, 0), (28, .aload_n 0, 1, 0), (29, .iload_n 3, 1, 0), (30, .iload 4, 2, 0), (32, .invokevirtual 190, 3, 0), (35, .invokevirtual 193, 3, 0), (38, .ireturn, 1, 0)]
set_option maxRecDepth 100000 in
theorem s_d187 : s_dec prog_14_method_38_code s_t187 := by unfold s_dec; decide +kernel
-- CampAshesModel.readEnd()Z
def s_t188 : List (Nat × Instr × Nat × Nat) := [(0, .aload_n 0, 1, 0), (1, .bipush 59, 2, 0), (3, .invokevirtual 86, 3, 0), (6, .ifCond .ne 9, 3, 15), (9, .aload_n 0, 1, 0), (10, .iconst 1, 1, 0), (11, .invokevirtual 72, 3, 0), (14, .ireturn, 1, 0), (15, .aload_n 0, 1, 0), (16, .invokevirtual 82, 3, 0), (19, .iconst 1, 1, 0), (20, .ireturn, 1, 0)]
set_option maxRecDepth 100000 in
theorem s_d188 : s_dec prog_14_method_24_code s_t188 := by unfold s_dec; decide +kernel
-- CampAshesModel.isSign(I)Z
def s_t189 : List (Nat × Instr × Nat × Nat) := [(0, .aload_n 0, 1, 0), (1, .getfield 30, 3, 0), (4, .iconst 4, 1, 0), (5, .if_icmp .ne 15, 3, 20), (8, .aload_n 0, 1, 0), (9, .getfield 40, 3, 0), (12, .iload_n 1, 1, 0), (13, .if_icmp .ne 7, 3, 20), (16, .iconst 1, 1, 0), (17, .goto 4, 3, 21), (20, .iconst 0, 1, 0), (21, .ireturn, 1, 0)]
set_option maxRecDepth 100000 in
theorem s_d189 : s_dec prog_14_method_20_code s_t189 := by unfold s_dec; decide +kernel
-- CampAshesModel.fault()I
def s_t190 : List (Nat × Instr × Nat × Nat) := [(0, .aload_n 0, 1, 0), (1, .iconst 0, 1, 0), (2, .putfield 1, 3, 0), (5, .aload_n 0, 1, 0), (6, .getfield 66, 3, 0), (9, .ireturn, 1, 0)]
set_option maxRecDepth 100000 in
theorem s_d190 : s_dec prog_14_method_41_code s_t190 := by unfold s_dec; decide +kernel
-- CampAshesModel.boy(II)I
def s_t191 : List (Nat × Instr × Nat × Nat) := [(0, .aload_n 0, 1, 0), (1, .iconst 0, 1, 0), (2, .putfield 1, 3, 0), (5, .aload_n 0, 1, 0), (6, .iload_n 1, 1, 0), (7, .invokevirtual 238, 3, 0), (10, .ifCond .ne 8, 3, 18), (13, .aload_n 0, 1, 0), (14, .invokevirtual 241, 3, 0), (17, .ireturn, 1, 0), (18, .iload_n 2, 1, 0), (19, .tableswitch 128 0 5 #[37, 43, 53, 67, 81, 91], 37, 0), (56, .aload_n 0, 1, 0), (57, .iload_n 1, 1, 0), (58, .invokevirtual 232, 3, 0), (61, .ireturn, 1, 0), (62, .aload_n 0, 1, 0), (63, .getfield 98, 3, 0), (66, .bipush 10, 2, 0), (68, .iload_n 1, 1, 0), (69, .iadd, 1, 0), (70, .iaload, 1, 0), (71, .ireturn, 1, 0), (72, .aload_n 0, 1, 0), (73, .iload_n 1, 1, 0), (74, .invokevirtual 244, 3, 0), (77, .ifCond .eq 7, 3, 84), (80, .iconst 1, 1, 0), (81, .goto 4, 3, 85), (84, .iconst 0, 1, 0), (85, .ireturn, 1, 0), (86, .aload_n 0, 1, 0), (87, .iload_n 1, 1, 0), (88, .invokevirtual 247, 3, 0), (91, .ifCond .eq 7, 3, 98), (94, .iconst 1, 1, 0), (95, .goto 4, 3, 99), (98, .iconst 0, 1, 0), (99, .ireturn, 1, 0), (100, .aload_n 0, 1, 0), (101, .getfield 98, 3, 0), (104, .bipush 56, 2, 0), (106, .iload_n 1, 1, 0), (107, .iadd, 1, 0), (108, .iaload, 1, 0), (109, .ireturn, 1, 0), (110, .iconst 0, 1, 0), (111, .istore_n 3, 1, 0), (112, .iconst 0, 1, 0), (113, .istore 4, 2, 0), (115, .iload 4, 2, 0), (117, .bipush 10, 2, 0), (119, .if_icmp .ge 26, 3, 145), (122, .aload_n 0, 1, 0), (123, .iload_n 1, 1, 0), (124, .iload 4, 2, 0), (126, .invokevirtual 250, 3, 0), (129, .ifCond .le 10, 3, 139), (132, .iload_n 3, 1, 0), (133, .iconst 1, 1, 0), (134, .iload 4, 2, 0), (136, .ishl, 1, 0), (137, .ior, 1, 0), (138, .istore_n 3, 1, 0), (139, .iinc 4 1, 3, 0), (142, .goto (-27), 3, 115), (145, .iload_n 3, 1, 0), (146, .ireturn, 1, 0), (147, .aload_n 0, 1, 0), (148, .invokevirtual 241, 3, 0), (151, .ireturn, 1, 0)]
set_option maxRecDepth 100000 in
theorem s_d191 : s_dec prog_14_method_52_code s_t191 := by unfold s_dec; decide +kernel
-- CampAshesModel.isBoy(I)Z
def s_t192 : List (Nat × Instr × Nat × Nat) := [(0, .iload_n 1, 1, 0), (1, .iconst 0, 1, 0), (2, .aload_n 0, 1, 0), (3, .getfield 98, 3, 0), (6, .iconst 0, 1, 0), (7, .iaload, 1, 0), (8, .iconst 1, 1, 0), (9, .isub, 1, 0), (10, .invokestatic 75, 3, 0), (13, .ireturn, 1, 0)]
set_option maxRecDepth 100000 in
theorem s_d192 : s_dec prog_14_method_42_code s_t192 := by unfold s_dec; decide +kernel
-- CampAshesModel.refuse()I
def s_t193 : List (Nat × Instr × Nat × Nat) := [(0, .aload_n 0, 1, 0), (1, .iconst 1, 1, 0), (2, .putfield 1, 3, 0), (5, .iconst 0, 1, 0), (6, .ireturn, 1, 0)]
set_option maxRecDepth 100000 in
theorem s_d193 : s_dec prog_14_method_2_code s_t193 := by unfold s_dec; decide +kernel
-- CampAshesModel.loadOf(I)I
def s_t194 : List (Nat × Instr × Nat × Nat) := [(0, .aload_n 0, 1, 0), (1, .bipush 63, 2, 0), (3, .bipush 10, 2, 0), (5, .iload_n 1, 1, 0), (6, .imul, 1, 0), (7, .iadd, 1, 0), (8, .bipush 10, 2, 0), (10, .invokevirtual 228, 3, 0), (13, .ireturn, 1, 0)]
set_option maxRecDepth 100000 in
theorem s_d194 : s_dec prog_14_method_47_code s_t194 := by unfold s_dec; decide +kernel
-- CampAshesModel.sum(II)I
def s_t195 : List (Nat × Instr × Nat × Nat) := [(0, .iconst 0, 1, 0), (1, .istore_n 3, 1, 0), (2, .iconst 0, 1, 0), (3, .istore 4, 2, 0), (5, .iload 4, 2, 0), (7, .iload_n 2, 1, 0), (8, .if_icmp .ge 21, 3, 29), (11, .iload_n 3, 1, 0), (12, .aload_n 0, 1, 0), (13, .getfield 98, 3, 0), (16, .iload_n 1, 1, 0), (17, .iload 4, 2, 0), (19, .iadd, 1, 0), (20, .iaload, 1, 0), (21, .iadd, 1, 0), (22, .istore_n 3, 1, 0), (23, .iinc 4 1, 3, 0), (26, .goto (-21), 3, 5), (29, .iload_n 3, 1, 0), (30, .ireturn, 1, 0)]
set_option maxRecDepth 100000 in
theorem s_d195 : s_dec prog_14_method_46_code s_t195 := by unfold s_dec; decide +kernel
-- CampAshesModel.isOver(I)Z
def s_t196 : List (Nat × Instr × Nat × Nat) := [(0, .aload_n 0, 1, 0), (1, .iload_n 1, 1, 0), (2, .invokevirtual 232, 3, 0), (5, .aload_n 0, 1, 0), (6, .getfield 98, 3, 0), (9, .bipush 10, 2, 0), (11, .iload_n 1, 1, 0), (12, .iadd, 1, 0), (13, .iaload, 1, 0), (14, .if_icmp .le 7, 3, 21), (17, .iconst 1, 1, 0), (18, .goto 4, 3, 22), (21, .iconst 0, 1, 0), (22, .ireturn, 1, 0)]
set_option maxRecDepth 100000 in
theorem s_d196 : s_dec prog_14_method_48_code s_t196 := by unfold s_dec; decide +kernel
-- CampAshesModel.isHushed(I)Z
def s_t197 : List (Nat × Instr × Nat × Nat) := [(0, .aload_n 0, 1, 0), (1, .getfield 98, 3, 0), (4, .bipush 50, 2, 0), (6, .iaload, 1, 0), (7, .iload_n 1, 1, 0), (8, .invokestatic 235, 3, 0), (11, .ireturn, 1, 0)]
set_option maxRecDepth 100000 in
theorem s_d197 : s_dec prog_14_method_49_code s_t197 := by unfold s_dec; decide +kernel
-- CampAshesModel.has(II)Z
def s_t198 : List (Nat × Instr × Nat × Nat) := [(0, .iload_n 0, 1, 0), (1, .iload_n 1, 1, 0), (2, .ishr, 1, 0), (3, .iconst 1, 1, 0), (4, .iand, 1, 0), (5, .iconst 1, 1, 0), (6, .if_icmp .ne 7, 3, 13), (9, .iconst 1, 1, 0), (10, .goto 4, 3, 14), (13, .iconst 0, 1, 0), (14, .ireturn, 1, 0)]
set_option maxRecDepth 100000 in
theorem s_d198 : s_dec prog_14_method_8_code s_t198 := by unfold s_dec; decide +kernel
-- CampAshesModel.onOf(II)I
def s_t199 : List (Nat × Instr × Nat × Nat) := [(0, .aload_n 0, 1, 0), (1, .getfield 98, 3, 0), (4, .bipush 63, 2, 0), (6, .bipush 10, 2, 0), (8, .iload_n 1, 1, 0), (9, .imul, 1, 0), (10, .iadd, 1, 0), (11, .iload_n 2, 1, 0), (12, .iadd, 1, 0), (13, .iaload, 1, 0), (14, .ireturn, 1, 0)]
set_option maxRecDepth 100000 in
theorem s_d199 : s_dec prog_14_method_45_code s_t199 := by unfold s_dec; decide +kernel
-- CampAshesModel.on(II)I
def s_t200 : List (Nat × Instr × Nat × Nat) := [(0, .aload_n 0, 1, 0), (1, .iconst 0, 1, 0), (2, .putfield 1, 3, 0), (5, .aload_n 0, 1, 0), (6, .iload_n 1, 1, 0), (7, .invokevirtual 253, 3, 0), (10, .ifCond .eq 20, 3, 30), (13, .aload_n 0, 1, 0), (14, .iload_n 2, 1, 0), (15, .invokevirtual 238, 3, 0), (18, .ifCond .eq 12, 3, 30), (21, .aload_n 0, 1, 0), (22, .iload_n 2, 1, 0), (23, .iload_n 1, 1, 0), (24, .invokevirtual 250, 3, 0), (27, .goto 4, 3, 31), (30, .iconst (-1), 1, 0), (31, .ireturn, 1, 0)]
set_option maxRecDepth 100000 in
theorem s_d200 : s_dec prog_14_method_53_code s_t200 := by unfold s_dec; decide +kernel
-- CampAshesModel.isEvent(I)Z
def s_t201 : List (Nat × Instr × Nat × Nat) := [(0, .iload_n 1, 1, 0), (1, .iconst 0, 1, 0), (2, .aload_n 0, 1, 0), (3, .getfield 98, 3, 0), (6, .iconst 1, 1, 0), (7, .iaload, 1, 0), (8, .iconst 1, 1, 0), (9, .isub, 1, 0), (10, .invokestatic 75, 3, 0), (13, .ireturn, 1, 0)]
set_option maxRecDepth 100000 in
theorem s_d201 : s_dec prog_14_method_43_code s_t201 := by unfold s_dec; decide +kernel
-- CampAshesModel.event(II)I
def s_t202 : List (Nat × Instr × Nat × Nat) := [(0, .aload_n 0, 1, 0), (1, .iconst 0, 1, 0), (2, .putfield 1, 3, 0), (5, .aload_n 0, 1, 0), (6, .iload_n 1, 1, 0), (7, .invokevirtual 253, 3, 0), (10, .ifCond .ne 5, 3, 15), (13, .iconst (-1), 1, 0), (14, .ireturn, 1, 0), (15, .iconst 0, 1, 0), (16, .istore_n 3, 1, 0), (17, .iload_n 2, 1, 0), (18, .tableswitch 88 0 3 #[30, 40, 50, 60], 30, 0), (48, .aload_n 0, 1, 0), (49, .getfield 98, 3, 0), (52, .bipush 17, 2, 0), (54, .iload_n 1, 1, 0), (55, .iadd, 1, 0), (56, .iaload, 1, 0), (57, .ireturn, 1, 0), (58, .aload_n 0, 1, 0), (59, .getfield 98, 3, 0), (62, .bipush 27, 2, 0), (64, .iload_n 1, 1, 0), (65, .iadd, 1, 0), (66, .iaload, 1, 0), (67, .ireturn, 1, 0), (68, .aload_n 0, 1, 0), (69, .getfield 98, 3, 0), (72, .bipush 37, 2, 0), (74, .iload_n 1, 1, 0), (75, .iadd, 1, 0), (76, .iaload, 1, 0), (77, .ireturn, 1, 0), (78, .iconst 0, 1, 0), (79, .istore 4, 2, 0), (81, .iload 4, 2, 0), (83, .bipush 7, 2, 0), (85, .if_icmp .ge 19, 3, 104), (88, .iload_n 3, 1, 0), (89, .aload_n 0, 1, 0), (90, .iload 4, 2, 0), (92, .iload_n 1, 1, 0), (93, .invokevirtual 250, 3, 0), (96, .iadd, 1, 0), (97, .istore_n 3, 1, 0), (98, .iinc 4 1, 3, 0), (101, .goto (-20), 3, 81), (104, .iload_n 3, 1, 0), (105, .ireturn, 1, 0), (106, .iconst (-1), 1, 0), (107, .ireturn, 1, 0)]
set_option maxRecDepth 100000 in
theorem s_d202 : s_dec prog_14_method_54_code s_t202 := by unfold s_dec; decide +kernel
-- CampAshesModel.takes(I)I
def s_t203 : List (Nat × Instr × Nat × Nat) := [(0, .aload_n 0, 1, 0), (1, .iconst 0, 1, 0), (2, .putfield 1, 3, 0), (5, .aload_n 0, 1, 0), (6, .iload_n 1, 1, 0), (7, .invokevirtual 256, 3, 0), (10, .ifCond .eq 18, 3, 28), (13, .aload_n 0, 1, 0), (14, .iload_n 1, 1, 0), (15, .aload_n 0, 1, 0), (16, .getfield 98, 3, 0), (19, .bipush 48, 2, 0), (21, .iaload, 1, 0), (22, .invokevirtual 259, 3, 0), (25, .goto 4, 3, 29), (28, .iconst (-1), 1, 0), (29, .ireturn, 1, 0)]
set_option maxRecDepth 100000 in
theorem s_d203 : s_dec prog_14_method_55_code s_t203 := by unfold s_dec; decide +kernel
-- CampAshesModel.isOneKind(I)Z
def s_t204 : List (Nat × Instr × Nat × Nat) := [(0, .iload_n 1, 1, 0), (1, .iconst 0, 1, 0), (2, .iconst 3, 1, 0), (3, .invokestatic 75, 3, 0), (6, .ireturn, 1, 0)]
set_option maxRecDepth 100000 in
theorem s_d204 : s_dec prog_14_method_44_code s_t204 := by unfold s_dec; decide +kernel
-- CampAshesModel.takesOf(II)I
def s_t205 : List (Nat × Instr × Nat × Nat) := [(0, .aload_n 0, 1, 0), (1, .getfield 98, 3, 0), (4, .bipush 6, 2, 0), (6, .iload_n 1, 1, 0), (7, .iadd, 1, 0), (8, .iaload, 1, 0), (9, .iload_n 2, 1, 0), (10, .iconst 5, 1, 0), (11, .idiv, 1, 0), (12, .iadd, 1, 0), (13, .ireturn, 1, 0)]
set_option maxRecDepth 100000 in
theorem s_d205 : s_dec prog_14_method_51_code s_t205 := by unfold s_dec; decide +kernel
-- CampAshesModel.ashes(I)I
def s_t206 : List (Nat × Instr × Nat × Nat) := [(0, .aload_n 0, 1, 0), (1, .iconst 0, 1, 0), (2, .putfield 1, 3, 0), (5, .aload_n 0, 1, 0), (6, .iload_n 1, 1, 0), (7, .invokevirtual 256, 3, 0), (10, .ifCond .eq 15, 3, 25), (13, .aload_n 0, 1, 0), (14, .getfield 98, 3, 0), (17, .bipush 52, 2, 0), (19, .iload_n 1, 1, 0), (20, .iadd, 1, 0), (21, .iaload, 1, 0), (22, .goto 4, 3, 26), (25, .iconst (-1), 1, 0), (26, .ireturn, 1, 0)]
set_option maxRecDepth 100000 in
theorem s_d206 : s_dec prog_14_method_56_code s_t206 := by unfold s_dec; decide +kernel
-- CampAshesModel.now(I)I
def s_t207 : List (Nat × Instr × Nat × Nat) := [(0, .aload_n 0, 1, 0), (1, .iconst 0, 1, 0), (2, .putfield 1, 3, 0), (5, .iload_n 1, 1, 0), (6, .tableswitch 113 0 7 #[46, 54, 62, 70, 83, 88, 96, 104], 46, 0), (52, .aload_n 0, 1, 0), (53, .getfield 98, 3, 0), (56, .bipush 47, 2, 0), (58, .iaload, 1, 0), (59, .ireturn, 1, 0), (60, .aload_n 0, 1, 0), (61, .getfield 98, 3, 0), (64, .bipush 48, 2, 0), (66, .iaload, 1, 0), (67, .ireturn, 1, 0), (68, .aload_n 0, 1, 0), (69, .getfield 98, 3, 0), (72, .bipush 49, 2, 0), (74, .iaload, 1, 0), (75, .ireturn, 1, 0), (76, .aload_n 0, 1, 0), (77, .invokevirtual 262, 3, 0), (80, .ifCond .eq 7, 3, 87), (83, .iconst 1, 1, 0), (84, .goto 4, 3, 88), (87, .iconst 0, 1, 0), (88, .ireturn, 1, 0), (89, .aload_n 0, 1, 0), (90, .invokevirtual 265, 3, 0), (93, .ireturn, 1, 0), (94, .aload_n 0, 1, 0), (95, .getfield 98, 3, 0), (98, .bipush 50, 2, 0), (100, .iaload, 1, 0), (101, .ireturn, 1, 0), (102, .aload_n 0, 1, 0), (103, .getfield 98, 3, 0), (106, .bipush 51, 2, 0), (108, .iaload, 1, 0), (109, .ireturn, 1, 0), (110, .aload_n 0, 1, 0), (111, .bipush 63, 2, 0), (113, .bipush 70, 2, 0), (115, .invokevirtual 228, 3, 0), (118, .ireturn, 1, 0), (119, .iconst (-1), 1, 0), (120, .ireturn, 1, 0)]
set_option maxRecDepth 100000 in
theorem s_d207 : s_dec prog_14_method_58_code s_t207 := by unfold s_dec; decide +kernel
-- CampAshesModel.isWet()Z
def s_t208 : List (Nat × Instr × Nat × Nat) := [(0, .aload_n 0, 1, 0), (1, .getfield 98, 3, 0), (4, .iconst 5, 1, 0), (5, .iaload, 1, 0), (6, .ifCond .le 26, 3, 32), (9, .aload_n 0, 1, 0), (10, .getfield 98, 3, 0), (13, .bipush 47, 2, 0), (15, .iaload, 1, 0), (16, .iconst 1, 1, 0), (17, .iadd, 1, 0), (18, .aload_n 0, 1, 0), (19, .getfield 98, 3, 0), (22, .iconst 5, 1, 0), (23, .iaload, 1, 0), (24, .irem, 1, 0), (25, .ifCond .ne 7, 3, 32), (28, .iconst 1, 1, 0), (29, .goto 4, 3, 33), (32, .iconst 0, 1, 0), (33, .ireturn, 1, 0)]
set_option maxRecDepth 100000 in
theorem s_d208 : s_dec prog_14_method_50_code s_t208 := by unfold s_dec; decide +kernel
-- CampAshesModel.overs()I
def s_t209 : List (Nat × Instr × Nat × Nat) := [(0, .iconst 0, 1, 0), (1, .istore_n 1, 1, 0), (2, .iconst 0, 1, 0), (3, .istore_n 2, 1, 0), (4, .iload_n 2, 1, 0), (5, .aload_n 0, 1, 0), (6, .getfield 98, 3, 0), (9, .iconst 0, 1, 0), (10, .iaload, 1, 0), (11, .if_icmp .ge 23, 3, 34), (14, .aload_n 0, 1, 0), (15, .iload_n 2, 1, 0), (16, .invokevirtual 244, 3, 0), (19, .ifCond .eq 9, 3, 28), (22, .iload_n 1, 1, 0), (23, .iconst 1, 1, 0), (24, .iload_n 2, 1, 0), (25, .ishl, 1, 0), (26, .ior, 1, 0), (27, .istore_n 1, 1, 0), (28, .iinc 2 1, 3, 0), (31, .goto (-27), 3, 4), (34, .iload_n 1, 1, 0), (35, .ireturn, 1, 0)]
set_option maxRecDepth 100000 in
theorem s_d209 : s_dec prog_14_method_57_code s_t209 := by unfold s_dec; decide +kernel
-- CampAshesModel.tell(II)I
def s_t210 : List (Nat × Instr × Nat × Nat) := [(0, .aload_n 0, 1, 0), (1, .iconst 0, 1, 0), (2, .putfield 1, 3, 0), (5, .aload_n 0, 1, 0), (6, .iconst 0, 1, 0), (7, .iload_n 1, 1, 0), (8, .iload_n 2, 1, 0), (9, .iconst 0, 1, 0), (10, .iconst 0, 1, 0), (11, .aload_n 0, 1, 0), (12, .iload_n 1, 1, 0), (13, .invokevirtual 238, 3, 0), (16, .ifCond .eq 15, 3, 31), (19, .aload_n 0, 1, 0), (20, .iload_n 2, 1, 0), (21, .invokevirtual 253, 3, 0), (24, .ifCond .eq 7, 3, 31), (27, .iconst 1, 1, 0), (28, .goto 4, 3, 32), (31, .iconst 0, 1, 0), (32, .invokevirtual 292, 3, 0), (35, .ireturn, 1, 0)]
set_option maxRecDepth 100000 in
theorem s_d210 : s_dec prog_14_method_66_code s_t210 := by unfold s_dec; decide +kernel
-- CampAshesModel.act(IIIIIZ)I
def s_t211 : List (Nat × Instr × Nat × Nat) := [(0, .iload 6, 2, 0), (2, .ifCond .ne 5, 3, 7), (5, .iconst (-1), 1, 0), (6, .ireturn, 1, 0), (7, .aload_n 0, 1, 0), (8, .iload_n 1, 1, 0), (9, .iload_n 2, 1, 0), (10, .iload_n 3, 1, 0), (11, .iload 4, 2, 0), (13, .iload 5, 2, 0), (15, .invokevirtual 281, 3, 0), (18, .istore 7, 2, 0), (20, .iload 7, 2, 0), (22, .ifCond .eq 6, 3, 28), (25, .iload 7, 2, 0), (27, .ireturn, 1, 0), (28, .aload_n 0, 1, 0), (29, .invokevirtual 285, 3, 0), (32, .aload_n 0, 1, 0), (33, .iload_n 1, 1, 0), (34, .iload_n 2, 1, 0), (35, .iload_n 3, 1, 0), (36, .iload 4, 2, 0), (38, .iload 5, 2, 0), (40, .invokevirtual 288, 3, 0), (43, .iconst 0, 1, 0), (44, .ireturn, 1, 0)]
set_option maxRecDepth 100000 in
theorem s_d211 : s_dec prog_14_method_65_code s_t211 := by unfold s_dec; decide +kernel
-- CampAshesModel.why(IIIII)I
def s_t212 : List (Nat × Instr × Nat × Nat) := [(0, .iload_n 1, 1, 0), (1, .tableswitch 123 0 3 #[31, 31, 38, 91], 31, 0), (32, .aload_n 0, 1, 0), (33, .iload_n 2, 1, 0), (34, .iload_n 3, 1, 0), (35, .invokevirtual 268, 3, 0), (38, .ireturn, 1, 0), (39, .iload_n 2, 1, 0), (40, .iload 4, 2, 0), (42, .if_icmp .ne 7, 3, 49), (45, .iconst 1, 1, 0), (46, .goto 45, 3, 91), (49, .aload_n 0, 1, 0), (50, .iload_n 2, 1, 0), (51, .iload_n 3, 1, 0), (52, .invokevirtual 250, 3, 0), (55, .iload 5, 2, 0), (57, .if_icmp .ge 7, 3, 64), (60, .iconst 2, 1, 0), (61, .goto 30, 3, 91), (64, .aload_n 0, 1, 0), (65, .iload 4, 2, 0), (67, .invokevirtual 232, 3, 0), (70, .iload 5, 2, 0), (72, .iadd, 1, 0), (73, .aload_n 0, 1, 0), (74, .getfield 98, 3, 0), (77, .bipush 10, 2, 0), (79, .iload 4, 2, 0), (81, .iadd, 1, 0), (82, .iaload, 1, 0), (83, .if_icmp .le 7, 3, 90), (86, .iconst 3, 1, 0), (87, .goto 4, 3, 91), (90, .iconst 0, 1, 0), (91, .ireturn, 1, 0), (92, .aload_n 0, 1, 0), (93, .getfield 98, 3, 0), (96, .bipush 49, 2, 0), (98, .iaload, 1, 0), (99, .ifCond .ne 7, 3, 106), (102, .iconst 1, 1, 0), (103, .goto 20, 3, 123), (106, .aload_n 0, 1, 0), (107, .getfield 98, 3, 0), (110, .bipush 48, 2, 0), (112, .iaload, 1, 0), (113, .bipush 30, 2, 0), (115, .if_icmp .ne 7, 3, 122), (118, .iconst 2, 1, 0), (119, .goto 4, 3, 123), (122, .iconst 0, 1, 0), (123, .ireturn, 1, 0), (124, .aload_n 0, 1, 0), (125, .bipush 52, 2, 0), (127, .iconst 4, 1, 0), (128, .invokevirtual 228, 3, 0), (131, .ifCond .ne 7, 3, 138), (134, .iconst 1, 1, 0), (135, .goto 4, 3, 139), (138, .iconst 0, 1, 0), (139, .ireturn, 1, 0)]
set_option maxRecDepth 100000 in
theorem s_d212 : s_dec prog_14_method_61_code s_t212 := by unfold s_dec; decide +kernel
-- CampAshesModel.whySay(II)I
def s_t213 : List (Nat × Instr × Nat × Nat) := [(0, .aload_n 0, 1, 0), (1, .iload_n 1, 1, 0), (2, .iload_n 2, 1, 0), (3, .invokevirtual 250, 3, 0), (6, .ifCond .ne 7, 3, 13), (9, .iconst 1, 1, 0), (10, .goto 41, 3, 51), (13, .aload_n 0, 1, 0), (14, .invokevirtual 262, 3, 0), (17, .ifCond .eq 7, 3, 24), (20, .iconst 2, 1, 0), (21, .goto 30, 3, 51), (24, .aload_n 0, 1, 0), (25, .getfield 98, 3, 0), (28, .bipush 48, 2, 0), (30, .iaload, 1, 0), (31, .ifCond .ne 7, 3, 38), (34, .iconst 3, 1, 0), (35, .goto 16, 3, 51), (38, .aload_n 0, 1, 0), (39, .iload_n 1, 1, 0), (40, .invokevirtual 247, 3, 0), (43, .ifCond .eq 7, 3, 50), (46, .iconst 4, 1, 0), (47, .goto 4, 3, 51), (50, .iconst 0, 1, 0), (51, .ireturn, 1, 0)]
set_option maxRecDepth 100000 in
theorem s_d213 : s_dec prog_14_method_60_code s_t213 := by unfold s_dec; decide +kernel
-- CampAshesModel.snap()V
def s_t214 : List (Nat × Instr × Nat × Nat) := [(0, .aload_n 0, 1, 0), (1, .getfield 225, 3, 0), (4, .bipush 8, 2, 0), (6, .if_icmp .ne 43, 3, 49), (9, .iconst 0, 1, 0), (10, .istore_n 1, 1, 0), (11, .iload_n 1, 1, 0), (12, .sipush 602, 3, 0), (15, .if_icmp .ge 24, 3, 39), (18, .aload_n 0, 1, 0), (19, .getfield 107, 3, 0), (22, .iload_n 1, 1, 0), (23, .aload_n 0, 1, 0), (24, .getfield 107, 3, 0), (27, .iload_n 1, 1, 0), (28, .bipush 86, 2, 0), (30, .iadd, 1, 0), (31, .iaload, 1, 0), (32, .iastore, 1, 0), (33, .iinc 1 1, 3, 0), (36, .goto (-25), 3, 11), (39, .aload_n 0, 1, 0), (40, .dup, 1, 0), (41, .getfield 225, 3, 0), (44, .iconst 1, 1, 0), (45, .isub, 1, 0), (46, .putfield 225, 3, 0), (49, .iconst 0, 1, 0), (50, .istore_n 1, 1, 0), (51, .iload_n 1, 1, 0), (52, .bipush 86, 2, 0), (54, .if_icmp .ge 32, 3, 86), (57, .aload_n 0, 1, 0), (58, .getfield 107, 3, 0), (61, .bipush 86, 2, 0), (63, .aload_n 0, 1, 0), (64, .getfield 225, 3, 0), (67, .imul, 1, 0), (68, .iload_n 1, 1, 0), (69, .iadd, 1, 0), (70, .aload_n 0, 1, 0), (71, .getfield 98, 3, 0), (74, .bipush 47, 2, 0), (76, .iload_n 1, 1, 0), (77, .iadd, 1, 0), (78, .iaload, 1, 0), (79, .iastore, 1, 0), (80, .iinc 1 1, 3, 0), (83, .goto (-32), 3, 51), (86, .aload_n 0, 1, 0), (87, .dup, 1, 0), (88, .getfield 225, 3, 0), (91, .iconst 1, 1, 0), (92, .iadd, 1, 0), (93, .putfield 225, 3, 0), (96, .return_, 1, 0)]
set_option maxRecDepth 100000 in
theorem s_d214 : s_dec prog_14_method_59_code s_t214 := by unfold s_dec; decide +kernel
end
section
-- CampAshesModel.live(IIIII)V
def s_t215 : List (Nat × Instr × Nat × Nat) := [(0, .iload_n 1, 1, 0), (1, .tableswitch 166 0 3 #[31, 38, 93, 133], 31, 0), (32, .aload_n 0, 1, 0), (33, .iload_n 2, 1, 0), (34, .iload_n 3, 1, 0), (35, .invokevirtual 277, 3, 0), (38, .return_, 1, 0), (39, .aload_n 0, 1, 0), (40, .iload_n 2, 1, 0), (41, .iload_n 3, 1, 0), (42, .invokevirtual 250, 3, 0), (45, .bipush 99, 2, 0), (47, .if_icmp .ge 30, 3, 77), (50, .aload_n 0, 1, 0), (51, .getfield 98, 3, 0), (54, .bipush 63, 2, 0), (56, .bipush 10, 2, 0), (58, .iload_n 2, 1, 0), (59, .imul, 1, 0), (60, .iadd, 1, 0), (61, .iload_n 3, 1, 0), (62, .iadd, 1, 0), (63, .bipush 99, 2, 0), (65, .aload_n 0, 1, 0), (66, .iload_n 2, 1, 0), (67, .iload_n 3, 1, 0), (68, .invokevirtual 250, 3, 0), (71, .iconst 2, 1, 0), (72, .iadd, 1, 0), (73, .invokestatic 271, 3, 0), (76, .iastore, 1, 0), (77, .aload_n 0, 1, 0), (78, .getfield 98, 3, 0), (81, .bipush 51, 2, 0), (83, .dup2, 1, 0), (84, .iaload, 1, 0), (85, .iconst 1, 1, 0), (86, .iadd, 1, 0), (87, .iastore, 1, 0), (88, .aload_n 0, 1, 0), (89, .iload_n 2, 1, 0), (90, .invokevirtual 274, 3, 0), (93, .return_, 1, 0), (94, .aload_n 0, 1, 0), (95, .getfield 98, 3, 0), (98, .bipush 63, 2, 0), (100, .bipush 10, 2, 0), (102, .iload_n 2, 1, 0), (103, .imul, 1, 0), (104, .iadd, 1, 0), (105, .iload_n 3, 1, 0), (106, .iadd, 1, 0), (107, .dup2, 1, 0), (108, .iaload, 1, 0), (109, .iload 5, 2, 0), (111, .isub, 1, 0), (112, .iastore, 1, 0), (113, .aload_n 0, 1, 0), (114, .getfield 98, 3, 0), (117, .bipush 63, 2, 0), (119, .bipush 10, 2, 0), (121, .iload 4, 2, 0), (123, .imul, 1, 0), (124, .iadd, 1, 0), (125, .iload_n 3, 1, 0), (126, .iadd, 1, 0), (127, .dup2, 1, 0), (128, .iaload, 1, 0), (129, .iload 5, 2, 0), (131, .iadd, 1, 0), (132, .iastore, 1, 0), (133, .return_, 1, 0), (134, .aload_n 0, 1, 0), (135, .getfield 98, 3, 0), (138, .bipush 49, 2, 0), (140, .dup2, 1, 0), (141, .iaload, 1, 0), (142, .iconst 1, 1, 0), (143, .isub, 1, 0), (144, .iastore, 1, 0), (145, .aload_n 0, 1, 0), (146, .getfield 98, 3, 0), (149, .bipush 48, 2, 0), (151, .bipush 30, 2, 0), (153, .aload_n 0, 1, 0), (154, .getfield 98, 3, 0), (157, .bipush 48, 2, 0), (159, .iaload, 1, 0), (160, .iconst 4, 1, 0), (161, .iadd, 1, 0), (162, .invokestatic 271, 3, 0), (165, .iastore, 1, 0), (166, .return_, 1, 0), (167, .iconst 0, 1, 0), (168, .istore 6, 2, 0), (170, .iload 6, 2, 0), (172, .iconst 4, 1, 0), (173, .if_icmp .ge 20, 3, 193), (176, .aload_n 0, 1, 0), (177, .getfield 98, 3, 0), (180, .bipush 52, 2, 0), (182, .iload 6, 2, 0), (184, .iadd, 1, 0), (185, .iconst 0, 1, 0), (186, .iastore, 1, 0), (187, .iinc 6 1, 3, 0), (190, .goto (-20), 3, 170), (193, .return_, 1, 0)]
set_option maxRecDepth 100000 in
theorem s_d215 : s_dec prog_14_method_64_code s_t215 := by unfold s_dec; decide +kernel
-- CampAshesModel.doTell(II)V
def s_t216 : List (Nat × Instr × Nat × Nat) := [(0, .aload_n 0, 1, 0), (1, .iload_n 1, 1, 0), (2, .iload_n 2, 1, 0), (3, .invokevirtual 250, 3, 0), (6, .aload_n 0, 1, 0), (7, .aload_n 0, 1, 0), (8, .getfield 98, 3, 0), (11, .bipush 27, 2, 0), (13, .iload_n 2, 1, 0), (14, .iadd, 1, 0), (15, .iaload, 1, 0), (16, .aload_n 0, 1, 0), (17, .getfield 98, 3, 0), (20, .bipush 48, 2, 0), (22, .iaload, 1, 0), (23, .invokevirtual 259, 3, 0), (26, .invokestatic 271, 3, 0), (29, .istore_n 3, 1, 0), (30, .aload_n 0, 1, 0), (31, .getfield 98, 3, 0), (34, .bipush 63, 2, 0), (36, .bipush 10, 2, 0), (38, .iload_n 1, 1, 0), (39, .imul, 1, 0), (40, .iadd, 1, 0), (41, .iload_n 2, 1, 0), (42, .iadd, 1, 0), (43, .dup2, 1, 0), (44, .iaload, 1, 0), (45, .iload_n 3, 1, 0), (46, .isub, 1, 0), (47, .iastore, 1, 0), (48, .aload_n 0, 1, 0), (49, .getfield 98, 3, 0), (52, .bipush 52, 2, 0), (54, .aload_n 0, 1, 0), (55, .getfield 98, 3, 0), (58, .bipush 27, 2, 0), (60, .iload_n 2, 1, 0), (61, .iadd, 1, 0), (62, .iaload, 1, 0), (63, .iadd, 1, 0), (64, .dup2, 1, 0), (65, .iaload, 1, 0), (66, .iload_n 3, 1, 0), (67, .iadd, 1, 0), (68, .iastore, 1, 0), (69, .aload_n 0, 1, 0), (70, .iload_n 1, 1, 0), (71, .invokevirtual 274, 3, 0), (74, .return_, 1, 0)]
set_option maxRecDepth 100000 in
theorem s_d216 : s_dec prog_14_method_63_code s_t216 := by unfold s_dec; decide +kernel
-- CampAshesModel.least(II)I
def s_t217 : List (Nat × Instr × Nat × Nat) := [(0, .iload_n 0, 1, 0), (1, .iload_n 1, 1, 0), (2, .if_icmp .ge 7, 3, 9), (5, .iload_n 0, 1, 0), (6, .goto 4, 3, 10), (9, .iload_n 1, 1, 0), (10, .ireturn, 1, 0)]
set_option maxRecDepth 100000 in
theorem s_d217 : s_dec prog_14_method_10_code s_t217 := by unfold s_dec; decide +kernel
-- CampAshesModel.speaks(I)V
def s_t218 : List (Nat × Instr × Nat × Nat) := [(0, .aload_n 0, 1, 0), (1, .getfield 98, 3, 0), (4, .bipush 48, 2, 0), (6, .dup2, 1, 0), (7, .iaload, 1, 0), (8, .iconst 1, 1, 0), (9, .isub, 1, 0), (10, .iastore, 1, 0), (11, .aload_n 0, 1, 0), (12, .getfield 98, 3, 0), (15, .bipush 50, 2, 0), (17, .dup2, 1, 0), (18, .iaload, 1, 0), (19, .iconst 1, 1, 0), (20, .iload_n 1, 1, 0), (21, .ishl, 1, 0), (22, .ior, 1, 0), (23, .iastore, 1, 0), (24, .return_, 1, 0)]
set_option maxRecDepth 100000 in
theorem s_d218 : s_dec prog_14_method_62_code s_t218 := by unfold s_dec; decide +kernel
-- CampAshesModel.lie(II)I
def s_t219 : List (Nat × Instr × Nat × Nat) := [(0, .aload_n 0, 1, 0), (1, .iconst 0, 1, 0), (2, .putfield 1, 3, 0), (5, .aload_n 0, 1, 0), (6, .iconst 1, 1, 0), (7, .iload_n 1, 1, 0), (8, .iload_n 2, 1, 0), (9, .iconst 0, 1, 0), (10, .iconst 0, 1, 0), (11, .aload_n 0, 1, 0), (12, .iload_n 1, 1, 0), (13, .invokevirtual 238, 3, 0), (16, .ifCond .eq 15, 3, 31), (19, .aload_n 0, 1, 0), (20, .iload_n 2, 1, 0), (21, .invokevirtual 253, 3, 0), (24, .ifCond .eq 7, 3, 31), (27, .iconst 1, 1, 0), (28, .goto 4, 3, 32), (31, .iconst 0, 1, 0), (32, .invokevirtual 292, 3, 0), (35, .ireturn, 1, 0)]
set_option maxRecDepth 100000 in
theorem s_d219 : s_dec prog_14_method_67_code s_t219 := by unfold s_dec; decide +kernel
-- CampAshesModel.give(IIII)I
def s_t220 : List (Nat × Instr × Nat × Nat) := [(0, .aload_n 0, 1, 0), (1, .iconst 0, 1, 0), (2, .putfield 1, 3, 0), (5, .aload_n 0, 1, 0), (6, .iconst 2, 1, 0), (7, .iload_n 1, 1, 0), (8, .iload_n 2, 1, 0), (9, .iload_n 3, 1, 0), (10, .iload 4, 2, 0), (12, .aload_n 0, 1, 0), (13, .iload_n 1, 1, 0), (14, .invokevirtual 238, 3, 0), (17, .ifCond .eq 34, 3, 51), (20, .aload_n 0, 1, 0), (21, .iload_n 2, 1, 0), (22, .invokevirtual 253, 3, 0), (25, .ifCond .eq 26, 3, 51), (28, .aload_n 0, 1, 0), (29, .iload_n 3, 1, 0), (30, .invokevirtual 238, 3, 0), (33, .ifCond .eq 18, 3, 51), (36, .iload 4, 2, 0), (38, .iconst 1, 1, 0), (39, .bipush 40, 2, 0), (41, .invokestatic 75, 3, 0), (44, .ifCond .eq 7, 3, 51), (47, .iconst 1, 1, 0), (48, .goto 4, 3, 52), (51, .iconst 0, 1, 0), (52, .invokevirtual 292, 3, 0), (55, .ireturn, 1, 0)]
set_option maxRecDepth 100000 in
theorem s_d220 : s_dec prog_14_method_68_code s_t220 := by unfold s_dec; decide +kernel
-- CampAshesModel.log()I
def s_t221 : List (Nat × Instr × Nat × Nat) := [(0, .aload_n 0, 1, 0), (1, .iconst 0, 1, 0), (2, .putfield 1, 3, 0), (5, .aload_n 0, 1, 0), (6, .iconst 3, 1, 0), (7, .iconst 0, 1, 0), (8, .iconst 0, 1, 0), (9, .iconst 0, 1, 0), (10, .iconst 0, 1, 0), (11, .iconst 1, 1, 0), (12, .invokevirtual 292, 3, 0), (15, .ireturn, 1, 0)]
set_option maxRecDepth 100000 in
theorem s_d221 : s_dec prog_14_method_69_code s_t221 := by unfold s_dec; decide +kernel
-- CampAshesModel.rake()I
def s_t222 : List (Nat × Instr × Nat × Nat) := [(0, .aload_n 0, 1, 0), (1, .iconst 0, 1, 0), (2, .putfield 1, 3, 0), (5, .aload_n 0, 1, 0), (6, .iconst 4, 1, 0), (7, .iconst 0, 1, 0), (8, .iconst 0, 1, 0), (9, .iconst 0, 1, 0), (10, .iconst 0, 1, 0), (11, .iconst 1, 1, 0), (12, .invokevirtual 292, 3, 0), (15, .ireturn, 1, 0)]
set_option maxRecDepth 100000 in
theorem s_d222 : s_dec prog_14_method_70_code s_t222 := by unfold s_dec; decide +kernel
-- CampAshesModel.undo()I
def s_t223 : List (Nat × Instr × Nat × Nat) := [(0, .aload_n 0, 1, 0), (1, .iconst 0, 1, 0), (2, .putfield 1, 3, 0), (5, .aload_n 0, 1, 0), (6, .getfield 225, 3, 0), (9, .ifCond .ne 5, 3, 14), (12, .iconst (-1), 1, 0), (13, .ireturn, 1, 0), (14, .aload_n 0, 1, 0), (15, .dup, 1, 0), (16, .getfield 225, 3, 0), (19, .iconst 1, 1, 0), (20, .isub, 1, 0), (21, .putfield 225, 3, 0), (24, .iconst 0, 1, 0), (25, .istore_n 1, 1, 0), (26, .iload_n 1, 1, 0), (27, .bipush 86, 2, 0), (29, .if_icmp .ge 32, 3, 61), (32, .aload_n 0, 1, 0), (33, .getfield 98, 3, 0), (36, .bipush 47, 2, 0), (38, .iload_n 1, 1, 0), (39, .iadd, 1, 0), (40, .aload_n 0, 1, 0), (41, .getfield 107, 3, 0), (44, .bipush 86, 2, 0), (46, .aload_n 0, 1, 0), (47, .getfield 225, 3, 0), (50, .imul, 1, 0), (51, .iload_n 1, 1, 0), (52, .iadd, 1, 0), (53, .iaload, 1, 0), (54, .iastore, 1, 0), (55, .iinc 1 1, 3, 0), (58, .goto (-32), 3, 26), (61, .aload_n 0, 1, 0), (62, .getfield 225, 3, 0), (65, .ireturn, 1, 0)]
set_option maxRecDepth 100000 in
theorem s_d223 : s_dec prog_14_method_71_code s_t223 := by unfold s_dec; decide +kernel
-- CampAshesModel.days(I)I
def s_t224 : List (Nat × Instr × Nat × Nat) := [(0, .aload_n 0, 1, 0), (1, .iconst 0, 1, 0), (2, .putfield 1, 3, 0), (5, .iload_n 1, 1, 0), (6, .iconst 1, 1, 0), (7, .bipush 60, 2, 0), (9, .invokestatic 75, 3, 0), (12, .ifCond .ne 5, 3, 17), (15, .iconst (-1), 1, 0), (16, .ireturn, 1, 0), (17, .aload_n 0, 1, 0), (18, .getfield 98, 3, 0), (21, .bipush 47, 2, 0), (23, .iaload, 1, 0), (24, .sipush 400, 3, 0), (27, .if_icmp .ne 5, 3, 32), (30, .iconst 0, 1, 0), (31, .ireturn, 1, 0), (32, .aload_n 0, 1, 0), (33, .invokevirtual 285, 3, 0), (36, .aload_n 0, 1, 0), (37, .iload_n 1, 1, 0), (38, .invokevirtual 299, 3, 0), (41, .ireturn, 1, 0)]
set_option maxRecDepth 100000 in
theorem s_d224 : s_dec prog_14_method_74_code s_t224 := by unfold s_dec; decide +kernel
-- CampAshesModel.passDays(I)I
def s_t225 : List (Nat × Instr × Nat × Nat) := [(0, .iload_n 1, 1, 0), (1, .sipush 400, 3, 0), (4, .aload_n 0, 1, 0), (5, .getfield 98, 3, 0), (8, .bipush 47, 2, 0), (10, .iaload, 1, 0), (11, .isub, 1, 0), (12, .invokestatic 271, 3, 0), (15, .istore_n 2, 1, 0), (16, .iconst 0, 1, 0), (17, .istore_n 3, 1, 0), (18, .iload_n 3, 1, 0), (19, .iload_n 2, 1, 0), (20, .if_icmp .ge 13, 3, 33), (23, .aload_n 0, 1, 0), (24, .invokevirtual 296, 3, 0), (27, .iinc 3 1, 3, 0), (30, .goto (-12), 3, 18), (33, .iload_n 2, 1, 0), (34, .ireturn, 1, 0)]
set_option maxRecDepth 100000 in
theorem s_d225 : s_dec prog_14_method_73_code s_t225 := by unfold s_dec; decide +kernel
-- CampAshesModel.oneDay()V
def s_t226 : List (Nat × Instr × Nat × Nat) := [(0, .iconst 0, 1, 0), (1, .istore_n 1, 1, 0), (2, .iload_n 1, 1, 0), (3, .aload_n 0, 1, 0), (4, .getfield 98, 3, 0), (7, .iconst 0, 1, 0), (8, .iaload, 1, 0), (9, .if_icmp .ge 30, 3, 39), (12, .aload_n 0, 1, 0), (13, .iload_n 1, 1, 0), (14, .invokevirtual 244, 3, 0), (17, .ifCond .eq 16, 3, 33), (20, .aload_n 0, 1, 0), (21, .getfield 98, 3, 0), (24, .bipush 56, 2, 0), (26, .iload_n 1, 1, 0), (27, .iadd, 1, 0), (28, .dup2, 1, 0), (29, .iaload, 1, 0), (30, .iconst 1, 1, 0), (31, .iadd, 1, 0), (32, .iastore, 1, 0), (33, .iinc 1 1, 3, 0), (36, .goto (-34), 3, 2), (39, .aload_n 0, 1, 0), (40, .getfield 98, 3, 0), (43, .bipush 48, 2, 0), (45, .bipush 30, 2, 0), (47, .aload_n 0, 1, 0), (48, .getfield 98, 3, 0), (51, .bipush 48, 2, 0), (53, .iaload, 1, 0), (54, .iconst 2, 1, 0), (55, .idiv, 1, 0), (56, .aload_n 0, 1, 0), (57, .getfield 98, 3, 0), (60, .iconst 4, 1, 0), (61, .iaload, 1, 0), (62, .iadd, 1, 0), (63, .invokestatic 271, 3, 0), (66, .iastore, 1, 0), (67, .aload_n 0, 1, 0), (68, .getfield 98, 3, 0), (71, .bipush 50, 2, 0), (73, .iconst 0, 1, 0), (74, .iastore, 1, 0), (75, .aload_n 0, 1, 0), (76, .getfield 98, 3, 0), (79, .bipush 47, 2, 0), (81, .dup2, 1, 0), (82, .iaload, 1, 0), (83, .iconst 1, 1, 0), (84, .iadd, 1, 0), (85, .iastore, 1, 0), (86, .return_, 1, 0)]
set_option maxRecDepth 100000 in
theorem s_d226 : s_dec prog_14_method_72_code s_t226 := by unfold s_dec; decide +kernel
-- CampAshesModel.best()I
def s_t227 : List (Nat × Instr × Nat × Nat) := [(0, .aload_n 0, 1, 0), (1, .iconst 0, 1, 0), (2, .putfield 1, 3, 0), (5, .aload_n 0, 1, 0), (6, .invokevirtual 314, 3, 0), (9, .istore_n 1, 1, 0), (10, .aload_n 0, 1, 0), (11, .iload_n 1, 1, 0), (12, .invokevirtual 317, 3, 0), (15, .iconst 0, 1, 0), (16, .istore_n 2, 1, 0), (17, .aload_n 0, 1, 0), (18, .iconst 0, 1, 0), (19, .putfield 320, 3, 0), (22, .iload_n 2, 1, 0), (23, .iload_n 1, 1, 0), (24, .if_icmp .eq 67, 3, 91), (27, .iconst 0, 1, 0), (28, .istore_n 3, 1, 0), (29, .iload_n 1, 1, 0), (30, .iload_n 2, 1, 0), (31, .iconst (-1), 1, 0), (32, .ixor, 1, 0), (33, .iand, 1, 0), (34, .iload_n 3, 1, 0), (35, .invokestatic 235, 3, 0), (38, .ifCond .eq 18, 3, 56), (41, .aload_n 0, 1, 0), (42, .iload_n 3, 1, 0), (43, .iload_n 2, 1, 0), (44, .invokevirtual 311, 3, 0), (47, .aload_n 0, 1, 0), (48, .getfield 133, 3, 0), (51, .iload_n 2, 1, 0), (52, .iaload, 1, 0), (53, .if_icmp .eq 9, 3, 62), (56, .iinc 3 1, 3, 0), (59, .goto (-30), 3, 29), (62, .aload_n 0, 1, 0), (63, .getfield 136, 3, 0), (66, .aload_n 0, 1, 0), (67, .getfield 320, 3, 0), (70, .iload_n 3, 1, 0), (71, .iastore, 1, 0), (72, .aload_n 0, 1, 0), (73, .dup, 1, 0), (74, .getfield 320, 3, 0), (77, .iconst 1, 1, 0), (78, .iadd, 1, 0), (79, .putfield 320, 3, 0), (82, .iload_n 2, 1, 0), (83, .iconst 1, 1, 0), (84, .iload_n 3, 1, 0), (85, .ishl, 1, 0), (86, .ior, 1, 0), (87, .istore_n 2, 1, 0), (88, .goto (-66), 3, 22), (91, .aload_n 0, 1, 0), (92, .getfield 133, 3, 0), (95, .iconst 0, 1, 0), (96, .iaload, 1, 0), (97, .ireturn, 1, 0)]
set_option maxRecDepth 100000 in
theorem s_d227 : s_dec prog_14_method_80_code s_t227 := by unfold s_dec; decide +kernel
-- CampAshesModel.tellers()I
def s_t228 : List (Nat × Instr × Nat × Nat) := [(0, .iconst 0, 1, 0), (1, .istore_n 1, 1, 0), (2, .iconst 0, 1, 0), (3, .istore_n 2, 1, 0), (4, .iload_n 2, 1, 0), (5, .aload_n 0, 1, 0), (6, .getfield 98, 3, 0), (9, .iconst 0, 1, 0), (10, .iaload, 1, 0), (11, .if_icmp .ge 32, 3, 43), (14, .aload_n 0, 1, 0), (15, .iload_n 2, 1, 0), (16, .invokevirtual 302, 3, 0), (19, .iconst (-1), 1, 0), (20, .if_icmp .eq 17, 3, 37), (23, .aload_n 0, 1, 0), (24, .iload_n 2, 1, 0), (25, .invokevirtual 247, 3, 0), (28, .ifCond .ne 9, 3, 37), (31, .iload_n 1, 1, 0), (32, .iconst 1, 1, 0), (33, .iload_n 2, 1, 0), (34, .ishl, 1, 0), (35, .ior, 1, 0), (36, .istore_n 1, 1, 0), (37, .iinc 2 1, 3, 0), (40, .goto (-36), 3, 4), (43, .aload_n 0, 1, 0), (44, .invokevirtual 262, 3, 0), (47, .ifCond .ne 13, 3, 60), (50, .aload_n 0, 1, 0), (51, .getfield 98, 3, 0), (54, .bipush 48, 2, 0), (56, .iaload, 1, 0), (57, .ifCond .ne 7, 3, 64), (60, .iconst 0, 1, 0), (61, .goto 4, 3, 65), (64, .iload_n 1, 1, 0), (65, .ireturn, 1, 0)]
set_option maxRecDepth 100000 in
theorem s_d228 : s_dec prog_14_method_76_code s_t228 := by unfold s_dec; decide +kernel
-- CampAshesModel.mostOf(I)I
def s_t229 : List (Nat × Instr × Nat × Nat) := [(0, .iconst (-1), 1, 0), (1, .istore_n 2, 1, 0), (2, .iconst 0, 1, 0), (3, .istore_n 3, 1, 0), (4, .iload_n 3, 1, 0), (5, .aload_n 0, 1, 0), (6, .getfield 98, 3, 0), (9, .iconst 1, 1, 0), (10, .iaload, 1, 0), (11, .if_icmp .ge 35, 3, 46), (14, .aload_n 0, 1, 0), (15, .iload_n 1, 1, 0), (16, .iload_n 3, 1, 0), (17, .invokevirtual 250, 3, 0), (20, .iload_n 2, 1, 0), (21, .iconst (-1), 1, 0), (22, .if_icmp .ne 7, 3, 29), (25, .iconst 0, 1, 0), (26, .goto 9, 3, 35), (29, .aload_n 0, 1, 0), (30, .iload_n 1, 1, 0), (31, .iload_n 2, 1, 0), (32, .invokevirtual 250, 3, 0), (35, .if_icmp .le 5, 3, 40), (38, .iload_n 3, 1, 0), (39, .istore_n 2, 1, 0), (40, .iinc 3 1, 3, 0), (43, .goto (-39), 3, 4), (46, .iload_n 2, 1, 0), (47, .ireturn, 1, 0)]
set_option maxRecDepth 100000 in
theorem s_d229 : s_dec prog_14_method_75_code s_t229 := by unfold s_dec; decide +kernel
-- CampAshesModel.layMore(I)V
def s_t230 : List (Nat × Instr × Nat × Nat) := [(0, .iload_n 1, 1, 0), (1, .istore_n 2, 1, 0), (2, .iload_n 2, 1, 0), (3, .ifCond .lt 80, 3, 83), (6, .iload_n 2, 1, 0), (7, .iload_n 1, 1, 0), (8, .iconst (-1), 1, 0), (9, .ixor, 1, 0), (10, .iand, 1, 0), (11, .ifCond .eq 6, 3, 17), (14, .goto 63, 3, 77), (17, .aload_n 0, 1, 0), (18, .getfield 133, 3, 0), (21, .iload_n 2, 1, 0), (22, .iconst 0, 1, 0), (23, .iastore, 1, 0), (24, .iconst 0, 1, 0), (25, .istore_n 3, 1, 0), (26, .iload_n 3, 1, 0), (27, .bipush 7, 2, 0), (29, .if_icmp .ge 48, 3, 77), (32, .iload_n 1, 1, 0), (33, .iload_n 2, 1, 0), (34, .iconst (-1), 1, 0), (35, .ixor, 1, 0), (36, .iand, 1, 0), (37, .iload_n 3, 1, 0), (38, .invokestatic 235, 3, 0), (41, .ifCond .eq 30, 3, 71), (44, .aload_n 0, 1, 0), (45, .iload_n 3, 1, 0), (46, .iload_n 2, 1, 0), (47, .invokevirtual 311, 3, 0), (50, .aload_n 0, 1, 0), (51, .getfield 133, 3, 0), (54, .iload_n 2, 1, 0), (55, .iaload, 1, 0), (56, .if_icmp .le 15, 3, 71), (59, .aload_n 0, 1, 0), (60, .getfield 133, 3, 0), (63, .iload_n 2, 1, 0), (64, .aload_n 0, 1, 0), (65, .iload_n 3, 1, 0), (66, .iload_n 2, 1, 0), (67, .invokevirtual 311, 3, 0), (70, .iastore, 1, 0), (71, .iinc 3 1, 3, 0), (74, .goto (-48), 3, 26), (77, .iinc 2 (-1), 3, 0), (80, .goto (-78), 3, 2), (83, .return_, 1, 0)]
set_option maxRecDepth 100000 in
theorem s_d230 : s_dec prog_14_method_79_code s_t230 := by unfold s_dec; decide +kernel
-- CampAshesModel.moreBy(II)I
def s_t231 : List (Nat × Instr × Nat × Nat) := [(0, .aload_n 0, 1, 0), (1, .iload_n 1, 1, 0), (2, .iload_n 2, 1, 0), (3, .invokevirtual 308, 3, 0), (6, .aload_n 0, 1, 0), (7, .getfield 133, 3, 0), (10, .iload_n 2, 1, 0), (11, .iconst 1, 1, 0), (12, .iload_n 1, 1, 0), (13, .ishl, 1, 0), (14, .ior, 1, 0), (15, .iaload, 1, 0), (16, .iadd, 1, 0), (17, .ireturn, 1, 0)]
set_option maxRecDepth 100000 in
theorem s_d231 : s_dec prog_14_method_78_code s_t231 := by unfold s_dec; decide +kernel
-- CampAshesModel.takenBy(II)I
def s_t232 : List (Nat × Instr × Nat × Nat) := [(0, .aload_n 0, 1, 0), (1, .getfield 98, 3, 0), (4, .bipush 48, 2, 0), (6, .iaload, 1, 0), (7, .iload_n 2, 1, 0), (8, .invokestatic 305, 3, 0), (11, .isub, 1, 0), (12, .istore_n 3, 1, 0), (13, .iload_n 3, 1, 0), (14, .ifCond .gt 7, 3, 21), (17, .iconst 0, 1, 0), (18, .goto 34, 3, 52), (21, .aload_n 0, 1, 0), (22, .iload_n 1, 1, 0), (23, .aload_n 0, 1, 0), (24, .iload_n 1, 1, 0), (25, .invokevirtual 302, 3, 0), (28, .invokevirtual 250, 3, 0), (31, .aload_n 0, 1, 0), (32, .aload_n 0, 1, 0), (33, .getfield 98, 3, 0), (36, .bipush 27, 2, 0), (38, .aload_n 0, 1, 0), (39, .iload_n 1, 1, 0), (40, .invokevirtual 302, 3, 0), (43, .iadd, 1, 0), (44, .iaload, 1, 0), (45, .iload_n 3, 1, 0), (46, .invokevirtual 259, 3, 0), (49, .invokestatic 271, 3, 0), (52, .ireturn, 1, 0)]
set_option maxRecDepth 100000 in
theorem s_d232 : s_dec prog_14_method_77_code s_t232 := by unfold s_dec; decide +kernel
-- CampAshesModel.bits(I)I
def s_t233 : List (Nat × Instr × Nat × Nat) := [(0, .iconst 0, 1, 0), (1, .istore_n 1, 1, 0), (2, .iload_n 0, 1, 0), (3, .istore_n 2, 1, 0), (4, .iload_n 2, 1, 0), (5, .ifCond .eq 15, 3, 20), (8, .iinc 1 1, 3, 0), (11, .iload_n 2, 1, 0), (12, .iload_n 2, 1, 0), (13, .iconst 1, 1, 0), (14, .isub, 1, 0), (15, .iand, 1, 0), (16, .istore_n 2, 1, 0), (17, .goto (-13), 3, 4), (20, .iload_n 1, 1, 0), (21, .ireturn, 1, 0)]
set_option maxRecDepth 100000 in
theorem s_d233 : s_dec prog_14_method_9_code s_t233 := by unfold s_dec; decide +kernel
end
section
-- CampAshesModel.bestAt(I)I
def s_t234 : List (Nat × Instr × Nat × Nat) := [(0, .aload_n 0, 1, 0), (1, .iconst 0, 1, 0), (2, .putfield 1, 3, 0), (5, .iload_n 1, 1, 0), (6, .iconst 0, 1, 0), (7, .aload_n 0, 1, 0), (8, .getfield 320, 3, 0), (11, .iconst 1, 1, 0), (12, .isub, 1, 0), (13, .invokestatic 75, 3, 0), (16, .ifCond .eq 12, 3, 28), (19, .aload_n 0, 1, 0), (20, .getfield 136, 3, 0), (23, .iload_n 1, 1, 0), (24, .iaload, 1, 0), (25, .goto 4, 3, 29), (28, .iconst (-1), 1, 0), (29, .ireturn, 1, 0)]
set_option maxRecDepth 100000 in
theorem s_d234 : s_dec prog_14_method_81_code s_t234 := by unfold s_dec; decide +kernel
-- CampAshesModel.spread()I
def s_t235 : List (Nat × Instr × Nat × Nat) := [(0, .aload_n 0, 1, 0), (1, .iconst 0, 1, 0), (2, .putfield 1, 3, 0), (5, .iconst 0, 1, 0), (6, .istore_n 1, 1, 0), (7, .iconst 0, 1, 0), (8, .istore_n 2, 1, 0), (9, .iconst 0, 1, 0), (10, .istore_n 3, 1, 0), (11, .iload_n 3, 1, 0), (12, .aload_n 0, 1, 0), (13, .getfield 98, 3, 0), (16, .iconst 0, 1, 0), (17, .iaload, 1, 0), (18, .if_icmp .ge 44, 3, 62), (21, .aload_n 0, 1, 0), (22, .iload_n 3, 1, 0), (23, .invokevirtual 232, 3, 0), (26, .aload_n 0, 1, 0), (27, .getfield 98, 3, 0), (30, .bipush 10, 2, 0), (32, .iload_n 3, 1, 0), (33, .iadd, 1, 0), (34, .iaload, 1, 0), (35, .isub, 1, 0), (36, .istore 4, 2, 0), (38, .iload 4, 2, 0), (40, .ifCond .le 11, 3, 51), (43, .iload_n 1, 1, 0), (44, .iload 4, 2, 0), (46, .iadd, 1, 0), (47, .istore_n 1, 1, 0), (48, .goto 8, 3, 56), (51, .iload_n 2, 1, 0), (52, .iload 4, 2, 0), (54, .isub, 1, 0), (55, .istore_n 2, 1, 0), (56, .iinc 3 1, 3, 0), (59, .goto (-48), 3, 11), (62, .iload_n 1, 1, 0), (63, .iload_n 2, 1, 0), (64, .if_icmp .le 5, 3, 69), (67, .iconst (-1), 1, 0), (68, .ireturn, 1, 0), (69, .iload_n 1, 1, 0), (70, .istore_n 3, 1, 0), (71, .iconst 0, 1, 0), (72, .istore 4, 2, 0), (74, .iload 4, 2, 0), (76, .aload_n 0, 1, 0), (77, .getfield 98, 3, 0), (80, .iconst 0, 1, 0), (81, .iaload, 1, 0), (82, .if_icmp .ge 60, 3, 142), (85, .aload_n 0, 1, 0), (86, .getfield 139, 3, 0), (89, .iload 4, 2, 0), (91, .aload_n 0, 1, 0), (92, .iload 4, 2, 0), (94, .invokevirtual 244, 3, 0), (97, .ifCond .eq 7, 3, 104), (100, .iconst 0, 1, 0), (101, .goto 24, 3, 125), (104, .iload_n 3, 1, 0), (105, .aload_n 0, 1, 0), (106, .getfield 98, 3, 0), (109, .bipush 10, 2, 0), (111, .iload 4, 2, 0), (113, .iadd, 1, 0), (114, .iaload, 1, 0), (115, .aload_n 0, 1, 0), (116, .iload 4, 2, 0), (118, .invokevirtual 232, 3, 0), (121, .isub, 1, 0), (122, .invokestatic 271, 3, 0), (125, .iastore, 1, 0), (126, .iload_n 3, 1, 0), (127, .aload_n 0, 1, 0), (128, .getfield 139, 3, 0), (131, .iload 4, 2, 0), (133, .iaload, 1, 0), (134, .isub, 1, 0), (135, .istore_n 3, 1, 0), (136, .iinc 4 1, 3, 0), (139, .goto (-65), 3, 74), (142, .aload_n 0, 1, 0), (143, .aload_n 0, 1, 0), (144, .getfield 98, 3, 0), (147, .iconst 0, 1, 0), (148, .iaload, 1, 0), (149, .putfield 323, 3, 0), (152, .aload_n 0, 1, 0), (153, .iconst 1, 1, 0), (154, .putfield 326, 3, 0), (157, .iload_n 1, 1, 0), (158, .ireturn, 1, 0)]
set_option maxRecDepth 100000 in
theorem s_d235 : s_dec prog_14_method_82_code s_t235 := by unfold s_dec; decide +kernel
-- CampAshesModel.spreadOf(I)I
def s_t236 : List (Nat × Instr × Nat × Nat) := [(0, .aload_n 0, 1, 0), (1, .iconst 0, 1, 0), (2, .putfield 1, 3, 0), (5, .aload_n 0, 1, 0), (6, .getfield 326, 3, 0), (9, .ifCond .eq 26, 3, 35), (12, .iload_n 1, 1, 0), (13, .iconst 0, 1, 0), (14, .aload_n 0, 1, 0), (15, .getfield 323, 3, 0), (18, .iconst 1, 1, 0), (19, .isub, 1, 0), (20, .invokestatic 75, 3, 0), (23, .ifCond .eq 12, 3, 35), (26, .aload_n 0, 1, 0), (27, .getfield 139, 3, 0), (30, .iload_n 1, 1, 0), (31, .iaload, 1, 0), (32, .goto 4, 3, 36), (35, .iconst (-1), 1, 0), (36, .ireturn, 1, 0)]
set_option maxRecDepth 100000 in
theorem s_d236 : s_dec prog_14_method_83_code s_t236 := by unfold s_dec; decide +kernel
-- CampAshesModel.says(II)I
def s_t237 : List (Nat × Instr × Nat × Nat) := [(0, .aload_n 0, 1, 0), (1, .iconst 0, 1, 0), (2, .putfield 1, 3, 0), (5, .aload_n 0, 1, 0), (6, .iload_n 1, 1, 0), (7, .invokevirtual 238, 3, 0), (10, .ifCond .eq 14, 3, 24), (13, .iload_n 2, 1, 0), (14, .iconst 1, 1, 0), (15, .sipush 200, 3, 0), (18, .invokestatic 75, 3, 0), (21, .ifCond .ne 5, 3, 26), (24, .iconst (-1), 1, 0), (25, .ireturn, 1, 0), (26, .iconst (-1), 1, 0), (27, .istore_n 3, 1, 0), (28, .iconst 1, 1, 0), (29, .aload_n 0, 1, 0), (30, .getfield 98, 3, 0), (33, .iconst 1, 1, 0), (34, .iaload, 1, 0), (35, .ishl, 1, 0), (36, .iconst 1, 1, 0), (37, .isub, 1, 0), (38, .istore 4, 2, 0), (40, .iload 4, 2, 0), (42, .ifCond .le 109, 3, 151), (45, .iconst 0, 1, 0), (46, .istore 5, 2, 0), (48, .iconst 1, 1, 0), (49, .istore 6, 2, 0), (51, .iconst 0, 1, 0), (52, .istore 7, 2, 0), (54, .iload 7, 2, 0), (56, .bipush 10, 2, 0), (58, .if_icmp .ge 56, 3, 114), (61, .iload 4, 2, 0), (63, .iload 7, 2, 0), (65, .invokestatic 235, 3, 0), (68, .ifCond .ne 6, 3, 74), (71, .goto 37, 3, 108), (74, .iload 5, 2, 0), (76, .aload_n 0, 1, 0), (77, .iload_n 1, 1, 0), (78, .iload 7, 2, 0), (80, .invokevirtual 250, 3, 0), (83, .iadd, 1, 0), (84, .istore 5, 2, 0), (86, .iload 6, 2, 0), (88, .ifCond .eq 17, 3, 105), (91, .aload_n 0, 1, 0), (92, .iload_n 1, 1, 0), (93, .iload 7, 2, 0), (95, .invokevirtual 250, 3, 0), (98, .ifCond .le 7, 3, 105), (101, .iconst 1, 1, 0), (102, .goto 4, 3, 106), (105, .iconst 0, 1, 0), (106, .istore 6, 2, 0), (108, .iinc 7 1, 3, 0), (111, .goto (-57), 3, 54), (114, .iload 6, 2, 0), (116, .ifCond .eq 29, 3, 145), (119, .iload 5, 2, 0), (121, .iload_n 2, 1, 0), (122, .if_icmp .ne 23, 3, 145), (125, .iload_n 3, 1, 0), (126, .iconst (-1), 1, 0), (127, .if_icmp .eq 15, 3, 142), (130, .iload 4, 2, 0), (132, .invokestatic 305, 3, 0), (135, .iload_n 3, 1, 0), (136, .invokestatic 305, 3, 0), (139, .if_icmp .gt 6, 3, 145), (142, .iload 4, 2, 0), (144, .istore_n 3, 1, 0), (145, .iinc 4 (-1), 3, 0), (148, .goto (-108), 3, 40), (151, .iload_n 3, 1, 0), (152, .iconst (-1), 1, 0), (153, .if_icmp .ne 5, 3, 158), (156, .iconst (-1), 1, 0), (157, .ireturn, 1, 0), (158, .aload_n 0, 1, 0), (159, .iload_n 3, 1, 0), (160, .putfield 142, 3, 0), (163, .iload_n 3, 1, 0), (164, .invokestatic 305, 3, 0), (167, .ireturn, 1, 0)]
set_option maxRecDepth 100000 in
theorem s_d237 : s_dec prog_14_method_84_code s_t237 := by unfold s_dec; decide +kernel
-- CampAshesModel.saying()I
def s_t238 : List (Nat × Instr × Nat × Nat) := [(0, .aload_n 0, 1, 0), (1, .iconst 0, 1, 0), (2, .putfield 1, 3, 0), (5, .aload_n 0, 1, 0), (6, .getfield 142, 3, 0), (9, .ireturn, 1, 0)]
set_option maxRecDepth 100000 in
theorem s_d238 : s_dec prog_14_method_85_code s_t238 := by unfold s_dec; decide +kernel
-- CampAshesModel.tents(I)I
def s_t239 : List (Nat × Instr × Nat × Nat) := [(0, .aload_n 0, 1, 0), (1, .iconst 0, 1, 0), (2, .putfield 1, 3, 0), (5, .iload_n 1, 1, 0), (6, .iconst 1, 1, 0), (7, .sipush 400, 3, 0), (10, .invokestatic 75, 3, 0), (13, .ifCond .ne 5, 3, 18), (16, .iconst (-1), 1, 0), (17, .ireturn, 1, 0), (18, .iconst 0, 1, 0), (19, .istore_n 2, 1, 0), (20, .iload_n 2, 1, 0), (21, .aload_n 0, 1, 0), (22, .getfield 98, 3, 0), (25, .iconst 0, 1, 0), (26, .iaload, 1, 0), (27, .if_icmp .ge 20, 3, 47), (30, .aload_n 0, 1, 0), (31, .iload_n 2, 1, 0), (32, .invokevirtual 232, 3, 0), (35, .iload_n 1, 1, 0), (36, .if_icmp .le 5, 3, 41), (39, .iconst (-1), 1, 0), (40, .ireturn, 1, 0), (41, .iinc 2 1, 3, 0), (44, .goto (-24), 3, 20), (47, .aload_n 0, 1, 0), (48, .getfield 145, 3, 0), (51, .iconst 0, 1, 0), (52, .iload_n 1, 1, 0), (53, .iastore, 1, 0), (54, .iconst 1, 1, 0), (55, .aload_n 0, 1, 0), (56, .getfield 98, 3, 0), (59, .iconst 0, 1, 0), (60, .iaload, 1, 0), (61, .ishl, 1, 0), (62, .iconst 1, 1, 0), (63, .isub, 1, 0), (64, .istore_n 2, 1, 0), (65, .iconst 1, 1, 0), (66, .istore_n 3, 1, 0), (67, .iload_n 3, 1, 0), (68, .iload_n 2, 1, 0), (69, .if_icmp .gt 85, 3, 154), (72, .aload_n 0, 1, 0), (73, .getfield 145, 3, 0), (76, .iload_n 3, 1, 0), (77, .ldc_w 330, 3, 0), (80, .iastore, 1, 0), (81, .iconst 0, 1, 0), (82, .istore 4, 2, 0), (84, .iload 4, 2, 0), (86, .aload_n 0, 1, 0), (87, .getfield 98, 3, 0), (90, .iconst 0, 1, 0), (91, .iaload, 1, 0), (92, .if_icmp .ge 56, 3, 148), (95, .iload_n 3, 1, 0), (96, .iload 4, 2, 0), (98, .invokestatic 235, 3, 0), (101, .ifCond .eq 41, 3, 142), (104, .aload_n 0, 1, 0), (105, .getfield 145, 3, 0), (108, .iload_n 3, 1, 0), (109, .aload_n 0, 1, 0), (110, .getfield 145, 3, 0), (113, .iload_n 3, 1, 0), (114, .iaload, 1, 0), (115, .aload_n 0, 1, 0), (116, .getfield 145, 3, 0), (119, .iload_n 3, 1, 0), (120, .iconst 1, 1, 0), (121, .iload 4, 2, 0), (123, .ishl, 1, 0), (124, .iconst (-1), 1, 0), (125, .ixor, 1, 0), (126, .iand, 1, 0), (127, .iaload, 1, 0), (128, .aload_n 0, 1, 0), (129, .iload 4, 2, 0), (131, .invokevirtual 232, 3, 0), (134, .iload_n 1, 1, 0), (135, .invokestatic 331, 3, 0), (138, .invokestatic 271, 3, 0), (141, .iastore, 1, 0), (142, .iinc 4 1, 3, 0), (145, .goto (-61), 3, 84), (148, .iinc 3 1, 3, 0), (151, .goto (-84), 3, 67), (154, .iload_n 2, 1, 0), (155, .ifCond .ne 7, 3, 162), (158, .iconst 0, 1, 0), (159, .goto 13, 3, 172), (162, .aload_n 0, 1, 0), (163, .getfield 145, 3, 0), (166, .iload_n 2, 1, 0), (167, .iaload, 1, 0), (168, .sipush 1000, 3, 0), (171, .idiv, 1, 0), (172, .ireturn, 1, 0)]
set_option maxRecDepth 100000 in
theorem s_d239 : s_dec prog_14_method_86_code s_t239 := by unfold s_dec; decide +kernel
-- CampAshesModel.withOne(III)I
def s_t240 : List (Nat × Instr × Nat × Nat) := [(0, .iload_n 0, 1, 0), (1, .sipush 1000, 3, 0), (4, .irem, 1, 0), (5, .iload_n 1, 1, 0), (6, .iadd, 1, 0), (7, .iload_n 2, 1, 0), (8, .if_icmp .gt 14, 3, 22), (11, .iload_n 0, 1, 0), (12, .sipush 1000, 3, 0), (15, .if_icmp .lt 7, 3, 22), (18, .iload_n 0, 1, 0), (19, .iload_n 1, 1, 0), (20, .iadd, 1, 0), (21, .ireturn, 1, 0), (22, .iload_n 0, 1, 0), (23, .iload_n 0, 1, 0), (24, .sipush 1000, 3, 0), (27, .irem, 1, 0), (28, .isub, 1, 0), (29, .sipush 1000, 3, 0), (32, .iadd, 1, 0), (33, .iload_n 1, 1, 0), (34, .iadd, 1, 0), (35, .ireturn, 1, 0)]
set_option maxRecDepth 100000 in
theorem s_d240 : s_dec prog_14_method_87_code s_t240 := by unfold s_dec; decide +kernel
-- CampAshesModel.laws()I
def s_t241 : List (Nat × Instr × Nat × Nat) := [(0, .aload_n 0, 1, 0), (1, .iconst 0, 1, 0), (2, .putfield 1, 3, 0), (5, .aload_n 0, 1, 0), (6, .invokevirtual 89, 3, 0), (9, .istore_n 1, 1, 0), (10, .iload_n 1, 1, 0), (11, .iconst 3, 1, 0), (12, .irem, 1, 0), (13, .ifCond .ne 15, 3, 28), (16, .iload_n 1, 1, 0), (17, .iconst 3, 1, 0), (18, .idiv, 1, 0), (19, .iconst 1, 1, 0), (20, .bipush 6, 2, 0), (22, .invokestatic 75, 3, 0), (25, .ifCond .ne 5, 3, 30), (28, .iconst (-1), 1, 0), (29, .ireturn, 1, 0), (30, .iconst 0, 1, 0), (31, .istore_n 2, 1, 0), (32, .iload_n 2, 1, 0), (33, .iload_n 1, 1, 0), (34, .if_icmp .ge 26, 3, 60), (37, .aload_n 0, 1, 0), (38, .getfield 7, 3, 0), (41, .iload_n 2, 1, 0), (42, .iaload, 1, 0), (43, .iconst 1, 1, 0), (44, .bipush 30, 2, 0), (46, .invokestatic 75, 3, 0), (49, .ifCond .ne 5, 3, 54), (52, .iconst (-1), 1, 0), (53, .ireturn, 1, 0), (54, .iinc 2 3, 3, 0), (57, .goto (-25), 3, 32), (60, .iconst 0, 1, 0), (61, .istore_n 2, 1, 0), (62, .iconst 0, 1, 0), (63, .istore_n 3, 1, 0), (64, .iload_n 3, 1, 0), (65, .bipush 9, 2, 0), (67, .if_icmp .gt 82, 3, 149), (70, .iconst 1, 1, 0), (71, .istore 4, 2, 0), (73, .iconst 0, 1, 0), (74, .istore 5, 2, 0), (76, .iload 5, 2, 0), (78, .iload_n 1, 1, 0), (79, .if_icmp .ge 53, 3, 132), (82, .iload 4, 2, 0), (84, .ifCond .eq 39, 3, 123), (87, .aload_n 0, 1, 0), (88, .getfield 7, 3, 0), (91, .iload 5, 2, 0), (93, .iconst 1, 1, 0), (94, .iadd, 1, 0), (95, .iaload, 1, 0), (96, .iload_n 3, 1, 0), (97, .aload_n 0, 1, 0), (98, .getfield 7, 3, 0), (101, .iload 5, 2, 0), (103, .iaload, 1, 0), (104, .invokestatic 335, 3, 0), (107, .aload_n 0, 1, 0), (108, .getfield 7, 3, 0), (111, .iload 5, 2, 0), (113, .iconst 2, 1, 0), (114, .iadd, 1, 0), (115, .iaload, 1, 0), (116, .if_icmp .ne 7, 3, 123), (119, .iconst 1, 1, 0), (120, .goto 4, 3, 124), (123, .iconst 0, 1, 0), (124, .istore 4, 2, 0), (126, .iinc 5 3, 3, 0), (129, .goto (-53), 3, 76), (132, .iload 4, 2, 0), (134, .ifCond .eq 9, 3, 143), (137, .iload_n 2, 1, 0), (138, .iconst 1, 1, 0), (139, .iload_n 3, 1, 0), (140, .ishl, 1, 0), (141, .ior, 1, 0), (142, .istore_n 2, 1, 0), (143, .iinc 3 1, 3, 0), (146, .goto (-82), 3, 64), (149, .iload_n 2, 1, 0), (150, .ifCond .ne 5, 3, 155), (153, .iconst 0, 1, 0), (154, .ireturn, 1, 0), (155, .aload_n 0, 1, 0), (156, .iconst 1, 1, 0), (157, .putfield 148, 3, 0), (160, .iconst 2, 1, 0), (161, .istore_n 3, 1, 0), (162, .iload_n 3, 1, 0), (163, .bipush 40, 2, 0), (165, .if_icmp .gt 32, 3, 197), (168, .aload_n 0, 1, 0), (169, .iload_n 2, 1, 0), (170, .iload_n 3, 1, 0), (171, .invokevirtual 338, 3, 0), (174, .aload_n 0, 1, 0), (175, .iload_n 2, 1, 0), (176, .aload_n 0, 1, 0), (177, .getfield 148, 3, 0), (180, .invokevirtual 338, 3, 0), (183, .if_icmp .ge 8, 3, 191), (186, .aload_n 0, 1, 0), (187, .iload_n 3, 1, 0), (188, .putfield 148, 3, 0), (191, .iinc 3 1, 3, 0), (194, .goto (-32), 3, 162), (197, .iload_n 2, 1, 0), (198, .ireturn, 1, 0)]
set_option maxRecDepth 100000 in
theorem s_d241 : s_dec prog_14_method_90_code s_t241 := by unfold s_dec; decide +kernel
-- CampAshesModel.behindOf(III)I
def s_t242 : List (Nat × Instr × Nat × Nat) := [(0, .iload_n 0, 1, 0), (1, .iload_n 1, 1, 0), (2, .isub, 1, 0), (3, .iload_n 2, 1, 0), (4, .iconst 5, 1, 0), (5, .idiv, 1, 0), (6, .isub, 1, 0), (7, .istore_n 3, 1, 0), (8, .iload_n 3, 1, 0), (9, .ifCond .ge 7, 3, 16), (12, .iconst 0, 1, 0), (13, .goto 4, 3, 17), (16, .iload_n 3, 1, 0), (17, .ireturn, 1, 0)]
set_option maxRecDepth 100000 in
theorem s_d242 : s_dec prog_14_method_88_code s_t242 := by unfold s_dec; decide +kernel
-- CampAshesModel.leftBy(II)I
def s_t243 : List (Nat × Instr × Nat × Nat) := [(0, .iconst 0, 1, 0), (1, .istore_n 3, 1, 0), (2, .iload_n 3, 1, 0), (3, .bipush 40, 2, 0), (5, .if_icmp .gt 16, 3, 21), (8, .aload_n 0, 1, 0), (9, .getfield 151, 3, 0), (12, .iload_n 3, 1, 0), (13, .iconst 0, 1, 0), (14, .iastore, 1, 0), (15, .iinc 3 1, 3, 0), (18, .goto (-16), 3, 2), (21, .iconst 0, 1, 0), (22, .istore_n 3, 1, 0), (23, .iconst 0, 1, 0), (24, .istore 4, 2, 0), (26, .iload 4, 2, 0), (28, .bipush 9, 2, 0), (30, .if_icmp .gt 61, 3, 91), (33, .iload_n 1, 1, 0), (34, .iload 4, 2, 0), (36, .invokestatic 235, 3, 0), (39, .ifCond .ne 6, 3, 45), (42, .goto 43, 3, 85), (45, .iload_n 2, 1, 0), (46, .iload 4, 2, 0), (48, .bipush 10, 2, 0), (50, .invokestatic 335, 3, 0), (53, .istore 5, 2, 0), (55, .aload_n 0, 1, 0), (56, .getfield 151, 3, 0), (59, .iload 5, 2, 0), (61, .dup2, 1, 0), (62, .iaload, 1, 0), (63, .iconst 1, 1, 0), (64, .iadd, 1, 0), (65, .iastore, 1, 0), (66, .aload_n 0, 1, 0), (67, .getfield 151, 3, 0), (70, .iload 5, 2, 0), (72, .iaload, 1, 0), (73, .iload_n 3, 1, 0), (74, .if_icmp .le 11, 3, 85), (77, .aload_n 0, 1, 0), (78, .getfield 151, 3, 0), (81, .iload 5, 2, 0), (83, .iaload, 1, 0), (84, .istore_n 3, 1, 0), (85, .iinc 4 1, 3, 0), (88, .goto (-62), 3, 26), (91, .iload_n 3, 1, 0), (92, .ireturn, 1, 0)]
set_option maxRecDepth 100000 in
theorem s_d243 : s_dec prog_14_method_89_code s_t243 := by unfold s_dec; decide +kernel
-- CampAshesModel.watch()I
def s_t244 : List (Nat × Instr × Nat × Nat) := [(0, .aload_n 0, 1, 0), (1, .iconst 0, 1, 0), (2, .putfield 1, 3, 0), (5, .aload_n 0, 1, 0), (6, .getfield 148, 3, 0), (9, .ireturn, 1, 0)]
set_option maxRecDepth 100000 in
theorem s_d244 : s_dec prog_14_method_91_code s_t244 := by unfold s_dec; decide +kernel
-- CampAshesModel.calm(I)I
def s_t245 : List (Nat × Instr × Nat × Nat) := [(0, .aload_n 0, 1, 0), (1, .iconst 0, 1, 0), (2, .putfield 1, 3, 0), (5, .aload_n 0, 1, 0), (6, .iload_n 1, 1, 0), (7, .invokevirtual 238, 3, 0), (10, .ifCond .ne 5, 3, 15), (13, .iconst (-1), 1, 0), (14, .ireturn, 1, 0), (15, .aload_n 0, 1, 0), (16, .invokevirtual 341, 3, 0), (19, .aload_n 0, 1, 0), (20, .iload_n 1, 1, 0), (21, .invokevirtual 244, 3, 0), (24, .ifCond .eq 72, 3, 96), (27, .aload_n 0, 1, 0), (28, .getfield 98, 3, 0), (31, .bipush 47, 2, 0), (33, .iaload, 1, 0), (34, .sipush 400, 3, 0), (37, .if_icmp .ge 59, 3, 96), (40, .iconst 0, 1, 0), (41, .istore_n 2, 1, 0), (42, .iload_n 2, 1, 0), (43, .aload_n 0, 1, 0), (44, .getfield 98, 3, 0), (47, .iconst 0, 1, 0), (48, .iaload, 1, 0), (49, .if_icmp .ge 40, 3, 89), (52, .aload_n 0, 1, 0), (53, .iload_n 2, 1, 0), (54, .invokevirtual 244, 3, 0), (57, .ifCond .eq 26, 3, 83), (60, .aload_n 0, 1, 0), (61, .iload_n 2, 1, 0), (62, .aload_n 0, 1, 0), (63, .iload_n 2, 1, 0), (64, .invokevirtual 302, 3, 0), (67, .invokevirtual 268, 3, 0), (70, .ifCond .ne 13, 3, 83), (73, .aload_n 0, 1, 0), (74, .iload_n 2, 1, 0), (75, .aload_n 0, 1, 0), (76, .iload_n 2, 1, 0), (77, .invokevirtual 302, 3, 0), (80, .invokevirtual 277, 3, 0), (83, .iinc 2 1, 3, 0), (86, .goto (-44), 3, 42), (89, .aload_n 0, 1, 0), (90, .invokevirtual 296, 3, 0), (93, .goto (-74), 3, 19), (96, .aload_n 0, 1, 0), (97, .iload_n 1, 1, 0), (98, .invokevirtual 244, 3, 0), (101, .ifCond .eq 7, 3, 108), (104, .iconst (-1), 1, 0), (105, .goto 10, 3, 115), (108, .aload_n 0, 1, 0), (109, .getfield 98, 3, 0), (112, .bipush 47, 2, 0), (114, .iaload, 1, 0), (115, .istore_n 2, 1, 0), (116, .aload_n 0, 1, 0), (117, .invokevirtual 344, 3, 0), (120, .iload_n 2, 1, 0), (121, .iconst (-1), 1, 0), (122, .if_icmp .ne 7, 3, 129), (125, .iconst (-1), 1, 0), (126, .goto 12, 3, 138), (129, .iload_n 2, 1, 0), (130, .aload_n 0, 1, 0), (131, .getfield 98, 3, 0), (134, .bipush 47, 2, 0), (136, .iaload, 1, 0), (137, .isub, 1, 0), (138, .ireturn, 1, 0)]
set_option maxRecDepth 100000 in
theorem s_d245 : s_dec prog_14_method_94_code s_t245 := by unfold s_dec; decide +kernel
-- CampAshesModel.layAside()V
def s_t246 : List (Nat × Instr × Nat × Nat) := [(0, .iconst 0, 1, 0), (1, .istore_n 1, 1, 0), (2, .iload_n 1, 1, 0), (3, .bipush 86, 2, 0), (5, .if_icmp .ge 24, 3, 29), (8, .aload_n 0, 1, 0), (9, .getfield 110, 3, 0), (12, .iload_n 1, 1, 0), (13, .aload_n 0, 1, 0), (14, .getfield 98, 3, 0), (17, .bipush 47, 2, 0), (19, .iload_n 1, 1, 0), (20, .iadd, 1, 0), (21, .iaload, 1, 0), (22, .iastore, 1, 0), (23, .iinc 1 1, 3, 0), (26, .goto (-24), 3, 2), (29, .return_, 1, 0)]
set_option maxRecDepth 100000 in
theorem s_d246 : s_dec prog_14_method_92_code s_t246 := by unfold s_dec; decide +kernel
end
section
-- CampAshesModel.takeBack()V
def s_t247 : List (Nat × Instr × Nat × Nat) := [(0, .iconst 0, 1, 0), (1, .istore_n 1, 1, 0), (2, .iload_n 1, 1, 0), (3, .bipush 86, 2, 0), (5, .if_icmp .ge 24, 3, 29), (8, .aload_n 0, 1, 0), (9, .getfield 98, 3, 0), (12, .bipush 47, 2, 0), (14, .iload_n 1, 1, 0), (15, .iadd, 1, 0), (16, .aload_n 0, 1, 0), (17, .getfield 110, 3, 0), (20, .iload_n 1, 1, 0), (21, .iaload, 1, 0), (22, .iastore, 1, 0), (23, .iinc 1 1, 3, 0), (26, .goto (-24), 3, 2), (29, .return_, 1, 0)]
set_option maxRecDepth 100000 in
theorem s_d247 : s_dec prog_14_method_93_code s_t247 := by unfold s_dec; decide +kernel
-- CampAshesModel.tag(I)I
def s_t248 : List (Nat × Instr × Nat × Nat) := [(0, .aload_n 0, 1, 0), (1, .iconst 0, 1, 0), (2, .putfield 1, 3, 0), (5, .aload_n 0, 1, 0), (6, .iload_n 1, 1, 0), (7, .invokevirtual 238, 3, 0), (10, .ifCond .ne 5, 3, 15), (13, .iconst (-1), 1, 0), (14, .ireturn, 1, 0), (15, .aload_n 0, 1, 0), (16, .iconst 0, 1, 0), (17, .putfield 347, 3, 0), (20, .aload_n 0, 1, 0), (21, .aload_n 0, 1, 0), (22, .getfield 113, 3, 0), (25, .iload_n 1, 1, 0), (26, .laload, 1, 0), (27, .invokevirtual 350, 3, 0), (30, .aload_n 0, 1, 0), (31, .bipush 26, 2, 0), (33, .invokestatic 62, 3, 0), (36, .invokevirtual 360, 3, 0), (39, .aload_n 0, 1, 0), (40, .bipush 32, 2, 0), (42, .invokevirtual 354, 3, 0), (45, .aload_n 0, 1, 0), (46, .aload_n 0, 1, 0), (47, .iload_n 1, 1, 0), (48, .invokevirtual 232, 3, 0), (51, .invokevirtual 357, 3, 0), (54, .aload_n 0, 1, 0), (55, .bipush 111, 2, 0), (57, .bipush 102, 2, 0), (59, .iconst 0, 1, 0), (60, .iconst 0, 1, 0), (61, .iconst 0, 1, 0), (62, .iconst 0, 1, 0), (63, .invokestatic 58, 3, 0), (66, .invokevirtual 360, 3, 0), (69, .aload_n 0, 1, 0), (70, .bipush 32, 2, 0), (72, .invokevirtual 354, 3, 0), (75, .aload_n 0, 1, 0), (76, .aload_n 0, 1, 0), (77, .getfield 98, 3, 0), (80, .bipush 10, 2, 0), (82, .iload_n 1, 1, 0), (83, .iadd, 1, 0), (84, .iaload, 1, 0), (85, .invokevirtual 357, 3, 0), (88, .aload_n 0, 1, 0), (89, .iload_n 1, 1, 0), (90, .invokevirtual 244, 3, 0), (93, .ifCond .eq 21, 3, 114), (96, .aload_n 0, 1, 0), (97, .bipush 119, 2, 0), (99, .bipush 101, 2, 0), (101, .bipush 101, 2, 0), (103, .bipush 112, 2, 0), (105, .bipush 115, 2, 0), (107, .iconst 0, 1, 0), (108, .invokestatic 58, 3, 0), (111, .invokevirtual 360, 3, 0), (114, .aload_n 0, 1, 0), (115, .getfield 347, 3, 0), (118, .ireturn, 1, 0)]
set_option maxRecDepth 100000 in
theorem s_d248 : s_dec prog_14_method_99_code s_t248 := by unfold s_dec; decide +kernel
-- CampAshesModel.writeWord(J)V
def s_t249 : List (Nat × Instr × Nat × Nat) := [(0, .lload_n 1, 1, 0), (1, .ldc2_w 54, 3, 0), (4, .lcmp, 1, 0), (5, .ifCond .lt 12, 3, 17), (8, .aload_n 0, 1, 0), (9, .lload_n 1, 1, 0), (10, .ldc2_w 54, 3, 0), (13, .ldiv, 1, 0), (14, .invokevirtual 350, 3, 0), (17, .aload_n 0, 1, 0), (18, .bipush 96, 2, 0), (20, .lload_n 1, 1, 0), (21, .ldc2_w 54, 3, 0), (24, .lrem, 1, 0), (25, .l2i, 1, 0), (26, .iadd, 1, 0), (27, .invokevirtual 354, 3, 0), (30, .return_, 1, 0)]
set_option maxRecDepth 100000 in
theorem s_d249 : s_dec prog_14_method_96_code s_t249 := by unfold s_dec; decide +kernel
-- CampAshesModel.write(I)V
def s_t250 : List (Nat × Instr × Nat × Nat) := [(0, .aload_n 0, 1, 0), (1, .getfield 154, 3, 0), (4, .aload_n 0, 1, 0), (5, .getfield 347, 3, 0), (8, .iload_n 1, 1, 0), (9, .iastore, 1, 0), (10, .aload_n 0, 1, 0), (11, .dup, 1, 0), (12, .getfield 347, 3, 0), (15, .iconst 1, 1, 0), (16, .iadd, 1, 0), (17, .putfield 347, 3, 0), (20, .return_, 1, 0)]
set_option maxRecDepth 100000 in
theorem s_d250 : s_dec prog_14_method_95_code s_t250 := by unfold s_dec; decide +kernel
-- CampAshesModel.writeNext(J)V
def s_t251 : List (Nat × Instr × Nat × Nat) := [(0, .aload_n 0, 1, 0), (1, .bipush 32, 2, 0), (3, .invokevirtual 354, 3, 0), (6, .aload_n 0, 1, 0), (7, .lload_n 1, 1, 0), (8, .invokevirtual 350, 3, 0), (11, .return_, 1, 0)]
set_option maxRecDepth 100000 in
theorem s_d251 : s_dec prog_14_method_98_code s_t251 := by unfold s_dec; decide +kernel
-- CampAshesModel.writeNumber(I)V
def s_t252 : List (Nat × Instr × Nat × Nat) := [(0, .iload_n 1, 1, 0), (1, .bipush 9, 2, 0), (3, .if_icmp .le 11, 3, 14), (6, .aload_n 0, 1, 0), (7, .iload_n 1, 1, 0), (8, .bipush 10, 2, 0), (10, .idiv, 1, 0), (11, .invokevirtual 357, 3, 0), (14, .aload_n 0, 1, 0), (15, .bipush 48, 2, 0), (17, .iload_n 1, 1, 0), (18, .bipush 10, 2, 0), (20, .irem, 1, 0), (21, .iadd, 1, 0), (22, .invokevirtual 354, 3, 0), (25, .return_, 1, 0)]
set_option maxRecDepth 100000 in
theorem s_d252 : s_dec prog_14_method_97_code s_t252 := by unfold s_dec; decide +kernel
-- CampAshesModel.byteAt(I)I
def s_t253 : List (Nat × Instr × Nat × Nat) := [(0, .aload_n 0, 1, 0), (1, .iconst 0, 1, 0), (2, .putfield 1, 3, 0), (5, .iload_n 1, 1, 0), (6, .iconst 0, 1, 0), (7, .aload_n 0, 1, 0), (8, .getfield 347, 3, 0), (11, .iconst 1, 1, 0), (12, .isub, 1, 0), (13, .invokestatic 75, 3, 0), (16, .ifCond .eq 12, 3, 28), (19, .aload_n 0, 1, 0), (20, .getfield 154, 3, 0), (23, .iload_n 1, 1, 0), (24, .iaload, 1, 0), (25, .goto 4, 3, 29), (28, .iconst (-1), 1, 0), (29, .ireturn, 1, 0)]
set_option maxRecDepth 100000 in
theorem s_d253 : s_dec prog_14_method_100_code s_t253 := by unfold s_dec; decide +kernel
-- CampAshesModel.drawn(II)I
def s_t254 : List (Nat × Instr × Nat × Nat) := [(0, .aload_n 0, 1, 0), (1, .iconst 0, 1, 0), (2, .putfield 1, 3, 0), (5, .iload_n 1, 1, 0), (6, .iconst 1, 1, 0), (7, .bipush 60, 2, 0), (9, .invokestatic 75, 3, 0), (12, .ifCond .ne 5, 3, 17), (15, .iconst (-1), 1, 0), (16, .ireturn, 1, 0), (17, .aload_n 0, 1, 0), (18, .getfield 98, 3, 0), (21, .bipush 47, 2, 0), (23, .iaload, 1, 0), (24, .sipush 400, 3, 0), (27, .if_icmp .ne 5, 3, 32), (30, .iconst 0, 1, 0), (31, .ireturn, 1, 0), (32, .aload_n 0, 1, 0), (33, .invokevirtual 285, 3, 0), (36, .aload_n 0, 1, 0), (37, .iload_n 1, 1, 0), (38, .iload_n 2, 1, 0), (39, .invokevirtual 373, 3, 0), (42, .ireturn, 1, 0)]
set_option maxRecDepth 100000 in
theorem s_d254 : s_dec prog_14_method_104_code s_t254 := by unfold s_dec; decide +kernel
-- CampAshesModel.drawDays(II)I
def s_t255 : List (Nat × Instr × Nat × Nat) := [(0, .aload_n 0, 1, 0), (1, .iload_n 2, 1, 0), (2, .putfield 363, 3, 0), (5, .iload_n 1, 1, 0), (6, .sipush 400, 3, 0), (9, .aload_n 0, 1, 0), (10, .getfield 98, 3, 0), (13, .bipush 47, 2, 0), (15, .iaload, 1, 0), (16, .isub, 1, 0), (17, .invokestatic 271, 3, 0), (20, .istore_n 3, 1, 0), (21, .iconst 0, 1, 0), (22, .istore 4, 2, 0), (24, .iload 4, 2, 0), (26, .iload_n 3, 1, 0), (27, .if_icmp .ge 68, 3, 95), (30, .aload_n 0, 1, 0), (31, .iconst 4, 1, 0), (32, .invokevirtual 367, 3, 0), (35, .ifCond .ne 24, 3, 59), (38, .aload_n 0, 1, 0), (39, .iconst 3, 1, 0), (40, .iconst 0, 1, 0), (41, .iconst 0, 1, 0), (42, .iconst 0, 1, 0), (43, .iconst 0, 1, 0), (44, .invokevirtual 281, 3, 0), (47, .ifCond .ne 12, 3, 59), (50, .aload_n 0, 1, 0), (51, .iconst 3, 1, 0), (52, .iconst 0, 1, 0), (53, .iconst 0, 1, 0), (54, .iconst 0, 1, 0), (55, .iconst 0, 1, 0), (56, .invokevirtual 288, 3, 0), (59, .iconst 0, 1, 0), (60, .istore 5, 2, 0), (62, .iload 5, 2, 0), (64, .aload_n 0, 1, 0), (65, .getfield 98, 3, 0), (68, .iconst 0, 1, 0), (69, .iaload, 1, 0), (70, .if_icmp .ge 15, 3, 85), (73, .aload_n 0, 1, 0), (74, .iload 5, 2, 0), (76, .invokevirtual 370, 3, 0), (79, .iinc 5 1, 3, 0), (82, .goto (-20), 3, 62), (85, .aload_n 0, 1, 0), (86, .invokevirtual 296, 3, 0), (89, .iinc 4 1, 3, 0), (92, .goto (-68), 3, 24), (95, .iload_n 3, 1, 0), (96, .ireturn, 1, 0)]
set_option maxRecDepth 100000 in
theorem s_d255 : s_dec prog_14_method_103_code s_t255 := by unfold s_dec; decide +kernel
-- CampAshesModel.draw(I)I
def s_t256 : List (Nat × Instr × Nat × Nat) := [(0, .aload_n 0, 1, 0), (1, .aload_n 0, 1, 0), (2, .getfield 363, 3, 0), (5, .ldc_w 366, 3, 0), (8, .imul, 1, 0), (9, .sipush 12345, 3, 0), (12, .iadd, 1, 0), (13, .putfield 363, 3, 0), (16, .aload_n 0, 1, 0), (17, .getfield 363, 3, 0), (20, .bipush 8, 2, 0), (22, .iushr, 1, 0), (23, .iload_n 1, 1, 0), (24, .irem, 1, 0), (25, .ireturn, 1, 0)]
set_option maxRecDepth 100000 in
theorem s_d256 : s_dec prog_14_method_101_code s_t256 := by unfold s_dec; decide +kernel
-- CampAshesModel.drawsFor(I)V
def s_t257 : List (Nat × Instr × Nat × Nat) := [(0, .aload_n 0, 1, 0), (1, .iconst 4, 1, 0), (2, .invokevirtual 367, 3, 0), (5, .istore_n 2, 1, 0), (6, .iload_n 2, 1, 0), (7, .iconst 3, 1, 0), (8, .if_icmp .eq 12, 3, 20), (11, .aload_n 0, 1, 0), (12, .getfield 98, 3, 0), (15, .iconst 1, 1, 0), (16, .iaload, 1, 0), (17, .ifCond .ne 4, 3, 21), (20, .return_, 1, 0), (21, .aload_n 0, 1, 0), (22, .aload_n 0, 1, 0), (23, .getfield 98, 3, 0), (26, .iconst 1, 1, 0), (27, .iaload, 1, 0), (28, .invokevirtual 367, 3, 0), (31, .istore_n 3, 1, 0), (32, .aload_n 0, 1, 0), (33, .iload_n 1, 1, 0), (34, .iload_n 3, 1, 0), (35, .invokevirtual 268, 3, 0), (38, .ifCond .ne 21, 3, 59), (41, .aload_n 0, 1, 0), (42, .iload_n 2, 1, 0), (43, .iconst 2, 1, 0), (44, .if_icmp .ne 7, 3, 51), (47, .iconst 1, 1, 0), (48, .goto 4, 3, 52), (51, .iconst 0, 1, 0), (52, .iload_n 1, 1, 0), (53, .iload_n 3, 1, 0), (54, .iconst 0, 1, 0), (55, .iconst 0, 1, 0), (56, .invokevirtual 288, 3, 0), (59, .return_, 1, 0)]
set_option maxRecDepth 100000 in
theorem s_d257 : s_dec prog_14_method_102_code s_t257 := by unfold s_dec; decide +kernel
-- CampAshesModel.odds(III)I
def s_t258 : List (Nat × Instr × Nat × Nat) := [(0, .aload_n 0, 1, 0), (1, .iconst 0, 1, 0), (2, .putfield 1, 3, 0), (5, .aload_n 0, 1, 0), (6, .iload_n 1, 1, 0), (7, .invokevirtual 238, 3, 0), (10, .ifCond .eq 13, 3, 23), (13, .iload_n 2, 1, 0), (14, .iconst 1, 1, 0), (15, .bipush 30, 2, 0), (17, .invokestatic 75, 3, 0), (20, .ifCond .ne 5, 3, 25), (23, .iconst (-1), 1, 0), (24, .ireturn, 1, 0), (25, .aload_n 0, 1, 0), (26, .invokevirtual 341, 3, 0), (29, .iconst 0, 1, 0), (30, .istore 4, 2, 0), (32, .iconst 0, 1, 0), (33, .istore 5, 2, 0), (35, .iload 5, 2, 0), (37, .iload_n 2, 1, 0), (38, .if_icmp .ge 35, 3, 73), (41, .aload_n 0, 1, 0), (42, .bipush 20, 2, 0), (44, .iload_n 3, 1, 0), (45, .iload 5, 2, 0), (47, .iadd, 1, 0), (48, .invokevirtual 373, 3, 0), (51, .pop, 1, 0), (52, .aload_n 0, 1, 0), (53, .iload_n 1, 1, 0), (54, .invokevirtual 244, 3, 0), (57, .ifCond .ne 6, 3, 63), (60, .iinc 4 1, 3, 0), (63, .aload_n 0, 1, 0), (64, .invokevirtual 344, 3, 0), (67, .iinc 5 1, 3, 0), (70, .goto (-35), 3, 35), (73, .iload 4, 2, 0), (75, .ireturn, 1, 0)]
set_option maxRecDepth 100000 in
theorem s_d258 : s_dec prog_14_method_105_code s_t258 := by unfold s_dec; decide +kernel
-- CampAshesModel.book(I)I
def s_t259 : List (Nat × Instr × Nat × Nat) := [(0, .aload_n 0, 1, 0), (1, .iconst 0, 1, 0), (2, .putfield 1, 3, 0), (5, .iload_n 1, 1, 0), (6, .iconst 0, 1, 0), (7, .iconst 1, 1, 0), (8, .invokestatic 75, 3, 0), (11, .ifCond .ne 7, 3, 18), (14, .sipush (-1000), 3, 0), (17, .ireturn, 1, 0), (18, .aload_n 0, 1, 0), (19, .sipush 400, 3, 0), (22, .invokevirtual 216, 3, 0), (25, .aload_n 0, 1, 0), (26, .iconst 0, 1, 0), (27, .putfield 382, 3, 0), (30, .aload_n 0, 1, 0), (31, .getfield 30, 3, 0), (34, .ifCond .eq 31, 3, 65), (37, .aload_n 0, 1, 0), (38, .invokevirtual 388, 3, 0), (41, .ifCond .ne 11, 3, 52), (44, .bipush (-2), 2, 0), (46, .aload_n 0, 1, 0), (47, .getfield 69, 3, 0), (50, .isub, 1, 0), (51, .ireturn, 1, 0), (52, .aload_n 0, 1, 0), (53, .dup, 1, 0), (54, .getfield 382, 3, 0), (57, .iconst 1, 1, 0), (58, .iadd, 1, 0), (59, .putfield 382, 3, 0), (62, .goto (-32), 3, 30), (65, .aload_n 0, 1, 0), (66, .invokevirtual 341, 3, 0), (69, .iconst 0, 1, 0), (70, .istore_n 2, 1, 0), (71, .iconst 0, 1, 0), (72, .istore_n 3, 1, 0), (73, .iload_n 2, 1, 0), (74, .aload_n 0, 1, 0), (75, .getfield 382, 3, 0), (78, .if_icmp .ge 25, 3, 103), (81, .iload_n 3, 1, 0), (82, .ifCond .ne 21, 3, 103), (85, .aload_n 0, 1, 0), (86, .iconst 5, 1, 0), (87, .iload_n 2, 1, 0), (88, .imul, 1, 0), (89, .invokevirtual 391, 3, 0), (92, .istore_n 3, 1, 0), (93, .iload_n 3, 1, 0), (94, .ifCond .ne (-21), 3, 73), (97, .iinc 2 1, 3, 0), (100, .goto (-27), 3, 73), (103, .aload_n 0, 1, 0), (104, .getfield 160, 3, 0), (107, .iconst 0, 1, 0), (108, .iload_n 3, 1, 0), (109, .iastore, 1, 0), (110, .aload_n 0, 1, 0), (111, .getfield 160, 3, 0), (114, .iconst 1, 1, 0), (115, .iload_n 2, 1, 0), (116, .iastore, 1, 0), (117, .aload_n 0, 1, 0), (118, .getfield 160, 3, 0), (121, .iconst 2, 1, 0), (122, .aload_n 0, 1, 0), (123, .getfield 98, 3, 0), (126, .bipush 47, 2, 0), (128, .iaload, 1, 0), (129, .iastore, 1, 0), (130, .aload_n 0, 1, 0), (131, .getfield 160, 3, 0), (134, .iconst 3, 1, 0), (135, .aload_n 0, 1, 0), (136, .invokevirtual 265, 3, 0), (139, .iastore, 1, 0), (140, .aload_n 0, 1, 0), (141, .iconst 1, 1, 0), (142, .putfield 394, 3, 0), (145, .aload_n 0, 1, 0), (146, .iload_n 1, 1, 0), (147, .iconst 1, 1, 0), (148, .if_icmp .ne 11, 3, 159), (151, .iload_n 2, 1, 0), (152, .ifCond .le 7, 3, 159), (155, .iconst 1, 1, 0), (156, .goto 4, 3, 160), (159, .iconst 0, 1, 0), (160, .invokevirtual 397, 3, 0), (163, .iload_n 3, 1, 0), (164, .ifCond .ne 7, 3, 171), (167, .iconst (-1), 1, 0), (168, .goto 4, 3, 172), (171, .iload_n 2, 1, 0), (172, .ireturn, 1, 0)]
set_option maxRecDepth 100000 in
theorem s_d259 : s_dec prog_14_method_111_code s_t259 := by unfold s_dec; decide +kernel
-- CampAshesModel.readBookLine()Z
def s_t260 : List (Nat × Instr × Nat × Nat) := [(0, .aload_n 0, 1, 0), (1, .bipush 14, 2, 0), (3, .invokevirtual 180, 3, 0), (6, .ifCond .eq 7, 3, 13), (9, .iconst 3, 1, 0), (10, .goto 30, 3, 40), (13, .aload_n 0, 1, 0), (14, .bipush 15, 2, 0), (16, .invokevirtual 180, 3, 0), (19, .ifCond .eq 7, 3, 26), (22, .iconst 4, 1, 0), (23, .goto 17, 3, 40), (26, .aload_n 0, 1, 0), (27, .bipush 16, 2, 0), (29, .invokevirtual 180, 3, 0), (32, .ifCond .eq 7, 3, 39), (35, .iconst 5, 1, 0), (36, .goto 4, 3, 40), (39, .iconst 0, 1, 0), (40, .istore_n 1, 1, 0), (41, .iload_n 1, 1, 0), (42, .ifCond .ne 44, 3, 86), (45, .aload_n 0, 1, 0), (46, .invokevirtual 172, 3, 0), (49, .ifCond .ne 9, 3, 58), (52, .aload_n 0, 1, 0), (53, .iconst 1, 1, 0), (54, .invokevirtual 72, 3, 0), (57, .ireturn, 1, 0), (58, .aload_n 0, 1, 0), (59, .getfield 113, 3, 0), (62, .iconst 0, 1, 0), (63, .aload_n 0, 1, 0), (64, .getfield 98, 3, 0), (67, .iconst 0, 1, 0), (68, .iaload, 1, 0), (69, .aload_n 0, 1, 0), (70, .getfield 43, 3, 0), (73, .invokestatic 176, 3, 0), (76, .iconst (-1), 1, 0), (77, .if_icmp .ne 9, 3, 86), (80, .aload_n 0, 1, 0), (81, .iconst 3, 1, 0), (82, .invokevirtual 72, 3, 0), (85, .ireturn, 1, 0), (86, .aload_n 0, 1, 0), (87, .getfield 382, 3, 0), (90, .bipush 40, 2, 0), (92, .if_icmp .ne 9, 3, 101), (95, .aload_n 0, 1, 0), (96, .iconst 4, 1, 0), (97, .invokevirtual 72, 3, 0), (100, .ireturn, 1, 0), (101, .iconst 5, 1, 0), (102, .aload_n 0, 1, 0), (103, .getfield 382, 3, 0), (106, .imul, 1, 0), (107, .istore_n 2, 1, 0), (108, .aload_n 0, 1, 0), (109, .getfield 157, 3, 0), (112, .iload_n 2, 1, 0), (113, .iload_n 1, 1, 0), (114, .iastore, 1, 0), (115, .aload_n 0, 1, 0), (116, .getfield 157, 3, 0), (119, .iload_n 2, 1, 0), (120, .iconst 1, 1, 0), (121, .iadd, 1, 0), (122, .iload_n 1, 1, 0), (123, .ifCond .ne 24, 3, 147), (126, .aload_n 0, 1, 0), (127, .getfield 113, 3, 0), (130, .iconst 0, 1, 0), (131, .aload_n 0, 1, 0), (132, .getfield 98, 3, 0), (135, .iconst 0, 1, 0), (136, .iaload, 1, 0), (137, .aload_n 0, 1, 0), (138, .getfield 43, 3, 0), (141, .invokestatic 176, 3, 0), (144, .goto 4, 3, 148), (147, .iconst 0, 1, 0), (148, .iastore, 1, 0), (149, .iconst 2, 1, 0), (150, .istore_n 3, 1, 0), (151, .iload_n 3, 1, 0), (152, .iconst 5, 1, 0), (153, .if_icmp .ge 18, 3, 171), (156, .aload_n 0, 1, 0), (157, .getfield 157, 3, 0), (160, .iload_n 2, 1, 0), (161, .iload_n 3, 1, 0), (162, .iadd, 1, 0), (163, .iconst 0, 1, 0), (164, .iastore, 1, 0), (165, .iinc 3 1, 3, 0), (168, .goto (-17), 3, 151), (171, .aload_n 0, 1, 0), (172, .invokevirtual 82, 3, 0), (175, .iload_n 1, 1, 0), (176, .lookupswitch 79 #[(0, 28), (5, 49)], 28, 0), (204, .aload_n 0, 1, 0), (205, .iload_n 2, 1, 0), (206, .invokevirtual 385, 3, 0), (209, .ifCond .eq 14, 3, 223), (212, .aload_n 0, 1, 0), (213, .invokevirtual 222, 3, 0), (216, .ifCond .eq 7, 3, 223), (219, .iconst 1, 1, 0), (220, .goto 4, 3, 224), (223, .iconst 0, 1, 0), (224, .ireturn, 1, 0), (225, .aload_n 0, 1, 0), (226, .iload_n 2, 1, 0), (227, .iconst 1, 1, 0), (228, .iadd, 1, 0), (229, .aload_n 0, 1, 0), (230, .iconst 1, 1, 0), (231, .bipush 60, 2, 0), (233, .invokevirtual 190, 3, 0), (236, .invokevirtual 379, 3, 0), (239, .ifCond .eq 14, 3, 253), (242, .aload_n 0, 1, 0), (243, .invokevirtual 222, 3, 0), (246, .ifCond .eq 7, 3, 253), (249, .iconst 1, 1, 0), (250, .goto 4, 3, 254), (253, .iconst 0, 1, 0), (254, .ireturn, 1, 0), (255, .aload_n 0, 1, 0), (256, .invokevirtual 222, 3, 0), (259, .ireturn, 1, 0)]
set_option maxRecDepth 100000 in
theorem s_d260 : s_dec prog_14_method_109_code s_t260 := by unfold s_dec; decide +kernel
-- CampAshesModel.readDoes(I)Z
def s_t261 : List (Nat × Instr × Nat × Nat) := [(0, .bipush 11, 2, 0), (2, .istore_n 2, 1, 0), (3, .iload_n 2, 1, 0), (4, .bipush 13, 2, 0), (6, .if_icmp .gt 17, 3, 23), (9, .aload_n 0, 1, 0), (10, .iload_n 2, 1, 0), (11, .invokevirtual 180, 3, 0), (14, .ifCond .ne 9, 3, 23), (17, .iinc 2 1, 3, 0), (20, .goto (-17), 3, 3), (23, .iload_n 2, 1, 0), (24, .bipush 13, 2, 0), (26, .if_icmp .le 9, 3, 35), (29, .aload_n 0, 1, 0), (30, .iconst 1, 1, 0), (31, .invokevirtual 72, 3, 0), (34, .ireturn, 1, 0), (35, .aload_n 0, 1, 0), (36, .getfield 157, 3, 0), (39, .iload_n 1, 1, 0), (40, .iload_n 2, 1, 0), (41, .bipush 11, 2, 0), (43, .isub, 1, 0), (44, .iastore, 1, 0), (45, .aload_n 0, 1, 0), (46, .invokevirtual 82, 3, 0), (49, .aload_n 0, 1, 0), (50, .iload_n 1, 1, 0), (51, .iconst 2, 1, 0), (52, .iadd, 1, 0), (53, .aload_n 0, 1, 0), (54, .bipush 7, 2, 0), (56, .aload_n 0, 1, 0), (57, .getfield 98, 3, 0), (60, .iconst 1, 1, 0), (61, .iaload, 1, 0), (62, .invokevirtual 376, 3, 0), (65, .invokevirtual 379, 3, 0), (68, .ifCond .ne 5, 3, 73), (71, .iconst 0, 1, 0), (72, .ireturn, 1, 0), (73, .aload_n 0, 1, 0), (74, .getfield 157, 3, 0), (77, .iload_n 1, 1, 0), (78, .iaload, 1, 0), (79, .iconst 2, 1, 0), (80, .if_icmp .ne 41, 3, 121), (83, .aload_n 0, 1, 0), (84, .iload_n 1, 1, 0), (85, .iconst 3, 1, 0), (86, .iadd, 1, 0), (87, .aload_n 0, 1, 0), (88, .iconst 0, 1, 0), (89, .aload_n 0, 1, 0), (90, .getfield 98, 3, 0), (93, .iconst 0, 1, 0), (94, .iaload, 1, 0), (95, .invokevirtual 376, 3, 0), (98, .invokevirtual 379, 3, 0), (101, .ifCond .eq 24, 3, 125), (104, .aload_n 0, 1, 0), (105, .iload_n 1, 1, 0), (106, .iconst 4, 1, 0), (107, .iadd, 1, 0), (108, .aload_n 0, 1, 0), (109, .iconst 1, 1, 0), (110, .bipush 40, 2, 0), (112, .invokevirtual 190, 3, 0), (115, .invokevirtual 379, 3, 0), (118, .ifCond .eq 7, 3, 125), (121, .iconst 1, 1, 0), (122, .goto 4, 3, 126), (125, .iconst 0, 1, 0), (126, .ireturn, 1, 0)]
set_option maxRecDepth 100000 in
theorem s_d261 : s_dec prog_14_method_108_code s_t261 := by unfold s_dec; decide +kernel
end
section
-- CampAshesModel.readNamed(II)Z
def s_t262 : List (Nat × Instr × Nat × Nat) := [(0, .aload_n 0, 1, 0), (1, .invokevirtual 172, 3, 0), (4, .ifCond .ne 9, 3, 13), (7, .aload_n 0, 1, 0), (8, .iconst 1, 1, 0), (9, .invokevirtual 72, 3, 0), (12, .ireturn, 1, 0), (13, .aload_n 0, 1, 0), (14, .aload_n 0, 1, 0), (15, .getfield 113, 3, 0), (18, .iload_n 1, 1, 0), (19, .iload_n 2, 1, 0), (20, .aload_n 0, 1, 0), (21, .getfield 43, 3, 0), (24, .invokestatic 176, 3, 0), (27, .putfield 79, 3, 0), (30, .aload_n 0, 1, 0), (31, .getfield 79, 3, 0), (34, .iconst (-1), 1, 0), (35, .if_icmp .ne 9, 3, 44), (38, .aload_n 0, 1, 0), (39, .iconst 3, 1, 0), (40, .invokevirtual 72, 3, 0), (43, .ireturn, 1, 0), (44, .aload_n 0, 1, 0), (45, .invokevirtual 82, 3, 0), (48, .iconst 1, 1, 0), (49, .ireturn, 1, 0)]
set_option maxRecDepth 100000 in
theorem s_d262 : s_dec prog_14_method_107_code s_t262 := by unfold s_dec; decide +kernel
-- CampAshesModel.keep(IZ)Z
def s_t263 : List (Nat × Instr × Nat × Nat) := [(0, .iload_n 2, 1, 0), (1, .ifCond .eq 13, 3, 14), (4, .aload_n 0, 1, 0), (5, .getfield 157, 3, 0), (8, .iload_n 1, 1, 0), (9, .aload_n 0, 1, 0), (10, .getfield 79, 3, 0), (13, .iastore, 1, 0), (14, .iload_n 2, 1, 0), (15, .ireturn, 1, 0)]
set_option maxRecDepth 100000 in
theorem s_d263 : s_dec prog_14_method_106_code s_t263 := by unfold s_dec; decide +kernel
-- CampAshesModel.goBy(I)I
def s_t264 : List (Nat × Instr × Nat × Nat) := [(0, .aload_n 0, 1, 0), (1, .getfield 157, 3, 0), (4, .iload_n 1, 1, 0), (5, .iconst 1, 1, 0), (6, .iadd, 1, 0), (7, .iaload, 1, 0), (8, .istore_n 2, 1, 0), (9, .aload_n 0, 1, 0), (10, .getfield 157, 3, 0), (13, .iload_n 1, 1, 0), (14, .iaload, 1, 0), (15, .iconst 5, 1, 0), (16, .if_icmp .ne 29, 3, 45), (19, .aload_n 0, 1, 0), (20, .getfield 98, 3, 0), (23, .bipush 47, 2, 0), (25, .iaload, 1, 0), (26, .iload_n 2, 1, 0), (27, .iadd, 1, 0), (28, .sipush 400, 3, 0), (31, .if_icmp .le 6, 3, 37), (34, .bipush 51, 2, 0), (36, .ireturn, 1, 0), (37, .aload_n 0, 1, 0), (38, .iload_n 2, 1, 0), (39, .invokevirtual 299, 3, 0), (42, .pop, 1, 0), (43, .iconst 0, 1, 0), (44, .ireturn, 1, 0), (45, .aload_n 0, 1, 0), (46, .aload_n 0, 1, 0), (47, .getfield 157, 3, 0), (50, .iload_n 1, 1, 0), (51, .iaload, 1, 0), (52, .iload_n 2, 1, 0), (53, .aload_n 0, 1, 0), (54, .getfield 157, 3, 0), (57, .iload_n 1, 1, 0), (58, .iconst 2, 1, 0), (59, .iadd, 1, 0), (60, .iaload, 1, 0), (61, .aload_n 0, 1, 0), (62, .getfield 157, 3, 0), (65, .iload_n 1, 1, 0), (66, .iconst 3, 1, 0), (67, .iadd, 1, 0), (68, .iaload, 1, 0), (69, .aload_n 0, 1, 0), (70, .getfield 157, 3, 0), (73, .iload_n 1, 1, 0), (74, .iconst 4, 1, 0), (75, .iadd, 1, 0), (76, .iaload, 1, 0), (77, .invokevirtual 281, 3, 0), (80, .istore_n 3, 1, 0), (81, .iload_n 3, 1, 0), (82, .ifCond .eq 15, 3, 97), (85, .bipush 10, 2, 0), (87, .aload_n 0, 1, 0), (88, .getfield 157, 3, 0), (91, .iload_n 1, 1, 0), (92, .iaload, 1, 0), (93, .imul, 1, 0), (94, .iload_n 3, 1, 0), (95, .iadd, 1, 0), (96, .ireturn, 1, 0), (97, .aload_n 0, 1, 0), (98, .aload_n 0, 1, 0), (99, .getfield 157, 3, 0), (102, .iload_n 1, 1, 0), (103, .iaload, 1, 0), (104, .iload_n 2, 1, 0), (105, .aload_n 0, 1, 0), (106, .getfield 157, 3, 0), (109, .iload_n 1, 1, 0), (110, .iconst 2, 1, 0), (111, .iadd, 1, 0), (112, .iaload, 1, 0), (113, .aload_n 0, 1, 0), (114, .getfield 157, 3, 0), (117, .iload_n 1, 1, 0), (118, .iconst 3, 1, 0), (119, .iadd, 1, 0), (120, .iaload, 1, 0), (121, .aload_n 0, 1, 0), (122, .getfield 157, 3, 0), (125, .iload_n 1, 1, 0), (126, .iconst 4, 1, 0), (127, .iadd, 1, 0), (128, .iaload, 1, 0), (129, .invokevirtual 288, 3, 0), (132, .iconst 0, 1, 0), (133, .ireturn, 1, 0)]
set_option maxRecDepth 100000 in
theorem s_d264 : s_dec prog_14_method_110_code s_t264 := by unfold s_dec; decide +kernel
-- CampAshesModel.stay(Z)V
def s_t265 : List (Nat × Instr × Nat × Nat) := [(0, .iconst 0, 1, 0), (1, .istore_n 2, 1, 0), (2, .iload_n 2, 1, 0), (3, .bipush 86, 2, 0), (5, .if_icmp .ge 41, 3, 46), (8, .aload_n 0, 1, 0), (9, .getfield 98, 3, 0), (12, .bipush 47, 2, 0), (14, .iload_n 2, 1, 0), (15, .iadd, 1, 0), (16, .iaload, 1, 0), (17, .istore_n 3, 1, 0), (18, .aload_n 0, 1, 0), (19, .getfield 98, 3, 0), (22, .bipush 47, 2, 0), (24, .iload_n 2, 1, 0), (25, .iadd, 1, 0), (26, .aload_n 0, 1, 0), (27, .getfield 110, 3, 0), (30, .iload_n 2, 1, 0), (31, .iaload, 1, 0), (32, .iastore, 1, 0), (33, .aload_n 0, 1, 0), (34, .getfield 110, 3, 0), (37, .iload_n 2, 1, 0), (38, .iload_n 3, 1, 0), (39, .iastore, 1, 0), (40, .iinc 2 1, 3, 0), (43, .goto (-41), 3, 2), (46, .iload_n 1, 1, 0), (47, .ifCond .ne 4, 3, 51), (50, .return_, 1, 0), (51, .aload_n 0, 1, 0), (52, .invokevirtual 285, 3, 0), (55, .aload_n 0, 1, 0), (56, .invokevirtual 344, 3, 0), (59, .return_, 1, 0)]
set_option maxRecDepth 100000 in
theorem s_d265 : s_dec prog_14_method_112_code s_t265 := by unfold s_dec; decide +kernel
-- CampAshesModel.told(I)I
def s_t266 : List (Nat × Instr × Nat × Nat) := [(0, .aload_n 0, 1, 0), (1, .iconst 0, 1, 0), (2, .putfield 1, 3, 0), (5, .aload_n 0, 1, 0), (6, .getfield 394, 3, 0), (9, .ifCond .eq 21, 3, 30), (12, .iload_n 1, 1, 0), (13, .iconst 0, 1, 0), (14, .iconst 3, 1, 0), (15, .invokestatic 75, 3, 0), (18, .ifCond .eq 12, 3, 30), (21, .aload_n 0, 1, 0), (22, .getfield 160, 3, 0), (25, .iload_n 1, 1, 0), (26, .iaload, 1, 0), (27, .goto 4, 3, 31), (30, .iconst (-1), 1, 0), (31, .ireturn, 1, 0)]
set_option maxRecDepth 100000 in
theorem s_d266 : s_dec prog_14_method_113_code s_t266 := by unfold s_dec; decide +kernel
-- CampAshesModel.sentence()I
def s_t267 : List (Nat × Instr × Nat × Nat) := [(0, .aload_n 0, 1, 0), (1, .sipush 200, 3, 0), (4, .invokevirtual 216, 3, 0), (7, .aload_n 0, 1, 0), (8, .iconst 0, 1, 0), (9, .putfield 401, 3, 0), (12, .aload_n 0, 1, 0), (13, .iconst 0, 1, 0), (14, .putfield 417, 3, 0), (17, .aload_n 0, 1, 0), (18, .iconst 0, 1, 0), (19, .putfield 420, 3, 0), (22, .aload_n 0, 1, 0), (23, .invokevirtual 435, 3, 0), (26, .ifCond .ne 10, 3, 36), (29, .iconst (-1), 1, 0), (30, .aload_n 0, 1, 0), (31, .getfield 69, 3, 0), (34, .isub, 1, 0), (35, .ireturn, 1, 0), (36, .aload_n 0, 1, 0), (37, .getfield 30, 3, 0), (40, .ifCond .eq 16, 3, 56), (43, .aload_n 0, 1, 0), (44, .iconst 1, 1, 0), (45, .invokevirtual 72, 3, 0), (48, .pop, 1, 0), (49, .iconst (-1), 1, 0), (50, .aload_n 0, 1, 0), (51, .getfield 69, 3, 0), (54, .isub, 1, 0), (55, .ireturn, 1, 0), (56, .aload_n 0, 1, 0), (57, .getfield 98, 3, 0), (60, .sipush 133, 3, 0), (63, .iconst 1, 1, 0), (64, .iastore, 1, 0), (65, .aload_n 0, 1, 0), (66, .getfield 98, 3, 0), (69, .sipush 134, 3, 0), (72, .aload_n 0, 1, 0), (73, .getfield 407, 3, 0), (76, .iastore, 1, 0), (77, .iconst 0, 1, 0), (78, .istore_n 1, 1, 0), (79, .iload_n 1, 1, 0), (80, .sipush 240, 3, 0), (83, .if_icmp .ge 25, 3, 108), (86, .aload_n 0, 1, 0), (87, .getfield 98, 3, 0), (90, .sipush 135, 3, 0), (93, .iload_n 1, 1, 0), (94, .iadd, 1, 0), (95, .aload_n 0, 1, 0), (96, .getfield 163, 3, 0), (99, .iload_n 1, 1, 0), (100, .iaload, 1, 0), (101, .iastore, 1, 0), (102, .iinc 1 1, 3, 0), (105, .goto (-26), 3, 79), (108, .aload_n 0, 1, 0), (109, .getfield 417, 3, 0), (112, .ireturn, 1, 0)]
set_option maxRecDepth 100000 in
theorem s_d267 : s_dec prog_14_method_123_code s_t267 := by unfold s_dec; decide +kernel
-- CampAshesModel.readOr()Z
def s_t268 : List (Nat × Instr × Nat × Nat) := [(0, .aload_n 0, 1, 0), (1, .invokevirtual 404, 3, 0), (4, .ifCond .ne 5, 3, 9), (7, .iconst 0, 1, 0), (8, .ireturn, 1, 0), (9, .aload_n 0, 1, 0), (10, .getfield 407, 3, 0), (13, .istore_n 1, 1, 0), (14, .aload_n 0, 1, 0), (15, .bipush 17, 2, 0), (17, .invokevirtual 180, 3, 0), (20, .ifCond .eq 31, 3, 51), (23, .aload_n 0, 1, 0), (24, .invokevirtual 82, 3, 0), (27, .aload_n 0, 1, 0), (28, .invokevirtual 404, 3, 0), (31, .ifCond .ne 5, 3, 36), (34, .iconst 0, 1, 0), (35, .ireturn, 1, 0), (36, .aload_n 0, 1, 0), (37, .iconst 3, 1, 0), (38, .iload_n 1, 1, 0), (39, .aload_n 0, 1, 0), (40, .getfield 407, 3, 0), (43, .iconst 0, 1, 0), (44, .invokevirtual 410, 3, 0), (47, .istore_n 1, 1, 0), (48, .goto (-34), 3, 14), (51, .aload_n 0, 1, 0), (52, .iload_n 1, 1, 0), (53, .putfield 407, 3, 0), (56, .iconst 1, 1, 0), (57, .ireturn, 1, 0)]
set_option maxRecDepth 100000 in
theorem s_d268 : s_dec prog_14_method_116_code s_t268 := by unfold s_dec; decide +kernel
-- CampAshesModel.readAnd()Z
def s_t269 : List (Nat × Instr × Nat × Nat) := [(0, .aload_n 0, 1, 0), (1, .invokevirtual 414, 3, 0), (4, .ifCond .ne 5, 3, 9), (7, .iconst 0, 1, 0), (8, .ireturn, 1, 0), (9, .aload_n 0, 1, 0), (10, .getfield 407, 3, 0), (13, .istore_n 1, 1, 0), (14, .aload_n 0, 1, 0), (15, .bipush 18, 2, 0), (17, .invokevirtual 180, 3, 0), (20, .ifCond .eq 31, 3, 51), (23, .aload_n 0, 1, 0), (24, .invokevirtual 82, 3, 0), (27, .aload_n 0, 1, 0), (28, .invokevirtual 414, 3, 0), (31, .ifCond .ne 5, 3, 36), (34, .iconst 0, 1, 0), (35, .ireturn, 1, 0), (36, .aload_n 0, 1, 0), (37, .iconst 2, 1, 0), (38, .iload_n 1, 1, 0), (39, .aload_n 0, 1, 0), (40, .getfield 407, 3, 0), (43, .iconst 0, 1, 0), (44, .invokevirtual 410, 3, 0), (47, .istore_n 1, 1, 0), (48, .goto (-34), 3, 14), (51, .aload_n 0, 1, 0), (52, .iload_n 1, 1, 0), (53, .putfield 407, 3, 0), (56, .iconst 1, 1, 0), (57, .ireturn, 1, 0)]
set_option maxRecDepth 100000 in
theorem s_d269 : s_dec prog_14_method_117_code s_t269 := by unfold s_dec; decide +kernel
-- CampAshesModel.readSaid()Z
def s_t270 : List (Nat × Instr × Nat × Nat) := [(0, .aload_n 0, 1, 0), (1, .bipush 40, 2, 0), (3, .invokevirtual 86, 3, 0), (6, .istore_n 1, 1, 0), (7, .bipush 19, 2, 0), (9, .istore_n 2, 1, 0), (10, .iload_n 2, 1, 0), (11, .bipush 28, 2, 0), (13, .if_icmp .gt 17, 3, 30), (16, .aload_n 0, 1, 0), (17, .iload_n 2, 1, 0), (18, .invokevirtual 180, 3, 0), (21, .ifCond .ne 9, 3, 30), (24, .iinc 2 1, 3, 0), (27, .goto (-17), 3, 10), (30, .iload_n 1, 1, 0), (31, .ifCond .ne 15, 3, 46), (34, .iload_n 2, 1, 0), (35, .bipush 28, 2, 0), (37, .if_icmp .le 9, 3, 46), (40, .aload_n 0, 1, 0), (41, .iconst 1, 1, 0), (42, .invokevirtual 72, 3, 0), (45, .ireturn, 1, 0), (46, .aload_n 0, 1, 0), (47, .getfield 417, 3, 0), (50, .bipush 20, 2, 0), (52, .if_icmp .eq 12, 3, 64), (55, .aload_n 0, 1, 0), (56, .getfield 420, 3, 0), (59, .bipush 8, 2, 0), (61, .if_icmp .ne 9, 3, 70), (64, .aload_n 0, 1, 0), (65, .iconst 4, 1, 0), (66, .invokevirtual 72, 3, 0), (69, .ireturn, 1, 0), (70, .aload_n 0, 1, 0), (71, .dup, 1, 0), (72, .getfield 417, 3, 0), (75, .iconst 1, 1, 0), (76, .iadd, 1, 0), (77, .putfield 417, 3, 0), (80, .aload_n 0, 1, 0), (81, .dup, 1, 0), (82, .getfield 420, 3, 0), (85, .iconst 1, 1, 0), (86, .iadd, 1, 0), (87, .putfield 420, 3, 0), (90, .aload_n 0, 1, 0), (91, .invokevirtual 82, 3, 0), (94, .iconst 1, 1, 0), (95, .istore_n 3, 1, 0), (96, .iload_n 1, 1, 0), (97, .ifCond .eq 11, 3, 108), (100, .aload_n 0, 1, 0), (101, .invokevirtual 423, 3, 0), (104, .istore_n 3, 1, 0), (105, .goto 61, 3, 166), (108, .iload_n 2, 1, 0), (109, .bipush 19, 2, 0), (111, .if_icmp .ne 11, 3, 122), (114, .aload_n 0, 1, 0), (115, .invokevirtual 426, 3, 0), (118, .istore_n 3, 1, 0), (119, .goto 47, 3, 166), (122, .iload_n 2, 1, 0), (123, .bipush 23, 2, 0), (125, .if_icmp .ge 21, 3, 146), (128, .aload_n 0, 1, 0), (129, .aload_n 0, 1, 0), (130, .bipush 50, 2, 0), (132, .iload_n 2, 1, 0), (133, .iadd, 1, 0), (134, .iconst 0, 1, 0), (135, .iconst 0, 1, 0), (136, .iconst 0, 1, 0), (137, .invokevirtual 410, 3, 0), (140, .putfield 407, 3, 0), (143, .goto 23, 3, 166), (146, .iload_n 2, 1, 0), (147, .bipush 25, 2, 0), (149, .if_icmp .ge 11, 3, 160), (152, .aload_n 0, 1, 0), (153, .iload_n 2, 1, 0), (154, .invokevirtual 429, 3, 0), (157, .goto 8, 3, 165), (160, .aload_n 0, 1, 0), (161, .iload_n 2, 1, 0), (162, .invokevirtual 432, 3, 0), (165, .istore_n 3, 1, 0), (166, .aload_n 0, 1, 0), (167, .dup, 1, 0), (168, .getfield 420, 3, 0), (171, .iconst 1, 1, 0), (172, .isub, 1, 0), (173, .putfield 420, 3, 0), (176, .iload_n 3, 1, 0), (177, .ireturn, 1, 0)]
set_option maxRecDepth 100000 in
theorem s_d270 : s_dec prog_14_method_118_code s_t270 := by unfold s_dec; decide +kernel
-- CampAshesModel.readBracket()Z
def s_t271 : List (Nat × Instr × Nat × Nat) := [(0, .aload_n 0, 1, 0), (1, .invokevirtual 435, 3, 0), (4, .ifCond .ne 5, 3, 9), (7, .iconst 0, 1, 0), (8, .ireturn, 1, 0), (9, .aload_n 0, 1, 0), (10, .bipush 41, 2, 0), (12, .invokevirtual 86, 3, 0), (15, .ifCond .ne 9, 3, 24), (18, .aload_n 0, 1, 0), (19, .iconst 1, 1, 0), (20, .invokevirtual 72, 3, 0), (23, .ireturn, 1, 0), (24, .aload_n 0, 1, 0), (25, .invokevirtual 82, 3, 0), (28, .iconst 1, 1, 0), (29, .ireturn, 1, 0)]
set_option maxRecDepth 100000 in
theorem s_d271 : s_dec prog_14_method_120_code s_t271 := by unfold s_dec; decide +kernel
-- CampAshesModel.readNot()Z
def s_t272 : List (Nat × Instr × Nat × Nat) := [(0, .aload_n 0, 1, 0), (1, .invokevirtual 414, 3, 0), (4, .ifCond .ne 5, 3, 9), (7, .iconst 0, 1, 0), (8, .ireturn, 1, 0), (9, .aload_n 0, 1, 0), (10, .aload_n 0, 1, 0), (11, .iconst 1, 1, 0), (12, .aload_n 0, 1, 0), (13, .getfield 407, 3, 0), (16, .iconst 0, 1, 0), (17, .iconst 0, 1, 0), (18, .invokevirtual 410, 3, 0), (21, .putfield 407, 3, 0), (24, .iconst 1, 1, 0), (25, .ireturn, 1, 0)]
set_option maxRecDepth 100000 in
theorem s_d272 : s_dec prog_14_method_119_code s_t272 := by unfold s_dec; decide +kernel
-- CampAshesModel.saysOne(IIII)I
def s_t273 : List (Nat × Instr × Nat × Nat) := [(0, .iconst 4, 1, 0), (1, .aload_n 0, 1, 0), (2, .getfield 401, 3, 0), (5, .imul, 1, 0), (6, .istore 5, 2, 0), (8, .aload_n 0, 1, 0), (9, .getfield 163, 3, 0), (12, .iload 5, 2, 0), (14, .iload_n 1, 1, 0), (15, .iastore, 1, 0), (16, .aload_n 0, 1, 0), (17, .getfield 163, 3, 0), (20, .iload 5, 2, 0), (22, .iconst 1, 1, 0), (23, .iadd, 1, 0), (24, .iload_n 2, 1, 0), (25, .iastore, 1, 0), (26, .aload_n 0, 1, 0), (27, .getfield 163, 3, 0), (30, .iload 5, 2, 0), (32, .iconst 2, 1, 0), (33, .iadd, 1, 0), (34, .iload_n 3, 1, 0), (35, .iastore, 1, 0), (36, .aload_n 0, 1, 0), (37, .getfield 163, 3, 0), (40, .iload 5, 2, 0), (42, .iconst 3, 1, 0), (43, .iadd, 1, 0), (44, .iload 4, 2, 0), (46, .iastore, 1, 0), (47, .aload_n 0, 1, 0), (48, .dup, 1, 0), (49, .getfield 401, 3, 0), (52, .iconst 1, 1, 0), (53, .iadd, 1, 0), (54, .putfield 401, 3, 0), (57, .aload_n 0, 1, 0), (58, .getfield 401, 3, 0), (61, .iconst 1, 1, 0), (62, .isub, 1, 0), (63, .ireturn, 1, 0)]
set_option maxRecDepth 100000 in
theorem s_d273 : s_dec prog_14_method_115_code s_t273 := by unfold s_dec; decide +kernel
-- CampAshesModel.readOf(I)Z
def s_t274 : List (Nat × Instr × Nat × Nat) := [(0, .aload_n 0, 1, 0), (1, .invokevirtual 438, 3, 0), (4, .ifCond .ne 5, 3, 9), (7, .iconst 0, 1, 0), (8, .ireturn, 1, 0), (9, .aload_n 0, 1, 0), (10, .aload_n 0, 1, 0), (11, .bipush 50, 2, 0), (13, .iload_n 1, 1, 0), (14, .iadd, 1, 0), (15, .aload_n 0, 1, 0), (16, .getfield 79, 3, 0), (19, .iconst 0, 1, 0), (20, .iconst 0, 1, 0), (21, .invokevirtual 410, 3, 0), (24, .putfield 407, 3, 0), (27, .iconst 1, 1, 0), (28, .ireturn, 1, 0)]
set_option maxRecDepth 100000 in
theorem s_d274 : s_dec prog_14_method_121_code s_t274 := by unfold s_dec; decide +kernel
-- CampAshesModel.readEventName()Z
def s_t275 : List (Nat × Instr × Nat × Nat) := [(0, .aload_n 0, 1, 0), (1, .bipush 7, 2, 0), (3, .aload_n 0, 1, 0), (4, .getfield 98, 3, 0), (7, .iconst 1, 1, 0), (8, .iaload, 1, 0), (9, .invokevirtual 376, 3, 0), (12, .ireturn, 1, 0)]
set_option maxRecDepth 100000 in
theorem s_d275 : s_dec prog_14_method_114_code s_t275 := by unfold s_dec; decide +kernel
-- CampAshesModel.readCompare(I)Z
def s_t276 : List (Nat × Instr × Nat × Nat) := [(0, .aload_n 0, 1, 0), (1, .bipush 60, 2, 0), (3, .invokevirtual 86, 3, 0), (6, .ifCond .ne 27, 3, 33), (9, .aload_n 0, 1, 0), (10, .bipush 61, 2, 0), (12, .invokevirtual 86, 3, 0), (15, .ifCond .ne 18, 3, 33), (18, .aload_n 0, 1, 0), (19, .bipush 62, 2, 0), (21, .invokevirtual 86, 3, 0), (24, .ifCond .ne 9, 3, 33), (27, .aload_n 0, 1, 0), (28, .iconst 1, 1, 0), (29, .invokevirtual 72, 3, 0), (32, .ireturn, 1, 0), (33, .aload_n 0, 1, 0), (34, .getfield 40, 3, 0), (37, .istore_n 2, 1, 0), (38, .aload_n 0, 1, 0), (39, .invokevirtual 82, 3, 0), (42, .aload_n 0, 1, 0), (43, .iconst 0, 1, 0), (44, .sipush 999, 3, 0), (47, .invokevirtual 190, 3, 0), (50, .ifCond .ne 5, 3, 55), (53, .iconst 0, 1, 0), (54, .ireturn, 1, 0), (55, .aload_n 0, 1, 0), (56, .aload_n 0, 1, 0), (57, .bipush 50, 2, 0), (59, .iload_n 1, 1, 0), (60, .iadd, 1, 0), (61, .iconst 0, 1, 0), (62, .aload_n 0, 1, 0), (63, .getfield 79, 3, 0), (66, .iload_n 2, 1, 0), (67, .invokevirtual 410, 3, 0), (70, .putfield 407, 3, 0), (73, .iconst 1, 1, 0), (74, .ireturn, 1, 0)]
set_option maxRecDepth 100000 in
theorem s_d276 : s_dec prog_14_method_122_code s_t276 := by unfold s_dec; decide +kernel
-- CampAshesModel.said(I)I
def s_t277 : List (Nat × Instr × Nat × Nat) := [(0, .aload_n 0, 1, 0), (1, .iconst 0, 1, 0), (2, .putfield 1, 3, 0), (5, .aload_n 0, 1, 0), (6, .getfield 98, 3, 0), (9, .sipush 133, 3, 0), (12, .iaload, 1, 0), (13, .ifCond .ne 5, 3, 18), (16, .iconst (-1), 1, 0), (17, .ireturn, 1, 0), (18, .iconst 0, 1, 0), (19, .istore_n 2, 1, 0), (20, .iconst 0, 1, 0), (21, .istore_n 3, 1, 0), (22, .iload_n 3, 1, 0), (23, .aload_n 0, 1, 0), (24, .getfield 98, 3, 0), (27, .iconst 0, 1, 0), (28, .iaload, 1, 0), (29, .if_icmp .ge 38, 3, 67), (32, .aload_n 0, 1, 0), (33, .aload_n 0, 1, 0), (34, .getfield 98, 3, 0), (37, .sipush 134, 3, 0), (40, .iaload, 1, 0), (41, .iload_n 3, 1, 0), (42, .invokevirtual 441, 3, 0), (45, .ifCond .ne 6, 3, 51), (48, .goto 13, 3, 61), (51, .iload_n 2, 1, 0), (52, .iload_n 1, 1, 0), (53, .if_icmp .ne 5, 3, 58), (56, .iload_n 3, 1, 0), (57, .ireturn, 1, 0), (58, .iinc 2 1, 3, 0), (61, .iinc 3 1, 3, 0), (64, .goto (-42), 3, 22), (67, .iload_n 1, 1, 0), (68, .iconst (-1), 1, 0), (69, .if_icmp .ne 7, 3, 76), (72, .iload_n 2, 1, 0), (73, .goto 4, 3, 77), (76, .iconst (-1), 1, 0), (77, .ireturn, 1, 0)]
set_option maxRecDepth 100000 in
theorem s_d277 : s_dec prog_14_method_125_code s_t277 := by unfold s_dec; decide +kernel
end
section
-- CampAshesModel.holds(II)Z
def s_t278 : List (Nat × Instr × Nat × Nat) := [(0, .sipush 135, 3, 0), (3, .iconst 4, 1, 0), (4, .iload_n 1, 1, 0), (5, .imul, 1, 0), (6, .iadd, 1, 0), (7, .istore_n 3, 1, 0), (8, .aload_n 0, 1, 0), (9, .getfield 98, 3, 0), (12, .iload_n 3, 1, 0), (13, .iconst 1, 1, 0), (14, .iadd, 1, 0), (15, .iaload, 1, 0), (16, .istore 4, 2, 0), (18, .aload_n 0, 1, 0), (19, .getfield 98, 3, 0), (22, .iload_n 3, 1, 0), (23, .iconst 2, 1, 0), (24, .iadd, 1, 0), (25, .iaload, 1, 0), (26, .istore 5, 2, 0), (28, .aload_n 0, 1, 0), (29, .getfield 98, 3, 0), (32, .iload_n 3, 1, 0), (33, .iaload, 1, 0), (34, .lookupswitch 204 #[(1, 74), (2, 90), (3, 116), (70, 142), (71, 148), (72, 154), (73, 168), (74, 184)], 74, 0), (108, .aload_n 0, 1, 0), (109, .iload 4, 2, 0), (111, .iload_n 2, 1, 0), (112, .invokevirtual 441, 3, 0), (115, .ifCond .ne 7, 3, 122), (118, .iconst 1, 1, 0), (119, .goto 4, 3, 123), (122, .iconst 0, 1, 0), (123, .ireturn, 1, 0), (124, .aload_n 0, 1, 0), (125, .iload 4, 2, 0), (127, .iload_n 2, 1, 0), (128, .invokevirtual 441, 3, 0), (131, .ifCond .eq 17, 3, 148), (134, .aload_n 0, 1, 0), (135, .iload 5, 2, 0), (137, .iload_n 2, 1, 0), (138, .invokevirtual 441, 3, 0), (141, .ifCond .eq 7, 3, 148), (144, .iconst 1, 1, 0), (145, .goto 4, 3, 149), (148, .iconst 0, 1, 0), (149, .ireturn, 1, 0), (150, .aload_n 0, 1, 0), (151, .iload 4, 2, 0), (153, .iload_n 2, 1, 0), (154, .invokevirtual 441, 3, 0), (157, .ifCond .ne 13, 3, 170), (160, .aload_n 0, 1, 0), (161, .iload 5, 2, 0), (163, .iload_n 2, 1, 0), (164, .invokevirtual 441, 3, 0), (167, .ifCond .eq 7, 3, 174), (170, .iconst 1, 1, 0), (171, .goto 4, 3, 175), (174, .iconst 0, 1, 0), (175, .ireturn, 1, 0), (176, .aload_n 0, 1, 0), (177, .iload_n 2, 1, 0), (178, .invokevirtual 244, 3, 0), (181, .ireturn, 1, 0), (182, .aload_n 0, 1, 0), (183, .iload_n 2, 1, 0), (184, .invokevirtual 247, 3, 0), (187, .ireturn, 1, 0), (188, .aload_n 0, 1, 0), (189, .iload_n 2, 1, 0), (190, .invokevirtual 232, 3, 0), (193, .ifCond .ne 7, 3, 200), (196, .iconst 1, 1, 0), (197, .goto 4, 3, 201), (200, .iconst 0, 1, 0), (201, .ireturn, 1, 0), (202, .aload_n 0, 1, 0), (203, .iload_n 2, 1, 0), (204, .iload 4, 2, 0), (206, .invokevirtual 250, 3, 0), (209, .ifCond .le 7, 3, 216), (212, .iconst 1, 1, 0), (213, .goto 4, 3, 217), (216, .iconst 0, 1, 0), (217, .ireturn, 1, 0), (218, .aload_n 0, 1, 0), (219, .getfield 98, 3, 0), (222, .bipush 17, 2, 0), (224, .iload 4, 2, 0), (226, .iadd, 1, 0), (227, .iaload, 1, 0), (228, .iload_n 2, 1, 0), (229, .if_icmp .ne 7, 3, 236), (232, .iconst 1, 1, 0), (233, .goto 4, 3, 237), (236, .iconst 0, 1, 0), (237, .ireturn, 1, 0), (238, .aload_n 0, 1, 0), (239, .getfield 98, 3, 0), (242, .iload_n 3, 1, 0), (243, .iaload, 1, 0), (244, .bipush 50, 2, 0), (246, .isub, 1, 0), (247, .istore 6, 2, 0), (249, .iload 6, 2, 0), (251, .bipush 25, 2, 0), (253, .if_icmp .ne 11, 3, 264), (256, .aload_n 0, 1, 0), (257, .iload_n 2, 1, 0), (258, .invokevirtual 232, 3, 0), (261, .goto 42, 3, 303), (264, .iload 6, 2, 0), (266, .bipush 26, 2, 0), (268, .if_icmp .ne 15, 3, 283), (271, .aload_n 0, 1, 0), (272, .getfield 98, 3, 0), (275, .bipush 10, 2, 0), (277, .iload_n 2, 1, 0), (278, .iadd, 1, 0), (279, .iaload, 1, 0), (280, .goto 23, 3, 303), (283, .iload 6, 2, 0), (285, .bipush 27, 2, 0), (287, .if_icmp .ne 15, 3, 302), (290, .aload_n 0, 1, 0), (291, .getfield 98, 3, 0), (294, .bipush 56, 2, 0), (296, .iload_n 2, 1, 0), (297, .iadd, 1, 0), (298, .iaload, 1, 0), (299, .goto 4, 3, 303), (302, .iload_n 2, 1, 0), (303, .istore 7, 2, 0), (305, .aload_n 0, 1, 0), (306, .getfield 98, 3, 0), (309, .iload_n 3, 1, 0), (310, .iconst 3, 1, 0), (311, .iadd, 1, 0), (312, .iaload, 1, 0), (313, .bipush 60, 2, 0), (315, .if_icmp .ne 18, 3, 333), (318, .iload 7, 2, 0), (320, .iload 5, 2, 0), (322, .if_icmp .ge 7, 3, 329), (325, .iconst 1, 1, 0), (326, .goto 47, 3, 373), (329, .iconst 0, 1, 0), (330, .goto 43, 3, 373), (333, .aload_n 0, 1, 0), (334, .getfield 98, 3, 0), (337, .iload_n 3, 1, 0), (338, .iconst 3, 1, 0), (339, .iadd, 1, 0), (340, .iaload, 1, 0), (341, .bipush 61, 2, 0), (343, .if_icmp .ne 18, 3, 361), (346, .iload 7, 2, 0), (348, .iload 5, 2, 0), (350, .if_icmp .ne 7, 3, 357), (353, .iconst 1, 1, 0), (354, .goto 19, 3, 373), (357, .iconst 0, 1, 0), (358, .goto 15, 3, 373), (361, .iload 7, 2, 0), (363, .iload 5, 2, 0), (365, .if_icmp .le 7, 3, 372), (368, .iconst 1, 1, 0), (369, .goto 4, 3, 373), (372, .iconst 0, 1, 0), (373, .ireturn, 1, 0)]
set_option maxRecDepth 100000 in
theorem s_d278 : s_dec prog_14_method_124_code s_t278 := by unfold s_dec; decide +kernel
-- CampAshesModel.image(I)Z
def s_t279 : List (Nat × Instr × Nat × Nat) := [(0, .aload_n 0, 1, 0), (1, .iconst 0, 1, 0), (2, .putfield 1, 3, 0), (5, .iload_n 1, 1, 0), (6, .iconst 0, 1, 0), (7, .iconst 1, 1, 0), (8, .invokestatic 75, 3, 0), (11, .ifCond .ne 5, 3, 16), (14, .iconst 0, 1, 0), (15, .ireturn, 1, 0), (16, .iconst 0, 1, 0), (17, .istore_n 2, 1, 0), (18, .iload_n 2, 1, 0), (19, .sipush 375, 3, 0), (22, .if_icmp .ge 27, 3, 49), (25, .aload_n 0, 1, 0), (26, .getfield 104, 3, 0), (29, .sipush 375, 3, 0), (32, .iload_n 1, 1, 0), (33, .imul, 1, 0), (34, .iload_n 2, 1, 0), (35, .iadd, 1, 0), (36, .aload_n 0, 1, 0), (37, .getfield 98, 3, 0), (40, .iload_n 2, 1, 0), (41, .iaload, 1, 0), (42, .iastore, 1, 0), (43, .iinc 2 1, 3, 0), (46, .goto (-28), 3, 18), (49, .iconst 0, 1, 0), (50, .istore_n 2, 1, 0), (51, .iload_n 2, 1, 0), (52, .bipush 17, 2, 0), (54, .if_icmp .ge 26, 3, 80), (57, .aload_n 0, 1, 0), (58, .getfield 120, 3, 0), (61, .bipush 17, 2, 0), (63, .iload_n 1, 1, 0), (64, .imul, 1, 0), (65, .iload_n 2, 1, 0), (66, .iadd, 1, 0), (67, .aload_n 0, 1, 0), (68, .getfield 113, 3, 0), (71, .iload_n 2, 1, 0), (72, .laload, 1, 0), (73, .lastore, 1, 0), (74, .iinc 2 1, 3, 0), (77, .goto (-26), 3, 51), (80, .aload_n 0, 1, 0), (81, .getfield 123, 3, 0), (84, .iload_n 1, 1, 0), (85, .iconst 1, 1, 0), (86, .bastore, 1, 0), (87, .iconst 1, 1, 0), (88, .ireturn, 1, 0)]
set_option maxRecDepth 100000 in
theorem s_d279 : s_dec prog_14_method_126_code s_t279 := by unfold s_dec; decide +kernel
-- CampAshesModel.restore(I)Z
def s_t280 : List (Nat × Instr × Nat × Nat) := [(0, .aload_n 0, 1, 0), (1, .iconst 0, 1, 0), (2, .putfield 1, 3, 0), (5, .iload_n 1, 1, 0), (6, .iconst 0, 1, 0), (7, .iconst 1, 1, 0), (8, .invokestatic 75, 3, 0), (11, .ifCond .eq 12, 3, 23), (14, .aload_n 0, 1, 0), (15, .getfield 123, 3, 0), (18, .iload_n 1, 1, 0), (19, .baload, 1, 0), (20, .ifCond .ne 5, 3, 25), (23, .iconst 0, 1, 0), (24, .ireturn, 1, 0), (25, .iconst 0, 1, 0), (26, .istore_n 2, 1, 0), (27, .iload_n 2, 1, 0), (28, .sipush 375, 3, 0), (31, .if_icmp .ge 27, 3, 58), (34, .aload_n 0, 1, 0), (35, .getfield 98, 3, 0), (38, .iload_n 2, 1, 0), (39, .aload_n 0, 1, 0), (40, .getfield 104, 3, 0), (43, .sipush 375, 3, 0), (46, .iload_n 1, 1, 0), (47, .imul, 1, 0), (48, .iload_n 2, 1, 0), (49, .iadd, 1, 0), (50, .iaload, 1, 0), (51, .iastore, 1, 0), (52, .iinc 2 1, 3, 0), (55, .goto (-28), 3, 27), (58, .iconst 0, 1, 0), (59, .istore_n 2, 1, 0), (60, .iload_n 2, 1, 0), (61, .bipush 17, 2, 0), (63, .if_icmp .ge 26, 3, 89), (66, .aload_n 0, 1, 0), (67, .getfield 113, 3, 0), (70, .iload_n 2, 1, 0), (71, .aload_n 0, 1, 0), (72, .getfield 120, 3, 0), (75, .bipush 17, 2, 0), (77, .iload_n 1, 1, 0), (78, .imul, 1, 0), (79, .iload_n 2, 1, 0), (80, .iadd, 1, 0), (81, .laload, 1, 0), (82, .lastore, 1, 0), (83, .iinc 2 1, 3, 0), (86, .goto (-26), 3, 60), (89, .aload_n 0, 1, 0), (90, .iconst 0, 1, 0), (91, .putfield 225, 3, 0), (94, .iconst 1, 1, 0), (95, .ireturn, 1, 0)]
set_option maxRecDepth 100000 in
theorem s_d280 : s_dec prog_14_method_127_code s_t280 := by unfold s_dec; decide +kernel
-- CampAshesModel.count(I)I
def s_t281 : List (Nat × Instr × Nat × Nat) := [(0, .aload_n 0, 1, 0), (1, .iconst 0, 1, 0), (2, .putfield 1, 3, 0), (5, .iload_n 1, 1, 0), (6, .tableswitch 67 0 4 #[34, 41, 48, 55, 62], 34, 0), (40, .aload_n 0, 1, 0), (41, .getfield 98, 3, 0), (44, .iconst 0, 1, 0), (45, .iaload, 1, 0), (46, .ireturn, 1, 0), (47, .aload_n 0, 1, 0), (48, .getfield 98, 3, 0), (51, .iconst 1, 1, 0), (52, .iaload, 1, 0), (53, .ireturn, 1, 0), (54, .aload_n 0, 1, 0), (55, .getfield 98, 3, 0), (58, .iconst 4, 1, 0), (59, .iaload, 1, 0), (60, .ireturn, 1, 0), (61, .aload_n 0, 1, 0), (62, .getfield 98, 3, 0), (65, .iconst 5, 1, 0), (66, .iaload, 1, 0), (67, .ireturn, 1, 0), (68, .aload_n 0, 1, 0), (69, .getfield 11, 3, 0), (72, .ireturn, 1, 0), (73, .iconst (-1), 1, 0), (74, .ireturn, 1, 0)]
set_option maxRecDepth 100000 in
theorem s_d281 : s_dec prog_14_method_128_code s_t281 := by unfold s_dec; decide +kernel
end
section
-- CampAshesLaw.law([I)Z
def s_t282 : List (Nat × Instr × Nat × Nat) := [(0, .new 8, 3, 0), (3, .dup, 1, 0), (4, .invokespecial 15, 3, 0), (7, .astore_n 1, 1, 0), (8, .new 16, 3, 0), (11, .dup, 1, 0), (12, .invokespecial 18, 3, 0), (15, .astore_n 2, 1, 0), (16, .iconst 1, 1, 0), (17, .newarray .long, 2, 0), (19, .astore_n 3, 1, 0), (20, .iconst 0, 1, 0), (21, .istore 4, 2, 0), (23, .iload 4, 2, 0), (25, .aload_n 0, 1, 0), (26, .arraylength, 1, 0), (27, .bipush 6, 2, 0), (29, .isub, 1, 0), (30, .if_icmp .gt 1225, 3, 1255), (33, .aload_n 0, 1, 0), (34, .iload 4, 2, 0), (36, .iaload, 1, 0), (37, .bipush 63, 2, 0), (39, .iand, 1, 0), (40, .tableswitch 1209 0 37 #[168, 241, 266, 279, 292, 360, 397, 434, 459, 484, 509, 546, 583, 644, 657, 670, 695, 708, 721, 746, 759, 784, 821, 834, 859, 872, 885, 910, 935, 960, 997, 1046, 1071, 1096, 1109, 1134, 1159, 1184], 168, 0), (208, .aload_n 1, 1, 0), (209, .aload_n 0, 1, 0), (210, .iload 4, 2, 0), (212, .iconst 1, 1, 0), (213, .iadd, 1, 0), (214, .iaload, 1, 0), (215, .aload_n 0, 1, 0), (216, .iload 4, 2, 0), (218, .iconst 2, 1, 0), (219, .iadd, 1, 0), (220, .iaload, 1, 0), (221, .aload_n 0, 1, 0), (222, .iload 4, 2, 0), (224, .iconst 3, 1, 0), (225, .iadd, 1, 0), (226, .iaload, 1, 0), (227, .aload_n 0, 1, 0), (228, .iload 4, 2, 0), (230, .iconst 4, 1, 0), (231, .iadd, 1, 0), (232, .iaload, 1, 0), (233, .aload_n 0, 1, 0), (234, .iload 4, 2, 0), (236, .iconst 5, 1, 0), (237, .iadd, 1, 0), (238, .iaload, 1, 0), (239, .invokevirtual 19, 3, 0), (242, .aload_n 2, 1, 0), (243, .aload_n 0, 1, 0), (244, .iload 4, 2, 0), (246, .iconst 1, 1, 0), (247, .iadd, 1, 0), (248, .iaload, 1, 0), (249, .aload_n 0, 1, 0), (250, .iload 4, 2, 0), (252, .iconst 2, 1, 0), (253, .iadd, 1, 0), (254, .iaload, 1, 0), (255, .aload_n 0, 1, 0), (256, .iload 4, 2, 0), (258, .iconst 3, 1, 0), (259, .iadd, 1, 0), (260, .iaload, 1, 0), (261, .aload_n 0, 1, 0), (262, .iload 4, 2, 0), (264, .iconst 4, 1, 0), (265, .iadd, 1, 0), (266, .iaload, 1, 0), (267, .aload_n 0, 1, 0), (268, .iload 4, 2, 0), (270, .iconst 5, 1, 0), (271, .iadd, 1, 0), (272, .iaload, 1, 0), (273, .invokevirtual 23, 3, 0), (276, .if_icmp .eq 973, 3, 1249), (279, .iconst 0, 1, 0), (280, .ireturn, 1, 0), (281, .aload_n 1, 1, 0), (282, .aload_n 0, 1, 0), (283, .iload 4, 2, 0), (285, .iconst 1, 1, 0), (286, .iadd, 1, 0), (287, .iaload, 1, 0), (288, .invokevirtual 24, 3, 0), (291, .aload_n 2, 1, 0), (292, .aload_n 0, 1, 0), (293, .iload 4, 2, 0), (295, .iconst 1, 1, 0), (296, .iadd, 1, 0), (297, .iaload, 1, 0), (298, .invokevirtual 28, 3, 0), (301, .if_icmp .eq 948, 3, 1249), (304, .iconst 0, 1, 0), (305, .ireturn, 1, 0), (306, .aload_n 1, 1, 0), (307, .invokevirtual 29, 3, 0), (310, .aload_n 2, 1, 0), (311, .invokevirtual 33, 3, 0), (314, .if_icmp .eq 935, 3, 1249), (317, .iconst 0, 1, 0), (318, .ireturn, 1, 0), (319, .aload_n 1, 1, 0), (320, .invokevirtual 34, 3, 0), (323, .aload_n 2, 1, 0), (324, .invokevirtual 37, 3, 0), (327, .if_icmp .eq 922, 3, 1249), (330, .iconst 0, 1, 0), (331, .ireturn, 1, 0), (332, .aload_n 1, 1, 0), (333, .aload_n 0, 1, 0), (334, .iload 4, 2, 0), (336, .iconst 1, 1, 0), (337, .iadd, 1, 0), (338, .iaload, 1, 0), (339, .aload_n 0, 1, 0), (340, .iload 4, 2, 0), (342, .iconst 2, 1, 0), (343, .iadd, 1, 0), (344, .iaload, 1, 0), (345, .aload_n 3, 1, 0), (346, .invokestatic 38, 3, 0), (349, .istore 5, 2, 0), (351, .aload_n 2, 1, 0), (352, .aload_n 0, 1, 0), (353, .iload 4, 2, 0), (355, .iconst 1, 1, 0), (356, .iadd, 1, 0), (357, .iaload, 1, 0), (358, .aload_n 0, 1, 0), (359, .iload 4, 2, 0), (361, .iconst 2, 1, 0), (362, .iadd, 1, 0), (363, .iaload, 1, 0), (364, .invokevirtual 43, 3, 0), (367, .istore 6, 2, 0), (369, .aload_n 2, 1, 0), (370, .invokevirtual 44, 3, 0), (373, .iload 5, 2, 0), (375, .if_icmp .eq 5, 3, 380), (378, .iconst 0, 1, 0), (379, .ireturn, 1, 0), (380, .iload 5, 2, 0), (382, .ifCond .ne 15, 3, 397), (385, .aload_n 3, 1, 0), (386, .iconst 0, 1, 0), (387, .laload, 1, 0), (388, .iload 6, 2, 0), (390, .i2l, 1, 0), (391, .lcmp, 1, 0), (392, .ifCond .eq 5, 3, 397), (395, .iconst 0, 1, 0), (396, .ireturn, 1, 0), (397, .goto 852, 3, 1249), (400, .aload_n 1, 1, 0), (401, .aload_n 0, 1, 0), (402, .iload 4, 2, 0), (404, .iconst 1, 1, 0), (405, .iadd, 1, 0), (406, .iaload, 1, 0), (407, .aload_n 0, 1, 0), (408, .iload 4, 2, 0), (410, .iconst 2, 1, 0), (411, .iadd, 1, 0), (412, .iaload, 1, 0), (413, .invokevirtual 47, 3, 0), (416, .aload_n 2, 1, 0), (417, .aload_n 0, 1, 0), (418, .iload 4, 2, 0), (420, .iconst 1, 1, 0), (421, .iadd, 1, 0), (422, .iaload, 1, 0), (423, .aload_n 0, 1, 0), (424, .iload 4, 2, 0), (426, .iconst 2, 1, 0), (427, .iadd, 1, 0), (428, .iaload, 1, 0), (429, .invokevirtual 50, 3, 0), (432, .if_icmp .eq 817, 3, 1249), (435, .iconst 0, 1, 0), (436, .ireturn, 1, 0), (437, .aload_n 1, 1, 0), (438, .aload_n 0, 1, 0), (439, .iload 4, 2, 0), (441, .iconst 1, 1, 0), (442, .iadd, 1, 0), (443, .iaload, 1, 0), (444, .aload_n 0, 1, 0), (445, .iload 4, 2, 0), (447, .iconst 2, 1, 0), (448, .iadd, 1, 0), (449, .iaload, 1, 0), (450, .invokevirtual 51, 3, 0), (453, .aload_n 2, 1, 0), (454, .aload_n 0, 1, 0), (455, .iload 4, 2, 0), (457, .iconst 1, 1, 0), (458, .iadd, 1, 0), (459, .iaload, 1, 0), (460, .aload_n 0, 1, 0), (461, .iload 4, 2, 0), (463, .iconst 2, 1, 0), (464, .iadd, 1, 0), (465, .iaload, 1, 0), (466, .invokevirtual 54, 3, 0), (469, .if_icmp .eq 780, 3, 1249), (472, .iconst 0, 1, 0), (473, .ireturn, 1, 0), (474, .aload_n 1, 1, 0), (475, .aload_n 0, 1, 0), (476, .iload 4, 2, 0), (478, .iconst 1, 1, 0), (479, .iadd, 1, 0), (480, .iaload, 1, 0), (481, .invokevirtual 55, 3, 0), (484, .aload_n 2, 1, 0), (485, .aload_n 0, 1, 0), (486, .iload 4, 2, 0), (488, .iconst 1, 1, 0), (489, .iadd, 1, 0), (490, .iaload, 1, 0), (491, .invokevirtual 59, 3, 0), (494, .if_icmp .eq 755, 3, 1249), (497, .iconst 0, 1, 0), (498, .ireturn, 1, 0), (499, .aload_n 1, 1, 0), (500, .aload_n 0, 1, 0), (501, .iload 4, 2, 0), (503, .iconst 1, 1, 0), (504, .iadd, 1, 0), (505, .iaload, 1, 0), (506, .invokevirtual 60, 3, 0), (509, .aload_n 2, 1, 0), (510, .aload_n 0, 1, 0), (511, .iload 4, 2, 0), (513, .iconst 1, 1, 0), (514, .iadd, 1, 0), (515, .iaload, 1, 0), (516, .invokevirtual 63, 3, 0), (519, .if_icmp .eq 730, 3, 1249), (522, .iconst 0, 1, 0), (523, .ireturn, 1, 0), (524, .aload_n 1, 1, 0), (525, .aload_n 0, 1, 0), (526, .iload 4, 2, 0), (528, .iconst 1, 1, 0), (529, .iadd, 1, 0), (530, .iaload, 1, 0), (531, .invokevirtual 64, 3, 0), (534, .aload_n 2, 1, 0), (535, .aload_n 0, 1, 0), (536, .iload 4, 2, 0), (538, .iconst 1, 1, 0), (539, .iadd, 1, 0), (540, .iaload, 1, 0), (541, .invokevirtual 67, 3, 0), (544, .if_icmp .eq 705, 3, 1249), (547, .iconst 0, 1, 0), (548, .ireturn, 1, 0), (549, .aload_n 1, 1, 0), (550, .aload_n 0, 1, 0), (551, .iload 4, 2, 0), (553, .iconst 1, 1, 0), (554, .iadd, 1, 0), (555, .iaload, 1, 0), (556, .aload_n 0, 1, 0), (557, .iload 4, 2, 0), (559, .iconst 2, 1, 0), (560, .iadd, 1, 0), (561, .iaload, 1, 0), (562, .invokevirtual 68, 3, 0), (565, .aload_n 2, 1, 0), (566, .aload_n 0, 1, 0), (567, .iload 4, 2, 0), (569, .iconst 1, 1, 0), (570, .iadd, 1, 0), (571, .iaload, 1, 0), (572, .aload_n 0, 1, 0), (573, .iload 4, 2, 0), (575, .iconst 2, 1, 0), (576, .iadd, 1, 0), (577, .iaload, 1, 0), (578, .invokevirtual 71, 3, 0), (581, .if_icmp .eq 668, 3, 1249), (584, .iconst 0, 1, 0), (585, .ireturn, 1, 0), (586, .aload_n 1, 1, 0), (587, .aload_n 0, 1, 0), (588, .iload 4, 2, 0), (590, .iconst 1, 1, 0), (591, .iadd, 1, 0), (592, .iaload, 1, 0), (593, .aload_n 0, 1, 0), (594, .iload 4, 2, 0), (596, .iconst 2, 1, 0), (597, .iadd, 1, 0), (598, .iaload, 1, 0), (599, .invokevirtual 72, 3, 0), (602, .aload_n 2, 1, 0), (603, .aload_n 0, 1, 0), (604, .iload 4, 2, 0), (606, .iconst 1, 1, 0), (607, .iadd, 1, 0), (608, .iaload, 1, 0), (609, .aload_n 0, 1, 0), (610, .iload 4, 2, 0), (612, .iconst 2, 1, 0), (613, .iadd, 1, 0), (614, .iaload, 1, 0), (615, .invokevirtual 75, 3, 0), (618, .if_icmp .eq 631, 3, 1249), (621, .iconst 0, 1, 0), (622, .ireturn, 1, 0), (623, .aload_n 1, 1, 0), (624, .aload_n 0, 1, 0), (625, .iload 4, 2, 0), (627, .iconst 1, 1, 0), (628, .iadd, 1, 0), (629, .iaload, 1, 0), (630, .aload_n 0, 1, 0), (631, .iload 4, 2, 0), (633, .iconst 2, 1, 0), (634, .iadd, 1, 0), (635, .iaload, 1, 0), (636, .aload_n 0, 1, 0), (637, .iload 4, 2, 0), (639, .iconst 3, 1, 0), (640, .iadd, 1, 0), (641, .iaload, 1, 0), (642, .aload_n 0, 1, 0), (643, .iload 4, 2, 0), (645, .iconst 4, 1, 0), (646, .iadd, 1, 0), (647, .iaload, 1, 0), (648, .invokevirtual 76, 3, 0), (651, .aload_n 2, 1, 0), (652, .aload_n 0, 1, 0), (653, .iload 4, 2, 0), (655, .iconst 1, 1, 0), (656, .iadd, 1, 0), (657, .iaload, 1, 0), (658, .aload_n 0, 1, 0), (659, .iload 4, 2, 0), (661, .iconst 2, 1, 0), (662, .iadd, 1, 0), (663, .iaload, 1, 0), (664, .aload_n 0, 1, 0), (665, .iload 4, 2, 0), (667, .iconst 3, 1, 0), (668, .iadd, 1, 0), (669, .iaload, 1, 0), (670, .aload_n 0, 1, 0), (671, .iload 4, 2, 0), (673, .iconst 4, 1, 0), (674, .iadd, 1, 0), (675, .iaload, 1, 0), (676, .invokevirtual 80, 3, 0), (679, .if_icmp .eq 570, 3, 1249), (682, .iconst 0, 1, 0), (683, .ireturn, 1, 0), (684, .aload_n 1, 1, 0), (685, .invokevirtual 81, 3, 0), (688, .aload_n 2, 1, 0), (689, .invokevirtual 84, 3, 0), (692, .if_icmp .eq 557, 3, 1249), (695, .iconst 0, 1, 0), (696, .ireturn, 1, 0), (697, .aload_n 1, 1, 0), (698, .invokevirtual 85, 3, 0), (701, .aload_n 2, 1, 0), (702, .invokevirtual 88, 3, 0), (705, .if_icmp .eq 544, 3, 1249), (708, .iconst 0, 1, 0), (709, .ireturn, 1, 0), (710, .aload_n 1, 1, 0), (711, .aload_n 0, 1, 0), (712, .iload 4, 2, 0), (714, .iconst 1, 1, 0), (715, .iadd, 1, 0), (716, .iaload, 1, 0), (717, .invokevirtual 89, 3, 0), (720, .aload_n 2, 1, 0), (721, .aload_n 0, 1, 0), (722, .iload 4, 2, 0), (724, .iconst 1, 1, 0), (725, .iadd, 1, 0), (726, .iaload, 1, 0), (727, .invokevirtual 92, 3, 0), (730, .if_icmp .eq 519, 3, 1249), (733, .iconst 0, 1, 0), (734, .ireturn, 1, 0), (735, .aload_n 1, 1, 0), (736, .invokevirtual 93, 3, 0), (739, .aload_n 2, 1, 0), (740, .invokevirtual 96, 3, 0), (743, .if_icmp .eq 506, 3, 1249), (746, .iconst 0, 1, 0), (747, .ireturn, 1, 0), (748, .aload_n 1, 1, 0), (749, .invokevirtual 97, 3, 0), (752, .aload_n 2, 1, 0), (753, .invokevirtual 100, 3, 0), (756, .if_icmp .eq 493, 3, 1249), (759, .iconst 0, 1, 0), (760, .ireturn, 1, 0), (761, .aload_n 1, 1, 0), (762, .aload_n 0, 1, 0), (763, .iload 4, 2, 0), (765, .iconst 1, 1, 0), (766, .iadd, 1, 0), (767, .iaload, 1, 0), (768, .invokevirtual 101, 3, 0), (771, .aload_n 2, 1, 0), (772, .aload_n 0, 1, 0), (773, .iload 4, 2, 0), (775, .iconst 1, 1, 0), (776, .iadd, 1, 0), (777, .iaload, 1, 0), (778, .invokevirtual 104, 3, 0), (781, .if_icmp .eq 468, 3, 1249), (784, .iconst 0, 1, 0), (785, .ireturn, 1, 0), (786, .aload_n 1, 1, 0), (787, .invokevirtual 105, 3, 0), (790, .aload_n 2, 1, 0), (791, .invokevirtual 108, 3, 0), (794, .if_icmp .eq 455, 3, 1249), (797, .iconst 0, 1, 0), (798, .ireturn, 1, 0), (799, .aload_n 1, 1, 0), (800, .aload_n 0, 1, 0), (801, .iload 4, 2, 0), (803, .iconst 1, 1, 0), (804, .iadd, 1, 0), (805, .iaload, 1, 0), (806, .invokevirtual 109, 3, 0), (809, .aload_n 2, 1, 0), (810, .aload_n 0, 1, 0), (811, .iload 4, 2, 0), (813, .iconst 1, 1, 0), (814, .iadd, 1, 0), (815, .iaload, 1, 0), (816, .invokevirtual 112, 3, 0), (819, .if_icmp .eq 430, 3, 1249), (822, .iconst 0, 1, 0), (823, .ireturn, 1, 0), (824, .aload_n 1, 1, 0), (825, .aload_n 0, 1, 0), (826, .iload 4, 2, 0), (828, .iconst 1, 1, 0), (829, .iadd, 1, 0), (830, .iaload, 1, 0), (831, .aload_n 0, 1, 0), (832, .iload 4, 2, 0), (834, .iconst 2, 1, 0), (835, .iadd, 1, 0), (836, .iaload, 1, 0), (837, .invokevirtual 113, 3, 0), (840, .aload_n 2, 1, 0), (841, .aload_n 0, 1, 0), (842, .iload 4, 2, 0), (844, .iconst 1, 1, 0), (845, .iadd, 1, 0), (846, .iaload, 1, 0), (847, .aload_n 0, 1, 0), (848, .iload 4, 2, 0), (850, .iconst 2, 1, 0), (851, .iadd, 1, 0), (852, .iaload, 1, 0), (853, .invokevirtual 116, 3, 0), (856, .if_icmp .eq 393, 3, 1249), (859, .iconst 0, 1, 0), (860, .ireturn, 1, 0), (861, .aload_n 1, 1, 0), (862, .invokevirtual 117, 3, 0), (865, .aload_n 2, 1, 0), (866, .invokevirtual 120, 3, 0), (869, .if_icmp .eq 380, 3, 1249), (872, .iconst 0, 1, 0), (873, .ireturn, 1, 0), (874, .aload_n 1, 1, 0), (875, .aload_n 0, 1, 0), (876, .iload 4, 2, 0), (878, .iconst 1, 1, 0), (879, .iadd, 1, 0), (880, .iaload, 1, 0), (881, .invokevirtual 121, 3, 0), (884, .aload_n 2, 1, 0), (885, .aload_n 0, 1, 0), (886, .iload 4, 2, 0), (888, .iconst 1, 1, 0), (889, .iadd, 1, 0), (890, .iaload, 1, 0), (891, .invokevirtual 124, 3, 0), (894, .if_icmp .eq 355, 3, 1249), (897, .iconst 0, 1, 0), (898, .ireturn, 1, 0), (899, .aload_n 1, 1, 0), (900, .invokevirtual 125, 3, 0), (903, .aload_n 2, 1, 0), (904, .invokevirtual 128, 3, 0), (907, .if_icmp .eq 342, 3, 1249), (910, .iconst 0, 1, 0), (911, .ireturn, 1, 0), (912, .aload_n 1, 1, 0), (913, .invokevirtual 129, 3, 0), (916, .aload_n 2, 1, 0), (917, .invokevirtual 132, 3, 0), (920, .if_icmp .eq 329, 3, 1249), (923, .iconst 0, 1, 0), (924, .ireturn, 1, 0), (925, .aload_n 1, 1, 0), (926, .aload_n 0, 1, 0), (927, .iload 4, 2, 0), (929, .iconst 1, 1, 0), (930, .iadd, 1, 0), (931, .iaload, 1, 0), (932, .invokevirtual 133, 3, 0), (935, .aload_n 2, 1, 0), (936, .aload_n 0, 1, 0), (937, .iload 4, 2, 0), (939, .iconst 1, 1, 0), (940, .iadd, 1, 0), (941, .iaload, 1, 0), (942, .invokevirtual 136, 3, 0), (945, .if_icmp .eq 304, 3, 1249), (948, .iconst 0, 1, 0), (949, .ireturn, 1, 0), (950, .aload_n 1, 1, 0), (951, .aload_n 0, 1, 0), (952, .iload 4, 2, 0), (954, .iconst 1, 1, 0), (955, .iadd, 1, 0), (956, .iaload, 1, 0), (957, .invokevirtual 137, 3, 0), (960, .aload_n 2, 1, 0), (961, .aload_n 0, 1, 0), (962, .iload 4, 2, 0), (964, .iconst 1, 1, 0), (965, .iadd, 1, 0), (966, .iaload, 1, 0), (967, .invokevirtual 140, 3, 0), (970, .if_icmp .eq 279, 3, 1249), (973, .iconst 0, 1, 0), (974, .ireturn, 1, 0), (975, .aload_n 1, 1, 0), (976, .aload_n 0, 1, 0), (977, .iload 4, 2, 0), (979, .iconst 1, 1, 0), (980, .iadd, 1, 0), (981, .iaload, 1, 0), (982, .invokevirtual 141, 3, 0), (985, .aload_n 2, 1, 0), (986, .aload_n 0, 1, 0), (987, .iload 4, 2, 0), (989, .iconst 1, 1, 0), (990, .iadd, 1, 0), (991, .iaload, 1, 0), (992, .invokevirtual 144, 3, 0), (995, .if_icmp .eq 254, 3, 1249), (998, .iconst 0, 1, 0), (999, .ireturn, 1, 0), (1000, .aload_n 1, 1, 0), (1001, .aload_n 0, 1, 0), (1002, .iload 4, 2, 0), (1004, .iconst 1, 1, 0), (1005, .iadd, 1, 0), (1006, .iaload, 1, 0), (1007, .aload_n 0, 1, 0), (1008, .iload 4, 2, 0), (1010, .iconst 2, 1, 0), (1011, .iadd, 1, 0), (1012, .iaload, 1, 0), (1013, .invokevirtual 145, 3, 0), (1016, .aload_n 2, 1, 0), (1017, .aload_n 0, 1, 0), (1018, .iload 4, 2, 0), (1020, .iconst 1, 1, 0), (1021, .iadd, 1, 0), (1022, .iaload, 1, 0), (1023, .aload_n 0, 1, 0), (1024, .iload 4, 2, 0), (1026, .iconst 2, 1, 0), (1027, .iadd, 1, 0), (1028, .iaload, 1, 0), (1029, .invokevirtual 148, 3, 0), (1032, .if_icmp .eq 217, 3, 1249), (1035, .iconst 0, 1, 0), (1036, .ireturn, 1, 0), (1037, .aload_n 1, 1, 0), (1038, .aload_n 0, 1, 0), (1039, .iload 4, 2, 0), (1041, .iconst 1, 1, 0), (1042, .iadd, 1, 0), (1043, .iaload, 1, 0), (1044, .aload_n 0, 1, 0), (1045, .iload 4, 2, 0), (1047, .iconst 2, 1, 0), (1048, .iadd, 1, 0), (1049, .iaload, 1, 0), (1050, .aload_n 0, 1, 0), (1051, .iload 4, 2, 0), (1053, .iconst 3, 1, 0), (1054, .iadd, 1, 0), (1055, .iaload, 1, 0), (1056, .invokevirtual 149, 3, 0), (1059, .aload_n 2, 1, 0), (1060, .aload_n 0, 1, 0), (1061, .iload 4, 2, 0), (1063, .iconst 1, 1, 0), (1064, .iadd, 1, 0), (1065, .iaload, 1, 0), (1066, .aload_n 0, 1, 0), (1067, .iload 4, 2, 0), (1069, .iconst 2, 1, 0), (1070, .iadd, 1, 0), (1071, .iaload, 1, 0), (1072, .aload_n 0, 1, 0), (1073, .iload 4, 2, 0), (1075, .iconst 3, 1, 0), (1076, .iadd, 1, 0), (1077, .iaload, 1, 0), (1078, .invokevirtual 153, 3, 0), (1081, .if_icmp .eq 168, 3, 1249), (1084, .iconst 0, 1, 0), (1085, .ireturn, 1, 0), (1086, .aload_n 1, 1, 0), (1087, .aload_n 0, 1, 0), (1088, .iload 4, 2, 0), (1090, .iconst 1, 1, 0), (1091, .iadd, 1, 0), (1092, .iaload, 1, 0), (1093, .invokevirtual 154, 3, 0), (1096, .aload_n 2, 1, 0), (1097, .aload_n 0, 1, 0), (1098, .iload 4, 2, 0), (1100, .iconst 1, 1, 0), (1101, .iadd, 1, 0), (1102, .iaload, 1, 0), (1103, .invokevirtual 157, 3, 0), (1106, .if_icmp .eq 143, 3, 1249), (1109, .iconst 0, 1, 0), (1110, .ireturn, 1, 0), (1111, .aload_n 1, 1, 0), (1112, .aload_n 0, 1, 0), (1113, .iload 4, 2, 0), (1115, .iconst 1, 1, 0), (1116, .iadd, 1, 0), (1117, .iaload, 1, 0), (1118, .invokevirtual 158, 3, 0), (1121, .aload_n 2, 1, 0), (1122, .aload_n 0, 1, 0), (1123, .iload 4, 2, 0), (1125, .iconst 1, 1, 0), (1126, .iadd, 1, 0), (1127, .iaload, 1, 0), (1128, .invokevirtual 161, 3, 0), (1131, .if_icmp .eq 118, 3, 1249), (1134, .iconst 0, 1, 0), (1135, .ireturn, 1, 0), (1136, .aload_n 1, 1, 0), (1137, .invokevirtual 162, 3, 0), (1140, .aload_n 2, 1, 0), (1141, .invokevirtual 165, 3, 0), (1144, .if_icmp .eq 105, 3, 1249), (1147, .iconst 0, 1, 0), (1148, .ireturn, 1, 0), (1149, .aload_n 1, 1, 0), (1150, .aload_n 0, 1, 0), (1151, .iload 4, 2, 0), (1153, .iconst 1, 1, 0), (1154, .iadd, 1, 0), (1155, .iaload, 1, 0), (1156, .invokevirtual 166, 3, 0), (1159, .aload_n 2, 1, 0), (1160, .aload_n 0, 1, 0), (1161, .iload 4, 2, 0), (1163, .iconst 1, 1, 0), (1164, .iadd, 1, 0), (1165, .iaload, 1, 0), (1166, .invokevirtual 169, 3, 0), (1169, .if_icmp .eq 80, 3, 1249), (1172, .iconst 0, 1, 0), (1173, .ireturn, 1, 0), (1174, .aload_n 1, 1, 0), (1175, .aload_n 0, 1, 0), (1176, .iload 4, 2, 0), (1178, .iconst 1, 1, 0), (1179, .iadd, 1, 0), (1180, .iaload, 1, 0), (1181, .invokevirtual 170, 3, 0), (1184, .aload_n 2, 1, 0), (1185, .aload_n 0, 1, 0), (1186, .iload 4, 2, 0), (1188, .iconst 1, 1, 0), (1189, .iadd, 1, 0), (1190, .iaload, 1, 0), (1191, .invokevirtual 173, 3, 0), (1194, .if_icmp .eq 55, 3, 1249), (1197, .iconst 0, 1, 0), (1198, .ireturn, 1, 0), (1199, .aload_n 1, 1, 0), (1200, .aload_n 0, 1, 0), (1201, .iload 4, 2, 0), (1203, .iconst 1, 1, 0), (1204, .iadd, 1, 0), (1205, .iaload, 1, 0), (1206, .invokevirtual 174, 3, 0), (1209, .aload_n 2, 1, 0), (1210, .aload_n 0, 1, 0), (1211, .iload 4, 2, 0), (1213, .iconst 1, 1, 0), (1214, .iadd, 1, 0), (1215, .iaload, 1, 0), (1216, .invokevirtual 177, 3, 0), (1219, .if_icmp .eq 30, 3, 1249), (1222, .iconst 0, 1, 0), (1223, .ireturn, 1, 0), (1224, .aload_n 1, 1, 0), (1225, .aload_n 0, 1, 0), (1226, .iload 4, 2, 0), (1228, .iconst 1, 1, 0), (1229, .iadd, 1, 0), (1230, .iaload, 1, 0), (1231, .invokevirtual 178, 3, 0), (1234, .aload_n 2, 1, 0), (1235, .aload_n 0, 1, 0), (1236, .iload 4, 2, 0), (1238, .iconst 1, 1, 0), (1239, .iadd, 1, 0), (1240, .iaload, 1, 0), (1241, .invokevirtual 181, 3, 0), (1244, .if_icmp .eq 5, 3, 1249), (1247, .iconst 0, 1, 0), (1248, .ireturn, 1, 0), (1249, .iinc 4 6, 3, 0), (1252, .goto (-1229), 3, 23), (1255, .iconst 1, 1, 0), (1256, .ireturn, 1, 0)]
end
section
set_option maxRecDepth 100000 in
theorem s_d282_0 : s_dec code ((s_t282.drop 0).take 50) := by unfold s_dec; decide +kernel
set_option maxRecDepth 100000 in
theorem s_d282_1 : s_dec code ((s_t282.drop 50).take 50) := by unfold s_dec; decide +kernel
set_option maxRecDepth 100000 in
theorem s_d282_2 : s_dec code ((s_t282.drop 100).take 50) := by unfold s_dec; decide +kernel
end
section
set_option maxRecDepth 100000 in
theorem s_d282_3 : s_dec code ((s_t282.drop 150).take 50) := by unfold s_dec; decide +kernel
set_option maxRecDepth 100000 in
theorem s_d282_4 : s_dec code ((s_t282.drop 200).take 50) := by unfold s_dec; decide +kernel
set_option maxRecDepth 100000 in
theorem s_d282_5 : s_dec code ((s_t282.drop 250).take 50) := by unfold s_dec; decide +kernel
end
section
set_option maxRecDepth 100000 in
theorem s_d282_6 : s_dec code ((s_t282.drop 300).take 50) := by unfold s_dec; decide +kernel
set_option maxRecDepth 100000 in
theorem s_d282_7 : s_dec code ((s_t282.drop 350).take 50) := by unfold s_dec; decide +kernel
set_option maxRecDepth 100000 in
theorem s_d282_8 : s_dec code ((s_t282.drop 400).take 50) := by unfold s_dec; decide +kernel
end
section
set_option maxRecDepth 100000 in
theorem s_d282_9 : s_dec code ((s_t282.drop 450).take 50) := by unfold s_dec; decide +kernel
set_option maxRecDepth 100000 in
theorem s_d282_10 : s_dec code ((s_t282.drop 500).take 50) := by unfold s_dec; decide +kernel
set_option maxRecDepth 100000 in
theorem s_d282_11 : s_dec code ((s_t282.drop 550).take 50) := by unfold s_dec; decide +kernel
end
section
set_option maxRecDepth 100000 in
theorem s_d282_12 : s_dec code ((s_t282.drop 600).take 50) := by unfold s_dec; decide +kernel
set_option maxRecDepth 100000 in
theorem s_d282_13 : s_dec code ((s_t282.drop 650).take 50) := by unfold s_dec; decide +kernel
set_option maxRecDepth 100000 in
theorem s_d282_14 : s_dec code ((s_t282.drop 700).take 50) := by unfold s_dec; decide +kernel
end
section
theorem s_dec_cut (b : ByteArray) (t : List (Nat × Instr × Nat × Nat)) (n : Nat) (h1 : s_dec b (t.take n)) (h2 : s_dec b (t.drop n)) : s_dec b t := by
  intro q hq
  rw [← List.take_append_drop n t] at hq
  rcases List.mem_append.mp hq with h | h
  · exact h1 q h
  · exact h2 q h
theorem s_d282_e : s_dec code (s_t282.drop 750) := by
  have h : s_t282.drop 750 = [] := by decide +kernel
  rw [h]; intro q hq; cases hq
theorem s_d282_f14 : s_dec code (s_t282.drop 700) := s_dec_cut _ _ 50 s_d282_14 (by rw [List.drop_drop]; exact s_d282_e)
theorem s_d282_f13 : s_dec code (s_t282.drop 650) := s_dec_cut _ _ 50 s_d282_13 (by rw [List.drop_drop]; exact s_d282_f14)
theorem s_d282_f12 : s_dec code (s_t282.drop 600) := s_dec_cut _ _ 50 s_d282_12 (by rw [List.drop_drop]; exact s_d282_f13)
theorem s_d282_f11 : s_dec code (s_t282.drop 550) := s_dec_cut _ _ 50 s_d282_11 (by rw [List.drop_drop]; exact s_d282_f12)
theorem s_d282_f10 : s_dec code (s_t282.drop 500) := s_dec_cut _ _ 50 s_d282_10 (by rw [List.drop_drop]; exact s_d282_f11)
theorem s_d282_f9 : s_dec code (s_t282.drop 450) := s_dec_cut _ _ 50 s_d282_9 (by rw [List.drop_drop]; exact s_d282_f10)
theorem s_d282_f8 : s_dec code (s_t282.drop 400) := s_dec_cut _ _ 50 s_d282_8 (by rw [List.drop_drop]; exact s_d282_f9)
theorem s_d282_f7 : s_dec code (s_t282.drop 350) := s_dec_cut _ _ 50 s_d282_7 (by rw [List.drop_drop]; exact s_d282_f8)
theorem s_d282_f6 : s_dec code (s_t282.drop 300) := s_dec_cut _ _ 50 s_d282_6 (by rw [List.drop_drop]; exact s_d282_f7)
theorem s_d282_f5 : s_dec code (s_t282.drop 250) := s_dec_cut _ _ 50 s_d282_5 (by rw [List.drop_drop]; exact s_d282_f6)
theorem s_d282_f4 : s_dec code (s_t282.drop 200) := s_dec_cut _ _ 50 s_d282_4 (by rw [List.drop_drop]; exact s_d282_f5)
theorem s_d282_f3 : s_dec code (s_t282.drop 150) := s_dec_cut _ _ 50 s_d282_3 (by rw [List.drop_drop]; exact s_d282_f4)
theorem s_d282_f2 : s_dec code (s_t282.drop 100) := s_dec_cut _ _ 50 s_d282_2 (by rw [List.drop_drop]; exact s_d282_f3)
theorem s_d282_f1 : s_dec code (s_t282.drop 50) := s_dec_cut _ _ 50 s_d282_1 (by rw [List.drop_drop]; exact s_d282_f2)
theorem s_d282 : s_dec code s_t282 := s_dec_cut _ _ 50 s_d282_0 s_d282_f1
end
section
abbrev s_T : Type := List (Nat × Instr × Nat × Nat)
abbrev s_C : Type := List (Nat × Nat × Nat) × List (Nat × Value) × List (Nat × Nat × Nat × Nat) × List (Nat × Nat) × List (Nat × Value)
abbrev s_M : Type := MethodName × ByteArray × Nat × Option FieldType × Nat × Bool × s_T
def s_Rs : List String := [RX0, RX1, RX2, RX3, RX4, RX5, RX6, RX7, RX8, RX9, RX10, RX11, RX12, RL, RJ6, RJ9, RJ7]
def s_cp0 : s_C := ([(32, 2, 0), (104, 2, 1), (82, 2, 3), (73, 2, 5), (70, 2, 7), (85, 8, 2), (59, 8, 6), (9, 0, 0), (79, 0, 1), (15, 0, 2), (98, 0, 3), (18, 0, 4), (22, 0, 5), (25, 0, 6)], [], [(3, 10, 0, 0), (28, 0, 86, 2), (51, 0, 87, 1), (56, 0, 64, 2), (37, 0, 88, 4), (62, 1, 89, 1), (67, 0, 50, 2), (76, 15, 0, 2), (41, 16, 0, 2), (47, 0, 91, 3), (88, 1, 4, 2), (94, 0, 59, 1), (101, 0, 98, 1), (107, 1, 99, 4), (111, 1, 103, 3)], [], [(110, .int (1048576))])
def s_cp1 : s_C := ([(65, 9, 5), (68, 9, 8), (85, 9, 9), (128, 8, 8), (9, 1, 0), (15, 1, 1), (18, 1, 2), (21, 1, 3), (24, 1, 4), (27, 1, 5), (124, 1, 6), (114, 1, 7), (117, 1, 8), (133, 1, 9), (140, 1, 10)], [(49, .ref 1014), (59, .ref 1015), (62, .ref 1016), (99, .ref 1011), (102, .ref 1012), (105, .ref 1013)], [(3, 10, 0, 0), (31, 0, 26, 0), (37, 0, 127, 2), (55, 0, 28, 1), (45, 0, 30, 1), (72, 0, 32, 1), (78, 0, 128, 1), (88, 0, 20, 0), (91, 0, 34, 2), (82, 0, 129, 2), (95, 0, 36, 1), (108, 0, 33, 1), (111, 0, 130, 2), (41, 0, 41, 1), (120, 0, 132, 2), (143, 0, 63, 2), (146, 0, 71, 2), (149, 0, 73, 4), (153, 0, 75, 0), (156, 0, 77, 0), (159, 1, 133, 2), (162, 0, 80, 0), (165, 0, 79, 1), (136, 0, 58, 0)], [], [])
def s_cp2 : s_C := ([(164, 9, 5), (123, 9, 8), (142, 9, 9), (34, 2, 0), (38, 2, 1), (9, 2, 2), (15, 2, 3), (19, 2, 4), (22, 2, 5), (25, 2, 6), (28, 2, 7), (47, 2, 8), (50, 2, 9), (53, 2, 10), (56, 2, 11), (59, 2, 12), (62, 2, 13), (145, 10, 1)], [(89, .ref 1000), (102, .ref 1001), (108, .ref 1002), (148, .ref 1003), (155, .ref 1004), (158, .ref 1005), (161, .ref 1006)], [(3, 10, 0, 0), (31, 0, 3, 0), (41, 1, 4, 2), (71, 0, 26, 0), (77, 0, 27, 1), (95, 0, 28, 1), (99, 0, 29, 1), (85, 0, 30, 1), (117, 0, 20, 0), (120, 0, 31, 1), (131, 0, 32, 1), (167, 0, 33, 1), (127, 0, 34, 2), (105, 0, 35, 1), (135, 0, 36, 1), (139, 1, 37, 1), (111, 0, 38, 1), (114, 0, 39, 1), (151, 0, 40, 4), (81, 0, 41, 1), (65, 11, 0, 5)], [], [])
def s_cp3 : s_C := ([(7, 3, 0)], [], [(1, 10, 0, 0)], [], [(13, .int (1103515245))])
def s_cp4 : s_C := ([(11, 4, 0), (20, 4, 1), (24, 4, 2)], [], [(3, 10, 0, 0), (17, 2, 5, 1), (27, 0, 62, 1), (31, 15, 0, 2)], [(9, 8)], [])
def s_cp5 : s_C := ([(10, 5, 0), (21, 5, 1), (28, 5, 2), (41, 5, 3)], [], [(1, 10, 0, 0), (9, 2, 2, 0), (18, 2, 5, 1), (27, 3, 6, 0), (32, 0, 43, 1), (35, 0, 62, 1), (38, 0, 144, 1)], [(7, 2), (16, 8), (25, 7)], [])
def s_cp6 : s_C := ([(17, 9, 0), (9, 9, 1), (25, 6, 0)], [], [(3, 10, 0, 0), (21, 1, 106, 3), (28, 16, 0, 2), (34, 0, 109, 1)], [], [])
def s_cp7 : s_C := ([(132, 9, 5), (129, 9, 7), (108, 9, 8), (89, 9, 9), (162, 2, 0), (196, 2, 3), (189, 2, 4), (156, 8, 0), (179, 8, 2), (199, 8, 4), (13, 7, 0), (17, 7, 1), (21, 7, 2), (24, 7, 3), (27, 7, 4), (31, 7, 5), (34, 7, 6)], [(96, .ref 1019), (147, .ref 1020), (150, .ref 1021), (153, .ref 1022), (102, .ref 1023), (105, .ref 1024), (135, .ref 1025), (138, .ref 1026), (141, .ref 1027), (144, .ref 1028), (82, .ref 1018), (64, .ref 1017)], [(3, 10, 0, 0), (44, 0, 44, 0), (47, 0, 137, 3), (61, 0, 138, 3), (79, 0, 139, 3), (85, 1, 140, 1), (126, 0, 42, 1), (99, 1, 141, 1), (57, 0, 30, 1), (72, 0, 20, 0), (92, 0, 41, 1), (75, 0, 142, 3), (112, 0, 33, 1), (118, 0, 36, 1), (122, 0, 143, 2), (68, 0, 28, 1), (51, 0, 26, 0), (38, 11, 0, 5), (165, 0, 147, 2), (169, 0, 148, 3), (173, 0, 59, 1), (176, 0, 65, 1), (182, 0, 48, 1), (185, 0, 50, 2), (192, 1, 149, 3)], [(11, 10)], [])
def s_cp8 : s_C := ([(90, 2, 0), (58, 2, 1), (77, 2, 3), (61, 2, 4), (107, 2, 5), (64, 2, 6), (83, 2, 7), (38, 2, 8), (46, 2, 9), (130, 2, 10), (80, 2, 11), (24, 8, 0), (9, 8, 1), (15, 8, 2), (18, 8, 3), (21, 8, 4), (34, 8, 5), (43, 8, 6), (49, 8, 7), (52, 8, 8), (55, 8, 9)], [], [(3, 10, 0, 0), (28, 1, 4, 2), (67, 0, 14, 3), (86, 0, 50, 2), (93, 0, 59, 1), (71, 11, 0, 5), (104, 0, 64, 2), (97, 0, 57, 0), (101, 0, 65, 1), (110, 0, 54, 1), (114, 15, 0, 2), (119, 0, 66, 1), (123, 0, 80, 0), (127, 0, 81, 0), (133, 0, 112, 0), (136, 0, 87, 1), (139, 0, 63, 2), (142, 0, 122, 1), (147, 0, 75, 0), (150, 0, 123, 2), (154, 0, 71, 2)], [], [])
def s_cp9 : s_C := ([(9, 9, 0), (15, 9, 1), (19, 9, 2), (22, 9, 3), (25, 9, 4), (57, 9, 5), (54, 9, 6), (47, 9, 7), (50, 9, 8), (43, 9, 9), (28, 9, 10), (31, 9, 11)], [], [(3, 10, 0, 0), (34, 0, 20, 0), (37, 15, 0, 2), (60, 0, 22, 0), (64, 0, 23, 0), (67, 1, 24, 1), (79, 0, 30, 1), (75, 0, 42, 1)], [], [(73, .long (32))])
def s_cp10 : s_C := ([(127, 10, 0)], [(135, .ref 1100)], [], [], [])
def s_cp11 : s_C := ([(97, 9, 1), (112, 9, 10), (116, 9, 11), (361, 2, 0), (364, 2, 1), (284, 2, 2), (141, 2, 3), (166, 2, 4), (169, 2, 5), (172, 2, 6), (367, 2, 10), (370, 2, 11), (137, 8, 2), (181, 8, 3), (150, 8, 4), (201, 8, 5), (187, 8, 6), (190, 8, 7), (184, 8, 8), (204, 8, 9), (337, 7, 5), (340, 7, 6), (320, 1, 6), (324, 1, 7), (317, 1, 8), (327, 1, 9), (330, 1, 10), (355, 5, 3), (249, 0, 0), (246, 0, 1), (258, 0, 2), (255, 0, 3), (265, 0, 4), (10, 11, 0), (115, 11, 1), (19, 11, 2), (23, 11, 3), (31, 11, 4), (35, 11, 5), (41, 11, 6), (45, 11, 7), (51, 11, 8), (58, 11, 9), (65, 11, 10), (72, 11, 11), (79, 11, 12), (86, 11, 13), (90, 11, 14), (281, 11, 15)], [], [(1, 10, 0, 0), (9, 3, 1, 0), (18, 2, 2, 0), (28, 2, 5, 1), (40, 3, 6, 0), (50, 3, 7, 0), (57, 2, 8, 1), (64, 3, 9, 0), (71, 3, 10, 0), (78, 3, 11, 0), (85, 3, 12, 0), (94, 0, 13, 0), (101, 0, 16, 1), (105, 0, 19, 1), (108, 0, 25, 1), (119, 0, 43, 1), (122, 0, 44, 0), (125, 0, 45, 0), (159, 0, 48, 1), (126, 0, 49, 1), (162, 0, 50, 2), (175, 0, 52, 1), (178, 0, 54, 1), (193, 0, 57, 0), (197, 0, 58, 0), (207, 0, 60, 0), (210, 0, 62, 1), (213, 0, 63, 2), (216, 0, 67, 1), (235, 0, 68, 0), (373, 0, 69, 1), (219, 0, 71, 2), (222, 0, 73, 4), (226, 0, 75, 0), (229, 0, 77, 0), (232, 0, 79, 1), (238, 0, 83, 1), (242, 0, 85, 2), (252, 0, 94, 2), (261, 0, 97, 4), (268, 0, 102, 3), (272, 0, 105, 1), (275, 0, 108, 0), (278, 0, 111, 1), (288, 0, 114, 1), (383, 0, 115, 1), (294, 0, 116, 1), (375, 12, 0, 0), (379, 13, 0, 1), (297, 0, 117, 1), (144, 0, 59, 1), (304, 0, 120, 1), (307, 0, 121, 2), (311, 0, 126, 2), (314, 0, 131, 1), (333, 0, 136, 2), (334, 0, 144, 1), (343, 0, 146, 1), (346, 1, 89, 1), (351, 0, 151, 3), (358, 0, 153, 3), (147, 0, 65, 1), (153, 0, 98, 1)], [(7, 9), (16, 2), (26, 8), (38, 7), (48, 1), (55, 4), (62, 5), (69, 0), (76, 6), (83, 3)], [(386, .long (31)), (292, .ref 1300), (300, .ref 1301), (302, .ref 1302)])
def s_cp12 : s_C := ([(1, 12, 0), (7, 12, 1), (11, 12, 2), (18, 12, 3), (27, 12, 4), (21, 12, 5), (24, 12, 6), (30, 12, 7), (47, 12, 8), (40, 12, 9), (66, 12, 10), (69, 12, 11), (43, 12, 12), (79, 12, 13), (98, 12, 14), (101, 12, 15), (104, 12, 16), (107, 12, 17), (110, 12, 18), (113, 12, 19), (117, 12, 20), (120, 12, 21), (123, 12, 22), (127, 12, 23), (130, 12, 24), (225, 12, 25), (133, 12, 26), (136, 12, 27), (320, 12, 28), (139, 12, 29), (323, 12, 30), (326, 12, 31), (142, 12, 32), (145, 12, 33), (148, 12, 34), (151, 12, 35), (154, 12, 36), (347, 12, 37), (363, 12, 38), (157, 12, 39), (160, 12, 40), (382, 12, 41), (394, 12, 42), (163, 12, 43), (401, 12, 44), (417, 12, 45), (420, 12, 46), (407, 12, 47)], [], [(14, 0, 158, 1), (93, 10, 0, 0), (166, 0, 161, 0), (169, 0, 162, 0), (216, 0, 164, 1), (89, 0, 165, 0), (82, 0, 166, 0), (33, 1, 167, 1), (37, 1, 168, 1), (50, 0, 169, 1), (219, 0, 170, 0), (180, 0, 171, 1), (62, 1, 172, 1), (58, 1, 173, 6), (203, 0, 174, 0), (183, 0, 175, 2), (72, 0, 176, 1), (187, 0, 177, 1), (172, 0, 178, 0), (176, 1, 179, 4), (190, 0, 180, 2), (75, 1, 181, 3), (193, 0, 182, 2), (206, 0, 183, 0), (197, 0, 184, 1), (200, 0, 185, 0), (209, 0, 186, 0), (212, 0, 187, 4), (222, 0, 188, 0), (86, 0, 189, 1), (238, 0, 192, 1), (241, 0, 193, 0), (232, 0, 194, 1), (228, 0, 195, 2), (244, 0, 196, 1), (247, 0, 197, 1), (235, 1, 198, 2), (250, 0, 199, 2), (253, 0, 201, 1), (256, 0, 204, 1), (259, 0, 205, 2), (262, 0, 208, 0), (265, 0, 209, 0), (292, 0, 211, 6), (281, 0, 212, 5), (268, 0, 213, 2), (285, 0, 214, 0), (288, 0, 215, 5), (277, 0, 216, 2), (271, 1, 217, 2), (274, 0, 218, 1), (299, 0, 225, 1), (296, 0, 226, 0), (314, 0, 228, 0), (302, 0, 229, 1), (317, 0, 230, 1), (311, 0, 231, 2), (308, 0, 232, 2), (305, 1, 233, 1), (331, 1, 240, 3), (335, 1, 242, 3), (338, 0, 243, 2), (341, 0, 246, 0), (344, 0, 247, 0), (350, 0, 249, 1), (354, 0, 250, 1), (360, 0, 251, 1), (357, 0, 252, 1), (373, 0, 255, 2), (367, 0, 256, 1), (370, 0, 257, 1), (388, 0, 260, 0), (385, 0, 261, 1), (376, 0, 262, 2), (379, 0, 263, 2), (391, 0, 264, 1), (397, 0, 265, 1), (435, 0, 268, 0), (404, 0, 269, 0), (414, 0, 270, 0), (423, 0, 271, 0), (426, 0, 272, 0), (410, 0, 273, 4), (429, 0, 274, 1), (438, 0, 275, 0), (432, 0, 276, 1), (441, 0, 278, 2)], [], [(54, .long (27)), (56, .long (96)), (330, .int (100000)), (366, .int (1103515245))])
def s_cp13 : s_C := ([], [], [(15, 2, 0, 0), (19, 0, 15, 5), (24, 0, 17, 1), (29, 0, 18, 0), (34, 0, 46, 0), (47, 0, 47, 2), (51, 0, 51, 2), (55, 0, 53, 1), (60, 0, 55, 1), (64, 0, 56, 1), (68, 0, 61, 2), (72, 0, 70, 2), (76, 0, 72, 4), (81, 0, 74, 0), (85, 0, 76, 0), (89, 0, 78, 1), (93, 0, 82, 0), (97, 0, 84, 0), (101, 0, 92, 1), (105, 0, 93, 0), (109, 0, 95, 1), (113, 0, 96, 2), (117, 0, 100, 0), (121, 0, 101, 1), (125, 0, 104, 0), (129, 0, 107, 0), (133, 0, 110, 1), (137, 0, 113, 1), (141, 0, 118, 1), (145, 0, 119, 2), (149, 0, 124, 3), (154, 0, 125, 1), (158, 0, 134, 1), (162, 0, 135, 0), (166, 0, 145, 1), (170, 0, 150, 1), (174, 0, 152, 1), (178, 0, 154, 1), (38, 14, 0, 4), (7, 0, 155, 2), (44, 0, 156, 0), (23, 0, 157, 5), (28, 0, 159, 1), (18, 2, 160, 0), (33, 0, 163, 0), (37, 0, 190, 0), (43, 0, 191, 2), (50, 0, 200, 2), (54, 0, 202, 2), (59, 0, 203, 1), (63, 0, 206, 1), (67, 0, 207, 1), (71, 0, 210, 2), (75, 0, 219, 2), (80, 0, 220, 4), (84, 0, 221, 0), (88, 0, 222, 0), (96, 0, 223, 0), (92, 0, 224, 1), (100, 0, 227, 0), (104, 0, 234, 1), (108, 0, 235, 0), (112, 0, 236, 1), (116, 0, 237, 2), (120, 0, 238, 0), (124, 0, 239, 1), (128, 0, 241, 0), (132, 0, 244, 0), (136, 0, 245, 1), (140, 0, 248, 1), (144, 0, 253, 1), (148, 0, 254, 2), (153, 0, 258, 3), (157, 0, 259, 1), (161, 0, 266, 1), (165, 0, 267, 0), (169, 0, 277, 1), (173, 0, 279, 1), (177, 0, 280, 1), (181, 0, 281, 1)], [(8, 11), (16, 12)], [])
def s_cp14 : s_C := ([], [], [], [], [(265, .int (1431655765)), (266, .int (858993459)), (267, .int (252645135))])
def s_cp15 : s_C := ([], [], [], [], [])
def s_cp16 : s_C := ([], [], [], [], [])
def s_cps : List s_C := [s_cp0, s_cp1, s_cp2, s_cp3, s_cp4, s_cp5, s_cp6, s_cp7, s_cp8, s_cp9, s_cp10, s_cp11, s_cp12, s_cp13, s_cp14, s_cp15, s_cp16]
def s_m0 : s_M := (⟨"CampAshes", "<init>", "()V"⟩, prog_1_method_1_code, 1, (none : Option Jvm.ClassFile.FieldType), 11, true, s_t0)
def s_m1 : s_M := (⟨"CampAshes$Tape", "<init>", "()V"⟩, prog_11_method_1_code, 1, (none : Option Jvm.ClassFile.FieldType), 9, true, s_t1)
def s_m2 : s_M := (⟨"CampAshes$Camp", "<init>", "()V"⟩, prog_4_method_1_code, 1, (none : Option Jvm.ClassFile.FieldType), 2, true, s_t2)
def s_m3 : s_M := (⟨"CampAshes$Camp", "clear", "()V"⟩, prog_4_method_2_code, 1, (none : Option Jvm.ClassFile.FieldType), 2, false, s_t3)
def s_m4 : s_M := (⟨"java/util/Arrays", "fill", "([II)V"⟩, prog_30_method_103_code, 4, (none : Option Jvm.ClassFile.FieldType), 16, false, s_t4)
def s_m5 : s_M := (⟨"CampAshes$State", "<init>", "(LCampAshes$Camp;)V"⟩, prog_10_method_1_code, 2, (none : Option Jvm.ClassFile.FieldType), 8, true, s_t5)
def s_m6 : s_M := (⟨"CampAshes$Sentence", "<init>", "()V"⟩, prog_9_method_1_code, 1, (none : Option Jvm.ClassFile.FieldType), 7, true, s_t6)
def s_m7 : s_M := (⟨"CampAshes$Book", "<init>", "()V"⟩, prog_3_method_1_code, 1, (none : Option Jvm.ClassFile.FieldType), 1, true, s_t7)
def s_m8 : s_M := (⟨"CampAshes$History", "<init>", "(LCampAshes$Camp;)V"⟩, prog_6_method_1_code, 3, (none : Option Jvm.ClassFile.FieldType), 4, true, s_t8)
def s_m9 : s_M := (⟨"CampAshes$Image", "<init>", "()V"⟩, prog_7_method_1_code, 1, (none : Option Jvm.ClassFile.FieldType), 5, true, s_t9)
def s_m10 : s_M := (⟨"CampAshes$Advice", "<init>", "()V"⟩, prog_2_method_1_code, 1, (none : Option Jvm.ClassFile.FieldType), 0, true, s_t10)
def s_m11 : s_M := (⟨"CampAshes$Laws", "<init>", "()V"⟩, prog_8_method_1_code, 1, (none : Option Jvm.ClassFile.FieldType), 6, true, s_t11)
def s_m12 : s_M := (⟨"CampAshes$Draws", "<init>", "()V"⟩, prog_5_method_1_code, 1, (none : Option Jvm.ClassFile.FieldType), 3, true, s_t12)
def s_m13 : s_M := (⟨"CampAshes$State", "begin", "()V"⟩, prog_10_method_2_code, 2, (none : Option Jvm.ClassFile.FieldType), 8, false, s_t13)
def s_m14 : s_M := (⟨"CampAshes$State", "putOn", "(III)V"⟩, prog_10_method_5_code, 4, (none : Option Jvm.ClassFile.FieldType), 8, false, s_t14)
def s_m15 : s_M := (⟨"CampAshes", "feed", "(IIIII)I"⟩, prog_1_method_2_code, 6, (some .int), 11, false, s_t15)
def s_m16 : s_M := (⟨"CampAshes$Tape", "putNumber", "(I)V"⟩, prog_11_method_2_code, 3, (none : Option Jvm.ClassFile.FieldType), 9, false, s_t16)
def s_m17 : s_M := (⟨"CampAshes", "end", "(I)Z"⟩, prog_1_method_3_code, 2, (some .boolean), 11, false, s_t17)
def s_m18 : s_M := (⟨"CampAshes", "camp", "()I"⟩, prog_1_method_4_code, 2, (some .int), 11, false, s_t18)
def s_m19 : s_M := (⟨"CampAshes$Tape", "startText", "(I)V"⟩, prog_11_method_3_code, 2, (none : Option Jvm.ClassFile.FieldType), 9, false, s_t19)
def s_m20 : s_M := (⟨"CampAshes$Tape", "next", "()V"⟩, prog_11_method_4_code, 4, (none : Option Jvm.ClassFile.FieldType), 9, false, s_t20)
def s_m21 : s_M := (⟨"java/lang/Math", "min", "(II)I"⟩, prog_21_method_69_code, 2, (some .int), 15, false, s_t21)
def s_m22 : s_M := (⟨"CampAshes$Tape", "readRun", "()I"⟩, prog_11_method_5_code, 3, (some .int), 9, false, s_t22)
def s_m23 : s_M := (⟨"CampAshes$Tape", "readSign", "()V"⟩, prog_11_method_6_code, 2, (none : Option Jvm.ClassFile.FieldType), 9, false, s_t23)
def s_m24 : s_M := (⟨"CampAshes$Word", "spelt", "(J)LCampAshes$Word;"⟩, prog_12_method_5_code, 6, (some (.object "CampAshes$Word")), 10, false, s_t24)
def s_m25 : s_M := (⟨"CampAshes$Camp", "readText", "(LCampAshes$Tape;)I"⟩, prog_4_method_8_code, 3, (some .int), 2, false, s_t25)
def s_m26 : s_M := (⟨"CampAshes$Tape", "hasEnded", "()Z"⟩, prog_11_method_7_code, 1, (some .boolean), 9, false, s_t26)
def s_m27 : s_M := (⟨"CampAshes$Camp", "readLine", "(LCampAshes$Tape;)Z"⟩, prog_4_method_9_code, 2, (some .boolean), 2, false, s_t27)
def s_m28 : s_M := (⟨"CampAshes$Tape", "isWord", "(LCampAshes$Word;)Z"⟩, prog_11_method_8_code, 2, (some .boolean), 9, false, s_t28)
def s_m29 : s_M := (⟨"CampAshes$Camp", "readBoy", "(LCampAshes$Tape;)Z"⟩, prog_4_method_10_code, 3, (some .boolean), 2, false, s_t29)
def s_m30 : s_M := (⟨"CampAshes$Tape", "fail", "(I)Z"⟩, prog_11_method_10_code, 2, (some .boolean), 9, false, s_t30)
def s_m31 : s_M := (⟨"CampAshes$Camp", "isNewName", "(LCampAshes$Tape;)Z"⟩, prog_4_method_15_code, 2, (some .boolean), 2, false, s_t31)
def s_m32 : s_M := (⟨"CampAshes$Camp", "boyNamed", "(J)I"⟩, prog_4_method_6_code, 4, (some .int), 2, false, s_t32)
def s_m33 : s_M := (⟨"CampAshes$Camp", "eventNamed", "(J)I"⟩, prog_4_method_7_code, 4, (some .int), 2, false, s_t33)
def s_m34 : s_M := (⟨"CampAshes$Tape", "passNumber", "(II)I"⟩, prog_11_method_12_code, 4, (some .int), 9, false, s_t34)
def s_m35 : s_M := (⟨"CampAshes$Camp", "readEvent", "(LCampAshes$Tape;)Z"⟩, prog_4_method_11_code, 5, (some .boolean), 2, false, s_t35)
def s_m36 : s_M := (⟨"CampAshes$Tape", "passNamed", "(I)I"⟩, prog_11_method_13_code, 2, (some .int), 9, false, s_t36)
def s_m37 : s_M := (⟨"CampAshes$Camp", "isKind", "(LCampAshes$Tape;)Z"⟩, prog_4_method_16_code, 1, (some .boolean), 2, false, s_t37)
def s_m38 : s_M := (⟨"CampAshes$Camp", "readTakes", "(LCampAshes$Tape;)Z"⟩, prog_4_method_12_code, 4, (some .boolean), 2, false, s_t38)
def s_m39 : s_M := (⟨"CampAshes$Camp", "readOnce", "(LCampAshes$Tape;)Z"⟩, prog_4_method_13_code, 2, (some .boolean), 2, false, s_t39)
def s_m40 : s_M := (⟨"CampAshes$Camp", "readOnceNumber", "(LCampAshes$Tape;III)I"⟩, prog_4_method_14_code, 5, (some .int), 2, false, s_t40)
def s_m41 : s_M := (⟨"CampAshes$Tape", "passSign", "(C)Z"⟩, prog_11_method_11_code, 2, (some .boolean), 9, false, s_t41)
def s_m42 : s_M := (⟨"CampAshes$Tape", "isSign", "(C)Z"⟩, prog_11_method_9_code, 2, (some .boolean), 9, false, s_t42)
def s_m43 : s_M := (⟨"CampAshes$Camp", "copyFrom", "(LCampAshes$Camp;)V"⟩, prog_4_method_3_code, 2, (none : Option Jvm.ClassFile.FieldType), 2, false, s_t43)
def s_m44 : s_M := (⟨"CampAshes$Sentence", "clear", "()V"⟩, prog_9_method_2_code, 1, (none : Option Jvm.ClassFile.FieldType), 7, false, s_t44)
def s_m45 : s_M := (⟨"CampAshes$History", "clear", "()V"⟩, prog_6_method_2_code, 1, (none : Option Jvm.ClassFile.FieldType), 4, false, s_t45)
def s_m46 : s_M := (⟨"CampAshes", "fault", "()I"⟩, prog_1_method_5_code, 1, (some .int), 11, false, s_t46)
def s_m47 : s_M := (⟨"CampAshes", "on", "(II)I"⟩, prog_1_method_7_code, 3, (some .int), 11, false, s_t47)
def s_m48 : s_M := (⟨"CampAshes$Camp", "hasEvent", "(I)Z"⟩, prog_4_method_5_code, 2, (some .boolean), 2, false, s_t48)
def s_m49 : s_M := (⟨"CampAshes$Camp", "hasBoy", "(I)Z"⟩, prog_4_method_4_code, 2, (some .boolean), 2, false, s_t49)
def s_m50 : s_M := (⟨"CampAshes$State", "onBoy", "(II)I"⟩, prog_10_method_4_code, 3, (some .int), 8, false, s_t50)
def s_m51 : s_M := (⟨"CampAshes", "event", "(II)I"⟩, prog_1_method_8_code, 3, (some .int), 11, false, s_t51)
def s_m52 : s_M := (⟨"CampAshes$State", "leftOf", "(I)I"⟩, prog_10_method_12_code, 4, (some .int), 8, false, s_t52)
def s_m53 : s_M := (⟨"CampAshes", "takes", "(I)I"⟩, prog_1_method_9_code, 2, (some .int), 11, false, s_t53)
def s_m54 : s_M := (⟨"CampAshes$State", "wouldTake", "(I)I"⟩, prog_10_method_9_code, 2, (some .int), 8, false, s_t54)
def s_m55 : s_M := (⟨"CampAshes", "ashes", "(I)I"⟩, prog_1_method_10_code, 2, (some .int), 11, false, s_t55)
def s_m56 : s_M := (⟨"CampAshes", "now", "(I)I"⟩, prog_1_method_11_code, 2, (some .int), 11, false, s_t56)
def s_m57 : s_M := (⟨"CampAshes$State", "isWet", "()Z"⟩, prog_10_method_8_code, 1, (some .boolean), 8, false, s_t57)
def s_m58 : s_M := (⟨"CampAshes$State", "overBits", "()I"⟩, prog_10_method_11_code, 3, (some .int), 8, false, s_t58)
def s_m59 : s_M := (⟨"CampAshes$State", "isOver", "(I)Z"⟩, prog_10_method_6_code, 2, (some .boolean), 8, false, s_t59)
def s_m60 : s_M := (⟨"CampAshes$State", "allLoads", "()I"⟩, prog_10_method_13_code, 3, (some .int), 8, false, s_t60)
def s_m61 : s_M := (⟨"CampAshes", "tell", "(II)I"⟩, prog_1_method_12_code, 3, (some .int), 11, false, s_t61)
def s_m62 : s_M := (⟨"CampAshes$State", "copyFrom", "(LCampAshes$State;)V"⟩, prog_10_method_3_code, 2, (none : Option Jvm.ClassFile.FieldType), 8, false, s_t62)
def s_m63 : s_M := (⟨"CampAshes$State", "tellEvent", "(II)I"⟩, prog_10_method_16_code, 6, (some .int), 8, false, s_t63)
def s_m64 : s_M := (⟨"CampAshes$State", "whyNotSpeak", "(II)I"⟩, prog_10_method_15_code, 3, (some .int), 8, false, s_t64)
def s_m65 : s_M := (⟨"CampAshes$State", "isHushed", "(I)Z"⟩, prog_10_method_7_code, 2, (some .boolean), 8, false, s_t65)
def s_m66 : s_M := (⟨"CampAshes$State", "hush", "(I)V"⟩, prog_10_method_18_code, 2, (none : Option Jvm.ClassFile.FieldType), 8, false, s_t66)
def s_m67 : s_M := (⟨"CampAshes", "keepIfDone", "(I)I"⟩, prog_1_method_40_code, 2, (some .int), 11, false, s_t67)
def s_m68 : s_M := (⟨"CampAshes", "keepTrial", "()V"⟩, prog_1_method_41_code, 1, (none : Option Jvm.ClassFile.FieldType), 11, false, s_t68)
def s_m69 : s_M := (⟨"CampAshes$History", "keep", "(LCampAshes$State;)V"⟩, prog_6_method_3_code, 2, (none : Option Jvm.ClassFile.FieldType), 4, false, s_t69)
def s_m70 : s_M := (⟨"CampAshes", "lie", "(II)I"⟩, prog_1_method_13_code, 3, (some .int), 11, false, s_t70)
def s_m71 : s_M := (⟨"CampAshes$State", "lieAbout", "(II)I"⟩, prog_10_method_17_code, 4, (some .int), 8, false, s_t71)
def s_m72 : s_M := (⟨"CampAshes", "give", "(IIII)I"⟩, prog_1_method_14_code, 5, (some .int), 11, false, s_t72)
def s_m73 : s_M := (⟨"CampAshes$State", "giveSome", "(IIII)I"⟩, prog_10_method_19_code, 5, (some .int), 8, false, s_t73)
def s_m74 : s_M := (⟨"CampAshes", "log", "()I"⟩, prog_1_method_15_code, 1, (some .int), 11, false, s_t74)
def s_m75 : s_M := (⟨"CampAshes$State", "putLogOn", "()I"⟩, prog_10_method_20_code, 1, (some .int), 8, false, s_t75)
def s_m76 : s_M := (⟨"CampAshes", "rake", "()I"⟩, prog_1_method_16_code, 1, (some .int), 11, false, s_t76)
def s_m77 : s_M := (⟨"CampAshes$State", "rakeAshes", "()I"⟩, prog_10_method_21_code, 3, (some .int), 8, false, s_t77)
def s_m78 : s_M := (⟨"CampAshes", "days", "(I)I"⟩, prog_1_method_17_code, 3, (some .int), 11, false, s_t78)
def s_m79 : s_M := (⟨"CampAshes$State", "passDays", "(I)I"⟩, prog_10_method_23_code, 4, (some .int), 8, false, s_t79)
def s_m80 : s_M := (⟨"CampAshes$State", "daysLeft", "()I"⟩, prog_10_method_22_code, 1, (some .int), 8, false, s_t80)
def s_m81 : s_M := (⟨"CampAshes$State", "passDay", "()V"⟩, prog_10_method_24_code, 2, (none : Option Jvm.ClassFile.FieldType), 8, false, s_t81)
def s_m82 : s_M := (⟨"CampAshes", "undo", "()I"⟩, prog_1_method_18_code, 1, (some .int), 11, false, s_t82)
def s_m83 : s_M := (⟨"CampAshes$History", "takeBack", "(LCampAshes$State;)I"⟩, prog_6_method_4_code, 2, (some .int), 4, false, s_t83)
def s_m84 : s_M := (⟨"CampAshes", "best", "()I"⟩, prog_1_method_19_code, 1, (some .int), 11, false, s_t84)
def s_m85 : s_M := (⟨"CampAshes$Advice", "findBest", "(LCampAshes$Camp;LCampAshes$State;)I"⟩, prog_2_method_2_code, 6, (some .int), 0, false, s_t85)
def s_m86 : s_M := (⟨"CampAshes$Advice", "findTellers", "(LCampAshes$Camp;LCampAshes$State;)I"⟩, prog_2_method_3_code, 6, (some .int), 0, false, s_t86)
def s_m87 : s_M := (⟨"CampAshes$State", "heaviest", "(I)I"⟩, prog_10_method_14_code, 5, (some .int), 8, false, s_t87)
def s_m88 : s_M := (⟨"CampAshes$Advice", "takenBy", "(LCampAshes$Camp;LCampAshes$State;II)I"⟩, prog_2_method_4_code, 7, (some .int), 0, false, s_t88)
def s_m89 : s_M := (⟨"java/lang/Integer", "bitCount", "(I)I"⟩, prog_20_method_49_code, 1, (some .int), 14, false, s_t89)
def s_m90 : s_M := (⟨"java/lang/Math", "max", "(II)I"⟩, prog_21_method_65_code, 2, (some .int), 15, false, s_t90)
def s_m91 : s_M := (⟨"CampAshes$Advice", "layRow", "(LCampAshes$Camp;LCampAshes$State;I)V"⟩, prog_2_method_5_code, 8, (none : Option Jvm.ClassFile.FieldType), 0, false, s_t91)
def s_m92 : s_M := (⟨"CampAshes", "bestAt", "(I)I"⟩, prog_1_method_20_code, 2, (some .int), 11, false, s_t92)
def s_m93 : s_M := (⟨"CampAshes", "spread", "()I"⟩, prog_1_method_21_code, 1, (some .int), 11, false, s_t93)
def s_m94 : s_M := (⟨"CampAshes$Advice", "findSpread", "(LCampAshes$Camp;LCampAshes$State;)I"⟩, prog_2_method_6_code, 7, (some .int), 0, false, s_t94)
def s_m95 : s_M := (⟨"CampAshes", "spreadOf", "(I)I"⟩, prog_1_method_22_code, 2, (some .int), 11, false, s_t95)
def s_m96 : s_M := (⟨"CampAshes", "says", "(II)I"⟩, prog_1_method_23_code, 3, (some .int), 11, false, s_t96)
def s_m97 : s_M := (⟨"CampAshes$Advice", "findSaying", "(LCampAshes$Camp;LCampAshes$State;II)I"⟩, prog_2_method_7_code, 10, (some .int), 0, false, s_t97)
def s_m98 : s_M := (⟨"CampAshes$State", "eventBits", "(I)I"⟩, prog_10_method_10_code, 4, (some .int), 8, false, s_t98)
def s_m99 : s_M := (⟨"CampAshes$Advice", "weightOf", "(LCampAshes$Camp;LCampAshes$State;II)I"⟩, prog_2_method_8_code, 6, (some .int), 0, false, s_t99)
def s_m100 : s_M := (⟨"CampAshes", "saying", "()I"⟩, prog_1_method_24_code, 1, (some .int), 11, false, s_t100)
def s_m101 : s_M := (⟨"CampAshes", "tents", "(I)I"⟩, prog_1_method_25_code, 2, (some .int), 11, false, s_t101)
def s_m102 : s_M := (⟨"CampAshes$Advice", "countTents", "(LCampAshes$Camp;LCampAshes$State;I)I"⟩, prog_2_method_9_code, 7, (some .int), 0, false, s_t102)
def s_m103 : s_M := (⟨"CampAshes$Advice", "withOneMore", "(III)I"⟩, prog_2_method_10_code, 4, (some .int), 0, false, s_t103)
def s_m104 : s_M := (⟨"CampAshes", "laws", "()I"⟩, prog_1_method_26_code, 2, (some .int), 11, false, s_t104)
def s_m105 : s_M := (⟨"CampAshes$Laws", "findLaws", "(LCampAshes$Tape;)I"⟩, prog_8_method_2_code, 7, (some .int), 6, false, s_t105)
def s_m106 : s_M := (⟨"CampAshes$Laws", "leftBehind", "(III)I"⟩, prog_8_method_3_code, 3, (some .int), 6, false, s_t106)
def s_m107 : s_M := (⟨"CampAshes", "watch", "()I"⟩, prog_1_method_27_code, 1, (some .int), 11, false, s_t107)
def s_m108 : s_M := (⟨"CampAshes$Laws", "findWatch", "()I"⟩, prog_8_method_4_code, 5, (some .int), 6, false, s_t108)
def s_m109 : s_M := (⟨"CampAshes$Laws", "mostAlike", "(I)I"⟩, prog_8_method_5_code, 7, (some .int), 6, false, s_t109)
def s_m110 : s_M := (⟨"CampAshes", "calm", "(I)I"⟩, prog_1_method_28_code, 2, (some .int), 11, false, s_t110)
def s_m111 : s_M := (⟨"CampAshes$State", "daysToCalm", "(I)I"⟩, prog_10_method_25_code, 4, (some .int), 8, false, s_t111)
def s_m112 : s_M := (⟨"CampAshes$State", "allWhoAreOverTell", "()V"⟩, prog_10_method_26_code, 3, (none : Option Jvm.ClassFile.FieldType), 8, false, s_t112)
def s_m113 : s_M := (⟨"CampAshes", "tag", "(I)I"⟩, prog_1_method_29_code, 2, (some .int), 11, false, s_t113)
def s_m114 : s_M := (⟨"CampAshes", "putName", "(J)V"⟩, prog_1_method_44_code, 5, (none : Option Jvm.ClassFile.FieldType), 11, false, s_t114)
def s_m115 : s_M := (⟨"CampAshes", "putTagByte", "(I)V"⟩, prog_1_method_42_code, 2, (none : Option Jvm.ClassFile.FieldType), 11, false, s_t115)
def s_m116 : s_M := (⟨"CampAshes", "putText", "(Ljava/lang/String;)V"⟩, prog_1_method_43_code, 3, (none : Option Jvm.ClassFile.FieldType), 11, false, s_t116)
def s_m117 : s_M := (⟨"CampAshes", "putDigits", "(I)V"⟩, prog_1_method_45_code, 2, (none : Option Jvm.ClassFile.FieldType), 11, false, s_t117)
def s_m118 : s_M := (⟨"CampAshes", "byteAt", "(I)I"⟩, prog_1_method_30_code, 2, (some .int), 11, false, s_t118)
def s_m119 : s_M := (⟨"CampAshes", "drawn", "(II)I"⟩, prog_1_method_31_code, 4, (some .int), 11, false, s_t119)
def s_m120 : s_M := (⟨"CampAshes$Draws", "start", "(I)V"⟩, prog_5_method_2_code, 2, (none : Option Jvm.ClassFile.FieldType), 3, false, s_t120)
def s_m121 : s_M := (⟨"CampAshes$State", "drawDays", "(ILCampAshes$Draws;)I"⟩, prog_10_method_27_code, 6, (some .int), 8, false, s_t121)
def s_m122 : s_M := (⟨"CampAshes$Draws", "draw", "(I)I"⟩, prog_5_method_3_code, 2, (some .int), 3, false, s_t122)
def s_m123 : s_M := (⟨"CampAshes$State", "drawAct", "(ILCampAshes$Draws;)V"⟩, prog_10_method_28_code, 5, (none : Option Jvm.ClassFile.FieldType), 8, false, s_t123)
def s_m124 : s_M := (⟨"CampAshes", "odds", "(III)I"⟩, prog_1_method_32_code, 6, (some .int), 11, false, s_t124)
def s_m125 : s_M := (⟨"CampAshes", "book", "(I)I"⟩, prog_1_method_33_code, 4, (some .int), 11, false, s_t125)
def s_m126 : s_M := (⟨"CampAshes$Book", "readText", "(LCampAshes$Tape;LCampAshes$Camp;)Z"⟩, prog_3_method_2_code, 4, (some .boolean), 1, false, s_t126)
def s_m127 : s_M := (⟨"CampAshes$Book", "readLine", "(LCampAshes$Tape;LCampAshes$Camp;)Z"⟩, prog_3_method_3_code, 4, (some .boolean), 1, false, s_t127)
def s_m128 : s_M := (⟨"CampAshes$Book", "readPlain", "(LCampAshes$Tape;)Z"⟩, prog_3_method_4_code, 3, (some .boolean), 1, false, s_t128)
def s_m129 : s_M := (⟨"CampAshes$Book", "readDeed", "(LCampAshes$Tape;LCampAshes$Camp;)Z"⟩, prog_3_method_5_code, 3, (some .boolean), 1, false, s_t129)
def s_m130 : s_M := (⟨"CampAshes$Book", "readGift", "(LCampAshes$Tape;LCampAshes$Camp;)Z"⟩, prog_3_method_6_code, 3, (some .boolean), 1, false, s_t130)
def s_m131 : s_M := (⟨"CampAshes$Book", "judge", "(LCampAshes$State;)I"⟩, prog_3_method_7_code, 4, (some .int), 1, false, s_t131)
def s_m132 : s_M := (⟨"CampAshes$Book", "liveLine", "(LCampAshes$State;I)I"⟩, prog_3_method_8_code, 3, (some .int), 1, false, s_t132)
def s_m133 : s_M := (⟨"CampAshes$Book", "liveDays", "(LCampAshes$State;I)I"⟩, prog_3_method_9_code, 2, (some .int), 1, false, s_t133)
def s_m134 : s_M := (⟨"CampAshes", "told", "(I)I"⟩, prog_1_method_34_code, 2, (some .int), 11, false, s_t134)
def s_m135 : s_M := (⟨"CampAshes", "sentence", "()I"⟩, prog_1_method_35_code, 2, (some .int), 11, false, s_t135)
def s_m136 : s_M := (⟨"CampAshes$Sentence", "readText", "(LCampAshes$Tape;LCampAshes$Camp;)Z"⟩, prog_9_method_4_code, 3, (some .boolean), 7, false, s_t136)
def s_m137 : s_M := (⟨"CampAshes$Sentence", "readCond", "(LCampAshes$Tape;LCampAshes$Camp;I)Z"⟩, prog_9_method_5_code, 5, (some .boolean), 7, false, s_t137)
def s_m138 : s_M := (⟨"CampAshes$Sentence", "readAll", "(LCampAshes$Tape;LCampAshes$Camp;I)Z"⟩, prog_9_method_6_code, 5, (some .boolean), 7, false, s_t138)
def s_m139 : s_M := (⟨"CampAshes$Sentence", "readOne", "(LCampAshes$Tape;LCampAshes$Camp;I)Z"⟩, prog_9_method_7_code, 6, (some .boolean), 7, false, s_t139)
def s_m140 : s_M := (⟨"CampAshes$Sentence", "beginsOne", "(LCampAshes$Tape;)Z"⟩, prog_9_method_9_code, 2, (some .boolean), 7, false, s_t140)
def s_m141 : s_M := (⟨"CampAshes$Sentence", "isPlain", "(LCampAshes$Word;)Z"⟩, prog_9_method_10_code, 1, (some .boolean), 7, false, s_t141)
def s_m142 : s_M := (⟨"CampAshes$Sentence", "addStep", "(LCampAshes$Word;II)V"⟩, prog_9_method_11_code, 4, (none : Option Jvm.ClassFile.FieldType), 7, false, s_t142)
def s_m143 : s_M := (⟨"CampAshes$Sentence", "readComparison", "(LCampAshes$Tape;LCampAshes$Word;)Z"⟩, prog_9_method_8_code, 4, (some .boolean), 7, false, s_t143)
def s_m144 : s_M := (⟨"CampAshes$Sentence", "copyFrom", "(LCampAshes$Sentence;)V"⟩, prog_9_method_3_code, 3, (none : Option Jvm.ClassFile.FieldType), 7, false, s_t144)
def s_m145 : s_M := (⟨"CampAshes", "said", "(I)I"⟩, prog_1_method_36_code, 5, (some .int), 11, false, s_t145)
def s_m146 : s_M := (⟨"CampAshes$Sentence", "boysOf", "(LCampAshes$State;)I"⟩, prog_9_method_12_code, 7, (some .int), 7, false, s_t146)
def s_m147 : s_M := (⟨"CampAshes$Sentence", "boysOfStep", "(LCampAshes$State;I)I"⟩, prog_9_method_13_code, 5, (some .int), 7, false, s_t147)
def s_m148 : s_M := (⟨"CampAshes$Sentence", "holds", "(LCampAshes$State;II)Z"⟩, prog_9_method_14_code, 7, (some .boolean), 7, false, s_t148)
def s_m149 : s_M := (⟨"CampAshes$Sentence", "measure", "(LCampAshes$State;LCampAshes$Word;I)I"⟩, prog_9_method_15_code, 3, (some .int), 7, false, s_t149)
def s_m150 : s_M := (⟨"CampAshes", "image", "(I)Z"⟩, prog_1_method_37_code, 2, (some .boolean), 11, false, s_t150)
def s_m151 : s_M := (⟨"CampAshes$Image", "keep", "(LCampAshes$Camp;LCampAshes$State;LCampAshes$Sentence;)V"⟩, prog_7_method_2_code, 4, (none : Option Jvm.ClassFile.FieldType), 5, false, s_t151)
def s_m152 : s_M := (⟨"CampAshes", "restore", "(I)Z"⟩, prog_1_method_38_code, 2, (some .boolean), 11, false, s_t152)
def s_m153 : s_M := (⟨"CampAshes$Image", "giveBack", "(LCampAshes$Camp;LCampAshes$State;LCampAshes$Sentence;)V"⟩, prog_7_method_3_code, 4, (none : Option Jvm.ClassFile.FieldType), 5, false, s_t153)
def s_m154 : s_M := (⟨"CampAshes", "count", "(I)I"⟩, prog_1_method_39_code, 2, (some .int), 11, false, s_t154)
def s_m155 : s_M := (⟨"CampAshes", "boy", "(II)I"⟩, prog_1_method_6_code, 3, (some .int), 11, false, s_t155)
def s_m156 : s_M := (⟨"CampAshesModel", "thrown", "()I"⟩, prog_14_method_1_code, 1, (some .int), 12, false, s_t156)
def s_m157 : s_M := (⟨"CampAshesModel", "feed", "(IIIII)I"⟩, prog_14_method_4_code, 6, (some .int), 12, false, s_t157)
def s_m158 : s_M := (⟨"CampAshesModel", "come", "(I)V"⟩, prog_14_method_3_code, 3, (none : Option Jvm.ClassFile.FieldType), 12, false, s_t158)
def s_m159 : s_M := (⟨"CampAshesModel", "end", "(I)Z"⟩, prog_14_method_5_code, 2, (some .boolean), 12, false, s_t159)
def s_m160 : s_M := (⟨"CampAshesModel", "<init>", "()V"⟩, prog_14_method_26_code, 2, (none : Option Jvm.ClassFile.FieldType), 12, true, s_t160)
def s_m161 : s_M := (⟨"CampAshesModel", "startRead", "()V"⟩, prog_14_method_27_code, 2, (none : Option Jvm.ClassFile.FieldType), 12, false, s_t161)
def s_m162 : s_M := (⟨"CampAshesModel", "startSo", "()V"⟩, prog_14_method_28_code, 2, (none : Option Jvm.ClassFile.FieldType), 12, false, s_t162)
def s_m163 : s_M := (⟨"CampAshesModel", "camp", "()I"⟩, prog_14_method_40_code, 3, (some .int), 12, false, s_t163)
def s_m164 : s_M := (⟨"CampAshesModel", "begin", "(I)V"⟩, prog_14_method_25_code, 2, (none : Option Jvm.ClassFile.FieldType), 12, false, s_t164)
def s_m165 : s_M := (⟨"CampAshesModel", "take", "()I"⟩, prog_14_method_6_code, 2, (some .int), 12, false, s_t165)
def s_m166 : s_M := (⟨"CampAshesModel", "go", "()V"⟩, prog_14_method_16_code, 5, (none : Option Jvm.ClassFile.FieldType), 12, false, s_t166)
def s_m167 : s_M := (⟨"CampAshesModel", "isLetter", "(I)Z"⟩, prog_14_method_15_code, 1, (some .boolean), 12, false, s_t167)
def s_m168 : s_M := (⟨"CampAshesModel", "isDigit", "(I)Z"⟩, prog_14_method_14_code, 1, (some .boolean), 12, false, s_t168)
def s_m169 : s_M := (⟨"CampAshesModel", "tapeAt", "(I)I"⟩, prog_14_method_13_code, 2, (some .int), 12, false, s_t169)
def s_m170 : s_M := (⟨"CampAshesModel", "readLine", "()Z"⟩, prog_14_method_39_code, 1, (some .boolean), 12, false, s_t170)
def s_m171 : s_M := (⟨"CampAshesModel", "isWord", "(I)Z"⟩, prog_14_method_19_code, 2, (some .boolean), 12, false, s_t171)
def s_m172 : s_M := (⟨"CampAshesModel", "wordOf", "(I)J"⟩, prog_14_method_18_code, 1, (some .long), 12, false, s_t172)
def s_m173 : s_M := (⟨"CampAshesModel", "spelt", "(IIIIII)J"⟩, prog_14_method_17_code, 8, (some .long), 12, false, s_t173)
def s_m174 : s_M := (⟨"CampAshesModel", "readBoy", "()Z"⟩, prog_14_method_34_code, 2, (some .boolean), 12, false, s_t174)
def s_m175 : s_M := (⟨"CampAshesModel", "readFirst", "(II)Z"⟩, prog_14_method_31_code, 3, (some .boolean), 12, false, s_t175)
def s_m176 : s_M := (⟨"CampAshesModel", "bad", "(I)Z"⟩, prog_14_method_22_code, 2, (some .boolean), 12, false, s_t176)
def s_m177 : s_M := (⟨"CampAshesModel", "readNew", "(I)Z"⟩, prog_14_method_30_code, 2, (some .boolean), 12, false, s_t177)
def s_m178 : s_M := (⟨"CampAshesModel", "isName", "()Z"⟩, prog_14_method_21_code, 2, (some .boolean), 12, false, s_t178)
def s_m179 : s_M := (⟨"CampAshesModel", "findIn", "([JIIJ)I"⟩, prog_14_method_29_code, 6, (some .int), 12, false, s_t179)
def s_m180 : s_M := (⟨"CampAshesModel", "readNumber", "(II)Z"⟩, prog_14_method_23_code, 3, (some .boolean), 12, false, s_t180)
def s_m181 : s_M := (⟨"CampAshesModel", "isIn", "(III)Z"⟩, prog_14_method_7_code, 3, (some .boolean), 12, false, s_t181)
def s_m182 : s_M := (⟨"CampAshesModel", "put", "(IZ)Z"⟩, prog_14_method_32_code, 3, (some .boolean), 12, false, s_t182)
def s_m183 : s_M := (⟨"CampAshesModel", "readEvent", "()Z"⟩, prog_14_method_36_code, 2, (some .boolean), 12, false, s_t183)
def s_m184 : s_M := (⟨"CampAshesModel", "readWhose", "(I)Z"⟩, prog_14_method_35_code, 2, (some .boolean), 12, false, s_t184)
def s_m185 : s_M := (⟨"CampAshesModel", "isKind", "()Z"⟩, prog_14_method_33_code, 2, (some .boolean), 12, false, s_t185)
def s_m186 : s_M := (⟨"CampAshesModel", "readTakes", "()Z"⟩, prog_14_method_37_code, 2, (some .boolean), 12, false, s_t186)
def s_m187 : s_M := (⟨"CampAshesModel", "readOnce", "(IIII)Z"⟩, prog_14_method_38_code, 5, (some .boolean), 12, false, s_t187)
def s_m188 : s_M := (⟨"CampAshesModel", "readEnd", "()Z"⟩, prog_14_method_24_code, 1, (some .boolean), 12, false, s_t188)
def s_m189 : s_M := (⟨"CampAshesModel", "isSign", "(I)Z"⟩, prog_14_method_20_code, 2, (some .boolean), 12, false, s_t189)
def s_m190 : s_M := (⟨"CampAshesModel", "fault", "()I"⟩, prog_14_method_41_code, 1, (some .int), 12, false, s_t190)
def s_m191 : s_M := (⟨"CampAshesModel", "boy", "(II)I"⟩, prog_14_method_52_code, 5, (some .int), 12, false, s_t191)
def s_m192 : s_M := (⟨"CampAshesModel", "isBoy", "(I)Z"⟩, prog_14_method_42_code, 2, (some .boolean), 12, false, s_t192)
def s_m193 : s_M := (⟨"CampAshesModel", "refuse", "()I"⟩, prog_14_method_2_code, 1, (some .int), 12, false, s_t193)
def s_m194 : s_M := (⟨"CampAshesModel", "loadOf", "(I)I"⟩, prog_14_method_47_code, 2, (some .int), 12, false, s_t194)
def s_m195 : s_M := (⟨"CampAshesModel", "sum", "(II)I"⟩, prog_14_method_46_code, 5, (some .int), 12, false, s_t195)
def s_m196 : s_M := (⟨"CampAshesModel", "isOver", "(I)Z"⟩, prog_14_method_48_code, 2, (some .boolean), 12, false, s_t196)
def s_m197 : s_M := (⟨"CampAshesModel", "isHushed", "(I)Z"⟩, prog_14_method_49_code, 2, (some .boolean), 12, false, s_t197)
def s_m198 : s_M := (⟨"CampAshesModel", "has", "(II)Z"⟩, prog_14_method_8_code, 2, (some .boolean), 12, false, s_t198)
def s_m199 : s_M := (⟨"CampAshesModel", "onOf", "(II)I"⟩, prog_14_method_45_code, 3, (some .int), 12, false, s_t199)
def s_m200 : s_M := (⟨"CampAshesModel", "on", "(II)I"⟩, prog_14_method_53_code, 3, (some .int), 12, false, s_t200)
def s_m201 : s_M := (⟨"CampAshesModel", "isEvent", "(I)Z"⟩, prog_14_method_43_code, 2, (some .boolean), 12, false, s_t201)
def s_m202 : s_M := (⟨"CampAshesModel", "event", "(II)I"⟩, prog_14_method_54_code, 5, (some .int), 12, false, s_t202)
def s_m203 : s_M := (⟨"CampAshesModel", "takes", "(I)I"⟩, prog_14_method_55_code, 2, (some .int), 12, false, s_t203)
def s_m204 : s_M := (⟨"CampAshesModel", "isOneKind", "(I)Z"⟩, prog_14_method_44_code, 2, (some .boolean), 12, false, s_t204)
def s_m205 : s_M := (⟨"CampAshesModel", "takesOf", "(II)I"⟩, prog_14_method_51_code, 3, (some .int), 12, false, s_t205)
def s_m206 : s_M := (⟨"CampAshesModel", "ashes", "(I)I"⟩, prog_14_method_56_code, 2, (some .int), 12, false, s_t206)
def s_m207 : s_M := (⟨"CampAshesModel", "now", "(I)I"⟩, prog_14_method_58_code, 2, (some .int), 12, false, s_t207)
def s_m208 : s_M := (⟨"CampAshesModel", "isWet", "()Z"⟩, prog_14_method_50_code, 1, (some .boolean), 12, false, s_t208)
def s_m209 : s_M := (⟨"CampAshesModel", "overs", "()I"⟩, prog_14_method_57_code, 3, (some .int), 12, false, s_t209)
def s_m210 : s_M := (⟨"CampAshesModel", "tell", "(II)I"⟩, prog_14_method_66_code, 3, (some .int), 12, false, s_t210)
def s_m211 : s_M := (⟨"CampAshesModel", "act", "(IIIIIZ)I"⟩, prog_14_method_65_code, 8, (some .int), 12, false, s_t211)
def s_m212 : s_M := (⟨"CampAshesModel", "why", "(IIIII)I"⟩, prog_14_method_61_code, 6, (some .int), 12, false, s_t212)
def s_m213 : s_M := (⟨"CampAshesModel", "whySay", "(II)I"⟩, prog_14_method_60_code, 3, (some .int), 12, false, s_t213)
def s_m214 : s_M := (⟨"CampAshesModel", "snap", "()V"⟩, prog_14_method_59_code, 2, (none : Option Jvm.ClassFile.FieldType), 12, false, s_t214)
def s_m215 : s_M := (⟨"CampAshesModel", "live", "(IIIII)V"⟩, prog_14_method_64_code, 7, (none : Option Jvm.ClassFile.FieldType), 12, false, s_t215)
def s_m216 : s_M := (⟨"CampAshesModel", "doTell", "(II)V"⟩, prog_14_method_63_code, 4, (none : Option Jvm.ClassFile.FieldType), 12, false, s_t216)
def s_m217 : s_M := (⟨"CampAshesModel", "least", "(II)I"⟩, prog_14_method_10_code, 2, (some .int), 12, false, s_t217)
def s_m218 : s_M := (⟨"CampAshesModel", "speaks", "(I)V"⟩, prog_14_method_62_code, 2, (none : Option Jvm.ClassFile.FieldType), 12, false, s_t218)
def s_m219 : s_M := (⟨"CampAshesModel", "lie", "(II)I"⟩, prog_14_method_67_code, 3, (some .int), 12, false, s_t219)
def s_m220 : s_M := (⟨"CampAshesModel", "give", "(IIII)I"⟩, prog_14_method_68_code, 5, (some .int), 12, false, s_t220)
def s_m221 : s_M := (⟨"CampAshesModel", "log", "()I"⟩, prog_14_method_69_code, 1, (some .int), 12, false, s_t221)
def s_m222 : s_M := (⟨"CampAshesModel", "rake", "()I"⟩, prog_14_method_70_code, 1, (some .int), 12, false, s_t222)
def s_m223 : s_M := (⟨"CampAshesModel", "undo", "()I"⟩, prog_14_method_71_code, 2, (some .int), 12, false, s_t223)
def s_m224 : s_M := (⟨"CampAshesModel", "days", "(I)I"⟩, prog_14_method_74_code, 2, (some .int), 12, false, s_t224)
def s_m225 : s_M := (⟨"CampAshesModel", "passDays", "(I)I"⟩, prog_14_method_73_code, 4, (some .int), 12, false, s_t225)
def s_m226 : s_M := (⟨"CampAshesModel", "oneDay", "()V"⟩, prog_14_method_72_code, 2, (none : Option Jvm.ClassFile.FieldType), 12, false, s_t226)
def s_m227 : s_M := (⟨"CampAshesModel", "best", "()I"⟩, prog_14_method_80_code, 4, (some .int), 12, false, s_t227)
def s_m228 : s_M := (⟨"CampAshesModel", "tellers", "()I"⟩, prog_14_method_76_code, 3, (some .int), 12, false, s_t228)
def s_m229 : s_M := (⟨"CampAshesModel", "mostOf", "(I)I"⟩, prog_14_method_75_code, 4, (some .int), 12, false, s_t229)
def s_m230 : s_M := (⟨"CampAshesModel", "layMore", "(I)V"⟩, prog_14_method_79_code, 4, (none : Option Jvm.ClassFile.FieldType), 12, false, s_t230)
def s_m231 : s_M := (⟨"CampAshesModel", "moreBy", "(II)I"⟩, prog_14_method_78_code, 3, (some .int), 12, false, s_t231)
def s_m232 : s_M := (⟨"CampAshesModel", "takenBy", "(II)I"⟩, prog_14_method_77_code, 4, (some .int), 12, false, s_t232)
def s_m233 : s_M := (⟨"CampAshesModel", "bits", "(I)I"⟩, prog_14_method_9_code, 3, (some .int), 12, false, s_t233)
def s_m234 : s_M := (⟨"CampAshesModel", "bestAt", "(I)I"⟩, prog_14_method_81_code, 2, (some .int), 12, false, s_t234)
def s_m235 : s_M := (⟨"CampAshesModel", "spread", "()I"⟩, prog_14_method_82_code, 5, (some .int), 12, false, s_t235)
def s_m236 : s_M := (⟨"CampAshesModel", "spreadOf", "(I)I"⟩, prog_14_method_83_code, 2, (some .int), 12, false, s_t236)
def s_m237 : s_M := (⟨"CampAshesModel", "says", "(II)I"⟩, prog_14_method_84_code, 8, (some .int), 12, false, s_t237)
def s_m238 : s_M := (⟨"CampAshesModel", "saying", "()I"⟩, prog_14_method_85_code, 1, (some .int), 12, false, s_t238)
def s_m239 : s_M := (⟨"CampAshesModel", "tents", "(I)I"⟩, prog_14_method_86_code, 5, (some .int), 12, false, s_t239)
def s_m240 : s_M := (⟨"CampAshesModel", "withOne", "(III)I"⟩, prog_14_method_87_code, 3, (some .int), 12, false, s_t240)
def s_m241 : s_M := (⟨"CampAshesModel", "laws", "()I"⟩, prog_14_method_90_code, 6, (some .int), 12, false, s_t241)
def s_m242 : s_M := (⟨"CampAshesModel", "behindOf", "(III)I"⟩, prog_14_method_88_code, 4, (some .int), 12, false, s_t242)
def s_m243 : s_M := (⟨"CampAshesModel", "leftBy", "(II)I"⟩, prog_14_method_89_code, 6, (some .int), 12, false, s_t243)
def s_m244 : s_M := (⟨"CampAshesModel", "watch", "()I"⟩, prog_14_method_91_code, 1, (some .int), 12, false, s_t244)
def s_m245 : s_M := (⟨"CampAshesModel", "calm", "(I)I"⟩, prog_14_method_94_code, 3, (some .int), 12, false, s_t245)
def s_m246 : s_M := (⟨"CampAshesModel", "layAside", "()V"⟩, prog_14_method_92_code, 2, (none : Option Jvm.ClassFile.FieldType), 12, false, s_t246)
def s_m247 : s_M := (⟨"CampAshesModel", "takeBack", "()V"⟩, prog_14_method_93_code, 2, (none : Option Jvm.ClassFile.FieldType), 12, false, s_t247)
def s_m248 : s_M := (⟨"CampAshesModel", "tag", "(I)I"⟩, prog_14_method_99_code, 2, (some .int), 12, false, s_t248)
def s_m249 : s_M := (⟨"CampAshesModel", "writeWord", "(J)V"⟩, prog_14_method_96_code, 3, (none : Option Jvm.ClassFile.FieldType), 12, false, s_t249)
def s_m250 : s_M := (⟨"CampAshesModel", "write", "(I)V"⟩, prog_14_method_95_code, 2, (none : Option Jvm.ClassFile.FieldType), 12, false, s_t250)
def s_m251 : s_M := (⟨"CampAshesModel", "writeNext", "(J)V"⟩, prog_14_method_98_code, 3, (none : Option Jvm.ClassFile.FieldType), 12, false, s_t251)
def s_m252 : s_M := (⟨"CampAshesModel", "writeNumber", "(I)V"⟩, prog_14_method_97_code, 2, (none : Option Jvm.ClassFile.FieldType), 12, false, s_t252)
def s_m253 : s_M := (⟨"CampAshesModel", "byteAt", "(I)I"⟩, prog_14_method_100_code, 2, (some .int), 12, false, s_t253)
def s_m254 : s_M := (⟨"CampAshesModel", "drawn", "(II)I"⟩, prog_14_method_104_code, 3, (some .int), 12, false, s_t254)
def s_m255 : s_M := (⟨"CampAshesModel", "drawDays", "(II)I"⟩, prog_14_method_103_code, 6, (some .int), 12, false, s_t255)
def s_m256 : s_M := (⟨"CampAshesModel", "draw", "(I)I"⟩, prog_14_method_101_code, 2, (some .int), 12, false, s_t256)
def s_m257 : s_M := (⟨"CampAshesModel", "drawsFor", "(I)V"⟩, prog_14_method_102_code, 4, (none : Option Jvm.ClassFile.FieldType), 12, false, s_t257)
def s_m258 : s_M := (⟨"CampAshesModel", "odds", "(III)I"⟩, prog_14_method_105_code, 6, (some .int), 12, false, s_t258)
def s_m259 : s_M := (⟨"CampAshesModel", "book", "(I)I"⟩, prog_14_method_111_code, 4, (some .int), 12, false, s_t259)
def s_m260 : s_M := (⟨"CampAshesModel", "readBookLine", "()Z"⟩, prog_14_method_109_code, 4, (some .boolean), 12, false, s_t260)
def s_m261 : s_M := (⟨"CampAshesModel", "readDoes", "(I)Z"⟩, prog_14_method_108_code, 3, (some .boolean), 12, false, s_t261)
def s_m262 : s_M := (⟨"CampAshesModel", "readNamed", "(II)Z"⟩, prog_14_method_107_code, 3, (some .boolean), 12, false, s_t262)
def s_m263 : s_M := (⟨"CampAshesModel", "keep", "(IZ)Z"⟩, prog_14_method_106_code, 3, (some .boolean), 12, false, s_t263)
def s_m264 : s_M := (⟨"CampAshesModel", "goBy", "(I)I"⟩, prog_14_method_110_code, 4, (some .int), 12, false, s_t264)
def s_m265 : s_M := (⟨"CampAshesModel", "stay", "(Z)V"⟩, prog_14_method_112_code, 4, (none : Option Jvm.ClassFile.FieldType), 12, false, s_t265)
def s_m266 : s_M := (⟨"CampAshesModel", "told", "(I)I"⟩, prog_14_method_113_code, 2, (some .int), 12, false, s_t266)
def s_m267 : s_M := (⟨"CampAshesModel", "sentence", "()I"⟩, prog_14_method_123_code, 2, (some .int), 12, false, s_t267)
def s_m268 : s_M := (⟨"CampAshesModel", "readOr", "()Z"⟩, prog_14_method_116_code, 2, (some .boolean), 12, false, s_t268)
def s_m269 : s_M := (⟨"CampAshesModel", "readAnd", "()Z"⟩, prog_14_method_117_code, 2, (some .boolean), 12, false, s_t269)
def s_m270 : s_M := (⟨"CampAshesModel", "readSaid", "()Z"⟩, prog_14_method_118_code, 4, (some .boolean), 12, false, s_t270)
def s_m271 : s_M := (⟨"CampAshesModel", "readBracket", "()Z"⟩, prog_14_method_120_code, 1, (some .boolean), 12, false, s_t271)
def s_m272 : s_M := (⟨"CampAshesModel", "readNot", "()Z"⟩, prog_14_method_119_code, 1, (some .boolean), 12, false, s_t272)
def s_m273 : s_M := (⟨"CampAshesModel", "saysOne", "(IIII)I"⟩, prog_14_method_115_code, 6, (some .int), 12, false, s_t273)
def s_m274 : s_M := (⟨"CampAshesModel", "readOf", "(I)Z"⟩, prog_14_method_121_code, 2, (some .boolean), 12, false, s_t274)
def s_m275 : s_M := (⟨"CampAshesModel", "readEventName", "()Z"⟩, prog_14_method_114_code, 1, (some .boolean), 12, false, s_t275)
def s_m276 : s_M := (⟨"CampAshesModel", "readCompare", "(I)Z"⟩, prog_14_method_122_code, 3, (some .boolean), 12, false, s_t276)
def s_m277 : s_M := (⟨"CampAshesModel", "said", "(I)I"⟩, prog_14_method_125_code, 4, (some .int), 12, false, s_t277)
def s_m278 : s_M := (⟨"CampAshesModel", "holds", "(II)Z"⟩, prog_14_method_124_code, 8, (some .boolean), 12, false, s_t278)
def s_m279 : s_M := (⟨"CampAshesModel", "image", "(I)Z"⟩, prog_14_method_126_code, 3, (some .boolean), 12, false, s_t279)
def s_m280 : s_M := (⟨"CampAshesModel", "restore", "(I)Z"⟩, prog_14_method_127_code, 3, (some .boolean), 12, false, s_t280)
def s_m281 : s_M := (⟨"CampAshesModel", "count", "(I)I"⟩, prog_14_method_128_code, 2, (some .int), 12, false, s_t281)
def s_m282 : s_M := (⟨"CampAshesLaw", "law", "([I)Z"⟩, code, 7, (some .boolean), 13, false, s_t282)
def s_ms : List s_M := [s_m0, s_m1, s_m2, s_m3, s_m4, s_m5, s_m6, s_m7, s_m8, s_m9, s_m10, s_m11, s_m12, s_m13, s_m14, s_m15, s_m16, s_m17, s_m18, s_m19, s_m20, s_m0, s_m22, s_m23, s_m24, s_m25, s_m26, s_m27, s_m28, s_m29, s_m30, s_m31, s_m32, s_m33, s_m34, s_m35, s_m36, s_m37, s_m38, s_m39, s_m40, s_m41, s_m42, s_m43, s_m44, s_m45, s_m46, s_m47, s_m48, s_m49, s_m50, s_m51, s_m52, s_m53, s_m54, s_m55, s_m56, s_m57, s_m58, s_m59, s_m60, s_m61, s_m62, s_m63, s_m64, s_m65, s_m66, s_m67, s_m68, s_m69, s_m70, s_m71, s_m72, s_m73, s_m74, s_m75, s_m76, s_m77, s_m78, s_m79, s_m80, s_m81, s_m82, s_m83, s_m84, s_m85, s_m86, s_m87, s_m88, s_m89, s_m0, s_m91, s_m92, s_m93, s_m94, s_m95, s_m96, s_m97, s_m98, s_m99, s_m100, s_m101, s_m102, s_m103, s_m104, s_m105, s_m106, s_m107, s_m108, s_m109, s_m110, s_m111, s_m112, s_m113, s_m114, s_m115, s_m116, s_m117, s_m118, s_m119, s_m120, s_m121, s_m122, s_m123, s_m124, s_m125, s_m126, s_m127, s_m128, s_m129, s_m130, s_m131, s_m132, s_m133, s_m134, s_m135, s_m136, s_m137, s_m138, s_m139, s_m140, s_m141, s_m142, s_m143, s_m144, s_m145, s_m146, s_m147, s_m148, s_m149, s_m150, s_m151, s_m152, s_m153, s_m154, s_m155, s_m156, s_m157, s_m158, s_m159, s_m160, s_m161, s_m162, s_m163, s_m164, s_m165, s_m166, s_m167, s_m168, s_m169, s_m170, s_m171, s_m172, s_m173, s_m174, s_m175, s_m176, s_m177, s_m178, s_m179, s_m180, s_m181, s_m182, s_m183, s_m184, s_m185, s_m186, s_m187, s_m188, s_m189, s_m190, s_m191, s_m192, s_m193, s_m194, s_m195, s_m196, s_m197, s_m198, s_m199, s_m200, s_m201, s_m202, s_m203, s_m204, s_m205, s_m206, s_m207, s_m208, s_m209, s_m210, s_m211, s_m212, s_m213, s_m214, s_m215, s_m216, s_m217, s_m218, s_m219, s_m220, s_m221, s_m222, s_m223, s_m224, s_m225, s_m226, s_m227, s_m228, s_m229, s_m230, s_m231, s_m232, s_m233, s_m234, s_m235, s_m236, s_m237, s_m238, s_m239, s_m240, s_m241, s_m242, s_m243, s_m244, s_m245, s_m246, s_m247, s_m248, s_m249, s_m250, s_m251, s_m252, s_m253, s_m254, s_m255, s_m256, s_m257, s_m258, s_m259, s_m260, s_m261, s_m262, s_m263, s_m264, s_m265, s_m266, s_m267, s_m268, s_m269, s_m270, s_m271, s_m272, s_m273, s_m274, s_m275, s_m276, s_m277, s_m278, s_m279, s_m280, s_m281]
def s_fts : List (List Nat) := [[3, 0, 3, 0, 0, 3, 3], [3, 3, 3, 3, 3, 0, 1, 0, 0, 0, 0], [0, 0, 3, 3, 3, 3, 3, 3, 0, 0, 0, 0, 0, 0], [0], [3, 0, 0], [3, 3, 3, 1], [0], [3, 3, 3, 3, 0, 0, 1], [3, 3, 3, 3, 3, 0, 0, 0, 0, 0], [3, 0, 0, 0, 0, 0, 0, 0, 2, 3, 0, 0], [2, 0], [3, 0, 3, 3, 3, 3, 3, 3, 3, 3, 3, 3, 3, 3, 3, 0], [0, 3, 0, 0, 0, 0, 0, 0, 0, 0, 0, 0, 2, 0, 3, 3, 3, 3, 3, 3, 3, 3, 3, 3, 3, 0, 3, 3, 0, 3, 0, 1, 0, 3, 0, 3, 3, 0, 0, 3, 3, 0, 1, 3, 0, 0, 0, 0]]
def s_fin : List (List Bool) := [[true, false, true, false, false, true, true], [true, true, true, true, true, false, false, false, false, false, false], [false, false, true, true, true, true, true, true, false, false, false, false, false, false], [false], [true, false, false], [true, true, true, false], [false], [true, true, true, true, false, false, false], [true, true, true, true, true, false, false, false, false, false], [true, false, false, false, false, false, false, false, false, false, false, false], [true, true], [true, false, true, true, true, true, true, true, true, true, true, true, true, true, true, false], [false, true, false, false, false, false, false, false, false, false, false, false, false, false, true, true, true, true, true, true, true, true, true, true, true, false, true, true, false, true, false, false, false, true, false, true, true, false, false, true, true, false, false, true, false, false, false, false]]
def s_cl : List vw_C := [(RX0, TX0, 7), (RX1, TX1, 11), (RX2, TX2, 14), (RX3, TX3, 1), (RX4, TX4, 3), (RX5, TX5, 4), (RX6, TX6, 1), (RX7, TX7, 7), (RX8, TX8, 10), (RX9, TX9, 12), (RX10, TX10, 0), (RX11, TX11, 16), (RX12, TX12, 48)]
def s_Gs : List (Nat × Nat) := [(11, 0), (9, 0), (100, 940), (2, 0), (102, 17), (101, 7), (101, 10), (101, 10), (101, 10), (101, 4), (2, 0), (102, 17), (101, 7), (101, 10), (101, 10), (101, 10), (101, 4), (8, 0), (101, 70), (101, 7), (101, 4), (101, 7), (8, 0), (101, 70), (101, 7), (101, 4), (101, 7), (7, 0), (104, 40), (101, 40), (101, 40), (101, 40), (7, 0), (104, 40), (101, 40), (101, 40), (101, 40), (1, 0), (101, 40), (101, 40), (101, 40), (101, 40), (101, 40), (4, 0), (105, 8), (8, 0), (101, 70), (101, 7), (101, 4), (101, 7), (8, 0), (101, 70), (101, 7), (101, 4), (101, 7), (8, 0), (101, 70), (101, 7), (101, 4), (101, 7), (8, 0), (101, 70), (101, 7), (101, 4), (101, 7), (8, 0), (101, 70), (101, 7), (101, 4), (101, 7), (8, 0), (101, 70), (101, 7), (101, 4), (101, 7), (8, 0), (101, 70), (101, 7), (101, 4), (101, 7), (8, 0), (101, 70), (101, 7), (101, 4), (101, 7), (106, 2), (5, 0), (2, 0), (102, 17), (101, 7), (101, 10), (101, 10), (101, 10), (101, 4), (8, 0), (101, 70), (101, 7), (101, 4), (101, 7), (7, 0), (104, 40), (101, 40), (101, 40), (101, 40), (5, 0), (2, 0), (102, 17), (101, 7), (101, 10), (101, 10), (101, 10), (101, 4), (8, 0), (101, 70), (101, 7), (101, 4), (101, 7), (7, 0), (104, 40), (101, 40), (101, 40), (101, 40), (0, 0), (101, 7), (101, 7), (101, 7), (101, 128), (6, 0), (3, 0), (100, 64), (12, 0), (101, 940), (101, 375), (101, 47), (101, 750), (101, 688), (101, 86), (102, 17), (102, 17), (102, 34), (103, 2), (103, 4), (103, 4), (101, 128), (101, 7), (101, 7), (101, 128), (101, 41), (101, 64), (101, 200), (101, 4), (101, 240), (102, 1)]
-- 153 cells, 7386 slots
end
section
-- CERTIFICATES of the tables: what the soundness of the pure machine takes of them
def s_gw : List Cond := lw_tbl.filter goodWord
theorem s_gw_mem {w : Cond} (h : w ∈ lw_tbl) (hg : goodWord w = true) : w ∈ s_gw := List.mem_filter.mpr ⟨h, hg⟩
theorem s_gw_good {w : Cond} (h : w ∈ s_gw) : w ∈ lw_tbl ∧ goodWord w = true := List.mem_filter.mp h
def s_R (c : Nat) : String := s_Rs.getD c ""
-- lengths and targets
def s_lk (i : Instr) (n : Nat) : Bool := match i with
  | .tableswitch _ _ _ _ => true
  | .lookupswitch _ _ => true
  | .bipush _ => Nat.beq 2 n
  | .iload _ => Nat.beq 2 n
  | .lload _ => Nat.beq 2 n
  | .aload _ => Nat.beq 2 n
  | .istore _ => Nat.beq 2 n
  | .lstore _ => Nat.beq 2 n
  | .astore _ => Nat.beq 2 n
  | .ldc _ => Nat.beq 2 n
  | .newarray _ => Nat.beq 2 n
  | .sipush _ => Nat.beq 3 n
  | .iinc _ _ => Nat.beq 3 n
  | .ifCond _ _ => Nat.beq 3 n
  | .if_icmp _ _ => Nat.beq 3 n
  | .if_acmp _ _ => Nat.beq 3 n
  | .ifnull _ => Nat.beq 3 n
  | .ifnonnull _ => Nat.beq 3 n
  | .goto _ => Nat.beq 3 n
  | .getfield _ => Nat.beq 3 n
  | .putfield _ => Nat.beq 3 n
  | .getstatic _ => Nat.beq 3 n
  | .ldc_w _ => Nat.beq 3 n
  | .ldc2_w _ => Nat.beq 3 n
  | .anewarray _ => Nat.beq 3 n
  | .new _ => Nat.beq 3 n
  | .invokevirtual _ => Nat.beq 3 n
  | .invokestatic _ => Nat.beq 3 n
  | .invokespecial _ => Nat.beq 3 n
  | _ => Nat.beq 1 n
def s_tk (pc : Nat) (i : Instr) (tg : Nat) : Bool := match i with
  | .ifCond _ o => decide ((pc : Int) + o = (tg : Int))
  | .if_icmp _ o => decide ((pc : Int) + o = (tg : Int))
  | .if_acmp _ o => decide ((pc : Int) + o = (tg : Int))
  | .ifnull o => decide ((pc : Int) + o = (tg : Int))
  | .ifnonnull o => decide ((pc : Int) + o = (tg : Int))
  | .goto o => decide ((pc : Int) + o = (tg : Int))
  | .lookupswitch _ ps => (ps.toList.zip (ps.toList.drop 1)).all (fun (a, next) => a.1 < next.1)
  | _ => true
def s_ck (q : Nat × Instr × Nat × Nat) : Bool := s_lk q.2.1 q.2.2.1 && s_tk q.1 q.2.1 q.2.2.2
def s_wAt (p : Nat) (w : Cond) : Bool := decide (lw_tbl[p]? = some w)
theorem s_wAt_mem {p : Nat} {w : Cond} (h : s_wAt p w = true) : w ∈ lw_tbl := List.mem_of_getElem? (of_decide_eq_true h)
-- a method
def s_okM (q : s_M) : Prop := plainName q.1.cls = true ∧ q.1.cls = s_R q.2.2.2.2.1 ∧ Cond.code q.1 q.2.1 q.2.2.1 q.2.2.2.1 ∈ lw_tbl ∧ s_dec q.2.1 q.2.2.2.2.2.2 ∧ q.2.2.2.2.2.2.all s_ck = true ∧ (q.2.2.2.2.2.1 = true → q.1.name = "<init>" ∧ q.2.2.2.1 = none) ∧ Cond.initialized q.1.cls ∈ lw_tbl ∧ (q.1.cls ≠ "java/lang/invoke/MethodHandle" ∧ q.1.cls ≠ "java/lang/invoke/VarHandle") ∧ q.2.2.1 ≤ 20
end
section
set_option maxRecDepth 100000 in
theorem s_okm0 : s_okM s_m0 := ⟨by decide +kernel, by decide +kernel, s_wAt_mem (p := 144) (by decide +kernel), s_d0, by decide +kernel, by decide +kernel, s_wAt_mem (p := 114) (by decide +kernel), by decide +kernel, by decide +kernel⟩
set_option maxRecDepth 100000 in
theorem s_okm1 : s_okM s_m1 := ⟨by decide +kernel, by decide +kernel, s_wAt_mem (p := 152) (by decide +kernel), s_d1, by decide +kernel, by decide +kernel, s_wAt_mem (p := 115) (by decide +kernel), by decide +kernel, by decide +kernel⟩
set_option maxRecDepth 100000 in
theorem s_okm2 : s_okM s_m2 := ⟨by decide +kernel, by decide +kernel, s_wAt_mem (p := 211) (by decide +kernel), s_d2, by decide +kernel, by decide +kernel, s_wAt_mem (p := 116) (by decide +kernel), by decide +kernel, by decide +kernel⟩
set_option maxRecDepth 100000 in
theorem s_okm3 : s_okM s_m3 := ⟨by decide +kernel, by decide +kernel, s_wAt_mem (p := 216) (by decide +kernel), s_d3, by decide +kernel, by decide +kernel, s_wAt_mem (p := 116) (by decide +kernel), by decide +kernel, by decide +kernel⟩
set_option maxRecDepth 100000 in
theorem s_okm4 : s_okM s_m4 := ⟨by decide +kernel, by decide +kernel, s_wAt_mem (p := 219) (by decide +kernel), s_d4, by decide +kernel, by decide +kernel, s_wAt_mem (p := 117) (by decide +kernel), by decide +kernel, by decide +kernel⟩
set_option maxRecDepth 100000 in
theorem s_okm5 : s_okM s_m5 := ⟨by decide +kernel, by decide +kernel, s_wAt_mem (p := 297) (by decide +kernel), s_d5, by decide +kernel, by decide +kernel, s_wAt_mem (p := 118) (by decide +kernel), by decide +kernel, by decide +kernel⟩
set_option maxRecDepth 100000 in
theorem s_okm6 : s_okM s_m6 := ⟨by decide +kernel, by decide +kernel, s_wAt_mem (p := 348) (by decide +kernel), s_d6, by decide +kernel, by decide +kernel, s_wAt_mem (p := 119) (by decide +kernel), by decide +kernel, by decide +kernel⟩
set_option maxRecDepth 100000 in
theorem s_okm7 : s_okM s_m7 := ⟨by decide +kernel, by decide +kernel, s_wAt_mem (p := 380) (by decide +kernel), s_d7, by decide +kernel, by decide +kernel, s_wAt_mem (p := 120) (by decide +kernel), by decide +kernel, by decide +kernel⟩
set_option maxRecDepth 100000 in
theorem s_okm8 : s_okM s_m8 := ⟨by decide +kernel, by decide +kernel, s_wAt_mem (p := 425) (by decide +kernel), s_d8, by decide +kernel, by decide +kernel, s_wAt_mem (p := 121) (by decide +kernel), by decide +kernel, by decide +kernel⟩
set_option maxRecDepth 100000 in
theorem s_okm9 : s_okM s_m9 := ⟨by decide +kernel, by decide +kernel, s_wAt_mem (p := 445) (by decide +kernel), s_d9, by decide +kernel, by decide +kernel, s_wAt_mem (p := 122) (by decide +kernel), by decide +kernel, by decide +kernel⟩
set_option maxRecDepth 100000 in
theorem s_okm10 : s_okM s_m10 := ⟨by decide +kernel, by decide +kernel, s_wAt_mem (p := 471) (by decide +kernel), s_d10, by decide +kernel, by decide +kernel, s_wAt_mem (p := 123) (by decide +kernel), by decide +kernel, by decide +kernel⟩
set_option maxRecDepth 100000 in
theorem s_okm11 : s_okM s_m11 := ⟨by decide +kernel, by decide +kernel, s_wAt_mem (p := 504) (by decide +kernel), s_d11, by decide +kernel, by decide +kernel, s_wAt_mem (p := 124) (by decide +kernel), by decide +kernel, by decide +kernel⟩
set_option maxRecDepth 100000 in
theorem s_okm12 : s_okM s_m12 := ⟨by decide +kernel, by decide +kernel, s_wAt_mem (p := 514) (by decide +kernel), s_d12, by decide +kernel, by decide +kernel, s_wAt_mem (p := 125) (by decide +kernel), by decide +kernel, by decide +kernel⟩
set_option maxRecDepth 100000 in
theorem s_okm13 : s_okM s_m13 := ⟨by decide +kernel, by decide +kernel, s_wAt_mem (p := 523) (by decide +kernel), s_d13, by decide +kernel, by decide +kernel, s_wAt_mem (p := 118) (by decide +kernel), by decide +kernel, by decide +kernel⟩
set_option maxRecDepth 100000 in
theorem s_okm14 : s_okM s_m14 := ⟨by decide +kernel, by decide +kernel, s_wAt_mem (p := 528) (by decide +kernel), s_d14, by decide +kernel, by decide +kernel, s_wAt_mem (p := 118) (by decide +kernel), by decide +kernel, by decide +kernel⟩
set_option maxRecDepth 100000 in
theorem s_okm15 : s_okM s_m15 := ⟨by decide +kernel, by decide +kernel, s_wAt_mem (p := 581) (by decide +kernel), s_d15, by decide +kernel, by decide +kernel, s_wAt_mem (p := 114) (by decide +kernel), by decide +kernel, by decide +kernel⟩
set_option maxRecDepth 100000 in
theorem s_okm16 : s_okM s_m16 := ⟨by decide +kernel, by decide +kernel, s_wAt_mem (p := 585) (by decide +kernel), s_d16, by decide +kernel, by decide +kernel, s_wAt_mem (p := 115) (by decide +kernel), by decide +kernel, by decide +kernel⟩
set_option maxRecDepth 100000 in
theorem s_okm17 : s_okM s_m17 := ⟨by decide +kernel, by decide +kernel, s_wAt_mem (p := 589) (by decide +kernel), s_d17, by decide +kernel, by decide +kernel, s_wAt_mem (p := 114) (by decide +kernel), by decide +kernel, by decide +kernel⟩
set_option maxRecDepth 100000 in
theorem s_okm18 : s_okM s_m18 := ⟨by decide +kernel, by decide +kernel, s_wAt_mem (p := 593) (by decide +kernel), s_d18, by decide +kernel, by decide +kernel, s_wAt_mem (p := 114) (by decide +kernel), by decide +kernel, by decide +kernel⟩
set_option maxRecDepth 100000 in
theorem s_okm19 : s_okM s_m19 := ⟨by decide +kernel, by decide +kernel, s_wAt_mem (p := 597) (by decide +kernel), s_d19, by decide +kernel, by decide +kernel, s_wAt_mem (p := 115) (by decide +kernel), by decide +kernel, by decide +kernel⟩
set_option maxRecDepth 100000 in
theorem s_okm20 : s_okM s_m20 := ⟨by decide +kernel, by decide +kernel, s_wAt_mem (p := 601) (by decide +kernel), s_d20, by decide +kernel, by decide +kernel, s_wAt_mem (p := 115) (by decide +kernel), by decide +kernel, by decide +kernel⟩
set_option maxRecDepth 100000 in
theorem s_okm22 : s_okM s_m22 := ⟨by decide +kernel, by decide +kernel, s_wAt_mem (p := 608) (by decide +kernel), s_d22, by decide +kernel, by decide +kernel, s_wAt_mem (p := 115) (by decide +kernel), by decide +kernel, by decide +kernel⟩
set_option maxRecDepth 100000 in
theorem s_okm23 : s_okM s_m23 := ⟨by decide +kernel, by decide +kernel, s_wAt_mem (p := 613) (by decide +kernel), s_d23, by decide +kernel, by decide +kernel, s_wAt_mem (p := 115) (by decide +kernel), by decide +kernel, by decide +kernel⟩
set_option maxRecDepth 100000 in
theorem s_okm24 : s_okM s_m24 := ⟨by decide +kernel, by decide +kernel, s_wAt_mem (p := 616) (by decide +kernel), s_d24, by decide +kernel, by decide +kernel, s_wAt_mem (p := 129) (by decide +kernel), by decide +kernel, by decide +kernel⟩
set_option maxRecDepth 100000 in
theorem s_okm25 : s_okM s_m25 := ⟨by decide +kernel, by decide +kernel, s_wAt_mem (p := 622) (by decide +kernel), s_d25, by decide +kernel, by decide +kernel, s_wAt_mem (p := 116) (by decide +kernel), by decide +kernel, by decide +kernel⟩
set_option maxRecDepth 100000 in
theorem s_okm26 : s_okM s_m26 := ⟨by decide +kernel, by decide +kernel, s_wAt_mem (p := 626) (by decide +kernel), s_d26, by decide +kernel, by decide +kernel, s_wAt_mem (p := 115) (by decide +kernel), by decide +kernel, by decide +kernel⟩
set_option maxRecDepth 100000 in
theorem s_okm27 : s_okM s_m27 := ⟨by decide +kernel, by decide +kernel, s_wAt_mem (p := 630) (by decide +kernel), s_d27, by decide +kernel, by decide +kernel, s_wAt_mem (p := 116) (by decide +kernel), by decide +kernel, by decide +kernel⟩
set_option maxRecDepth 100000 in
theorem s_okm28 : s_okM s_m28 := ⟨by decide +kernel, by decide +kernel, s_wAt_mem (p := 636) (by decide +kernel), s_d28, by decide +kernel, by decide +kernel, s_wAt_mem (p := 115) (by decide +kernel), by decide +kernel, by decide +kernel⟩
set_option maxRecDepth 100000 in
theorem s_okm29 : s_okM s_m29 := ⟨by decide +kernel, by decide +kernel, s_wAt_mem (p := 640) (by decide +kernel), s_d29, by decide +kernel, by decide +kernel, s_wAt_mem (p := 116) (by decide +kernel), by decide +kernel, by decide +kernel⟩
set_option maxRecDepth 100000 in
theorem s_okm30 : s_okM s_m30 := ⟨by decide +kernel, by decide +kernel, s_wAt_mem (p := 644) (by decide +kernel), s_d30, by decide +kernel, by decide +kernel, s_wAt_mem (p := 115) (by decide +kernel), by decide +kernel, by decide +kernel⟩
set_option maxRecDepth 100000 in
theorem s_okm31 : s_okM s_m31 := ⟨by decide +kernel, by decide +kernel, s_wAt_mem (p := 649) (by decide +kernel), s_d31, by decide +kernel, by decide +kernel, s_wAt_mem (p := 116) (by decide +kernel), by decide +kernel, by decide +kernel⟩
set_option maxRecDepth 100000 in
theorem s_okm32 : s_okM s_m32 := ⟨by decide +kernel, by decide +kernel, s_wAt_mem (p := 653) (by decide +kernel), s_d32, by decide +kernel, by decide +kernel, s_wAt_mem (p := 116) (by decide +kernel), by decide +kernel, by decide +kernel⟩
set_option maxRecDepth 100000 in
theorem s_okm33 : s_okM s_m33 := ⟨by decide +kernel, by decide +kernel, s_wAt_mem (p := 657) (by decide +kernel), s_d33, by decide +kernel, by decide +kernel, s_wAt_mem (p := 116) (by decide +kernel), by decide +kernel, by decide +kernel⟩
set_option maxRecDepth 100000 in
theorem s_okm34 : s_okM s_m34 := ⟨by decide +kernel, by decide +kernel, s_wAt_mem (p := 661) (by decide +kernel), s_d34, by decide +kernel, by decide +kernel, s_wAt_mem (p := 115) (by decide +kernel), by decide +kernel, by decide +kernel⟩
set_option maxRecDepth 100000 in
theorem s_okm35 : s_okM s_m35 := ⟨by decide +kernel, by decide +kernel, s_wAt_mem (p := 668) (by decide +kernel), s_d35, by decide +kernel, by decide +kernel, s_wAt_mem (p := 116) (by decide +kernel), by decide +kernel, by decide +kernel⟩
set_option maxRecDepth 100000 in
theorem s_okm36 : s_okM s_m36 := ⟨by decide +kernel, by decide +kernel, s_wAt_mem (p := 672) (by decide +kernel), s_d36, by decide +kernel, by decide +kernel, s_wAt_mem (p := 115) (by decide +kernel), by decide +kernel, by decide +kernel⟩
set_option maxRecDepth 100000 in
theorem s_okm37 : s_okM s_m37 := ⟨by decide +kernel, by decide +kernel, s_wAt_mem (p := 675) (by decide +kernel), s_d37, by decide +kernel, by decide +kernel, s_wAt_mem (p := 116) (by decide +kernel), by decide +kernel, by decide +kernel⟩
set_option maxRecDepth 100000 in
theorem s_okm38 : s_okM s_m38 := ⟨by decide +kernel, by decide +kernel, s_wAt_mem (p := 681) (by decide +kernel), s_d38, by decide +kernel, by decide +kernel, s_wAt_mem (p := 116) (by decide +kernel), by decide +kernel, by decide +kernel⟩
set_option maxRecDepth 100000 in
theorem s_okm39 : s_okM s_m39 := ⟨by decide +kernel, by decide +kernel, s_wAt_mem (p := 685) (by decide +kernel), s_d39, by decide +kernel, by decide +kernel, s_wAt_mem (p := 116) (by decide +kernel), by decide +kernel, by decide +kernel⟩
set_option maxRecDepth 100000 in
theorem s_okm40 : s_okM s_m40 := ⟨by decide +kernel, by decide +kernel, s_wAt_mem (p := 691) (by decide +kernel), s_d40, by decide +kernel, by decide +kernel, s_wAt_mem (p := 116) (by decide +kernel), by decide +kernel, by decide +kernel⟩
set_option maxRecDepth 100000 in
theorem s_okm41 : s_okM s_m41 := ⟨by decide +kernel, by decide +kernel, s_wAt_mem (p := 701) (by decide +kernel), s_d41, by decide +kernel, by decide +kernel, s_wAt_mem (p := 115) (by decide +kernel), by decide +kernel, by decide +kernel⟩
set_option maxRecDepth 100000 in
theorem s_okm42 : s_okM s_m42 := ⟨by decide +kernel, by decide +kernel, s_wAt_mem (p := 705) (by decide +kernel), s_d42, by decide +kernel, by decide +kernel, s_wAt_mem (p := 115) (by decide +kernel), by decide +kernel, by decide +kernel⟩
set_option maxRecDepth 100000 in
theorem s_okm43 : s_okM s_m43 := ⟨by decide +kernel, by decide +kernel, s_wAt_mem (p := 709) (by decide +kernel), s_d43, by decide +kernel, by decide +kernel, s_wAt_mem (p := 116) (by decide +kernel), by decide +kernel, by decide +kernel⟩
set_option maxRecDepth 100000 in
theorem s_okm44 : s_okM s_m44 := ⟨by decide +kernel, by decide +kernel, s_wAt_mem (p := 716) (by decide +kernel), s_d44, by decide +kernel, by decide +kernel, s_wAt_mem (p := 119) (by decide +kernel), by decide +kernel, by decide +kernel⟩
set_option maxRecDepth 100000 in
theorem s_okm45 : s_okM s_m45 := ⟨by decide +kernel, by decide +kernel, s_wAt_mem (p := 720) (by decide +kernel), s_d45, by decide +kernel, by decide +kernel, s_wAt_mem (p := 121) (by decide +kernel), by decide +kernel, by decide +kernel⟩
set_option maxRecDepth 100000 in
theorem s_okm46 : s_okM s_m46 := ⟨by decide +kernel, by decide +kernel, s_wAt_mem (p := 724) (by decide +kernel), s_d46, by decide +kernel, by decide +kernel, s_wAt_mem (p := 114) (by decide +kernel), by decide +kernel, by decide +kernel⟩
set_option maxRecDepth 100000 in
theorem s_okm47 : s_okM s_m47 := ⟨by decide +kernel, by decide +kernel, s_wAt_mem (p := 728) (by decide +kernel), s_d47, by decide +kernel, by decide +kernel, s_wAt_mem (p := 114) (by decide +kernel), by decide +kernel, by decide +kernel⟩
set_option maxRecDepth 100000 in
theorem s_okm48 : s_okM s_m48 := ⟨by decide +kernel, by decide +kernel, s_wAt_mem (p := 732) (by decide +kernel), s_d48, by decide +kernel, by decide +kernel, s_wAt_mem (p := 116) (by decide +kernel), by decide +kernel, by decide +kernel⟩
set_option maxRecDepth 100000 in
theorem s_okm49 : s_okM s_m49 := ⟨by decide +kernel, by decide +kernel, s_wAt_mem (p := 736) (by decide +kernel), s_d49, by decide +kernel, by decide +kernel, s_wAt_mem (p := 116) (by decide +kernel), by decide +kernel, by decide +kernel⟩
set_option maxRecDepth 100000 in
theorem s_okm50 : s_okM s_m50 := ⟨by decide +kernel, by decide +kernel, s_wAt_mem (p := 740) (by decide +kernel), s_d50, by decide +kernel, by decide +kernel, s_wAt_mem (p := 118) (by decide +kernel), by decide +kernel, by decide +kernel⟩
set_option maxRecDepth 100000 in
theorem s_okm51 : s_okM s_m51 := ⟨by decide +kernel, by decide +kernel, s_wAt_mem (p := 744) (by decide +kernel), s_d51, by decide +kernel, by decide +kernel, s_wAt_mem (p := 114) (by decide +kernel), by decide +kernel, by decide +kernel⟩
set_option maxRecDepth 100000 in
theorem s_okm52 : s_okM s_m52 := ⟨by decide +kernel, by decide +kernel, s_wAt_mem (p := 748) (by decide +kernel), s_d52, by decide +kernel, by decide +kernel, s_wAt_mem (p := 118) (by decide +kernel), by decide +kernel, by decide +kernel⟩
set_option maxRecDepth 100000 in
theorem s_okm53 : s_okM s_m53 := ⟨by decide +kernel, by decide +kernel, s_wAt_mem (p := 753) (by decide +kernel), s_d53, by decide +kernel, by decide +kernel, s_wAt_mem (p := 114) (by decide +kernel), by decide +kernel, by decide +kernel⟩
set_option maxRecDepth 100000 in
theorem s_okm54 : s_okM s_m54 := ⟨by decide +kernel, by decide +kernel, s_wAt_mem (p := 757) (by decide +kernel), s_d54, by decide +kernel, by decide +kernel, s_wAt_mem (p := 118) (by decide +kernel), by decide +kernel, by decide +kernel⟩
set_option maxRecDepth 100000 in
theorem s_okm55 : s_okM s_m55 := ⟨by decide +kernel, by decide +kernel, s_wAt_mem (p := 761) (by decide +kernel), s_d55, by decide +kernel, by decide +kernel, s_wAt_mem (p := 114) (by decide +kernel), by decide +kernel, by decide +kernel⟩
set_option maxRecDepth 100000 in
theorem s_okm56 : s_okM s_m56 := ⟨by decide +kernel, by decide +kernel, s_wAt_mem (p := 765) (by decide +kernel), s_d56, by decide +kernel, by decide +kernel, s_wAt_mem (p := 114) (by decide +kernel), by decide +kernel, by decide +kernel⟩
set_option maxRecDepth 100000 in
theorem s_okm57 : s_okM s_m57 := ⟨by decide +kernel, by decide +kernel, s_wAt_mem (p := 769) (by decide +kernel), s_d57, by decide +kernel, by decide +kernel, s_wAt_mem (p := 118) (by decide +kernel), by decide +kernel, by decide +kernel⟩
set_option maxRecDepth 100000 in
theorem s_okm58 : s_okM s_m58 := ⟨by decide +kernel, by decide +kernel, s_wAt_mem (p := 773) (by decide +kernel), s_d58, by decide +kernel, by decide +kernel, s_wAt_mem (p := 118) (by decide +kernel), by decide +kernel, by decide +kernel⟩
set_option maxRecDepth 100000 in
theorem s_okm59 : s_okM s_m59 := ⟨by decide +kernel, by decide +kernel, s_wAt_mem (p := 777) (by decide +kernel), s_d59, by decide +kernel, by decide +kernel, s_wAt_mem (p := 118) (by decide +kernel), by decide +kernel, by decide +kernel⟩
set_option maxRecDepth 100000 in
theorem s_okm60 : s_okM s_m60 := ⟨by decide +kernel, by decide +kernel, s_wAt_mem (p := 781) (by decide +kernel), s_d60, by decide +kernel, by decide +kernel, s_wAt_mem (p := 118) (by decide +kernel), by decide +kernel, by decide +kernel⟩
set_option maxRecDepth 100000 in
theorem s_okm61 : s_okM s_m61 := ⟨by decide +kernel, by decide +kernel, s_wAt_mem (p := 785) (by decide +kernel), s_d61, by decide +kernel, by decide +kernel, s_wAt_mem (p := 114) (by decide +kernel), by decide +kernel, by decide +kernel⟩
set_option maxRecDepth 100000 in
theorem s_okm62 : s_okM s_m62 := ⟨by decide +kernel, by decide +kernel, s_wAt_mem (p := 789) (by decide +kernel), s_d62, by decide +kernel, by decide +kernel, s_wAt_mem (p := 118) (by decide +kernel), by decide +kernel, by decide +kernel⟩
set_option maxRecDepth 100000 in
theorem s_okm63 : s_okM s_m63 := ⟨by decide +kernel, by decide +kernel, s_wAt_mem (p := 794) (by decide +kernel), s_d63, by decide +kernel, by decide +kernel, s_wAt_mem (p := 118) (by decide +kernel), by decide +kernel, by decide +kernel⟩
set_option maxRecDepth 100000 in
theorem s_okm64 : s_okM s_m64 := ⟨by decide +kernel, by decide +kernel, s_wAt_mem (p := 798) (by decide +kernel), s_d64, by decide +kernel, by decide +kernel, s_wAt_mem (p := 118) (by decide +kernel), by decide +kernel, by decide +kernel⟩
set_option maxRecDepth 100000 in
theorem s_okm65 : s_okM s_m65 := ⟨by decide +kernel, by decide +kernel, s_wAt_mem (p := 803) (by decide +kernel), s_d65, by decide +kernel, by decide +kernel, s_wAt_mem (p := 118) (by decide +kernel), by decide +kernel, by decide +kernel⟩
set_option maxRecDepth 100000 in
theorem s_okm66 : s_okM s_m66 := ⟨by decide +kernel, by decide +kernel, s_wAt_mem (p := 809) (by decide +kernel), s_d66, by decide +kernel, by decide +kernel, s_wAt_mem (p := 118) (by decide +kernel), by decide +kernel, by decide +kernel⟩
set_option maxRecDepth 100000 in
theorem s_okm67 : s_okM s_m67 := ⟨by decide +kernel, by decide +kernel, s_wAt_mem (p := 813) (by decide +kernel), s_d67, by decide +kernel, by decide +kernel, s_wAt_mem (p := 114) (by decide +kernel), by decide +kernel, by decide +kernel⟩
set_option maxRecDepth 100000 in
theorem s_okm68 : s_okM s_m68 := ⟨by decide +kernel, by decide +kernel, s_wAt_mem (p := 817) (by decide +kernel), s_d68, by decide +kernel, by decide +kernel, s_wAt_mem (p := 114) (by decide +kernel), by decide +kernel, by decide +kernel⟩
set_option maxRecDepth 100000 in
theorem s_okm69 : s_okM s_m69 := ⟨by decide +kernel, by decide +kernel, s_wAt_mem (p := 821) (by decide +kernel), s_d69, by decide +kernel, by decide +kernel, s_wAt_mem (p := 121) (by decide +kernel), by decide +kernel, by decide +kernel⟩
set_option maxRecDepth 100000 in
theorem s_okm70 : s_okM s_m70 := ⟨by decide +kernel, by decide +kernel, s_wAt_mem (p := 827) (by decide +kernel), s_d70, by decide +kernel, by decide +kernel, s_wAt_mem (p := 114) (by decide +kernel), by decide +kernel, by decide +kernel⟩
set_option maxRecDepth 100000 in
theorem s_okm71 : s_okM s_m71 := ⟨by decide +kernel, by decide +kernel, s_wAt_mem (p := 831) (by decide +kernel), s_d71, by decide +kernel, by decide +kernel, s_wAt_mem (p := 118) (by decide +kernel), by decide +kernel, by decide +kernel⟩
set_option maxRecDepth 100000 in
theorem s_okm72 : s_okM s_m72 := ⟨by decide +kernel, by decide +kernel, s_wAt_mem (p := 835) (by decide +kernel), s_d72, by decide +kernel, by decide +kernel, s_wAt_mem (p := 114) (by decide +kernel), by decide +kernel, by decide +kernel⟩
set_option maxRecDepth 100000 in
theorem s_okm73 : s_okM s_m73 := ⟨by decide +kernel, by decide +kernel, s_wAt_mem (p := 839) (by decide +kernel), s_d73, by decide +kernel, by decide +kernel, s_wAt_mem (p := 118) (by decide +kernel), by decide +kernel, by decide +kernel⟩
set_option maxRecDepth 100000 in
theorem s_okm74 : s_okM s_m74 := ⟨by decide +kernel, by decide +kernel, s_wAt_mem (p := 843) (by decide +kernel), s_d74, by decide +kernel, by decide +kernel, s_wAt_mem (p := 114) (by decide +kernel), by decide +kernel, by decide +kernel⟩
set_option maxRecDepth 100000 in
theorem s_okm75 : s_okM s_m75 := ⟨by decide +kernel, by decide +kernel, s_wAt_mem (p := 847) (by decide +kernel), s_d75, by decide +kernel, by decide +kernel, s_wAt_mem (p := 118) (by decide +kernel), by decide +kernel, by decide +kernel⟩
set_option maxRecDepth 100000 in
theorem s_okm76 : s_okM s_m76 := ⟨by decide +kernel, by decide +kernel, s_wAt_mem (p := 851) (by decide +kernel), s_d76, by decide +kernel, by decide +kernel, s_wAt_mem (p := 114) (by decide +kernel), by decide +kernel, by decide +kernel⟩
set_option maxRecDepth 100000 in
theorem s_okm77 : s_okM s_m77 := ⟨by decide +kernel, by decide +kernel, s_wAt_mem (p := 855) (by decide +kernel), s_d77, by decide +kernel, by decide +kernel, s_wAt_mem (p := 118) (by decide +kernel), by decide +kernel, by decide +kernel⟩
set_option maxRecDepth 100000 in
theorem s_okm78 : s_okM s_m78 := ⟨by decide +kernel, by decide +kernel, s_wAt_mem (p := 859) (by decide +kernel), s_d78, by decide +kernel, by decide +kernel, s_wAt_mem (p := 114) (by decide +kernel), by decide +kernel, by decide +kernel⟩
set_option maxRecDepth 100000 in
theorem s_okm79 : s_okM s_m79 := ⟨by decide +kernel, by decide +kernel, s_wAt_mem (p := 863) (by decide +kernel), s_d79, by decide +kernel, by decide +kernel, s_wAt_mem (p := 118) (by decide +kernel), by decide +kernel, by decide +kernel⟩
set_option maxRecDepth 100000 in
theorem s_okm80 : s_okM s_m80 := ⟨by decide +kernel, by decide +kernel, s_wAt_mem (p := 867) (by decide +kernel), s_d80, by decide +kernel, by decide +kernel, s_wAt_mem (p := 118) (by decide +kernel), by decide +kernel, by decide +kernel⟩
set_option maxRecDepth 100000 in
theorem s_okm81 : s_okM s_m81 := ⟨by decide +kernel, by decide +kernel, s_wAt_mem (p := 871) (by decide +kernel), s_d81, by decide +kernel, by decide +kernel, s_wAt_mem (p := 118) (by decide +kernel), by decide +kernel, by decide +kernel⟩
set_option maxRecDepth 100000 in
theorem s_okm82 : s_okM s_m82 := ⟨by decide +kernel, by decide +kernel, s_wAt_mem (p := 875) (by decide +kernel), s_d82, by decide +kernel, by decide +kernel, s_wAt_mem (p := 114) (by decide +kernel), by decide +kernel, by decide +kernel⟩
set_option maxRecDepth 100000 in
theorem s_okm83 : s_okM s_m83 := ⟨by decide +kernel, by decide +kernel, s_wAt_mem (p := 879) (by decide +kernel), s_d83, by decide +kernel, by decide +kernel, s_wAt_mem (p := 121) (by decide +kernel), by decide +kernel, by decide +kernel⟩
set_option maxRecDepth 100000 in
theorem s_okm84 : s_okM s_m84 := ⟨by decide +kernel, by decide +kernel, s_wAt_mem (p := 883) (by decide +kernel), s_d84, by decide +kernel, by decide +kernel, s_wAt_mem (p := 114) (by decide +kernel), by decide +kernel, by decide +kernel⟩
set_option maxRecDepth 100000 in
theorem s_okm85 : s_okM s_m85 := ⟨by decide +kernel, by decide +kernel, s_wAt_mem (p := 887) (by decide +kernel), s_d85, by decide +kernel, by decide +kernel, s_wAt_mem (p := 123) (by decide +kernel), by decide +kernel, by decide +kernel⟩
set_option maxRecDepth 100000 in
theorem s_okm86 : s_okM s_m86 := ⟨by decide +kernel, by decide +kernel, s_wAt_mem (p := 891) (by decide +kernel), s_d86, by decide +kernel, by decide +kernel, s_wAt_mem (p := 123) (by decide +kernel), by decide +kernel, by decide +kernel⟩
set_option maxRecDepth 100000 in
theorem s_okm87 : s_okM s_m87 := ⟨by decide +kernel, by decide +kernel, s_wAt_mem (p := 895) (by decide +kernel), s_d87, by decide +kernel, by decide +kernel, s_wAt_mem (p := 118) (by decide +kernel), by decide +kernel, by decide +kernel⟩
set_option maxRecDepth 100000 in
theorem s_okm88 : s_okM s_m88 := ⟨by decide +kernel, by decide +kernel, s_wAt_mem (p := 900) (by decide +kernel), s_d88, by decide +kernel, by decide +kernel, s_wAt_mem (p := 123) (by decide +kernel), by decide +kernel, by decide +kernel⟩
set_option maxRecDepth 100000 in
theorem s_okm89 : s_okM s_m89 := ⟨by decide +kernel, by decide +kernel, s_wAt_mem (p := 903) (by decide +kernel), s_d89, by decide +kernel, by decide +kernel, s_wAt_mem (p := 135) (by decide +kernel), by decide +kernel, by decide +kernel⟩
set_option maxRecDepth 100000 in
theorem s_okm91 : s_okM s_m91 := ⟨by decide +kernel, by decide +kernel, s_wAt_mem (p := 915) (by decide +kernel), s_d91, by decide +kernel, by decide +kernel, s_wAt_mem (p := 123) (by decide +kernel), by decide +kernel, by decide +kernel⟩
set_option maxRecDepth 100000 in
theorem s_okm92 : s_okM s_m92 := ⟨by decide +kernel, by decide +kernel, s_wAt_mem (p := 919) (by decide +kernel), s_d92, by decide +kernel, by decide +kernel, s_wAt_mem (p := 114) (by decide +kernel), by decide +kernel, by decide +kernel⟩
set_option maxRecDepth 100000 in
theorem s_okm93 : s_okM s_m93 := ⟨by decide +kernel, by decide +kernel, s_wAt_mem (p := 923) (by decide +kernel), s_d93, by decide +kernel, by decide +kernel, s_wAt_mem (p := 114) (by decide +kernel), by decide +kernel, by decide +kernel⟩
set_option maxRecDepth 100000 in
theorem s_okm94 : s_okM s_m94 := ⟨by decide +kernel, by decide +kernel, s_wAt_mem (p := 927) (by decide +kernel), s_d94, by decide +kernel, by decide +kernel, s_wAt_mem (p := 123) (by decide +kernel), by decide +kernel, by decide +kernel⟩
set_option maxRecDepth 100000 in
theorem s_okm95 : s_okM s_m95 := ⟨by decide +kernel, by decide +kernel, s_wAt_mem (p := 933) (by decide +kernel), s_d95, by decide +kernel, by decide +kernel, s_wAt_mem (p := 114) (by decide +kernel), by decide +kernel, by decide +kernel⟩
set_option maxRecDepth 100000 in
theorem s_okm96 : s_okM s_m96 := ⟨by decide +kernel, by decide +kernel, s_wAt_mem (p := 937) (by decide +kernel), s_d96, by decide +kernel, by decide +kernel, s_wAt_mem (p := 114) (by decide +kernel), by decide +kernel, by decide +kernel⟩
set_option maxRecDepth 100000 in
theorem s_okm97 : s_okM s_m97 := ⟨by decide +kernel, by decide +kernel, s_wAt_mem (p := 941) (by decide +kernel), s_d97, by decide +kernel, by decide +kernel, s_wAt_mem (p := 123) (by decide +kernel), by decide +kernel, by decide +kernel⟩
set_option maxRecDepth 100000 in
theorem s_okm98 : s_okM s_m98 := ⟨by decide +kernel, by decide +kernel, s_wAt_mem (p := 945) (by decide +kernel), s_d98, by decide +kernel, by decide +kernel, s_wAt_mem (p := 118) (by decide +kernel), by decide +kernel, by decide +kernel⟩
set_option maxRecDepth 100000 in
theorem s_okm99 : s_okM s_m99 := ⟨by decide +kernel, by decide +kernel, s_wAt_mem (p := 948) (by decide +kernel), s_d99, by decide +kernel, by decide +kernel, s_wAt_mem (p := 123) (by decide +kernel), by decide +kernel, by decide +kernel⟩
set_option maxRecDepth 100000 in
theorem s_okm100 : s_okM s_m100 := ⟨by decide +kernel, by decide +kernel, s_wAt_mem (p := 952) (by decide +kernel), s_d100, by decide +kernel, by decide +kernel, s_wAt_mem (p := 114) (by decide +kernel), by decide +kernel, by decide +kernel⟩
set_option maxRecDepth 100000 in
theorem s_okm101 : s_okM s_m101 := ⟨by decide +kernel, by decide +kernel, s_wAt_mem (p := 956) (by decide +kernel), s_d101, by decide +kernel, by decide +kernel, s_wAt_mem (p := 114) (by decide +kernel), by decide +kernel, by decide +kernel⟩
set_option maxRecDepth 100000 in
theorem s_okm102 : s_okM s_m102 := ⟨by decide +kernel, by decide +kernel, s_wAt_mem (p := 960) (by decide +kernel), s_d102, by decide +kernel, by decide +kernel, s_wAt_mem (p := 123) (by decide +kernel), by decide +kernel, by decide +kernel⟩
set_option maxRecDepth 100000 in
theorem s_okm103 : s_okM s_m103 := ⟨by decide +kernel, by decide +kernel, s_wAt_mem (p := 964) (by decide +kernel), s_d103, by decide +kernel, by decide +kernel, s_wAt_mem (p := 123) (by decide +kernel), by decide +kernel, by decide +kernel⟩
set_option maxRecDepth 100000 in
theorem s_okm104 : s_okM s_m104 := ⟨by decide +kernel, by decide +kernel, s_wAt_mem (p := 968) (by decide +kernel), s_d104, by decide +kernel, by decide +kernel, s_wAt_mem (p := 114) (by decide +kernel), by decide +kernel, by decide +kernel⟩
set_option maxRecDepth 100000 in
theorem s_okm105 : s_okM s_m105 := ⟨by decide +kernel, by decide +kernel, s_wAt_mem (p := 972) (by decide +kernel), s_d105, by decide +kernel, by decide +kernel, s_wAt_mem (p := 124) (by decide +kernel), by decide +kernel, by decide +kernel⟩
set_option maxRecDepth 100000 in
theorem s_okm106 : s_okM s_m106 := ⟨by decide +kernel, by decide +kernel, s_wAt_mem (p := 975) (by decide +kernel), s_d106, by decide +kernel, by decide +kernel, s_wAt_mem (p := 124) (by decide +kernel), by decide +kernel, by decide +kernel⟩
set_option maxRecDepth 100000 in
theorem s_okm107 : s_okM s_m107 := ⟨by decide +kernel, by decide +kernel, s_wAt_mem (p := 980) (by decide +kernel), s_d107, by decide +kernel, by decide +kernel, s_wAt_mem (p := 114) (by decide +kernel), by decide +kernel, by decide +kernel⟩
set_option maxRecDepth 100000 in
theorem s_okm108 : s_okM s_m108 := ⟨by decide +kernel, by decide +kernel, s_wAt_mem (p := 984) (by decide +kernel), s_d108, by decide +kernel, by decide +kernel, s_wAt_mem (p := 124) (by decide +kernel), by decide +kernel, by decide +kernel⟩
set_option maxRecDepth 100000 in
theorem s_okm109 : s_okM s_m109 := ⟨by decide +kernel, by decide +kernel, s_wAt_mem (p := 988) (by decide +kernel), s_d109, by decide +kernel, by decide +kernel, s_wAt_mem (p := 124) (by decide +kernel), by decide +kernel, by decide +kernel⟩
set_option maxRecDepth 100000 in
theorem s_okm110 : s_okM s_m110 := ⟨by decide +kernel, by decide +kernel, s_wAt_mem (p := 992) (by decide +kernel), s_d110, by decide +kernel, by decide +kernel, s_wAt_mem (p := 114) (by decide +kernel), by decide +kernel, by decide +kernel⟩
set_option maxRecDepth 100000 in
theorem s_okm111 : s_okM s_m111 := ⟨by decide +kernel, by decide +kernel, s_wAt_mem (p := 996) (by decide +kernel), s_d111, by decide +kernel, by decide +kernel, s_wAt_mem (p := 118) (by decide +kernel), by decide +kernel, by decide +kernel⟩
set_option maxRecDepth 100000 in
theorem s_okm112 : s_okM s_m112 := ⟨by decide +kernel, by decide +kernel, s_wAt_mem (p := 1000) (by decide +kernel), s_d112, by decide +kernel, by decide +kernel, s_wAt_mem (p := 118) (by decide +kernel), by decide +kernel, by decide +kernel⟩
set_option maxRecDepth 100000 in
theorem s_okm113 : s_okM s_m113 := ⟨by decide +kernel, by decide +kernel, s_wAt_mem (p := 1006) (by decide +kernel), s_d113, by decide +kernel, by decide +kernel, s_wAt_mem (p := 114) (by decide +kernel), by decide +kernel, by decide +kernel⟩
set_option maxRecDepth 100000 in
theorem s_okm114 : s_okM s_m114 := ⟨by decide +kernel, by decide +kernel, s_wAt_mem (p := 1010) (by decide +kernel), s_d114, by decide +kernel, by decide +kernel, s_wAt_mem (p := 114) (by decide +kernel), by decide +kernel, by decide +kernel⟩
set_option maxRecDepth 100000 in
theorem s_okm115 : s_okM s_m115 := ⟨by decide +kernel, by decide +kernel, s_wAt_mem (p := 1015) (by decide +kernel), s_d115, by decide +kernel, by decide +kernel, s_wAt_mem (p := 114) (by decide +kernel), by decide +kernel, by decide +kernel⟩
set_option maxRecDepth 100000 in
theorem s_okm116 : s_okM s_m116 := ⟨by decide +kernel, by decide +kernel, s_wAt_mem (p := 1020) (by decide +kernel), s_d116, by decide +kernel, by decide +kernel, s_wAt_mem (p := 114) (by decide +kernel), by decide +kernel, by decide +kernel⟩
set_option maxRecDepth 100000 in
theorem s_okm117 : s_okM s_m117 := ⟨by decide +kernel, by decide +kernel, s_wAt_mem (p := 1072) (by decide +kernel), s_d117, by decide +kernel, by decide +kernel, s_wAt_mem (p := 114) (by decide +kernel), by decide +kernel, by decide +kernel⟩
set_option maxRecDepth 100000 in
theorem s_okm118 : s_okM s_m118 := ⟨by decide +kernel, by decide +kernel, s_wAt_mem (p := 1079) (by decide +kernel), s_d118, by decide +kernel, by decide +kernel, s_wAt_mem (p := 114) (by decide +kernel), by decide +kernel, by decide +kernel⟩
set_option maxRecDepth 100000 in
theorem s_okm119 : s_okM s_m119 := ⟨by decide +kernel, by decide +kernel, s_wAt_mem (p := 1083) (by decide +kernel), s_d119, by decide +kernel, by decide +kernel, s_wAt_mem (p := 114) (by decide +kernel), by decide +kernel, by decide +kernel⟩
set_option maxRecDepth 100000 in
theorem s_okm120 : s_okM s_m120 := ⟨by decide +kernel, by decide +kernel, s_wAt_mem (p := 1087) (by decide +kernel), s_d120, by decide +kernel, by decide +kernel, s_wAt_mem (p := 125) (by decide +kernel), by decide +kernel, by decide +kernel⟩
set_option maxRecDepth 100000 in
theorem s_okm121 : s_okM s_m121 := ⟨by decide +kernel, by decide +kernel, s_wAt_mem (p := 1091) (by decide +kernel), s_d121, by decide +kernel, by decide +kernel, s_wAt_mem (p := 118) (by decide +kernel), by decide +kernel, by decide +kernel⟩
set_option maxRecDepth 100000 in
theorem s_okm122 : s_okM s_m122 := ⟨by decide +kernel, by decide +kernel, s_wAt_mem (p := 1095) (by decide +kernel), s_d122, by decide +kernel, by decide +kernel, s_wAt_mem (p := 125) (by decide +kernel), by decide +kernel, by decide +kernel⟩
set_option maxRecDepth 100000 in
theorem s_okm123 : s_okM s_m123 := ⟨by decide +kernel, by decide +kernel, s_wAt_mem (p := 1101) (by decide +kernel), s_d123, by decide +kernel, by decide +kernel, s_wAt_mem (p := 118) (by decide +kernel), by decide +kernel, by decide +kernel⟩
set_option maxRecDepth 100000 in
theorem s_okm124 : s_okM s_m124 := ⟨by decide +kernel, by decide +kernel, s_wAt_mem (p := 1106) (by decide +kernel), s_d124, by decide +kernel, by decide +kernel, s_wAt_mem (p := 114) (by decide +kernel), by decide +kernel, by decide +kernel⟩
set_option maxRecDepth 100000 in
theorem s_okm125 : s_okM s_m125 := ⟨by decide +kernel, by decide +kernel, s_wAt_mem (p := 1110) (by decide +kernel), s_d125, by decide +kernel, by decide +kernel, s_wAt_mem (p := 114) (by decide +kernel), by decide +kernel, by decide +kernel⟩
set_option maxRecDepth 100000 in
theorem s_okm126 : s_okM s_m126 := ⟨by decide +kernel, by decide +kernel, s_wAt_mem (p := 1114) (by decide +kernel), s_d126, by decide +kernel, by decide +kernel, s_wAt_mem (p := 120) (by decide +kernel), by decide +kernel, by decide +kernel⟩
set_option maxRecDepth 100000 in
theorem s_okm127 : s_okM s_m127 := ⟨by decide +kernel, by decide +kernel, s_wAt_mem (p := 1119) (by decide +kernel), s_d127, by decide +kernel, by decide +kernel, s_wAt_mem (p := 120) (by decide +kernel), by decide +kernel, by decide +kernel⟩
set_option maxRecDepth 100000 in
theorem s_okm128 : s_okM s_m128 := ⟨by decide +kernel, by decide +kernel, s_wAt_mem (p := 1132) (by decide +kernel), s_d128, by decide +kernel, by decide +kernel, s_wAt_mem (p := 120) (by decide +kernel), by decide +kernel, by decide +kernel⟩
set_option maxRecDepth 100000 in
theorem s_okm129 : s_okM s_m129 := ⟨by decide +kernel, by decide +kernel, s_wAt_mem (p := 1138) (by decide +kernel), s_d129, by decide +kernel, by decide +kernel, s_wAt_mem (p := 120) (by decide +kernel), by decide +kernel, by decide +kernel⟩
set_option maxRecDepth 100000 in
theorem s_okm130 : s_okM s_m130 := ⟨by decide +kernel, by decide +kernel, s_wAt_mem (p := 1150) (by decide +kernel), s_d130, by decide +kernel, by decide +kernel, s_wAt_mem (p := 120) (by decide +kernel), by decide +kernel, by decide +kernel⟩
set_option maxRecDepth 100000 in
theorem s_okm131 : s_okM s_m131 := ⟨by decide +kernel, by decide +kernel, s_wAt_mem (p := 1155) (by decide +kernel), s_d131, by decide +kernel, by decide +kernel, s_wAt_mem (p := 120) (by decide +kernel), by decide +kernel, by decide +kernel⟩
set_option maxRecDepth 100000 in
theorem s_okm132 : s_okM s_m132 := ⟨by decide +kernel, by decide +kernel, s_wAt_mem (p := 1159) (by decide +kernel), s_d132, by decide +kernel, by decide +kernel, s_wAt_mem (p := 120) (by decide +kernel), by decide +kernel, by decide +kernel⟩
set_option maxRecDepth 100000 in
theorem s_okm133 : s_okM s_m133 := ⟨by decide +kernel, by decide +kernel, s_wAt_mem (p := 1167) (by decide +kernel), s_d133, by decide +kernel, by decide +kernel, s_wAt_mem (p := 120) (by decide +kernel), by decide +kernel, by decide +kernel⟩
set_option maxRecDepth 100000 in
theorem s_okm134 : s_okM s_m134 := ⟨by decide +kernel, by decide +kernel, s_wAt_mem (p := 1174) (by decide +kernel), s_d134, by decide +kernel, by decide +kernel, s_wAt_mem (p := 114) (by decide +kernel), by decide +kernel, by decide +kernel⟩
set_option maxRecDepth 100000 in
theorem s_okm135 : s_okM s_m135 := ⟨by decide +kernel, by decide +kernel, s_wAt_mem (p := 1178) (by decide +kernel), s_d135, by decide +kernel, by decide +kernel, s_wAt_mem (p := 114) (by decide +kernel), by decide +kernel, by decide +kernel⟩
set_option maxRecDepth 100000 in
theorem s_okm136 : s_okM s_m136 := ⟨by decide +kernel, by decide +kernel, s_wAt_mem (p := 1182) (by decide +kernel), s_d136, by decide +kernel, by decide +kernel, s_wAt_mem (p := 119) (by decide +kernel), by decide +kernel, by decide +kernel⟩
set_option maxRecDepth 100000 in
theorem s_okm137 : s_okM s_m137 := ⟨by decide +kernel, by decide +kernel, s_wAt_mem (p := 1187) (by decide +kernel), s_d137, by decide +kernel, by decide +kernel, s_wAt_mem (p := 119) (by decide +kernel), by decide +kernel, by decide +kernel⟩
set_option maxRecDepth 100000 in
theorem s_okm138 : s_okM s_m138 := ⟨by decide +kernel, by decide +kernel, s_wAt_mem (p := 1191) (by decide +kernel), s_d138, by decide +kernel, by decide +kernel, s_wAt_mem (p := 119) (by decide +kernel), by decide +kernel, by decide +kernel⟩
set_option maxRecDepth 100000 in
theorem s_okm139 : s_okM s_m139 := ⟨by decide +kernel, by decide +kernel, s_wAt_mem (p := 1195) (by decide +kernel), s_d139, by decide +kernel, by decide +kernel, s_wAt_mem (p := 119) (by decide +kernel), by decide +kernel, by decide +kernel⟩
set_option maxRecDepth 100000 in
theorem s_okm140 : s_okM s_m140 := ⟨by decide +kernel, by decide +kernel, s_wAt_mem (p := 1198) (by decide +kernel), s_d140, by decide +kernel, by decide +kernel, s_wAt_mem (p := 119) (by decide +kernel), by decide +kernel, by decide +kernel⟩
set_option maxRecDepth 100000 in
theorem s_okm141 : s_okM s_m141 := ⟨by decide +kernel, by decide +kernel, s_wAt_mem (p := 1204) (by decide +kernel), s_d141, by decide +kernel, by decide +kernel, s_wAt_mem (p := 119) (by decide +kernel), by decide +kernel, by decide +kernel⟩
set_option maxRecDepth 100000 in
theorem s_okm142 : s_okM s_m142 := ⟨by decide +kernel, by decide +kernel, s_wAt_mem (p := 1229) (by decide +kernel), s_d142, by decide +kernel, by decide +kernel, s_wAt_mem (p := 119) (by decide +kernel), by decide +kernel, by decide +kernel⟩
set_option maxRecDepth 100000 in
theorem s_okm143 : s_okM s_m143 := ⟨by decide +kernel, by decide +kernel, s_wAt_mem (p := 1235) (by decide +kernel), s_d143, by decide +kernel, by decide +kernel, s_wAt_mem (p := 119) (by decide +kernel), by decide +kernel, by decide +kernel⟩
set_option maxRecDepth 100000 in
theorem s_okm144 : s_okM s_m144 := ⟨by decide +kernel, by decide +kernel, s_wAt_mem (p := 1245) (by decide +kernel), s_d144, by decide +kernel, by decide +kernel, s_wAt_mem (p := 119) (by decide +kernel), by decide +kernel, by decide +kernel⟩
set_option maxRecDepth 100000 in
theorem s_okm145 : s_okM s_m145 := ⟨by decide +kernel, by decide +kernel, s_wAt_mem (p := 1250) (by decide +kernel), s_d145, by decide +kernel, by decide +kernel, s_wAt_mem (p := 114) (by decide +kernel), by decide +kernel, by decide +kernel⟩
set_option maxRecDepth 100000 in
theorem s_okm146 : s_okM s_m146 := ⟨by decide +kernel, by decide +kernel, s_wAt_mem (p := 1254) (by decide +kernel), s_d146, by decide +kernel, by decide +kernel, s_wAt_mem (p := 119) (by decide +kernel), by decide +kernel, by decide +kernel⟩
set_option maxRecDepth 100000 in
theorem s_okm147 : s_okM s_m147 := ⟨by decide +kernel, by decide +kernel, s_wAt_mem (p := 1258) (by decide +kernel), s_d147, by decide +kernel, by decide +kernel, s_wAt_mem (p := 119) (by decide +kernel), by decide +kernel, by decide +kernel⟩
set_option maxRecDepth 100000 in
theorem s_okm148 : s_okM s_m148 := ⟨by decide +kernel, by decide +kernel, s_wAt_mem (p := 1262) (by decide +kernel), s_d148, by decide +kernel, by decide +kernel, s_wAt_mem (p := 119) (by decide +kernel), by decide +kernel, by decide +kernel⟩
set_option maxRecDepth 100000 in
theorem s_okm149 : s_okM s_m149 := ⟨by decide +kernel, by decide +kernel, s_wAt_mem (p := 1269) (by decide +kernel), s_d149, by decide +kernel, by decide +kernel, s_wAt_mem (p := 119) (by decide +kernel), by decide +kernel, by decide +kernel⟩
set_option maxRecDepth 100000 in
theorem s_okm150 : s_okM s_m150 := ⟨by decide +kernel, by decide +kernel, s_wAt_mem (p := 1274) (by decide +kernel), s_d150, by decide +kernel, by decide +kernel, s_wAt_mem (p := 114) (by decide +kernel), by decide +kernel, by decide +kernel⟩
set_option maxRecDepth 100000 in
theorem s_okm151 : s_okM s_m151 := ⟨by decide +kernel, by decide +kernel, s_wAt_mem (p := 1278) (by decide +kernel), s_d151, by decide +kernel, by decide +kernel, s_wAt_mem (p := 122) (by decide +kernel), by decide +kernel, by decide +kernel⟩
set_option maxRecDepth 100000 in
theorem s_okm152 : s_okM s_m152 := ⟨by decide +kernel, by decide +kernel, s_wAt_mem (p := 1285) (by decide +kernel), s_d152, by decide +kernel, by decide +kernel, s_wAt_mem (p := 114) (by decide +kernel), by decide +kernel, by decide +kernel⟩
set_option maxRecDepth 100000 in
theorem s_okm153 : s_okM s_m153 := ⟨by decide +kernel, by decide +kernel, s_wAt_mem (p := 1289) (by decide +kernel), s_d153, by decide +kernel, by decide +kernel, s_wAt_mem (p := 122) (by decide +kernel), by decide +kernel, by decide +kernel⟩
set_option maxRecDepth 100000 in
theorem s_okm154 : s_okM s_m154 := ⟨by decide +kernel, by decide +kernel, s_wAt_mem (p := 1293) (by decide +kernel), s_d154, by decide +kernel, by decide +kernel, s_wAt_mem (p := 114) (by decide +kernel), by decide +kernel, by decide +kernel⟩
set_option maxRecDepth 100000 in
theorem s_okm155 : s_okM s_m155 := ⟨by decide +kernel, by decide +kernel, s_wAt_mem (p := 1301) (by decide +kernel), s_d155, by decide +kernel, by decide +kernel, s_wAt_mem (p := 114) (by decide +kernel), by decide +kernel, by decide +kernel⟩
set_option maxRecDepth 100000 in
theorem s_okm156 : s_okM s_m156 := ⟨by decide +kernel, by decide +kernel, s_wAt_mem (p := 1373) (by decide +kernel), s_d156, by decide +kernel, by decide +kernel, s_wAt_mem (p := 126) (by decide +kernel), by decide +kernel, by decide +kernel⟩
set_option maxRecDepth 100000 in
theorem s_okm157 : s_okM s_m157 := ⟨by decide +kernel, by decide +kernel, s_wAt_mem (p := 1377) (by decide +kernel), s_d157, by decide +kernel, by decide +kernel, s_wAt_mem (p := 126) (by decide +kernel), by decide +kernel, by decide +kernel⟩
set_option maxRecDepth 100000 in
theorem s_okm158 : s_okM s_m158 := ⟨by decide +kernel, by decide +kernel, s_wAt_mem (p := 1382) (by decide +kernel), s_d158, by decide +kernel, by decide +kernel, s_wAt_mem (p := 126) (by decide +kernel), by decide +kernel, by decide +kernel⟩
set_option maxRecDepth 100000 in
theorem s_okm159 : s_okM s_m159 := ⟨by decide +kernel, by decide +kernel, s_wAt_mem (p := 1386) (by decide +kernel), s_d159, by decide +kernel, by decide +kernel, s_wAt_mem (p := 126) (by decide +kernel), by decide +kernel, by decide +kernel⟩
set_option maxRecDepth 100000 in
theorem s_okm160 : s_okM s_m160 := ⟨by decide +kernel, by decide +kernel, s_wAt_mem (p := 1390) (by decide +kernel), s_d160, by decide +kernel, by decide +kernel, s_wAt_mem (p := 126) (by decide +kernel), by decide +kernel, by decide +kernel⟩
set_option maxRecDepth 100000 in
theorem s_okm161 : s_okM s_m161 := ⟨by decide +kernel, by decide +kernel, s_wAt_mem (p := 1395) (by decide +kernel), s_d161, by decide +kernel, by decide +kernel, s_wAt_mem (p := 126) (by decide +kernel), by decide +kernel, by decide +kernel⟩
set_option maxRecDepth 100000 in
theorem s_okm162 : s_okM s_m162 := ⟨by decide +kernel, by decide +kernel, s_wAt_mem (p := 1399) (by decide +kernel), s_d162, by decide +kernel, by decide +kernel, s_wAt_mem (p := 126) (by decide +kernel), by decide +kernel, by decide +kernel⟩
set_option maxRecDepth 100000 in
theorem s_okm163 : s_okM s_m163 := ⟨by decide +kernel, by decide +kernel, s_wAt_mem (p := 1549) (by decide +kernel), s_d163, by decide +kernel, by decide +kernel, s_wAt_mem (p := 126) (by decide +kernel), by decide +kernel, by decide +kernel⟩
set_option maxRecDepth 100000 in
theorem s_okm164 : s_okM s_m164 := ⟨by decide +kernel, by decide +kernel, s_wAt_mem (p := 1553) (by decide +kernel), s_d164, by decide +kernel, by decide +kernel, s_wAt_mem (p := 126) (by decide +kernel), by decide +kernel, by decide +kernel⟩
set_option maxRecDepth 100000 in
theorem s_okm165 : s_okM s_m165 := ⟨by decide +kernel, by decide +kernel, s_wAt_mem (p := 1557) (by decide +kernel), s_d165, by decide +kernel, by decide +kernel, s_wAt_mem (p := 126) (by decide +kernel), by decide +kernel, by decide +kernel⟩
set_option maxRecDepth 100000 in
theorem s_okm166 : s_okM s_m166 := ⟨by decide +kernel, by decide +kernel, s_wAt_mem (p := 1561) (by decide +kernel), s_d166, by decide +kernel, by decide +kernel, s_wAt_mem (p := 126) (by decide +kernel), by decide +kernel, by decide +kernel⟩
set_option maxRecDepth 100000 in
theorem s_okm167 : s_okM s_m167 := ⟨by decide +kernel, by decide +kernel, s_wAt_mem (p := 1564) (by decide +kernel), s_d167, by decide +kernel, by decide +kernel, s_wAt_mem (p := 126) (by decide +kernel), by decide +kernel, by decide +kernel⟩
set_option maxRecDepth 100000 in
theorem s_okm168 : s_okM s_m168 := ⟨by decide +kernel, by decide +kernel, s_wAt_mem (p := 1567) (by decide +kernel), s_d168, by decide +kernel, by decide +kernel, s_wAt_mem (p := 126) (by decide +kernel), by decide +kernel, by decide +kernel⟩
set_option maxRecDepth 100000 in
theorem s_okm169 : s_okM s_m169 := ⟨by decide +kernel, by decide +kernel, s_wAt_mem (p := 1571) (by decide +kernel), s_d169, by decide +kernel, by decide +kernel, s_wAt_mem (p := 126) (by decide +kernel), by decide +kernel, by decide +kernel⟩
set_option maxRecDepth 100000 in
theorem s_okm170 : s_okM s_m170 := ⟨by decide +kernel, by decide +kernel, s_wAt_mem (p := 1577) (by decide +kernel), s_d170, by decide +kernel, by decide +kernel, s_wAt_mem (p := 126) (by decide +kernel), by decide +kernel, by decide +kernel⟩
set_option maxRecDepth 100000 in
theorem s_okm171 : s_okM s_m171 := ⟨by decide +kernel, by decide +kernel, s_wAt_mem (p := 1581) (by decide +kernel), s_d171, by decide +kernel, by decide +kernel, s_wAt_mem (p := 126) (by decide +kernel), by decide +kernel, by decide +kernel⟩
set_option maxRecDepth 100000 in
theorem s_okm172 : s_okM s_m172 := ⟨by decide +kernel, by decide +kernel, s_wAt_mem (p := 1584) (by decide +kernel), s_d172, by decide +kernel, by decide +kernel, s_wAt_mem (p := 126) (by decide +kernel), by decide +kernel, by decide +kernel⟩
set_option maxRecDepth 100000 in
theorem s_okm173 : s_okM s_m173 := ⟨by decide +kernel, by decide +kernel, s_wAt_mem (p := 1587) (by decide +kernel), s_d173, by decide +kernel, by decide +kernel, s_wAt_mem (p := 126) (by decide +kernel), by decide +kernel, by decide +kernel⟩
set_option maxRecDepth 100000 in
theorem s_okm174 : s_okM s_m174 := ⟨by decide +kernel, by decide +kernel, s_wAt_mem (p := 1591) (by decide +kernel), s_d174, by decide +kernel, by decide +kernel, s_wAt_mem (p := 126) (by decide +kernel), by decide +kernel, by decide +kernel⟩
set_option maxRecDepth 100000 in
theorem s_okm175 : s_okM s_m175 := ⟨by decide +kernel, by decide +kernel, s_wAt_mem (p := 1595) (by decide +kernel), s_d175, by decide +kernel, by decide +kernel, s_wAt_mem (p := 126) (by decide +kernel), by decide +kernel, by decide +kernel⟩
set_option maxRecDepth 100000 in
theorem s_okm176 : s_okM s_m176 := ⟨by decide +kernel, by decide +kernel, s_wAt_mem (p := 1599) (by decide +kernel), s_d176, by decide +kernel, by decide +kernel, s_wAt_mem (p := 126) (by decide +kernel), by decide +kernel, by decide +kernel⟩
set_option maxRecDepth 100000 in
theorem s_okm177 : s_okM s_m177 := ⟨by decide +kernel, by decide +kernel, s_wAt_mem (p := 1603) (by decide +kernel), s_d177, by decide +kernel, by decide +kernel, s_wAt_mem (p := 126) (by decide +kernel), by decide +kernel, by decide +kernel⟩
set_option maxRecDepth 100000 in
theorem s_okm178 : s_okM s_m178 := ⟨by decide +kernel, by decide +kernel, s_wAt_mem (p := 1607) (by decide +kernel), s_d178, by decide +kernel, by decide +kernel, s_wAt_mem (p := 126) (by decide +kernel), by decide +kernel, by decide +kernel⟩
set_option maxRecDepth 100000 in
theorem s_okm179 : s_okM s_m179 := ⟨by decide +kernel, by decide +kernel, s_wAt_mem (p := 1610) (by decide +kernel), s_d179, by decide +kernel, by decide +kernel, s_wAt_mem (p := 126) (by decide +kernel), by decide +kernel, by decide +kernel⟩
set_option maxRecDepth 100000 in
theorem s_okm180 : s_okM s_m180 := ⟨by decide +kernel, by decide +kernel, s_wAt_mem (p := 1614) (by decide +kernel), s_d180, by decide +kernel, by decide +kernel, s_wAt_mem (p := 126) (by decide +kernel), by decide +kernel, by decide +kernel⟩
set_option maxRecDepth 100000 in
theorem s_okm181 : s_okM s_m181 := ⟨by decide +kernel, by decide +kernel, s_wAt_mem (p := 1617) (by decide +kernel), s_d181, by decide +kernel, by decide +kernel, s_wAt_mem (p := 126) (by decide +kernel), by decide +kernel, by decide +kernel⟩
set_option maxRecDepth 100000 in
theorem s_okm182 : s_okM s_m182 := ⟨by decide +kernel, by decide +kernel, s_wAt_mem (p := 1621) (by decide +kernel), s_d182, by decide +kernel, by decide +kernel, s_wAt_mem (p := 126) (by decide +kernel), by decide +kernel, by decide +kernel⟩
set_option maxRecDepth 100000 in
theorem s_okm183 : s_okM s_m183 := ⟨by decide +kernel, by decide +kernel, s_wAt_mem (p := 1625) (by decide +kernel), s_d183, by decide +kernel, by decide +kernel, s_wAt_mem (p := 126) (by decide +kernel), by decide +kernel, by decide +kernel⟩
set_option maxRecDepth 100000 in
theorem s_okm184 : s_okM s_m184 := ⟨by decide +kernel, by decide +kernel, s_wAt_mem (p := 1629) (by decide +kernel), s_d184, by decide +kernel, by decide +kernel, s_wAt_mem (p := 126) (by decide +kernel), by decide +kernel, by decide +kernel⟩
set_option maxRecDepth 100000 in
theorem s_okm185 : s_okM s_m185 := ⟨by decide +kernel, by decide +kernel, s_wAt_mem (p := 1633) (by decide +kernel), s_d185, by decide +kernel, by decide +kernel, s_wAt_mem (p := 126) (by decide +kernel), by decide +kernel, by decide +kernel⟩
set_option maxRecDepth 100000 in
theorem s_okm186 : s_okM s_m186 := ⟨by decide +kernel, by decide +kernel, s_wAt_mem (p := 1637) (by decide +kernel), s_d186, by decide +kernel, by decide +kernel, s_wAt_mem (p := 126) (by decide +kernel), by decide +kernel, by decide +kernel⟩
set_option maxRecDepth 100000 in
theorem s_okm187 : s_okM s_m187 := ⟨by decide +kernel, by decide +kernel, s_wAt_mem (p := 1641) (by decide +kernel), s_d187, by decide +kernel, by decide +kernel, s_wAt_mem (p := 126) (by decide +kernel), by decide +kernel, by decide +kernel⟩
set_option maxRecDepth 100000 in
theorem s_okm188 : s_okM s_m188 := ⟨by decide +kernel, by decide +kernel, s_wAt_mem (p := 1645) (by decide +kernel), s_d188, by decide +kernel, by decide +kernel, s_wAt_mem (p := 126) (by decide +kernel), by decide +kernel, by decide +kernel⟩
set_option maxRecDepth 100000 in
theorem s_okm189 : s_okM s_m189 := ⟨by decide +kernel, by decide +kernel, s_wAt_mem (p := 1649) (by decide +kernel), s_d189, by decide +kernel, by decide +kernel, s_wAt_mem (p := 126) (by decide +kernel), by decide +kernel, by decide +kernel⟩
set_option maxRecDepth 100000 in
theorem s_okm190 : s_okM s_m190 := ⟨by decide +kernel, by decide +kernel, s_wAt_mem (p := 1653) (by decide +kernel), s_d190, by decide +kernel, by decide +kernel, s_wAt_mem (p := 126) (by decide +kernel), by decide +kernel, by decide +kernel⟩
set_option maxRecDepth 100000 in
theorem s_okm191 : s_okM s_m191 := ⟨by decide +kernel, by decide +kernel, s_wAt_mem (p := 1657) (by decide +kernel), s_d191, by decide +kernel, by decide +kernel, s_wAt_mem (p := 126) (by decide +kernel), by decide +kernel, by decide +kernel⟩
set_option maxRecDepth 100000 in
theorem s_okm192 : s_okM s_m192 := ⟨by decide +kernel, by decide +kernel, s_wAt_mem (p := 1661) (by decide +kernel), s_d192, by decide +kernel, by decide +kernel, s_wAt_mem (p := 126) (by decide +kernel), by decide +kernel, by decide +kernel⟩
set_option maxRecDepth 100000 in
theorem s_okm193 : s_okM s_m193 := ⟨by decide +kernel, by decide +kernel, s_wAt_mem (p := 1665) (by decide +kernel), s_d193, by decide +kernel, by decide +kernel, s_wAt_mem (p := 126) (by decide +kernel), by decide +kernel, by decide +kernel⟩
set_option maxRecDepth 100000 in
theorem s_okm194 : s_okM s_m194 := ⟨by decide +kernel, by decide +kernel, s_wAt_mem (p := 1669) (by decide +kernel), s_d194, by decide +kernel, by decide +kernel, s_wAt_mem (p := 126) (by decide +kernel), by decide +kernel, by decide +kernel⟩
set_option maxRecDepth 100000 in
theorem s_okm195 : s_okM s_m195 := ⟨by decide +kernel, by decide +kernel, s_wAt_mem (p := 1673) (by decide +kernel), s_d195, by decide +kernel, by decide +kernel, s_wAt_mem (p := 126) (by decide +kernel), by decide +kernel, by decide +kernel⟩
set_option maxRecDepth 100000 in
theorem s_okm196 : s_okM s_m196 := ⟨by decide +kernel, by decide +kernel, s_wAt_mem (p := 1677) (by decide +kernel), s_d196, by decide +kernel, by decide +kernel, s_wAt_mem (p := 126) (by decide +kernel), by decide +kernel, by decide +kernel⟩
set_option maxRecDepth 100000 in
theorem s_okm197 : s_okM s_m197 := ⟨by decide +kernel, by decide +kernel, s_wAt_mem (p := 1681) (by decide +kernel), s_d197, by decide +kernel, by decide +kernel, s_wAt_mem (p := 126) (by decide +kernel), by decide +kernel, by decide +kernel⟩
set_option maxRecDepth 100000 in
theorem s_okm198 : s_okM s_m198 := ⟨by decide +kernel, by decide +kernel, s_wAt_mem (p := 1684) (by decide +kernel), s_d198, by decide +kernel, by decide +kernel, s_wAt_mem (p := 126) (by decide +kernel), by decide +kernel, by decide +kernel⟩
set_option maxRecDepth 100000 in
theorem s_okm199 : s_okM s_m199 := ⟨by decide +kernel, by decide +kernel, s_wAt_mem (p := 1688) (by decide +kernel), s_d199, by decide +kernel, by decide +kernel, s_wAt_mem (p := 126) (by decide +kernel), by decide +kernel, by decide +kernel⟩
set_option maxRecDepth 100000 in
theorem s_okm200 : s_okM s_m200 := ⟨by decide +kernel, by decide +kernel, s_wAt_mem (p := 1692) (by decide +kernel), s_d200, by decide +kernel, by decide +kernel, s_wAt_mem (p := 126) (by decide +kernel), by decide +kernel, by decide +kernel⟩
set_option maxRecDepth 100000 in
theorem s_okm201 : s_okM s_m201 := ⟨by decide +kernel, by decide +kernel, s_wAt_mem (p := 1696) (by decide +kernel), s_d201, by decide +kernel, by decide +kernel, s_wAt_mem (p := 126) (by decide +kernel), by decide +kernel, by decide +kernel⟩
set_option maxRecDepth 100000 in
theorem s_okm202 : s_okM s_m202 := ⟨by decide +kernel, by decide +kernel, s_wAt_mem (p := 1700) (by decide +kernel), s_d202, by decide +kernel, by decide +kernel, s_wAt_mem (p := 126) (by decide +kernel), by decide +kernel, by decide +kernel⟩
set_option maxRecDepth 100000 in
theorem s_okm203 : s_okM s_m203 := ⟨by decide +kernel, by decide +kernel, s_wAt_mem (p := 1704) (by decide +kernel), s_d203, by decide +kernel, by decide +kernel, s_wAt_mem (p := 126) (by decide +kernel), by decide +kernel, by decide +kernel⟩
set_option maxRecDepth 100000 in
theorem s_okm204 : s_okM s_m204 := ⟨by decide +kernel, by decide +kernel, s_wAt_mem (p := 1708) (by decide +kernel), s_d204, by decide +kernel, by decide +kernel, s_wAt_mem (p := 126) (by decide +kernel), by decide +kernel, by decide +kernel⟩
set_option maxRecDepth 100000 in
theorem s_okm205 : s_okM s_m205 := ⟨by decide +kernel, by decide +kernel, s_wAt_mem (p := 1712) (by decide +kernel), s_d205, by decide +kernel, by decide +kernel, s_wAt_mem (p := 126) (by decide +kernel), by decide +kernel, by decide +kernel⟩
set_option maxRecDepth 100000 in
theorem s_okm206 : s_okM s_m206 := ⟨by decide +kernel, by decide +kernel, s_wAt_mem (p := 1716) (by decide +kernel), s_d206, by decide +kernel, by decide +kernel, s_wAt_mem (p := 126) (by decide +kernel), by decide +kernel, by decide +kernel⟩
set_option maxRecDepth 100000 in
theorem s_okm207 : s_okM s_m207 := ⟨by decide +kernel, by decide +kernel, s_wAt_mem (p := 1720) (by decide +kernel), s_d207, by decide +kernel, by decide +kernel, s_wAt_mem (p := 126) (by decide +kernel), by decide +kernel, by decide +kernel⟩
set_option maxRecDepth 100000 in
theorem s_okm208 : s_okM s_m208 := ⟨by decide +kernel, by decide +kernel, s_wAt_mem (p := 1724) (by decide +kernel), s_d208, by decide +kernel, by decide +kernel, s_wAt_mem (p := 126) (by decide +kernel), by decide +kernel, by decide +kernel⟩
set_option maxRecDepth 100000 in
theorem s_okm209 : s_okM s_m209 := ⟨by decide +kernel, by decide +kernel, s_wAt_mem (p := 1728) (by decide +kernel), s_d209, by decide +kernel, by decide +kernel, s_wAt_mem (p := 126) (by decide +kernel), by decide +kernel, by decide +kernel⟩
set_option maxRecDepth 100000 in
theorem s_okm210 : s_okM s_m210 := ⟨by decide +kernel, by decide +kernel, s_wAt_mem (p := 1732) (by decide +kernel), s_d210, by decide +kernel, by decide +kernel, s_wAt_mem (p := 126) (by decide +kernel), by decide +kernel, by decide +kernel⟩
set_option maxRecDepth 100000 in
theorem s_okm211 : s_okM s_m211 := ⟨by decide +kernel, by decide +kernel, s_wAt_mem (p := 1736) (by decide +kernel), s_d211, by decide +kernel, by decide +kernel, s_wAt_mem (p := 126) (by decide +kernel), by decide +kernel, by decide +kernel⟩
set_option maxRecDepth 100000 in
theorem s_okm212 : s_okM s_m212 := ⟨by decide +kernel, by decide +kernel, s_wAt_mem (p := 1740) (by decide +kernel), s_d212, by decide +kernel, by decide +kernel, s_wAt_mem (p := 126) (by decide +kernel), by decide +kernel, by decide +kernel⟩
set_option maxRecDepth 100000 in
theorem s_okm213 : s_okM s_m213 := ⟨by decide +kernel, by decide +kernel, s_wAt_mem (p := 1744) (by decide +kernel), s_d213, by decide +kernel, by decide +kernel, s_wAt_mem (p := 126) (by decide +kernel), by decide +kernel, by decide +kernel⟩
set_option maxRecDepth 100000 in
theorem s_okm214 : s_okM s_m214 := ⟨by decide +kernel, by decide +kernel, s_wAt_mem (p := 1748) (by decide +kernel), s_d214, by decide +kernel, by decide +kernel, s_wAt_mem (p := 126) (by decide +kernel), by decide +kernel, by decide +kernel⟩
set_option maxRecDepth 100000 in
theorem s_okm215 : s_okM s_m215 := ⟨by decide +kernel, by decide +kernel, s_wAt_mem (p := 1752) (by decide +kernel), s_d215, by decide +kernel, by decide +kernel, s_wAt_mem (p := 126) (by decide +kernel), by decide +kernel, by decide +kernel⟩
set_option maxRecDepth 100000 in
theorem s_okm216 : s_okM s_m216 := ⟨by decide +kernel, by decide +kernel, s_wAt_mem (p := 1756) (by decide +kernel), s_d216, by decide +kernel, by decide +kernel, s_wAt_mem (p := 126) (by decide +kernel), by decide +kernel, by decide +kernel⟩
set_option maxRecDepth 100000 in
theorem s_okm217 : s_okM s_m217 := ⟨by decide +kernel, by decide +kernel, s_wAt_mem (p := 1759) (by decide +kernel), s_d217, by decide +kernel, by decide +kernel, s_wAt_mem (p := 126) (by decide +kernel), by decide +kernel, by decide +kernel⟩
set_option maxRecDepth 100000 in
theorem s_okm218 : s_okM s_m218 := ⟨by decide +kernel, by decide +kernel, s_wAt_mem (p := 1763) (by decide +kernel), s_d218, by decide +kernel, by decide +kernel, s_wAt_mem (p := 126) (by decide +kernel), by decide +kernel, by decide +kernel⟩
set_option maxRecDepth 100000 in
theorem s_okm219 : s_okM s_m219 := ⟨by decide +kernel, by decide +kernel, s_wAt_mem (p := 1767) (by decide +kernel), s_d219, by decide +kernel, by decide +kernel, s_wAt_mem (p := 126) (by decide +kernel), by decide +kernel, by decide +kernel⟩
set_option maxRecDepth 100000 in
theorem s_okm220 : s_okM s_m220 := ⟨by decide +kernel, by decide +kernel, s_wAt_mem (p := 1771) (by decide +kernel), s_d220, by decide +kernel, by decide +kernel, s_wAt_mem (p := 126) (by decide +kernel), by decide +kernel, by decide +kernel⟩
set_option maxRecDepth 100000 in
theorem s_okm221 : s_okM s_m221 := ⟨by decide +kernel, by decide +kernel, s_wAt_mem (p := 1775) (by decide +kernel), s_d221, by decide +kernel, by decide +kernel, s_wAt_mem (p := 126) (by decide +kernel), by decide +kernel, by decide +kernel⟩
set_option maxRecDepth 100000 in
theorem s_okm222 : s_okM s_m222 := ⟨by decide +kernel, by decide +kernel, s_wAt_mem (p := 1779) (by decide +kernel), s_d222, by decide +kernel, by decide +kernel, s_wAt_mem (p := 126) (by decide +kernel), by decide +kernel, by decide +kernel⟩
set_option maxRecDepth 100000 in
theorem s_okm223 : s_okM s_m223 := ⟨by decide +kernel, by decide +kernel, s_wAt_mem (p := 1783) (by decide +kernel), s_d223, by decide +kernel, by decide +kernel, s_wAt_mem (p := 126) (by decide +kernel), by decide +kernel, by decide +kernel⟩
set_option maxRecDepth 100000 in
theorem s_okm224 : s_okM s_m224 := ⟨by decide +kernel, by decide +kernel, s_wAt_mem (p := 1787) (by decide +kernel), s_d224, by decide +kernel, by decide +kernel, s_wAt_mem (p := 126) (by decide +kernel), by decide +kernel, by decide +kernel⟩
set_option maxRecDepth 100000 in
theorem s_okm225 : s_okM s_m225 := ⟨by decide +kernel, by decide +kernel, s_wAt_mem (p := 1791) (by decide +kernel), s_d225, by decide +kernel, by decide +kernel, s_wAt_mem (p := 126) (by decide +kernel), by decide +kernel, by decide +kernel⟩
set_option maxRecDepth 100000 in
theorem s_okm226 : s_okM s_m226 := ⟨by decide +kernel, by decide +kernel, s_wAt_mem (p := 1795) (by decide +kernel), s_d226, by decide +kernel, by decide +kernel, s_wAt_mem (p := 126) (by decide +kernel), by decide +kernel, by decide +kernel⟩
set_option maxRecDepth 100000 in
theorem s_okm227 : s_okM s_m227 := ⟨by decide +kernel, by decide +kernel, s_wAt_mem (p := 1799) (by decide +kernel), s_d227, by decide +kernel, by decide +kernel, s_wAt_mem (p := 126) (by decide +kernel), by decide +kernel, by decide +kernel⟩
set_option maxRecDepth 100000 in
theorem s_okm228 : s_okM s_m228 := ⟨by decide +kernel, by decide +kernel, s_wAt_mem (p := 1803) (by decide +kernel), s_d228, by decide +kernel, by decide +kernel, s_wAt_mem (p := 126) (by decide +kernel), by decide +kernel, by decide +kernel⟩
set_option maxRecDepth 100000 in
theorem s_okm229 : s_okM s_m229 := ⟨by decide +kernel, by decide +kernel, s_wAt_mem (p := 1807) (by decide +kernel), s_d229, by decide +kernel, by decide +kernel, s_wAt_mem (p := 126) (by decide +kernel), by decide +kernel, by decide +kernel⟩
set_option maxRecDepth 100000 in
theorem s_okm230 : s_okM s_m230 := ⟨by decide +kernel, by decide +kernel, s_wAt_mem (p := 1811) (by decide +kernel), s_d230, by decide +kernel, by decide +kernel, s_wAt_mem (p := 126) (by decide +kernel), by decide +kernel, by decide +kernel⟩
set_option maxRecDepth 100000 in
theorem s_okm231 : s_okM s_m231 := ⟨by decide +kernel, by decide +kernel, s_wAt_mem (p := 1815) (by decide +kernel), s_d231, by decide +kernel, by decide +kernel, s_wAt_mem (p := 126) (by decide +kernel), by decide +kernel, by decide +kernel⟩
set_option maxRecDepth 100000 in
theorem s_okm232 : s_okM s_m232 := ⟨by decide +kernel, by decide +kernel, s_wAt_mem (p := 1819) (by decide +kernel), s_d232, by decide +kernel, by decide +kernel, s_wAt_mem (p := 126) (by decide +kernel), by decide +kernel, by decide +kernel⟩
set_option maxRecDepth 100000 in
theorem s_okm233 : s_okM s_m233 := ⟨by decide +kernel, by decide +kernel, s_wAt_mem (p := 1822) (by decide +kernel), s_d233, by decide +kernel, by decide +kernel, s_wAt_mem (p := 126) (by decide +kernel), by decide +kernel, by decide +kernel⟩
set_option maxRecDepth 100000 in
theorem s_okm234 : s_okM s_m234 := ⟨by decide +kernel, by decide +kernel, s_wAt_mem (p := 1826) (by decide +kernel), s_d234, by decide +kernel, by decide +kernel, s_wAt_mem (p := 126) (by decide +kernel), by decide +kernel, by decide +kernel⟩
set_option maxRecDepth 100000 in
theorem s_okm235 : s_okM s_m235 := ⟨by decide +kernel, by decide +kernel, s_wAt_mem (p := 1830) (by decide +kernel), s_d235, by decide +kernel, by decide +kernel, s_wAt_mem (p := 126) (by decide +kernel), by decide +kernel, by decide +kernel⟩
set_option maxRecDepth 100000 in
theorem s_okm236 : s_okM s_m236 := ⟨by decide +kernel, by decide +kernel, s_wAt_mem (p := 1834) (by decide +kernel), s_d236, by decide +kernel, by decide +kernel, s_wAt_mem (p := 126) (by decide +kernel), by decide +kernel, by decide +kernel⟩
set_option maxRecDepth 100000 in
theorem s_okm237 : s_okM s_m237 := ⟨by decide +kernel, by decide +kernel, s_wAt_mem (p := 1838) (by decide +kernel), s_d237, by decide +kernel, by decide +kernel, s_wAt_mem (p := 126) (by decide +kernel), by decide +kernel, by decide +kernel⟩
set_option maxRecDepth 100000 in
theorem s_okm238 : s_okM s_m238 := ⟨by decide +kernel, by decide +kernel, s_wAt_mem (p := 1842) (by decide +kernel), s_d238, by decide +kernel, by decide +kernel, s_wAt_mem (p := 126) (by decide +kernel), by decide +kernel, by decide +kernel⟩
set_option maxRecDepth 100000 in
theorem s_okm239 : s_okM s_m239 := ⟨by decide +kernel, by decide +kernel, s_wAt_mem (p := 1846) (by decide +kernel), s_d239, by decide +kernel, by decide +kernel, s_wAt_mem (p := 126) (by decide +kernel), by decide +kernel, by decide +kernel⟩
set_option maxRecDepth 100000 in
theorem s_okm240 : s_okM s_m240 := ⟨by decide +kernel, by decide +kernel, s_wAt_mem (p := 1850) (by decide +kernel), s_d240, by decide +kernel, by decide +kernel, s_wAt_mem (p := 126) (by decide +kernel), by decide +kernel, by decide +kernel⟩
set_option maxRecDepth 100000 in
theorem s_okm241 : s_okM s_m241 := ⟨by decide +kernel, by decide +kernel, s_wAt_mem (p := 1854) (by decide +kernel), s_d241, by decide +kernel, by decide +kernel, s_wAt_mem (p := 126) (by decide +kernel), by decide +kernel, by decide +kernel⟩
set_option maxRecDepth 100000 in
theorem s_okm242 : s_okM s_m242 := ⟨by decide +kernel, by decide +kernel, s_wAt_mem (p := 1857) (by decide +kernel), s_d242, by decide +kernel, by decide +kernel, s_wAt_mem (p := 126) (by decide +kernel), by decide +kernel, by decide +kernel⟩
set_option maxRecDepth 100000 in
theorem s_okm243 : s_okM s_m243 := ⟨by decide +kernel, by decide +kernel, s_wAt_mem (p := 1861) (by decide +kernel), s_d243, by decide +kernel, by decide +kernel, s_wAt_mem (p := 126) (by decide +kernel), by decide +kernel, by decide +kernel⟩
set_option maxRecDepth 100000 in
theorem s_okm244 : s_okM s_m244 := ⟨by decide +kernel, by decide +kernel, s_wAt_mem (p := 1865) (by decide +kernel), s_d244, by decide +kernel, by decide +kernel, s_wAt_mem (p := 126) (by decide +kernel), by decide +kernel, by decide +kernel⟩
set_option maxRecDepth 100000 in
theorem s_okm245 : s_okM s_m245 := ⟨by decide +kernel, by decide +kernel, s_wAt_mem (p := 1869) (by decide +kernel), s_d245, by decide +kernel, by decide +kernel, s_wAt_mem (p := 126) (by decide +kernel), by decide +kernel, by decide +kernel⟩
set_option maxRecDepth 100000 in
theorem s_okm246 : s_okM s_m246 := ⟨by decide +kernel, by decide +kernel, s_wAt_mem (p := 1873) (by decide +kernel), s_d246, by decide +kernel, by decide +kernel, s_wAt_mem (p := 126) (by decide +kernel), by decide +kernel, by decide +kernel⟩
set_option maxRecDepth 100000 in
theorem s_okm247 : s_okM s_m247 := ⟨by decide +kernel, by decide +kernel, s_wAt_mem (p := 1877) (by decide +kernel), s_d247, by decide +kernel, by decide +kernel, s_wAt_mem (p := 126) (by decide +kernel), by decide +kernel, by decide +kernel⟩
set_option maxRecDepth 100000 in
theorem s_okm248 : s_okM s_m248 := ⟨by decide +kernel, by decide +kernel, s_wAt_mem (p := 1881) (by decide +kernel), s_d248, by decide +kernel, by decide +kernel, s_wAt_mem (p := 126) (by decide +kernel), by decide +kernel, by decide +kernel⟩
set_option maxRecDepth 100000 in
theorem s_okm249 : s_okM s_m249 := ⟨by decide +kernel, by decide +kernel, s_wAt_mem (p := 1885) (by decide +kernel), s_d249, by decide +kernel, by decide +kernel, s_wAt_mem (p := 126) (by decide +kernel), by decide +kernel, by decide +kernel⟩
set_option maxRecDepth 100000 in
theorem s_okm250 : s_okM s_m250 := ⟨by decide +kernel, by decide +kernel, s_wAt_mem (p := 1889) (by decide +kernel), s_d250, by decide +kernel, by decide +kernel, s_wAt_mem (p := 126) (by decide +kernel), by decide +kernel, by decide +kernel⟩
set_option maxRecDepth 100000 in
theorem s_okm251 : s_okM s_m251 := ⟨by decide +kernel, by decide +kernel, s_wAt_mem (p := 1893) (by decide +kernel), s_d251, by decide +kernel, by decide +kernel, s_wAt_mem (p := 126) (by decide +kernel), by decide +kernel, by decide +kernel⟩
set_option maxRecDepth 100000 in
theorem s_okm252 : s_okM s_m252 := ⟨by decide +kernel, by decide +kernel, s_wAt_mem (p := 1897) (by decide +kernel), s_d252, by decide +kernel, by decide +kernel, s_wAt_mem (p := 126) (by decide +kernel), by decide +kernel, by decide +kernel⟩
set_option maxRecDepth 100000 in
theorem s_okm253 : s_okM s_m253 := ⟨by decide +kernel, by decide +kernel, s_wAt_mem (p := 1901) (by decide +kernel), s_d253, by decide +kernel, by decide +kernel, s_wAt_mem (p := 126) (by decide +kernel), by decide +kernel, by decide +kernel⟩
set_option maxRecDepth 100000 in
theorem s_okm254 : s_okM s_m254 := ⟨by decide +kernel, by decide +kernel, s_wAt_mem (p := 1905) (by decide +kernel), s_d254, by decide +kernel, by decide +kernel, s_wAt_mem (p := 126) (by decide +kernel), by decide +kernel, by decide +kernel⟩
set_option maxRecDepth 100000 in
theorem s_okm255 : s_okM s_m255 := ⟨by decide +kernel, by decide +kernel, s_wAt_mem (p := 1909) (by decide +kernel), s_d255, by decide +kernel, by decide +kernel, s_wAt_mem (p := 126) (by decide +kernel), by decide +kernel, by decide +kernel⟩
set_option maxRecDepth 100000 in
theorem s_okm256 : s_okM s_m256 := ⟨by decide +kernel, by decide +kernel, s_wAt_mem (p := 1913) (by decide +kernel), s_d256, by decide +kernel, by decide +kernel, s_wAt_mem (p := 126) (by decide +kernel), by decide +kernel, by decide +kernel⟩
set_option maxRecDepth 100000 in
theorem s_okm257 : s_okM s_m257 := ⟨by decide +kernel, by decide +kernel, s_wAt_mem (p := 1918) (by decide +kernel), s_d257, by decide +kernel, by decide +kernel, s_wAt_mem (p := 126) (by decide +kernel), by decide +kernel, by decide +kernel⟩
set_option maxRecDepth 100000 in
theorem s_okm258 : s_okM s_m258 := ⟨by decide +kernel, by decide +kernel, s_wAt_mem (p := 1922) (by decide +kernel), s_d258, by decide +kernel, by decide +kernel, s_wAt_mem (p := 126) (by decide +kernel), by decide +kernel, by decide +kernel⟩
set_option maxRecDepth 100000 in
theorem s_okm259 : s_okM s_m259 := ⟨by decide +kernel, by decide +kernel, s_wAt_mem (p := 1926) (by decide +kernel), s_d259, by decide +kernel, by decide +kernel, s_wAt_mem (p := 126) (by decide +kernel), by decide +kernel, by decide +kernel⟩
set_option maxRecDepth 100000 in
theorem s_okm260 : s_okM s_m260 := ⟨by decide +kernel, by decide +kernel, s_wAt_mem (p := 1930) (by decide +kernel), s_d260, by decide +kernel, by decide +kernel, s_wAt_mem (p := 126) (by decide +kernel), by decide +kernel, by decide +kernel⟩
set_option maxRecDepth 100000 in
theorem s_okm261 : s_okM s_m261 := ⟨by decide +kernel, by decide +kernel, s_wAt_mem (p := 1934) (by decide +kernel), s_d261, by decide +kernel, by decide +kernel, s_wAt_mem (p := 126) (by decide +kernel), by decide +kernel, by decide +kernel⟩
set_option maxRecDepth 100000 in
theorem s_okm262 : s_okM s_m262 := ⟨by decide +kernel, by decide +kernel, s_wAt_mem (p := 1938) (by decide +kernel), s_d262, by decide +kernel, by decide +kernel, s_wAt_mem (p := 126) (by decide +kernel), by decide +kernel, by decide +kernel⟩
set_option maxRecDepth 100000 in
theorem s_okm263 : s_okM s_m263 := ⟨by decide +kernel, by decide +kernel, s_wAt_mem (p := 1942) (by decide +kernel), s_d263, by decide +kernel, by decide +kernel, s_wAt_mem (p := 126) (by decide +kernel), by decide +kernel, by decide +kernel⟩
set_option maxRecDepth 100000 in
theorem s_okm264 : s_okM s_m264 := ⟨by decide +kernel, by decide +kernel, s_wAt_mem (p := 1946) (by decide +kernel), s_d264, by decide +kernel, by decide +kernel, s_wAt_mem (p := 126) (by decide +kernel), by decide +kernel, by decide +kernel⟩
set_option maxRecDepth 100000 in
theorem s_okm265 : s_okM s_m265 := ⟨by decide +kernel, by decide +kernel, s_wAt_mem (p := 1950) (by decide +kernel), s_d265, by decide +kernel, by decide +kernel, s_wAt_mem (p := 126) (by decide +kernel), by decide +kernel, by decide +kernel⟩
set_option maxRecDepth 100000 in
theorem s_okm266 : s_okM s_m266 := ⟨by decide +kernel, by decide +kernel, s_wAt_mem (p := 1954) (by decide +kernel), s_d266, by decide +kernel, by decide +kernel, s_wAt_mem (p := 126) (by decide +kernel), by decide +kernel, by decide +kernel⟩
set_option maxRecDepth 100000 in
theorem s_okm267 : s_okM s_m267 := ⟨by decide +kernel, by decide +kernel, s_wAt_mem (p := 1958) (by decide +kernel), s_d267, by decide +kernel, by decide +kernel, s_wAt_mem (p := 126) (by decide +kernel), by decide +kernel, by decide +kernel⟩
set_option maxRecDepth 100000 in
theorem s_okm268 : s_okM s_m268 := ⟨by decide +kernel, by decide +kernel, s_wAt_mem (p := 1962) (by decide +kernel), s_d268, by decide +kernel, by decide +kernel, s_wAt_mem (p := 126) (by decide +kernel), by decide +kernel, by decide +kernel⟩
set_option maxRecDepth 100000 in
theorem s_okm269 : s_okM s_m269 := ⟨by decide +kernel, by decide +kernel, s_wAt_mem (p := 1966) (by decide +kernel), s_d269, by decide +kernel, by decide +kernel, s_wAt_mem (p := 126) (by decide +kernel), by decide +kernel, by decide +kernel⟩
set_option maxRecDepth 100000 in
theorem s_okm270 : s_okM s_m270 := ⟨by decide +kernel, by decide +kernel, s_wAt_mem (p := 1970) (by decide +kernel), s_d270, by decide +kernel, by decide +kernel, s_wAt_mem (p := 126) (by decide +kernel), by decide +kernel, by decide +kernel⟩
set_option maxRecDepth 100000 in
theorem s_okm271 : s_okM s_m271 := ⟨by decide +kernel, by decide +kernel, s_wAt_mem (p := 1974) (by decide +kernel), s_d271, by decide +kernel, by decide +kernel, s_wAt_mem (p := 126) (by decide +kernel), by decide +kernel, by decide +kernel⟩
set_option maxRecDepth 100000 in
theorem s_okm272 : s_okM s_m272 := ⟨by decide +kernel, by decide +kernel, s_wAt_mem (p := 1978) (by decide +kernel), s_d272, by decide +kernel, by decide +kernel, s_wAt_mem (p := 126) (by decide +kernel), by decide +kernel, by decide +kernel⟩
set_option maxRecDepth 100000 in
theorem s_okm273 : s_okM s_m273 := ⟨by decide +kernel, by decide +kernel, s_wAt_mem (p := 1982) (by decide +kernel), s_d273, by decide +kernel, by decide +kernel, s_wAt_mem (p := 126) (by decide +kernel), by decide +kernel, by decide +kernel⟩
set_option maxRecDepth 100000 in
theorem s_okm274 : s_okM s_m274 := ⟨by decide +kernel, by decide +kernel, s_wAt_mem (p := 1986) (by decide +kernel), s_d274, by decide +kernel, by decide +kernel, s_wAt_mem (p := 126) (by decide +kernel), by decide +kernel, by decide +kernel⟩
set_option maxRecDepth 100000 in
theorem s_okm275 : s_okM s_m275 := ⟨by decide +kernel, by decide +kernel, s_wAt_mem (p := 1990) (by decide +kernel), s_d275, by decide +kernel, by decide +kernel, s_wAt_mem (p := 126) (by decide +kernel), by decide +kernel, by decide +kernel⟩
set_option maxRecDepth 100000 in
theorem s_okm276 : s_okM s_m276 := ⟨by decide +kernel, by decide +kernel, s_wAt_mem (p := 1994) (by decide +kernel), s_d276, by decide +kernel, by decide +kernel, s_wAt_mem (p := 126) (by decide +kernel), by decide +kernel, by decide +kernel⟩
set_option maxRecDepth 100000 in
theorem s_okm277 : s_okM s_m277 := ⟨by decide +kernel, by decide +kernel, s_wAt_mem (p := 1998) (by decide +kernel), s_d277, by decide +kernel, by decide +kernel, s_wAt_mem (p := 126) (by decide +kernel), by decide +kernel, by decide +kernel⟩
set_option maxRecDepth 100000 in
theorem s_okm278 : s_okM s_m278 := ⟨by decide +kernel, by decide +kernel, s_wAt_mem (p := 2002) (by decide +kernel), s_d278, by decide +kernel, by decide +kernel, s_wAt_mem (p := 126) (by decide +kernel), by decide +kernel, by decide +kernel⟩
set_option maxRecDepth 100000 in
theorem s_okm279 : s_okM s_m279 := ⟨by decide +kernel, by decide +kernel, s_wAt_mem (p := 2006) (by decide +kernel), s_d279, by decide +kernel, by decide +kernel, s_wAt_mem (p := 126) (by decide +kernel), by decide +kernel, by decide +kernel⟩
set_option maxRecDepth 100000 in
theorem s_okm280 : s_okM s_m280 := ⟨by decide +kernel, by decide +kernel, s_wAt_mem (p := 2010) (by decide +kernel), s_d280, by decide +kernel, by decide +kernel, s_wAt_mem (p := 126) (by decide +kernel), by decide +kernel, by decide +kernel⟩
set_option maxRecDepth 100000 in
theorem s_okm281 : s_okM s_m281 := ⟨by decide +kernel, by decide +kernel, s_wAt_mem (p := 2014) (by decide +kernel), s_d281, by decide +kernel, by decide +kernel, s_wAt_mem (p := 126) (by decide +kernel), by decide +kernel, by decide +kernel⟩
set_option maxRecDepth 100000 in
theorem s_okA0 : ∀ q ∈ [s_m0, s_m1, s_m2, s_m3, s_m4, s_m5, s_m6, s_m7, s_m8, s_m9, s_m10, s_m11, s_m12, s_m13, s_m14, s_m15, s_m16, s_m17, s_m18, s_m19, s_m20, s_m0, s_m22, s_m23, s_m24, s_m25, s_m26, s_m27, s_m28, s_m29, s_m30, s_m31, s_m32, s_m33, s_m34, s_m35, s_m36, s_m37, s_m38, s_m39], s_okM q := List.forall_mem_cons.mpr ⟨s_okm0, List.forall_mem_cons.mpr ⟨s_okm1, List.forall_mem_cons.mpr ⟨s_okm2, List.forall_mem_cons.mpr ⟨s_okm3, List.forall_mem_cons.mpr ⟨s_okm4, List.forall_mem_cons.mpr ⟨s_okm5, List.forall_mem_cons.mpr ⟨s_okm6, List.forall_mem_cons.mpr ⟨s_okm7, List.forall_mem_cons.mpr ⟨s_okm8, List.forall_mem_cons.mpr ⟨s_okm9, List.forall_mem_cons.mpr ⟨s_okm10, List.forall_mem_cons.mpr ⟨s_okm11, List.forall_mem_cons.mpr ⟨s_okm12, List.forall_mem_cons.mpr ⟨s_okm13, List.forall_mem_cons.mpr ⟨s_okm14, List.forall_mem_cons.mpr ⟨s_okm15, List.forall_mem_cons.mpr ⟨s_okm16, List.forall_mem_cons.mpr ⟨s_okm17, List.forall_mem_cons.mpr ⟨s_okm18, List.forall_mem_cons.mpr ⟨s_okm19, List.forall_mem_cons.mpr ⟨s_okm20, List.forall_mem_cons.mpr ⟨s_okm0, List.forall_mem_cons.mpr ⟨s_okm22, List.forall_mem_cons.mpr ⟨s_okm23, List.forall_mem_cons.mpr ⟨s_okm24, List.forall_mem_cons.mpr ⟨s_okm25, List.forall_mem_cons.mpr ⟨s_okm26, List.forall_mem_cons.mpr ⟨s_okm27, List.forall_mem_cons.mpr ⟨s_okm28, List.forall_mem_cons.mpr ⟨s_okm29, List.forall_mem_cons.mpr ⟨s_okm30, List.forall_mem_cons.mpr ⟨s_okm31, List.forall_mem_cons.mpr ⟨s_okm32, List.forall_mem_cons.mpr ⟨s_okm33, List.forall_mem_cons.mpr ⟨s_okm34, List.forall_mem_cons.mpr ⟨s_okm35, List.forall_mem_cons.mpr ⟨s_okm36, List.forall_mem_cons.mpr ⟨s_okm37, List.forall_mem_cons.mpr ⟨s_okm38, List.forall_mem_cons.mpr ⟨s_okm39, fun _ h => absurd h List.not_mem_nil⟩⟩⟩⟩⟩⟩⟩⟩⟩⟩⟩⟩⟩⟩⟩⟩⟩⟩⟩⟩⟩⟩⟩⟩⟩⟩⟩⟩⟩⟩⟩⟩⟩⟩⟩⟩⟩⟩⟩⟩
set_option maxRecDepth 100000 in
theorem s_okA1 : ∀ q ∈ [s_m40, s_m41, s_m42, s_m43, s_m44, s_m45, s_m46, s_m47, s_m48, s_m49, s_m50, s_m51, s_m52, s_m53, s_m54, s_m55, s_m56, s_m57, s_m58, s_m59, s_m60, s_m61, s_m62, s_m63, s_m64, s_m65, s_m66, s_m67, s_m68, s_m69, s_m70, s_m71, s_m72, s_m73, s_m74, s_m75, s_m76, s_m77, s_m78, s_m79], s_okM q := List.forall_mem_cons.mpr ⟨s_okm40, List.forall_mem_cons.mpr ⟨s_okm41, List.forall_mem_cons.mpr ⟨s_okm42, List.forall_mem_cons.mpr ⟨s_okm43, List.forall_mem_cons.mpr ⟨s_okm44, List.forall_mem_cons.mpr ⟨s_okm45, List.forall_mem_cons.mpr ⟨s_okm46, List.forall_mem_cons.mpr ⟨s_okm47, List.forall_mem_cons.mpr ⟨s_okm48, List.forall_mem_cons.mpr ⟨s_okm49, List.forall_mem_cons.mpr ⟨s_okm50, List.forall_mem_cons.mpr ⟨s_okm51, List.forall_mem_cons.mpr ⟨s_okm52, List.forall_mem_cons.mpr ⟨s_okm53, List.forall_mem_cons.mpr ⟨s_okm54, List.forall_mem_cons.mpr ⟨s_okm55, List.forall_mem_cons.mpr ⟨s_okm56, List.forall_mem_cons.mpr ⟨s_okm57, List.forall_mem_cons.mpr ⟨s_okm58, List.forall_mem_cons.mpr ⟨s_okm59, List.forall_mem_cons.mpr ⟨s_okm60, List.forall_mem_cons.mpr ⟨s_okm61, List.forall_mem_cons.mpr ⟨s_okm62, List.forall_mem_cons.mpr ⟨s_okm63, List.forall_mem_cons.mpr ⟨s_okm64, List.forall_mem_cons.mpr ⟨s_okm65, List.forall_mem_cons.mpr ⟨s_okm66, List.forall_mem_cons.mpr ⟨s_okm67, List.forall_mem_cons.mpr ⟨s_okm68, List.forall_mem_cons.mpr ⟨s_okm69, List.forall_mem_cons.mpr ⟨s_okm70, List.forall_mem_cons.mpr ⟨s_okm71, List.forall_mem_cons.mpr ⟨s_okm72, List.forall_mem_cons.mpr ⟨s_okm73, List.forall_mem_cons.mpr ⟨s_okm74, List.forall_mem_cons.mpr ⟨s_okm75, List.forall_mem_cons.mpr ⟨s_okm76, List.forall_mem_cons.mpr ⟨s_okm77, List.forall_mem_cons.mpr ⟨s_okm78, List.forall_mem_cons.mpr ⟨s_okm79, fun _ h => absurd h List.not_mem_nil⟩⟩⟩⟩⟩⟩⟩⟩⟩⟩⟩⟩⟩⟩⟩⟩⟩⟩⟩⟩⟩⟩⟩⟩⟩⟩⟩⟩⟩⟩⟩⟩⟩⟩⟩⟩⟩⟩⟩⟩
set_option maxRecDepth 100000 in
theorem s_okA2 : ∀ q ∈ [s_m80, s_m81, s_m82, s_m83, s_m84, s_m85, s_m86, s_m87, s_m88, s_m89, s_m0, s_m91, s_m92, s_m93, s_m94, s_m95, s_m96, s_m97, s_m98, s_m99, s_m100, s_m101, s_m102, s_m103, s_m104, s_m105, s_m106, s_m107, s_m108, s_m109, s_m110, s_m111, s_m112, s_m113, s_m114, s_m115, s_m116, s_m117, s_m118, s_m119], s_okM q := List.forall_mem_cons.mpr ⟨s_okm80, List.forall_mem_cons.mpr ⟨s_okm81, List.forall_mem_cons.mpr ⟨s_okm82, List.forall_mem_cons.mpr ⟨s_okm83, List.forall_mem_cons.mpr ⟨s_okm84, List.forall_mem_cons.mpr ⟨s_okm85, List.forall_mem_cons.mpr ⟨s_okm86, List.forall_mem_cons.mpr ⟨s_okm87, List.forall_mem_cons.mpr ⟨s_okm88, List.forall_mem_cons.mpr ⟨s_okm89, List.forall_mem_cons.mpr ⟨s_okm0, List.forall_mem_cons.mpr ⟨s_okm91, List.forall_mem_cons.mpr ⟨s_okm92, List.forall_mem_cons.mpr ⟨s_okm93, List.forall_mem_cons.mpr ⟨s_okm94, List.forall_mem_cons.mpr ⟨s_okm95, List.forall_mem_cons.mpr ⟨s_okm96, List.forall_mem_cons.mpr ⟨s_okm97, List.forall_mem_cons.mpr ⟨s_okm98, List.forall_mem_cons.mpr ⟨s_okm99, List.forall_mem_cons.mpr ⟨s_okm100, List.forall_mem_cons.mpr ⟨s_okm101, List.forall_mem_cons.mpr ⟨s_okm102, List.forall_mem_cons.mpr ⟨s_okm103, List.forall_mem_cons.mpr ⟨s_okm104, List.forall_mem_cons.mpr ⟨s_okm105, List.forall_mem_cons.mpr ⟨s_okm106, List.forall_mem_cons.mpr ⟨s_okm107, List.forall_mem_cons.mpr ⟨s_okm108, List.forall_mem_cons.mpr ⟨s_okm109, List.forall_mem_cons.mpr ⟨s_okm110, List.forall_mem_cons.mpr ⟨s_okm111, List.forall_mem_cons.mpr ⟨s_okm112, List.forall_mem_cons.mpr ⟨s_okm113, List.forall_mem_cons.mpr ⟨s_okm114, List.forall_mem_cons.mpr ⟨s_okm115, List.forall_mem_cons.mpr ⟨s_okm116, List.forall_mem_cons.mpr ⟨s_okm117, List.forall_mem_cons.mpr ⟨s_okm118, List.forall_mem_cons.mpr ⟨s_okm119, fun _ h => absurd h List.not_mem_nil⟩⟩⟩⟩⟩⟩⟩⟩⟩⟩⟩⟩⟩⟩⟩⟩⟩⟩⟩⟩⟩⟩⟩⟩⟩⟩⟩⟩⟩⟩⟩⟩⟩⟩⟩⟩⟩⟩⟩⟩
set_option maxRecDepth 100000 in
theorem s_okA3 : ∀ q ∈ [s_m120, s_m121, s_m122, s_m123, s_m124, s_m125, s_m126, s_m127, s_m128, s_m129, s_m130, s_m131, s_m132, s_m133, s_m134, s_m135, s_m136, s_m137, s_m138, s_m139, s_m140, s_m141, s_m142, s_m143, s_m144, s_m145, s_m146, s_m147, s_m148, s_m149, s_m150, s_m151, s_m152, s_m153, s_m154, s_m155, s_m156, s_m157, s_m158, s_m159], s_okM q := List.forall_mem_cons.mpr ⟨s_okm120, List.forall_mem_cons.mpr ⟨s_okm121, List.forall_mem_cons.mpr ⟨s_okm122, List.forall_mem_cons.mpr ⟨s_okm123, List.forall_mem_cons.mpr ⟨s_okm124, List.forall_mem_cons.mpr ⟨s_okm125, List.forall_mem_cons.mpr ⟨s_okm126, List.forall_mem_cons.mpr ⟨s_okm127, List.forall_mem_cons.mpr ⟨s_okm128, List.forall_mem_cons.mpr ⟨s_okm129, List.forall_mem_cons.mpr ⟨s_okm130, List.forall_mem_cons.mpr ⟨s_okm131, List.forall_mem_cons.mpr ⟨s_okm132, List.forall_mem_cons.mpr ⟨s_okm133, List.forall_mem_cons.mpr ⟨s_okm134, List.forall_mem_cons.mpr ⟨s_okm135, List.forall_mem_cons.mpr ⟨s_okm136, List.forall_mem_cons.mpr ⟨s_okm137, List.forall_mem_cons.mpr ⟨s_okm138, List.forall_mem_cons.mpr ⟨s_okm139, List.forall_mem_cons.mpr ⟨s_okm140, List.forall_mem_cons.mpr ⟨s_okm141, List.forall_mem_cons.mpr ⟨s_okm142, List.forall_mem_cons.mpr ⟨s_okm143, List.forall_mem_cons.mpr ⟨s_okm144, List.forall_mem_cons.mpr ⟨s_okm145, List.forall_mem_cons.mpr ⟨s_okm146, List.forall_mem_cons.mpr ⟨s_okm147, List.forall_mem_cons.mpr ⟨s_okm148, List.forall_mem_cons.mpr ⟨s_okm149, List.forall_mem_cons.mpr ⟨s_okm150, List.forall_mem_cons.mpr ⟨s_okm151, List.forall_mem_cons.mpr ⟨s_okm152, List.forall_mem_cons.mpr ⟨s_okm153, List.forall_mem_cons.mpr ⟨s_okm154, List.forall_mem_cons.mpr ⟨s_okm155, List.forall_mem_cons.mpr ⟨s_okm156, List.forall_mem_cons.mpr ⟨s_okm157, List.forall_mem_cons.mpr ⟨s_okm158, List.forall_mem_cons.mpr ⟨s_okm159, fun _ h => absurd h List.not_mem_nil⟩⟩⟩⟩⟩⟩⟩⟩⟩⟩⟩⟩⟩⟩⟩⟩⟩⟩⟩⟩⟩⟩⟩⟩⟩⟩⟩⟩⟩⟩⟩⟩⟩⟩⟩⟩⟩⟩⟩⟩
set_option maxRecDepth 100000 in
theorem s_okA4 : ∀ q ∈ [s_m160, s_m161, s_m162, s_m163, s_m164, s_m165, s_m166, s_m167, s_m168, s_m169, s_m170, s_m171, s_m172, s_m173, s_m174, s_m175, s_m176, s_m177, s_m178, s_m179, s_m180, s_m181, s_m182, s_m183, s_m184, s_m185, s_m186, s_m187, s_m188, s_m189, s_m190, s_m191, s_m192, s_m193, s_m194, s_m195, s_m196, s_m197, s_m198, s_m199], s_okM q := List.forall_mem_cons.mpr ⟨s_okm160, List.forall_mem_cons.mpr ⟨s_okm161, List.forall_mem_cons.mpr ⟨s_okm162, List.forall_mem_cons.mpr ⟨s_okm163, List.forall_mem_cons.mpr ⟨s_okm164, List.forall_mem_cons.mpr ⟨s_okm165, List.forall_mem_cons.mpr ⟨s_okm166, List.forall_mem_cons.mpr ⟨s_okm167, List.forall_mem_cons.mpr ⟨s_okm168, List.forall_mem_cons.mpr ⟨s_okm169, List.forall_mem_cons.mpr ⟨s_okm170, List.forall_mem_cons.mpr ⟨s_okm171, List.forall_mem_cons.mpr ⟨s_okm172, List.forall_mem_cons.mpr ⟨s_okm173, List.forall_mem_cons.mpr ⟨s_okm174, List.forall_mem_cons.mpr ⟨s_okm175, List.forall_mem_cons.mpr ⟨s_okm176, List.forall_mem_cons.mpr ⟨s_okm177, List.forall_mem_cons.mpr ⟨s_okm178, List.forall_mem_cons.mpr ⟨s_okm179, List.forall_mem_cons.mpr ⟨s_okm180, List.forall_mem_cons.mpr ⟨s_okm181, List.forall_mem_cons.mpr ⟨s_okm182, List.forall_mem_cons.mpr ⟨s_okm183, List.forall_mem_cons.mpr ⟨s_okm184, List.forall_mem_cons.mpr ⟨s_okm185, List.forall_mem_cons.mpr ⟨s_okm186, List.forall_mem_cons.mpr ⟨s_okm187, List.forall_mem_cons.mpr ⟨s_okm188, List.forall_mem_cons.mpr ⟨s_okm189, List.forall_mem_cons.mpr ⟨s_okm190, List.forall_mem_cons.mpr ⟨s_okm191, List.forall_mem_cons.mpr ⟨s_okm192, List.forall_mem_cons.mpr ⟨s_okm193, List.forall_mem_cons.mpr ⟨s_okm194, List.forall_mem_cons.mpr ⟨s_okm195, List.forall_mem_cons.mpr ⟨s_okm196, List.forall_mem_cons.mpr ⟨s_okm197, List.forall_mem_cons.mpr ⟨s_okm198, List.forall_mem_cons.mpr ⟨s_okm199, fun _ h => absurd h List.not_mem_nil⟩⟩⟩⟩⟩⟩⟩⟩⟩⟩⟩⟩⟩⟩⟩⟩⟩⟩⟩⟩⟩⟩⟩⟩⟩⟩⟩⟩⟩⟩⟩⟩⟩⟩⟩⟩⟩⟩⟩⟩
set_option maxRecDepth 100000 in
theorem s_okA5 : ∀ q ∈ [s_m200, s_m201, s_m202, s_m203, s_m204, s_m205, s_m206, s_m207, s_m208, s_m209, s_m210, s_m211, s_m212, s_m213, s_m214, s_m215, s_m216, s_m217, s_m218, s_m219, s_m220, s_m221, s_m222, s_m223, s_m224, s_m225, s_m226, s_m227, s_m228, s_m229, s_m230, s_m231, s_m232, s_m233, s_m234, s_m235, s_m236, s_m237, s_m238, s_m239], s_okM q := List.forall_mem_cons.mpr ⟨s_okm200, List.forall_mem_cons.mpr ⟨s_okm201, List.forall_mem_cons.mpr ⟨s_okm202, List.forall_mem_cons.mpr ⟨s_okm203, List.forall_mem_cons.mpr ⟨s_okm204, List.forall_mem_cons.mpr ⟨s_okm205, List.forall_mem_cons.mpr ⟨s_okm206, List.forall_mem_cons.mpr ⟨s_okm207, List.forall_mem_cons.mpr ⟨s_okm208, List.forall_mem_cons.mpr ⟨s_okm209, List.forall_mem_cons.mpr ⟨s_okm210, List.forall_mem_cons.mpr ⟨s_okm211, List.forall_mem_cons.mpr ⟨s_okm212, List.forall_mem_cons.mpr ⟨s_okm213, List.forall_mem_cons.mpr ⟨s_okm214, List.forall_mem_cons.mpr ⟨s_okm215, List.forall_mem_cons.mpr ⟨s_okm216, List.forall_mem_cons.mpr ⟨s_okm217, List.forall_mem_cons.mpr ⟨s_okm218, List.forall_mem_cons.mpr ⟨s_okm219, List.forall_mem_cons.mpr ⟨s_okm220, List.forall_mem_cons.mpr ⟨s_okm221, List.forall_mem_cons.mpr ⟨s_okm222, List.forall_mem_cons.mpr ⟨s_okm223, List.forall_mem_cons.mpr ⟨s_okm224, List.forall_mem_cons.mpr ⟨s_okm225, List.forall_mem_cons.mpr ⟨s_okm226, List.forall_mem_cons.mpr ⟨s_okm227, List.forall_mem_cons.mpr ⟨s_okm228, List.forall_mem_cons.mpr ⟨s_okm229, List.forall_mem_cons.mpr ⟨s_okm230, List.forall_mem_cons.mpr ⟨s_okm231, List.forall_mem_cons.mpr ⟨s_okm232, List.forall_mem_cons.mpr ⟨s_okm233, List.forall_mem_cons.mpr ⟨s_okm234, List.forall_mem_cons.mpr ⟨s_okm235, List.forall_mem_cons.mpr ⟨s_okm236, List.forall_mem_cons.mpr ⟨s_okm237, List.forall_mem_cons.mpr ⟨s_okm238, List.forall_mem_cons.mpr ⟨s_okm239, fun _ h => absurd h List.not_mem_nil⟩⟩⟩⟩⟩⟩⟩⟩⟩⟩⟩⟩⟩⟩⟩⟩⟩⟩⟩⟩⟩⟩⟩⟩⟩⟩⟩⟩⟩⟩⟩⟩⟩⟩⟩⟩⟩⟩⟩⟩
set_option maxRecDepth 100000 in
theorem s_okA6 : ∀ q ∈ [s_m240, s_m241, s_m242, s_m243, s_m244, s_m245, s_m246, s_m247, s_m248, s_m249, s_m250, s_m251, s_m252, s_m253, s_m254, s_m255, s_m256, s_m257, s_m258, s_m259, s_m260, s_m261, s_m262, s_m263, s_m264, s_m265, s_m266, s_m267, s_m268, s_m269, s_m270, s_m271, s_m272, s_m273, s_m274, s_m275, s_m276, s_m277, s_m278, s_m279], s_okM q := List.forall_mem_cons.mpr ⟨s_okm240, List.forall_mem_cons.mpr ⟨s_okm241, List.forall_mem_cons.mpr ⟨s_okm242, List.forall_mem_cons.mpr ⟨s_okm243, List.forall_mem_cons.mpr ⟨s_okm244, List.forall_mem_cons.mpr ⟨s_okm245, List.forall_mem_cons.mpr ⟨s_okm246, List.forall_mem_cons.mpr ⟨s_okm247, List.forall_mem_cons.mpr ⟨s_okm248, List.forall_mem_cons.mpr ⟨s_okm249, List.forall_mem_cons.mpr ⟨s_okm250, List.forall_mem_cons.mpr ⟨s_okm251, List.forall_mem_cons.mpr ⟨s_okm252, List.forall_mem_cons.mpr ⟨s_okm253, List.forall_mem_cons.mpr ⟨s_okm254, List.forall_mem_cons.mpr ⟨s_okm255, List.forall_mem_cons.mpr ⟨s_okm256, List.forall_mem_cons.mpr ⟨s_okm257, List.forall_mem_cons.mpr ⟨s_okm258, List.forall_mem_cons.mpr ⟨s_okm259, List.forall_mem_cons.mpr ⟨s_okm260, List.forall_mem_cons.mpr ⟨s_okm261, List.forall_mem_cons.mpr ⟨s_okm262, List.forall_mem_cons.mpr ⟨s_okm263, List.forall_mem_cons.mpr ⟨s_okm264, List.forall_mem_cons.mpr ⟨s_okm265, List.forall_mem_cons.mpr ⟨s_okm266, List.forall_mem_cons.mpr ⟨s_okm267, List.forall_mem_cons.mpr ⟨s_okm268, List.forall_mem_cons.mpr ⟨s_okm269, List.forall_mem_cons.mpr ⟨s_okm270, List.forall_mem_cons.mpr ⟨s_okm271, List.forall_mem_cons.mpr ⟨s_okm272, List.forall_mem_cons.mpr ⟨s_okm273, List.forall_mem_cons.mpr ⟨s_okm274, List.forall_mem_cons.mpr ⟨s_okm275, List.forall_mem_cons.mpr ⟨s_okm276, List.forall_mem_cons.mpr ⟨s_okm277, List.forall_mem_cons.mpr ⟨s_okm278, List.forall_mem_cons.mpr ⟨s_okm279, fun _ h => absurd h List.not_mem_nil⟩⟩⟩⟩⟩⟩⟩⟩⟩⟩⟩⟩⟩⟩⟩⟩⟩⟩⟩⟩⟩⟩⟩⟩⟩⟩⟩⟩⟩⟩⟩⟩⟩⟩⟩⟩⟩⟩⟩⟩
set_option maxRecDepth 100000 in
theorem s_okA7 : ∀ q ∈ [s_m280, s_m281], s_okM q := List.forall_mem_cons.mpr ⟨s_okm280, List.forall_mem_cons.mpr ⟨s_okm281, fun _ h => absurd h List.not_mem_nil⟩⟩
set_option maxRecDepth 100000 in
theorem s_okMs : ∀ q ∈ s_ms, s_okM q := by
  intro q hq
  have e : s_ms = [s_m0, s_m1, s_m2, s_m3, s_m4, s_m5, s_m6, s_m7, s_m8, s_m9, s_m10, s_m11, s_m12, s_m13, s_m14, s_m15, s_m16, s_m17, s_m18, s_m19, s_m20, s_m0, s_m22, s_m23, s_m24, s_m25, s_m26, s_m27, s_m28, s_m29, s_m30, s_m31, s_m32, s_m33, s_m34, s_m35, s_m36, s_m37, s_m38, s_m39] ++ ([s_m40, s_m41, s_m42, s_m43, s_m44, s_m45, s_m46, s_m47, s_m48, s_m49, s_m50, s_m51, s_m52, s_m53, s_m54, s_m55, s_m56, s_m57, s_m58, s_m59, s_m60, s_m61, s_m62, s_m63, s_m64, s_m65, s_m66, s_m67, s_m68, s_m69, s_m70, s_m71, s_m72, s_m73, s_m74, s_m75, s_m76, s_m77, s_m78, s_m79] ++ ([s_m80, s_m81, s_m82, s_m83, s_m84, s_m85, s_m86, s_m87, s_m88, s_m89, s_m0, s_m91, s_m92, s_m93, s_m94, s_m95, s_m96, s_m97, s_m98, s_m99, s_m100, s_m101, s_m102, s_m103, s_m104, s_m105, s_m106, s_m107, s_m108, s_m109, s_m110, s_m111, s_m112, s_m113, s_m114, s_m115, s_m116, s_m117, s_m118, s_m119] ++ ([s_m120, s_m121, s_m122, s_m123, s_m124, s_m125, s_m126, s_m127, s_m128, s_m129, s_m130, s_m131, s_m132, s_m133, s_m134, s_m135, s_m136, s_m137, s_m138, s_m139, s_m140, s_m141, s_m142, s_m143, s_m144, s_m145, s_m146, s_m147, s_m148, s_m149, s_m150, s_m151, s_m152, s_m153, s_m154, s_m155, s_m156, s_m157, s_m158, s_m159] ++ ([s_m160, s_m161, s_m162, s_m163, s_m164, s_m165, s_m166, s_m167, s_m168, s_m169, s_m170, s_m171, s_m172, s_m173, s_m174, s_m175, s_m176, s_m177, s_m178, s_m179, s_m180, s_m181, s_m182, s_m183, s_m184, s_m185, s_m186, s_m187, s_m188, s_m189, s_m190, s_m191, s_m192, s_m193, s_m194, s_m195, s_m196, s_m197, s_m198, s_m199] ++ ([s_m200, s_m201, s_m202, s_m203, s_m204, s_m205, s_m206, s_m207, s_m208, s_m209, s_m210, s_m211, s_m212, s_m213, s_m214, s_m215, s_m216, s_m217, s_m218, s_m219, s_m220, s_m221, s_m222, s_m223, s_m224, s_m225, s_m226, s_m227, s_m228, s_m229, s_m230, s_m231, s_m232, s_m233, s_m234, s_m235, s_m236, s_m237, s_m238, s_m239] ++ ([s_m240, s_m241, s_m242, s_m243, s_m244, s_m245, s_m246, s_m247, s_m248, s_m249, s_m250, s_m251, s_m252, s_m253, s_m254, s_m255, s_m256, s_m257, s_m258, s_m259, s_m260, s_m261, s_m262, s_m263, s_m264, s_m265, s_m266, s_m267, s_m268, s_m269, s_m270, s_m271, s_m272, s_m273, s_m274, s_m275, s_m276, s_m277, s_m278, s_m279] ++ ([s_m280, s_m281]))))))) := rfl
  rw [e] at hq
  rcases List.mem_append.mp hq with hq | hq
  · exact s_okA0 q hq
  rcases List.mem_append.mp hq with hq | hq
  · exact s_okA1 q hq
  rcases List.mem_append.mp hq with hq | hq
  · exact s_okA2 q hq
  rcases List.mem_append.mp hq with hq | hq
  · exact s_okA3 q hq
  rcases List.mem_append.mp hq with hq | hq
  · exact s_okA4 q hq
  rcases List.mem_append.mp hq with hq | hq
  · exact s_okA5 q hq
  rcases List.mem_append.mp hq with hq | hq
  · exact s_okA6 q hq
  exact s_okA7 q hq
end
section
-- THE PURE MACHINE: the program's bytecode over cells that are numbered in the order of their making
-- a heap: how many cells, how many slots, whether cells may still be made, the ints, the longs, the references
abbrev s_H : Type := Nat × Nat × Bool × (Nat → Nat → Int32) × (Nat → Nat → Int64) × (Nat → Nat → Option Nat)
abbrev s_L : Type := List (Option Value)
-- what an instruction comes to: the next place; an end (none: a throw begins here); a call (method, arguments, what stays on the stack)
abbrev s_O : Type := (Nat × s_L × List Value × s_H) ⊕ (Option (Option Value) ⊕ (Nat × List Value × List Value))
def s_look {α : Type} : List (Nat × α) → Nat → Option α
  | [], _ => none
  | (k, x) :: t, n => match Nat.beq k n with
    | true => some x
    | false => s_look t n
def s_up {α : Type} (f : Nat → Nat → α) (a k : Nat) (v : α) : Nat → Nat → α := fun b => match Nat.beq b a with
  | true => va_up (f a) k v
  | false => f b
def s_cl0 {α : Type} (f : Nat → Nat → α) (a : Nat) (v : α) : Nat → Nat → α := fun b => match Nat.beq b a with
  | true => fun _ => v
  | false => f b
def s_row {α : Type} (f : Nat → Nat → α) (a : Nat) (g : Nat → α) : Nat → Nat → α := fun b => match Nat.beq b a with
  | true => g
  | false => f b
def s_nx (pc : Nat) (L : s_L) (st : List Value) (h : s_H) : Option s_O := some (.inl (pc, L, st, h))
def s_br (c : Prop) [Decidable c] (tg pc : Nat) (L : s_L) (st : List Value) (h : s_H) : Option s_O := if c then s_nx tg L st h else s_nx (pc + 3) L st h
def s_i1 (st : List Value) (k : Int32 → List Value → Option s_O) : Option s_O := match st with
  | .int x :: r => k x r
  | _ => none
def s_ii (st : List Value) (k : Int32 → Int32 → List Value → Option s_O) : Option s_O := match st with
  | .int y :: .int x :: r => k x y r
  | _ => none
def s_l1 (st : List Value) (k : Int64 → List Value → Option s_O) : Option s_O := match st with
  | .long x :: r => k x r
  | _ => none
def s_ll (st : List Value) (k : Int64 → Int64 → List Value → Option s_O) : Option s_O := match st with
  | .long y :: .long x :: r => k x y r
  | _ => none
def s_r1 (st : List Value) (k : Nat → List Value → Option s_O) : Option s_O := match st with
  | .ref a :: r => k a r
  | _ => none
-- an index on a cell
def s_ir (st : List Value) (k : Int32 → Nat → List Value → Option s_O) : Option s_O := match st with
  | .int i :: .ref a :: r => k i a r
  | _ => none
def s_or (v : Value) : Option (Option Nat) := match v with
  | .ref a => some (some a)
  | .null => some none
  | _ => none
-- a word of the enum, or null
def s_ow (v : Value) : Option (Option Nat) := match v with
  | .ref a => if 1000 ≤ a ∧ a < 1029 then some (some a) else none
  | .null => some none
  | _ => none
def s_c1 (v : Value) : Bool := match v with
  | .int _ => true
  | .ref _ => true
  | .null => true
  | _ => false
def s_cat (st : List Value) : Nat := match st with
  | [] => 0
  | v :: r => v.category + s_cat r
-- locals
def s_s1 (L : s_L) (i : Nat) (v : Value) : s_L := match i with
  | 0 => L.set 0 (some v)
  | j + 1 => match L[j]? with
    | some (some (.long _)) => (L.set j none).set (j + 1) (some v)
    | some (some (.double _)) => (L.set j none).set (j + 1) (some v)
    | _ => L.set (j + 1) (some v)
def s_s2 (L : s_L) (i : Nat) (v : Value) : s_L := (s_s1 L i v).set (i + 1) none
def s_en : List Value → s_L
  | [] => []
  | .long x :: r => some (.long x) :: none :: s_en r
  | .double x :: r => some (.double x) :: none :: s_en r
  | v :: r => some v :: s_en r
def s_ent (vs : List Value) (n : Nat) : s_L := s_en vs ++ List.replicate (n - (s_en vs).length) none
def s_ild (L : s_L) (i pc : Nat) (st : List Value) (h : s_H) : Option s_O := match L[i]? with
  | some (some (.int x)) => s_nx pc L (.int x :: st) h
  | _ => none
def s_lld (L : s_L) (i pc : Nat) (st : List Value) (h : s_H) : Option s_O := match L[i]? with
  | some (some (.long x)) => s_nx pc L (.long x :: st) h
  | _ => none
def s_ald (L : s_L) (i pc : Nat) (st : List Value) (h : s_H) : Option s_O := match L[i]? with
  | some (some (.ref x)) => s_nx pc L (.ref x :: st) h
  | some (some .null) => s_nx pc L (.null :: st) h
  | _ => none
def s_ist (L : s_L) (i pc : Nat) (st : List Value) (h : s_H) : Option s_O := match Nat.blt i L.length with
  | true => s_i1 st fun x r => s_nx pc (s_s1 L i (.int x)) r h
  | false => none
def s_lst (L : s_L) (i pc : Nat) (st : List Value) (h : s_H) : Option s_O := match Nat.blt (i + 1) L.length with
  | true => s_l1 st fun x r => s_nx pc (s_s2 L i (.long x)) r h
  | false => none
def s_ast (L : s_L) (i pc : Nat) (st : List Value) (h : s_H) : Option s_O := match Nat.blt i L.length with
  | true => match st with
    | .ref x :: r => s_nx pc (s_s1 L i (.ref x)) r h
    | .null :: r => s_nx pc (s_s1 L i .null) r h
    | _ => none
  | false => none
-- switches, as chains of tests
def s_ts (x pc : Int) (L : s_L) (st : List Value) (h : s_H) (d : Int) : Int → List Int → Option s_O
  | _, [] => if 0 ≤ pc + d then s_nx (pc + d).toNat L st h else none
  | lo, o :: t => if x = lo then (if 0 ≤ pc + o then s_nx (pc + o).toNat L st h else none) else s_ts x pc L st h d (lo + 1) t
def s_ls (x pc : Int) (L : s_L) (st : List Value) (h : s_H) (d : Int) : List (Int × Int) → Option s_O
  | [] => if 0 ≤ pc + d then s_nx (pc + d).toNat L st h else none
  | (a, o) :: t => if x = a then (if 0 ≤ pc + o then s_nx (pc + o).toNat L st h else none) else s_ls x pc L st h d t
-- cells
def s_isG (h : s_H) (a k : Nat) : Bool := match Nat.blt a h.1 with
  | true => (match s_Gs[a]? with
    | some (j, _) => Nat.beq j k
    | none => false)
  | false => false
def s_len (a : Nat) : Nat := match s_Gs[a]? with
  | some (_, n) => n
  | none => 0
def s_ft (c k : Nat) : Nat := match s_fts[c]? with
  | some l => (match l[k]? with
    | some t => t
    | none => 9)
  | none => 9
def s_fi (c k : Nat) : Bool := match s_fin[c]? with
  | some l => (match l[k]? with
    | some t => t
    | none => true)
  | none => true
def s_pv (h : s_H) (t a k : Nat) : Value := match t with
  | 0 => .int (h.2.2.2.1 a k)
  | 1 => .int (h.2.2.2.1 a k)
  | 2 => .long (h.2.2.2.2.1 a k)
  | _ => va_rf (h.2.2.2.2.2 a k)
def s_wI (h : s_H) (a k : Nat) (x : Int32) : s_H := (h.1, h.2.1, h.2.2.1, s_up h.2.2.2.1 a k x, h.2.2.2.2.1, h.2.2.2.2.2)
def s_wL (h : s_H) (a k : Nat) (x : Int64) : s_H := (h.1, h.2.1, h.2.2.1, h.2.2.2.1, s_up h.2.2.2.2.1 a k x, h.2.2.2.2.2)
def s_wR (h : s_H) (a k : Nat) (x : Option Nat) : s_H := (h.1, h.2.1, h.2.2.1, h.2.2.2.1, h.2.2.2.2.1, s_up h.2.2.2.2.2 a k x)
def s_new (h : s_H) (n : Nat) : s_H := (h.1 + 1, h.2.1 + n, h.2.2.1, s_cl0 h.2.2.2.1 h.1 0, s_cl0 h.2.2.2.2.1 h.1 0, s_cl0 h.2.2.2.2.2 h.1 none)
-- the constants of the enum: letters and kind
def s_wl : List Int64 := [2553, 5969364, 21015731, 206405, 408819, 677446, 23732, 201778, 20186533, 7939238, 10745, 21148051, 402611, 7657651, 12775, 591205, 4153, 498, 1476, 14836, 514226, 291086500, 12885268, 8243, 8499, 408612, 2262611, 21136979, 492210354]
def s_wk (i : Nat) : Int32 := match i with
  | 7 => 0
  | 8 => 1
  | 9 => 2
  | 10 => 3
  | _ => -1
def s_sv (a k : Nat) : Option Value := if a < 1000 then none else if a < 1029 then (match k with
  | 0 => some (.long (s_wl.getD (a - 1000) 0))
  | 1 => some (.int (s_wk (a - 1000)))
  | _ => none) else none
def s_txs : List (List Int32) := [[32, 98, 101, 97, 114, 115, 32], [32, 111, 102, 32], [32, 119, 101, 101, 112, 115]]
def s_gf (own : Nat) (pc : Nat) (c k : Nat) (L : s_L) (st : List Value) (h : s_H) : Option s_O := s_r1 st fun a r => match Nat.beq c 10 with
  | true => (match s_sv a k with
    | some v => s_nx pc L (v :: r) h
    | none => none)
  | false => (match s_isG h a c with
    | true => s_nx pc L (s_pv h (s_ft c k) a k :: r) h
    | false => none)
def s_pf (own : Nat) (ini : Bool) (pc c k : Nat) (L : s_L) (st : List Value) (h : s_H) : Option s_O := match (!(s_fi c k)) || (ini && Nat.beq own c) with
  | false => none
  | true => (match st with
    | v :: .ref a :: r => (match s_isG h a c with
      | false => none
      | true => (match s_ft c k, v with
        | 0, .int x => s_nx pc L r (s_wI h a k x)
        | 1, .int x => if x = 0 ∨ x = 1 then s_nx pc L r (s_wI h a k x) else none
        | 2, .long x => s_nx pc L r (s_wL h a k x)
        | 3, .ref b => s_nx pc L r (s_wR h a k (some b))
        | 3, .null => s_nx pc L r (s_wR h a k none)
        | _, _ => none))
    | _ => none)
-- rows
def s_iald (pc : Nat) (L : s_L) (st : List Value) (h : s_H) : Option s_O := s_ir st fun i a r => match Nat.beq a 1200 && !h.2.2.1 with
  | true => if i < 0 ∨ (h.2.2.2.1 1201 0).toNatClampNeg ≤ i.toNatClampNeg then none else s_nx pc L (.int (h.2.2.2.1 1200 i.toNatClampNeg) :: r) h
  | false => (match s_isG h a 101 with
    | true => if i < 0 ∨ s_len a ≤ i.toNatClampNeg then none else s_nx pc L (.int (h.2.2.2.1 a i.toNatClampNeg) :: r) h
    | false => none)
def s_bald (pc : Nat) (L : s_L) (st : List Value) (h : s_H) : Option s_O := s_ir st fun i a r => match s_isG h a 100 || s_isG h a 103 with
  | true => if i < 0 ∨ s_len a ≤ i.toNatClampNeg then none else s_nx pc L (.int (h.2.2.2.1 a i.toNatClampNeg) :: r) h
  | false => none
def s_lald (pc : Nat) (L : s_L) (st : List Value) (h : s_H) : Option s_O := s_ir st fun i a r => match s_isG h a 102 with
  | true => if i < 0 ∨ s_len a ≤ i.toNatClampNeg then none else s_nx pc L (.long (h.2.2.2.2.1 a i.toNatClampNeg) :: r) h
  | false => none
def s_aald (pc : Nat) (L : s_L) (st : List Value) (h : s_H) : Option s_O := s_ir st fun i a r => match Nat.beq a 1100 with
  | true => if i < 0 ∨ 29 ≤ i.toNatClampNeg then none else s_nx pc L (.ref (1000 + i.toNatClampNeg) :: r) h
  | false => (match s_isG h a 104 || s_isG h a 105 || s_isG h a 106 with
    | true => if i < 0 ∨ s_len a ≤ i.toNatClampNeg then none else s_nx pc L (va_rf (h.2.2.2.2.2 a i.toNatClampNeg) :: r) h
    | false => none)
def s_iast (pc : Nat) (L : s_L) (st : List Value) (h : s_H) : Option s_O := s_i1 st fun x st1 => s_ir st1 fun i a r => match s_isG h a 101 with
  | true => if i < 0 ∨ s_len a ≤ i.toNatClampNeg then none else s_nx pc L r (s_wI h a i.toNatClampNeg x)
  | false => none
def s_bast (pc : Nat) (L : s_L) (st : List Value) (h : s_H) : Option s_O := s_i1 st fun x st1 => s_ir st1 fun i a r => match s_isG h a 100 with
  | true => if i < 0 ∨ s_len a ≤ i.toNatClampNeg then none else s_nx pc L r (s_wI h a i.toNatClampNeg x.toInt8.toInt32)
  | false => (match s_isG h a 103 with
    | true => if i < 0 ∨ s_len a ≤ i.toNatClampNeg then none else s_nx pc L r (s_wI h a i.toNatClampNeg (x &&& 1))
    | false => none)
def s_last (pc : Nat) (L : s_L) (st : List Value) (h : s_H) : Option s_O := s_l1 st fun x st1 => s_ir st1 fun i a r => match s_isG h a 102 with
  | true => if i < 0 ∨ s_len a ≤ i.toNatClampNeg then none else s_nx pc L r (s_wL h a i.toNatClampNeg x)
  | false => none
-- a word into a row of words, a state into a row of states, an image into a row of images
def s_okR (h : s_H) (a b : Nat) : Bool := match s_isG h a 104 with
  | true => Nat.ble 1000 b && Nat.blt b 1029
  | false => (s_isG h a 105 && s_isG h b 8) || (s_isG h a 106 && s_isG h b 5)
def s_aast (pc : Nat) (L : s_L) (st : List Value) (h : s_H) : Option s_O := match st with
  | v :: .int i :: .ref a :: r => (match s_isG h a 104 || s_isG h a 105 || s_isG h a 106 with
    | true => if i < 0 ∨ s_len a ≤ i.toNatClampNeg then none else (match v with
      | .null => s_nx pc L r (s_wR h a i.toNatClampNeg none)
      | .ref b => (match s_okR h a b with
        | true => s_nx pc L r (s_wR h a i.toNatClampNeg (some b))
        | false => none)
      | _ => none)
    | false => none)
  | _ => none
def s_alen (pc : Nat) (L : s_L) (st : List Value) (h : s_H) : Option s_O := s_r1 st fun a r => match Nat.beq a 1200 && !h.2.2.1 with
  | true => s_nx pc L (.int (h.2.2.2.1 1201 0) :: r) h
  | false => (match Nat.beq a 1100 with
    | true => s_nx pc L (.int 29 :: r) h
    | false => (match Nat.blt a h.1 with
      | true => (match s_Gs[a]? with
        | some (k, n) => (match Nat.ble 100 k with
          | true => s_nx pc L (.int (Int32.ofNat n) :: r) h
          | false => none)
        | none => none)
      | false => none))
-- making
def s_mk (h : s_H) (k n : Nat) : Bool := h.2.2.1 && (match s_Gs[h.1]? with
  | some (j, x) => Nat.beq j k && Nat.beq x n
  | none => false)
def s_aty (t : ArrayType) : Nat := match t with
  | .byte => 100
  | .int => 101
  | .long => 102
  | .boolean => 103
  | _ => 99
def s_mka (pc : Nat) (k : Nat) (L : s_L) (st : List Value) (h : s_H) : Option s_O := s_i1 st fun x r => if x < 0 then none else (match s_mk h k x.toNatClampNeg with
  | true => s_nx pc L (.ref h.1 :: r) (s_new h x.toNatClampNeg)
  | false => none)
def s_rk (c : Nat) : Nat := match c with
  | 10 => 104
  | 8 => 105
  | 5 => 106
  | _ => 99
def s_mko (pc c : Nat) (L : s_L) (st : List Value) (h : s_H) : Option s_O := match Nat.beq c 10 with
  | true => none
  | false => (match s_fts[c]? with
    | some l => (match s_mk h c 0 with
      | true => s_nx pc L (.ref h.1 :: st) (s_new h l.length)
      | false => none)
    | none => none)
-- arraycopy between rows of one kind
def s_acp (pc : Nat) (L : s_L) (st : List Value) (h : s_H) : Option s_O := match st with
  | .int n :: .int dp :: .ref b :: .int sp :: .ref a :: r => if sp < 0 ∨ dp < 0 ∨ n < 0 ∨ s_len a < sp.toNatClampNeg + n.toNatClampNeg ∨ s_len b < dp.toNatClampNeg + n.toNatClampNeg ∨ 8 < s_cat r then none else
    (match s_isG h a 101 && s_isG h b 101 with
    | true => s_nx pc L r (h.1, h.2.1, h.2.2.1, s_row h.2.2.2.1 b (va_cpy (h.2.2.2.1 a) (h.2.2.2.1 b) sp.toNatClampNeg dp.toNatClampNeg n.toNatClampNeg), h.2.2.2.2.1, h.2.2.2.2.2)
    | false => (match s_isG h a 102 && s_isG h b 102 with
      | true => s_nx pc L r (h.1, h.2.1, h.2.2.1, h.2.2.2.1, s_row h.2.2.2.2.1 b (va_cpy (h.2.2.2.2.1 a) (h.2.2.2.2.1 b) sp.toNatClampNeg dp.toNatClampNeg n.toNatClampNeg), h.2.2.2.2.2)
      | false => none))
  | _ => none
def s_call (md n : Nat) (st : List Value) : Option s_O := match Nat.ble n st.length && Nat.ble (s_cat (st.drop n)) 8 with
  | true => some (.inr (.inr (md, (st.take n).reverse, st.drop n)))
  | false => none
-- a call by its row of the constant pool: kind, method, parameters; 'w' what the instruction is (0 virtual, 1 static, 2 special)
def s_inv (w pc : Nat) (e : Nat × Nat × Nat) (L : s_L) (st : List Value) (h : s_H) : Option s_O := match w, e with
  | 0, (0, md, n) => (match s_ms[md]?, st[n]? with
    | some q, some (.ref a) => (match s_isG h a q.2.2.2.2.1 with
      | true => s_call md (n + 1) st
      | false => none)
    | _, _ => none)
  | 1, (1, md, n) => s_call md n st
  | 2, (2, md, n) => (match st[n]? with
    | some (.ref _) => s_call md (n + 1) st
    | _ => none)
  | 2, (3, md, n) => (match st[n]? with
    | some (.ref _) => s_call md (n + 1) st
    | _ => none)
  | 2, (10, _, _) => s_r1 st fun _ r => (match Nat.ble (s_cat r) 8 with
    | true => s_nx pc L r h
    | false => none)
  | 1, (11, _, _) => s_acp pc L st h
  | 1, (14, _, _) => s_call 9999 4 st
  | 1, (15, _, _) => s_ii st fun x y r => (match Nat.ble (s_cat r) 8 with
    | true => s_nx pc L (.int (if y < x then y else x) :: r) h
    | false => none)
  | 1, (16, _, _) => s_ii st fun x y r => (match Nat.ble (s_cat r) 8 with
    | true => s_nx pc L (.int (if x < y then y else x) :: r) h
    | false => none)
  | 0, (12, _, _) => s_r1 st fun a r => if a < 1300 then none else (match s_txs[a - 1300]? with
    | some t => (match Nat.ble (s_cat r) 8 with
      | true => s_nx pc L (.int (Int32.ofNat t.length) :: r) h
      | false => none)
    | none => none)
  | 0, (13, _, _) => s_ir st fun i a r => if a < 1300 then none else (match s_txs[a - 1300]? with
    | some t => (match Nat.ble (s_cat r) 8 with
      | true => if i < 0 ∨ t.length ≤ i.toNatClampNeg then none else s_nx pc L (.int (t.getD i.toNatClampNeg 0) :: r) h
      | false => none)
    | none => none)
  | _, _ => none
def s_ret (rt : Option FieldType) (st : List Value) : Option s_O := match rt, st with
  | some .int, [.int x] => some (.inr (.inl (some (some (.int x)))))
  | some .boolean, [.int x] => if x = 0 ∨ x = 1 then some (.inr (.inl (some (some (.int x))))) else none
  | _, _ => none
def s_ex (cp : s_C) (own : Nat) (ini : Bool) (rt : Option FieldType) (pc : Nat) (i : Instr) (tg : Nat) (L : s_L) (st : List Value) (h : s_H) : Option s_O := match i with
  | .aconst_null => s_nx (pc + 1) L (.null :: st) h
  | .iconst n => s_nx (pc + 1) L (.int (Int32.ofInt n) :: st) h
  | .bipush n => s_nx (pc + 2) L (.int (Int8.ofInt n).toInt32 :: st) h
  | .sipush n => s_nx (pc + 3) L (.int (Int16.ofInt n).toInt32 :: st) h
  | .lconst n => s_nx (pc + 1) L (.long (Int64.ofNat (n : Nat)) :: st) h
  | .iload_n k => s_ild L k.val (pc + 1) st h
  | .iload k => s_ild L k (pc + 2) st h
  | .lload_n k => s_lld L k.val (pc + 1) st h
  | .lload k => s_lld L k (pc + 2) st h
  | .aload_n k => s_ald L k.val (pc + 1) st h
  | .aload k => s_ald L k (pc + 2) st h
  | .istore_n k => s_ist L k.val (pc + 1) st h
  | .istore k => s_ist L k (pc + 2) st h
  | .lstore_n k => s_lst L k.val (pc + 1) st h
  | .lstore k => s_lst L k (pc + 2) st h
  | .astore_n k => s_ast L k.val (pc + 1) st h
  | .astore k => s_ast L k (pc + 2) st h
  | .iinc k n => (match L[k]? with
    | some (some (.int x)) => s_nx (pc + 3) (s_s1 L k (.int (x + Int32.ofInt n))) st h
    | _ => none)
  | .iadd => s_ii st fun x y r => s_nx (pc + 1) L (.int (x + y) :: r) h
  | .isub => s_ii st fun x y r => s_nx (pc + 1) L (.int (x - y) :: r) h
  | .imul => s_ii st fun x y r => s_nx (pc + 1) L (.int (x * y) :: r) h
  | .iand => s_ii st fun x y r => s_nx (pc + 1) L (.int (x &&& y) :: r) h
  | .ior => s_ii st fun x y r => s_nx (pc + 1) L (.int (x ||| y) :: r) h
  | .ixor => s_ii st fun x y r => s_nx (pc + 1) L (.int (x ^^^ y) :: r) h
  | .idiv => s_ii st fun x y r => if y = 0 then none else s_nx (pc + 1) L (.int (x / y) :: r) h
  | .irem => s_ii st fun x y r => if y = 0 then none else s_nx (pc + 1) L (.int (x - x / y * y) :: r) h
  | .ineg => s_i1 st fun x r => s_nx (pc + 1) L (.int (-x) :: r) h
  | .ishl => s_ii st fun x y r => s_nx (pc + 1) L (.int (x <<< (y &&& 31)) :: r) h
  | .ishr => s_ii st fun x y r => s_nx (pc + 1) L (.int (x >>> (y &&& 31)) :: r) h
  | .iushr => s_ii st fun x y r => s_nx (pc + 1) L (.int (x.toUInt32 >>> (y.toUInt32 &&& Int32.toUInt32 31)).toInt32 :: r) h
  | .ladd => s_ll st fun x y r => s_nx (pc + 1) L (.long (x + y) :: r) h
  | .lsub => s_ll st fun x y r => s_nx (pc + 1) L (.long (x - y) :: r) h
  | .lmul => s_ll st fun x y r => s_nx (pc + 1) L (.long (x * y) :: r) h
  | .land => s_ll st fun x y r => s_nx (pc + 1) L (.long (x &&& y) :: r) h
  | .ldiv => s_ll st fun x y r => if y = 0 then none else s_nx (pc + 1) L (.long (x / y) :: r) h
  | .lrem => s_ll st fun x y r => if y = 0 then none else s_nx (pc + 1) L (.long (x - x / y * y) :: r) h
  | .lshr => s_i1 st fun y r1 => s_l1 r1 fun x r => s_nx (pc + 1) L (.long (x >>> (y.toInt64 &&& 63)) :: r) h
  | .lcmp => s_ll st fun x y r => s_nx (pc + 1) L (.int (lg_cmp x y) :: r) h
  | .i2l => s_i1 st fun x r => s_nx (pc + 1) L (.long x.toInt64 :: r) h
  | .l2i => s_l1 st fun x r => s_nx (pc + 1) L (.int x.toInt32 :: r) h
  | .i2b => s_i1 st fun x r => s_nx (pc + 1) L (.int x.toInt8.toInt32 :: r) h
  | .dup => (match st with
    | v :: r => (match s_c1 v with
      | true => s_nx (pc + 1) L (v :: v :: r) h
      | false => none)
    | _ => none)
  | .dup2 => (match st with
    | v :: w :: r => (match s_c1 v && s_c1 w with
      | true => s_nx (pc + 1) L (v :: w :: v :: w :: r) h
      | false => none)
    | _ => none)
  | .pop => (match st with
    | v :: r => (match s_c1 v with
      | true => s_nx (pc + 1) L r h
      | false => none)
    | _ => none)
  | .ifCond o _ => s_i1 st fun x r => (match o with
    | .eq => s_br (x = 0) tg pc L r h
    | .ne => s_br (¬ x = 0) tg pc L r h
    | .lt => s_br (x < 0) tg pc L r h
    | .ge => s_br (0 ≤ x) tg pc L r h
    | .gt => s_br (0 < x) tg pc L r h
    | .le => s_br (x ≤ 0) tg pc L r h)
  | .if_icmp o _ => s_ii st fun x y r => (match o with
    | .eq => s_br (x = y) tg pc L r h
    | .ne => s_br (¬ x = y) tg pc L r h
    | .lt => s_br (x < y) tg pc L r h
    | .ge => s_br (y ≤ x) tg pc L r h
    | .gt => s_br (y < x) tg pc L r h
    | .le => s_br (x ≤ y) tg pc L r h)
  | .if_acmp o _ => (match st with
    | v :: w :: r => (match s_ow v, s_ow w with
      | some ry, some rx => (match o with
        | .eq => s_br (rx = ry) tg pc L r h
        | .ne => s_br (¬ rx = ry) tg pc L r h)
      | _, _ => none)
    | _ => none)
  | .ifnull _ => (match st with
    | .ref _ :: r => s_nx (pc + 3) L r h
    | .null :: r => s_nx tg L r h
    | _ => none)
  | .ifnonnull _ => (match st with
    | .ref _ :: r => s_nx tg L r h
    | .null :: r => s_nx (pc + 3) L r h
    | _ => none)
  | .goto _ => s_nx tg L st h
  | .tableswitch d lo hi offs => s_i1 st fun x r => if hi + 1 = lo + (offs.toList.length : Int) then s_ts x.toInt pc L r h d lo offs.toList else none
  | .lookupswitch d ps => s_i1 st fun x r => s_ls x.toInt pc L r h d ps.toList
  | .getfield x => (match s_look cp.1 x with
    | some (c, k) => s_gf own (pc + 3) c k L st h
    | none => none)
  | .putfield x => (match s_look cp.1 x with
    | some (c, k) => s_pf own ini (pc + 3) c k L st h
    | none => none)
  | .getstatic x => (match s_look cp.2.1 x with
    | some v => s_nx (pc + 3) L (v :: st) h
    | none => none)
  | .ldc x => (match s_look cp.2.2.2.2 x with
    | some (.int v) => s_nx (pc + 2) L (.int v :: st) h
    | some (.ref v) => s_nx (pc + 2) L (.ref v :: st) h
    | _ => none)
  | .ldc_w x => (match s_look cp.2.2.2.2 x with
    | some (.int v) => s_nx (pc + 3) L (.int v :: st) h
    | some (.ref v) => s_nx (pc + 3) L (.ref v :: st) h
    | _ => none)
  | .ldc2_w x => (match s_look cp.2.2.2.2 x with
    | some (.long v) => s_nx (pc + 3) L (.long v :: st) h
    | _ => none)
  | .iaload => s_iald (pc + 1) L st h
  | .baload => s_bald (pc + 1) L st h
  | .laload => s_lald (pc + 1) L st h
  | .aaload => s_aald (pc + 1) L st h
  | .iastore => s_iast (pc + 1) L st h
  | .bastore => s_bast (pc + 1) L st h
  | .lastore => s_last (pc + 1) L st h
  | .aastore => s_aast (pc + 1) L st h
  | .arraylength => s_alen (pc + 1) L st h
  | .newarray t => s_mka (pc + 2) (s_aty t) L st h
  | .anewarray x => (match s_look cp.2.2.2.1 x with
    | some c => s_mka (pc + 3) (s_rk c) L st h
    | none => none)
  | .new x => (match s_look cp.2.2.2.1 x with
    | some c => s_mko (pc + 3) c L st h
    | none => (match Nat.beq own 11 with
      | true => some (.inr (.inl none))
      | false => none))
  | .invokevirtual x => (match s_look cp.2.2.1 x with
    | some e => s_inv 0 (pc + 3) e L st h
    | none => none)
  | .invokestatic x => (match s_look cp.2.2.1 x with
    | some e => s_inv 1 (pc + 3) e L st h
    | none => none)
  | .invokespecial x => (match s_look cp.2.2.1 x with
    | some e => s_inv 2 (pc + 3) e L st h
    | none => none)
  | .ireturn => s_ret rt st
  | .lreturn => (match rt, st with
    | some .long, [.long x] => some (.inr (.inl (some (some (.long x)))))
    | _, _ => none)
  | .areturn => (match rt, st with
    | some (.object _), [.ref x] => some (.inr (.inl (some (some (.ref x)))))
    | some (.object _), [.null] => some (.inr (.inl (some (some .null))))
    | _, _ => none)
  | .return_ => (match rt, st with
    | none, [] => some (.inr (.inl (some none)))
    | _, _ => none)
  | _ => none
-- where a run may end, and which instructions are calls (which kind, which row of the constant pool)
def s_isE (i : Instr) : Bool := match i with
  | .ireturn => true
  | .lreturn => true
  | .areturn => true
  | .return_ => true
  | .new _ => true
  | _ => false
def s_iv (i : Instr) : Option (Nat × Nat) := match i with
  | .invokevirtual x => some (0, x)
  | .invokestatic x => some (1, x)
  | .invokespecial x => some (2, x)
  | _ => none
-- a heap grows
def s_mo (h h1 : s_H) : Bool := Nat.ble h.1 h1.1 && Nat.ble h.2.1 h1.2.1 && ((h.2.2.1 && h1.2.2.1) || (!h.2.2.1 && !h1.2.2.1))
-- a step: the next place, or what a call comes to
def s_one (run : Nat → s_M → Nat → s_L → List Value → s_H → Option (Nat × Option (Option Value) × s_H)) (d : Nat) (q : s_M) (pc : Nat) (L : s_L) (st : List Value) (h : s_H) : Option ((Nat × s_L × List Value × s_H) ⊕ Option (Option Value)) := match s_look q.2.2.2.2.2.2 pc, s_cps[q.2.2.2.2.1]? with
  | some (i, _, tg), some cp => (match s_ex cp q.2.2.2.2.1 q.2.2.2.2.2.1 q.2.2.2.1 pc i tg L st h with
    | some (.inl (pc1, L1, st1, h1)) => (match s_mo h h1 with
      | true => some (.inl (pc1, L1, st1, h1))
      | false => none)
    | some (.inr (.inl r)) => (match s_isE i with
      | true => some (.inr r)
      | false => none)
    | some (.inr (.inr (md, vs, rest))) => (match s_iv i with
      | none => none
      | some _ => (match d, s_ms[md]? with
        | d1 + 1, some q1 => (match Nat.ble (s_en vs).length q1.2.2.1 with
          | true => (match run d1 q1 0 (s_ent vs q1.2.2.1) [] h with
            | some (_, some v, h1) => some (.inl (pc + 3, L, v.toList ++ rest, h1))
            | _ => none)
          | false => none)
        | _, _ => none))
    | none => none)
  | _, _ => none
-- a run: 'd' how deep calls may go, 'f' how many steps; its end: where, what it gives, the heap
def s_run : Nat → Nat → s_M → Nat → s_L → List Value → s_H → Option (Nat × Option (Option Value) × s_H)
  | 0, _, _, _, _, _, _ => none
  | f + 1, d, q, pc, L, st, h => match s_one (s_run f) d q pc L st h with
    | some (.inl (pc1, L1, st1, h1)) => s_run f d q pc1 L1 st1 h1
    | some (.inr r) => some (pc, r, h)
    | none => none
end
section
-- how the pure machine's cells lie in the heap
def s_v (ρ : Nat → Nat) (v : Value) : Value := match v with
  | .ref a => .ref (ρ a)
  | w => w
theorem s_v_cat (ρ : Nat → Nat) (v : Value) : (s_v ρ v).category = v.category := by cases v <;> rfl
theorem s_cat_map (ρ : Nat → Nat) (st : List Value) : ((st.map (s_v ρ)).map fun v => v.category).sum = s_cat st := by
  induction st with
  | nil => rfl
  | cons v r ih => simp only [List.map_cons, List.sum_cons, s_cat, s_v_cat, ih]
def s_nf (k : Nat) : Nat := match s_fts[k]? with
  | some l => l.length
  | none => 0
def s_ar (ρ : Nat → Nat) (h : s_H) (a k : Nat) : (Nat → Int32) ⊕ (Nat → Int64) ⊕ (Nat → UInt32) ⊕ (Nat → UInt64) ⊕ (Nat → Option Nat) :=
  if k = 102 then .inr (.inl (h.2.2.2.2.1 a)) else if 104 ≤ k then .inr (.inr (.inr (.inr (fun j => (h.2.2.2.2.2 a j).map ρ)))) else .inl (h.2.2.2.1 a)
def s_fs (ρ : Nat → Nat) (h : s_H) (a k : Nat) : List Value := (List.range (s_nf k)).map (fun j => s_v ρ (s_pv h (s_ft k j) a j))
def s_E (ρ : Nat → Nat) (cid : Nat → ClassId) (h : s_H) (a : Nat) : va_E := match s_Gs[a]? with
  | some (k, n) => if k < 100 then .inr (k, s_fs ρ h a k) else .inl (cid k, n, s_ar ρ h a k)
  | none => .inr (0, [])
def s_w (base : Nat) (ρ : Nat → Nat) (cid : Nat → ClassId) (h : s_H) : va_W := (List.range h.1).map (fun a => (base + a, s_E ρ cid h a))
theorem s_w_at {base : Nat} {ρ : Nat → Nat} {cid : Nat → ClassId} {h : s_H} {a : Nat} (ha : a < h.1) : (s_w base ρ cid h)[a]? = some (base + a, s_E ρ cid h a) := by
  unfold s_w
  rw [List.getElem?_map, List.getElem?_range ha]
  rfl
theorem s_w_inv {base : Nat} {ρ : Nat → Nat} {cid : Nat → ClassId} {h : s_H} {i : Nat} {q : Nat × va_E} (hq : (s_w base ρ cid h)[i]? = some q) : i < h.1 ∧ q = (base + i, s_E ρ cid h i) := by
  have hi : i < h.1 := by
    have h1 := (List.getElem?_eq_some_iff.mp hq).1
    unfold s_w at h1
    rw [List.length_map, List.length_range] at h1
    exact h1
  rw [s_w_at hi] at hq
  exact ⟨hi, (Option.some.inj hq).symm⟩
theorem s_w_set {base : Nat} {ρ : Nat → Nat} {cid : Nat → ClassId} {h h' : s_H} {a : Nat} (hn : h'.1 = h.1) (ha : a < h.1) (ho : ∀ b, b ≠ a → s_E ρ cid h' b = s_E ρ cid h b) : (s_w base ρ cid h).set a (base + a, s_E ρ cid h' a) = s_w base ρ cid h' := by
  apply List.ext_getElem?
  intro i
  rw [List.getElem?_set]
  by_cases hi : a = i
  · subst hi
    rw [if_pos rfl, s_w_at (h := h') (by rw [hn]; exact ha)]
    have : a < (s_w base ρ cid h).length := by unfold s_w; rw [List.length_map, List.length_range]; exact ha
    rw [if_pos this]
  · rw [if_neg hi]
    by_cases h2 : i < h.1
    · rw [s_w_at h2, s_w_at (h := h') (by rw [hn]; exact h2), ho i (fun q => hi q.symm)]
    · have e1 : (s_w base ρ cid h)[i]? = none := by
        apply List.getElem?_eq_none
        unfold s_w; rw [List.length_map, List.length_range]; omega
      have e2 : (s_w base ρ cid h')[i]? = none := by
        apply List.getElem?_eq_none
        unfold s_w; rw [List.length_map, List.length_range, hn]; omega
      rw [e1, e2]
theorem s_w_D {base : Nat} {ρ : Nat → Nat} {cid : Nat → ClassId} {h : s_H} : va_D (fun q : Nat => base ≤ q) (s_w base ρ cid h) := by
  refine ⟨fun i j x y hx hy e => ?_, fun k x hx => ?_⟩
  · obtain ⟨-, rfl⟩ := s_w_inv hx
    obtain ⟨-, rfl⟩ := s_w_inv hy
    simpa using e
  · obtain ⟨-, rfl⟩ := s_w_inv hx
    exact Nat.le_add_right _ _
theorem s_E_congr {ρ : Nat → Nat} {cid : Nat → ClassId} {h h' : s_H} {a : Nat} (h1 : h'.2.2.2.1 a = h.2.2.2.1 a) (h2 : h'.2.2.2.2.1 a = h.2.2.2.2.1 a) (h3 : h'.2.2.2.2.2 a = h.2.2.2.2.2 a) : s_E ρ cid h' a = s_E ρ cid h a := by
  have e1 : ∀ k j, s_pv h' k a j = s_pv h k a j := by
    intro k j
    unfold s_pv
    rw [h1, h2, h3]
  unfold s_E s_fs s_ar
  simp only [e1, h1, h2, h3]
theorem s_up_s {α : Type} (f : Nat → Nat → α) (a k : Nat) (v : α) : s_up f a k v a = va_up (f a) k v := by
  unfold s_up; rw [Nat.beq_refl]
theorem s_up_n {α : Type} (f : Nat → Nat → α) {a b : Nat} (k : Nat) (v : α) (hb : b ≠ a) : s_up f a k v b = f b := by
  have : Nat.beq b a = false := by
    cases hq : Nat.beq b a with
    | false => rfl
    | true => exact absurd (Nat.eq_of_beq_eq_true hq) hb
  unfold s_up; rw [this]
theorem s_row_s {α : Type} (f : Nat → Nat → α) (a : Nat) (g : Nat → α) : s_row f a g a = g := by
  unfold s_row; rw [Nat.beq_refl]
theorem s_row_n {α : Type} (f : Nat → Nat → α) {a b : Nat} (g : Nat → α) (hb : b ≠ a) : s_row f a g b = f b := by
  have : Nat.beq b a = false := by
    cases hq : Nat.beq b a with
    | false => rfl
    | true => exact absurd (Nat.eq_of_beq_eq_true hq) hb
  unfold s_row; rw [this]
theorem s_cl0_s {α : Type} (f : Nat → Nat → α) (a : Nat) (v : α) : s_cl0 f a v a = fun _ => v := by
  unfold s_cl0; rw [Nat.beq_refl]
theorem s_cl0_n {α : Type} (f : Nat → Nat → α) {a b : Nat} (v : α) (hb : b ≠ a) : s_cl0 f a v b = f b := by
  have : Nat.beq b a = false := by
    cases hq : Nat.beq b a with
    | false => rfl
    | true => exact absurd (Nat.eq_of_beq_eq_true hq) hb
  unfold s_cl0; rw [this]
theorem s_Gs_lt {a : Nat} {x : Nat × Nat} (h : s_Gs[a]? = some x) : a < 153 := (List.getElem?_eq_some_iff.mp h).1
theorem s_isG_of {h : s_H} {a k : Nat} (hg : s_isG h a k = true) : a < h.1 ∧ s_Gs[a]? = some (k, s_len a) := by
  unfold s_isG at hg
  cases h1 : Nat.blt a h.1 with
  | false => rw [h1] at hg; cases hg
  | true =>
    rw [h1] at hg
    have h2 : a < h.1 := Nat.lt_of_succ_le (by simpa [Nat.blt] using h1)
    refine ⟨h2, ?_⟩
    unfold s_len
    cases hs : s_Gs[a]? with
    | none => rw [hs] at hg; cases hg
    | some x =>
      rw [hs] at hg
      obtain ⟨j, n⟩ := x
      have : j = k := Nat.eq_of_beq_eq_true hg
      rw [this]
theorem s_E_obj {ρ : Nat → Nat} {cid : Nat → ClassId} {h : s_H} {a k : Nat} (hg : s_isG h a k = true) (hk : k < 100) : s_E ρ cid h a = .inr (k, s_fs ρ h a k) := by
  unfold s_E
  rw [(s_isG_of hg).2]
  simp only [if_pos hk]
theorem s_E_arr {ρ : Nat → Nat} {cid : Nat → ClassId} {h : s_H} {a k n : Nat} (hg : s_Gs[a]? = some (k, n)) (hk : 100 ≤ k) : s_E ρ cid h a = .inl (cid k, n, s_ar ρ h a k) := by
  unfold s_E
  rw [hg]
  simp only [if_neg (Nat.not_lt.mpr hk)]
theorem s_fs_at {ρ : Nat → Nat} {h : s_H} {a c k : Nat} (hk : k < s_nf c) : (s_fs ρ h a c)[k]? = some (s_v ρ (s_pv h (s_ft c k) a k)) := by
  unfold s_fs
  rw [List.getElem?_map, List.getElem?_range hk]
  rfl
theorem s_fs_len {ρ : Nat → Nat} {h : s_H} {a c : Nat} : (s_fs ρ h a c).length = s_nf c := by
  unfold s_fs
  rw [List.length_map, List.length_range]
theorem s_fs_set {ρ : Nat → Nat} {h h' : s_H} {a c k : Nat} (hk : k < s_nf c) (ho : ∀ j, j ≠ k → s_pv h' (s_ft c j) a j = s_pv h (s_ft c j) a j) : (s_fs ρ h a c).set k (s_v ρ (s_pv h' (s_ft c k) a k)) = s_fs ρ h' a c := by
  apply List.ext_getElem?
  intro i
  rw [List.getElem?_set]
  by_cases hi : k = i
  · subst hi
    rw [if_pos rfl, s_fs_len, if_pos hk, s_fs_at hk]
  · rw [if_neg hi]
    by_cases h2 : i < s_nf c
    · rw [s_fs_at h2, s_fs_at h2, ho i (fun q => hi q.symm)]
    · rw [List.getElem?_eq_none (by rw [s_fs_len]; omega), List.getElem?_eq_none (by rw [s_fs_len]; omega)]
theorem s_v_rf (ρ : Nat → Nat) (r : Option Nat) : s_v ρ (va_rf r) = va_rf (r.map ρ) := by cases r <;> rfl
-- locals
def s_as (ρ : Nat → Nat) : Nat → s_L → List (Nat × Value)
  | _, [] => []
  | i, none :: r => s_as ρ (i + 1) r
  | i, some v :: r => (i, s_v ρ v) :: s_as ρ (i + 1) r
theorem s_as_mem {ρ : Nat → Nat} : ∀ (L : s_L) (j i : Nat) (v : Value), L[i]? = some (some v) → (j + i, s_v ρ v) ∈ s_as ρ j L := by
  intro L
  induction L with
  | nil => intro j i v h; simp at h
  | cons x r ih =>
    intro j i v h
    cases i with
    | zero =>
      have : x = some v := by simpa using h
      subst this
      exact List.mem_cons_self
    | succ i =>
      have h2 : r[i]? = some (some v) := by simpa using h
      have h3 := ih (j + 1) i v h2
      have e : j + 1 + i = j + (i + 1) := by omega
      rw [e] at h3
      cases x with
      | none => exact h3
      | some w => exact List.mem_cons_of_mem _ h3
theorem s_as_inv {ρ : Nat → Nat} : ∀ (L : s_L) (j : Nat) (q : Nat × Value), q ∈ s_as ρ j L → ∃ (i : Nat) (v : Value), L[i]? = some (some v) ∧ q = (j + i, s_v ρ v) := by
  intro L
  induction L with
  | nil => intro j q h; cases h
  | cons x r ih =>
    intro j q h
    cases x with
    | none =>
      obtain ⟨i, v, h1, h2⟩ := ih (j + 1) q h
      exact ⟨i + 1, v, by simpa using h1, by rw [h2]; congr 1; omega⟩
    | some w =>
      rcases List.mem_cons.mp h with h | h
      · exact ⟨0, w, by simp, h⟩
      · obtain ⟨i, v, h1, h2⟩ := ih (j + 1) q h
        exact ⟨i + 1, v, by simpa using h1, by rw [h2]; congr 1; omega⟩
theorem lv_mono {ls : Array Slot} {nL : Nat} {l l' : List (Nat × Value)} (h : lv_has ls nL l) (hm : ∀ q ∈ l', q ∈ l) : lv_has ls nL l' := ⟨h.1, h.2.1, fun q hq => h.2.2 q (hm q hq)⟩
theorem s_s1_len (L : s_L) (i : Nat) (v : Value) : (s_s1 L i v).length = L.length := by
  unfold s_s1
  cases i with
  | zero => simp
  | succ j =>
    dsimp only
    split <;> simp
theorem s_s2_len (L : s_L) (i : Nat) (v : Value) : (s_s2 L i v).length = L.length := by
  unfold s_s2
  rw [List.length_set, s_s1_len]
theorem s_s1_at {L : s_L} {i j : Nat} {v w : Value} (h : (s_s1 L i v)[j]? = some (some w)) : (j = i ∧ w = v) ∨ (j ≠ i ∧ L[j]? = some (some w) ∧ ¬ (j + 1 = i ∧ w.category = 2)) := by
  unfold s_s1 at h
  cases i with
  | zero =>
    dsimp only at h
    rw [List.getElem?_set] at h
    by_cases hj : 0 = j
    · rw [if_pos hj] at h
      split at h
      · exact Or.inl ⟨hj.symm, (Option.some.inj (Option.some.inj h)).symm⟩
      · cases h
    · rw [if_neg hj] at h
      exact Or.inr ⟨fun q => hj q.symm, h, fun q => by omega⟩
  | succ k =>
    dsimp only at h
    have two : ∀ (M : s_L), (M = L ∨ M = L.set k none) → (M.set (k + 1) (some v))[j]? = some (some w) → (∀ x, L[k]? = some (some x) → x.category = 2 → M = L.set k none) → (j = k + 1 ∧ w = v) ∨ (j ≠ k + 1 ∧ L[j]? = some (some w) ∧ ¬ (j + 1 = k + 1 ∧ w.category = 2)) := by
      intro M hM g hc
      rw [List.getElem?_set] at g
      by_cases hj : k + 1 = j
      · rw [if_pos hj] at g
        split at g
        · exact Or.inl ⟨hj.symm, (Option.some.inj (Option.some.inj g)).symm⟩
        · cases g
      · rw [if_neg hj] at g
        refine Or.inr ⟨fun q => hj q.symm, ?_, fun q => ?_⟩
        · rcases hM with hM | hM
          · rw [hM] at g
            exact g
          · rw [hM, List.getElem?_set] at g
            by_cases hk : k = j
            · rw [if_pos hk] at g
              split at g <;> cases g
            · rw [if_neg hk] at g
              exact g
        · have hjk : j = k := by omega
          subst hjk
          have e2 : M = L.set j none := by
            rcases hM with hM | hM
            · rw [hM] at g
              exact hc w g q.2
            · exact hM
          rw [e2, List.getElem?_set] at g
          simp at g
    split at h
    · exact two _ (Or.inr rfl) h (fun _ _ _ => rfl)
    · exact two _ (Or.inr rfl) h (fun _ _ _ => rfl)
    · rename_i hn1 hn2
      refine two _ (Or.inl rfl) h (fun x hx hc => ?_)
      cases x with
      | long z => exact absurd hx (hn1 z)
      | double z => exact absurd hx (hn2 z)
      | _ => cases hc
theorem s_st1 {ρ : Nat → Nat} {ls : Array Slot} {nL i : Nat} {L : s_L} {v : Value} (h : lv_has ls nL ((i, s_v ρ v) :: (s_as ρ 0 L).filter (fun q => !(q.1 == i) && !(q.1 + 1 == i && q.2.category == 2)))) : lv_has ls nL (s_as ρ 0 (s_s1 L i v)) := by
  refine lv_mono h (fun q hq => ?_)
  obtain ⟨j, w, h1, rfl⟩ := s_as_inv _ _ _ hq
  rw [Nat.zero_add]
  rcases s_s1_at h1 with ⟨rfl, rfl⟩ | ⟨hn, h2, h3⟩
  · exact List.mem_cons_self
  · refine List.mem_cons_of_mem _ (List.mem_filter.mpr ⟨?_, ?_⟩)
    · have := s_as_mem (ρ := ρ) L 0 j w h2
      rwa [Nat.zero_add] at this
    · simp only [Bool.and_eq_true, Bool.not_eq_true', beq_eq_false_iff_ne, ne_eq, Bool.and_eq_false_imp, beq_iff_eq, s_v_cat]
      exact ⟨hn, fun e c => h3 ⟨e, c⟩⟩
theorem s_s2_at {L : s_L} {i j : Nat} {v w : Value} (h : (s_s2 L i v)[j]? = some (some w)) : j ≠ i + 1 ∧ (s_s1 L i v)[j]? = some (some w) := by
  unfold s_s2 at h
  rw [List.getElem?_set] at h
  by_cases hj : i + 1 = j
  · rw [if_pos hj] at h
    split at h <;> cases h
  · rw [if_neg hj] at h
    exact ⟨fun q => hj q.symm, h⟩
theorem s_st2 {ρ : Nat → Nat} {ls : Array Slot} {nL i : Nat} {L : s_L} {v : Value} (h : lv_has ls nL ((i, s_v ρ v) :: (s_as ρ 0 L).filter (fun q => !(q.1 == i) && (!(q.1 == i + 1) && !(q.1 + 1 == i && q.2.category == 2))))) : lv_has ls nL (s_as ρ 0 (s_s2 L i v)) := by
  refine lv_mono h (fun q hq => ?_)
  obtain ⟨j, w, h1, rfl⟩ := s_as_inv _ _ _ hq
  rw [Nat.zero_add]
  obtain ⟨hj, h1⟩ := s_s2_at h1
  rcases s_s1_at h1 with ⟨rfl, rfl⟩ | ⟨hn, h2, h3⟩
  · exact List.mem_cons_self
  · refine List.mem_cons_of_mem _ (List.mem_filter.mpr ⟨?_, ?_⟩)
    · have := s_as_mem (ρ := ρ) L 0 j w h2
      rwa [Nat.zero_add] at this
    · simp only [Bool.and_eq_true, Bool.not_eq_true', beq_eq_false_iff_ne, ne_eq, Bool.and_eq_false_imp, beq_iff_eq, s_v_cat]
      exact ⟨hn, hj, fun e c => h3 ⟨e, c⟩⟩
theorem s_lat {ρ : Nat → Nat} {ls : Array Slot} {nL i : Nat} {L : s_L} {v : Value} (h : lv_has ls nL (s_as ρ 0 L)) (hv : L[i]? = some (some v)) : ls[i]? = some (.val (s_v ρ v)) := by
  have := s_as_mem (ρ := ρ) L 0 i v hv
  rw [Nat.zero_add] at this
  exact h.2.2 _ this
-- entry
theorem s_en_args {ρ : Nat → Nat} : ∀ (vs : List Value) (j : Nat), s_as ρ j (s_en vs) = lv_args j (vs.map (s_v ρ)) := by
  intro vs
  induction vs with
  | nil => intro j; rfl
  | cons v r ih =>
    intro j
    cases v <;> simp only [s_en, s_as, List.map_cons, lv_args, s_v, Value.category, ih] <;> first | rfl | simp
theorem s_as_app {ρ : Nat → Nat} : ∀ (L : s_L) (j n : Nat), s_as ρ j (L ++ List.replicate n none) = s_as ρ j L := by
  intro L
  induction L with
  | nil =>
    intro j n
    induction n generalizing j with
    | zero => rfl
    | succ n ih =>
      rw [List.nil_append, List.replicate_succ]
      have := ih (j + 1)
      rw [List.nil_append] at this
      exact this
  | cons x r ih =>
    intro j n
    cases x with
    | none => exact ih (j + 1) n
    | some v => exact congrArg (fun t => (j, s_v ρ v) :: t) (ih (j + 1) n)
theorem s_ent_as {ρ : Nat → Nat} (vs : List Value) (n : Nat) : s_as ρ 0 (s_ent vs n) = lv_args 0 (vs.map (s_v ρ)) := by
  unfold s_ent
  rw [s_as_app, s_en_args]
end
section
def s_cl2 : List vw_C := s_cl.set 10 (RX0, TX0, 7)
-- a class of objects
def s_tyc (t : FieldType) : Nat := match t with
  | .int => 0
  | .boolean => 1
  | .long => 2
  | .object _ => 3
  | .array _ => 3
  | _ => 8
def s_okK (c : Nat) (C : String) (T : u_T) (ty : Nat → FieldType) : Prop :=
  s_cl2[c]? = some (C, T, s_nf c) ∧ C = s_R c ∧ (∀ w ∈ u_ws C T (s_nf c), w ∈ lw_tbl ∧ goodWord w = true) ∧ (∀ k, k < s_nf c → parseFieldDescriptor (T k).2.2.1 = some (ty k)) ∧ (∀ a, a < s_nf c → ∀ b, b < s_nf c → a ≠ b → (T a).2.1 ≠ (T b).2.1) ∧ (∀ k, k < s_nf c → s_tyc (ty k) = s_ft c k) ∧ (∀ k, k < s_nf c → (T k).1 = C) ∧ (∀ k, k < s_nf c → (T k).2.2.2 = s_fi c k) ∧ Cond.instantiable C (s_nf c) ∈ lw_tbl ∧ Cond.initialized C ∈ lw_tbl
end
section
def s_Tx (c : Nat) : u_T := match c with
  | 0 => TX0
  | 1 => TX1
  | 2 => TX2
  | 3 => TX3
  | 4 => TX4
  | 5 => TX5
  | 6 => TX6
  | 7 => TX7
  | 8 => TX8
  | 9 => TX9
  | 10 => TX10
  | 11 => TX11
  | _ => TX12
def s_tyx (c : Nat) : Nat → FieldType := match c with
  | 0 => tyX0
  | 1 => tyX1
  | 2 => tyX2
  | 3 => tyX3
  | 4 => tyX4
  | 5 => tyX5
  | 6 => tyX6
  | 7 => tyX7
  | 8 => tyX8
  | 9 => tyX9
  | 10 => tyX10
  | 11 => tyX11
  | _ => tyX12
def s_lp0 : List Nat := [485, 487, 489, 491, 493, 495, 497]
set_option maxRecDepth 100000 in
theorem s_la0 : ((List.range 7).all fun k => s_wAt (s_lp0.getD k 0) (u_lay RX0 TX0 k) && goodWord (u_lay RX0 TX0 k)) = true := by decide +kernel
theorem s_ok0 : s_okK 0 RX0 TX0 tyX0 := by
  refine ⟨rfl, rfl, fun w hw => ?_, tyX0_ok, nmX0, by decide +kernel, by decide +kernel, by decide +kernel, s_wAt_mem (p := 468) (by decide +kernel), s_wAt_mem (p := 123) (by decide +kernel)⟩
  obtain ⟨k, hk, rfl⟩ := List.mem_map.mp hw
  have h := List.all_eq_true.mp s_la0 k hk
  rw [Bool.and_eq_true] at h
  exact ⟨s_wAt_mem h.1, h.2⟩
def s_lp1 : List Nat := [398, 400, 402, 404, 406, 408, 410, 412, 414, 416, 418]
set_option maxRecDepth 100000 in
theorem s_la1 : ((List.range 11).all fun k => s_wAt (s_lp1.getD k 0) (u_lay RX1 TX1 k) && goodWord (u_lay RX1 TX1 k)) = true := by decide +kernel
theorem s_ok1 : s_okK 1 RX1 TX1 tyX1 := by
  refine ⟨rfl, rfl, fun w hw => ?_, tyX1_ok, nmX1, by decide +kernel, by decide +kernel, by decide +kernel, s_wAt_mem (p := 377) (by decide +kernel), s_wAt_mem (p := 120) (by decide +kernel)⟩
  obtain ⟨k, hk, rfl⟩ := List.mem_map.mp hw
  have h := List.all_eq_true.mp s_la1 k hk
  rw [Bool.and_eq_true] at h
  exact ⟨s_wAt_mem h.1, h.2⟩
def s_lp2 : List Nat := [262, 264, 266, 268, 270, 272, 274, 276, 278, 280, 282, 284, 286, 288]
set_option maxRecDepth 100000 in
theorem s_la2 : ((List.range 14).all fun k => s_wAt (s_lp2.getD k 0) (u_lay RX2 TX2 k) && goodWord (u_lay RX2 TX2 k)) = true := by decide +kernel
theorem s_ok2 : s_okK 2 RX2 TX2 tyX2 := by
  refine ⟨rfl, rfl, fun w hw => ?_, tyX2_ok, nmX2, by decide +kernel, by decide +kernel, by decide +kernel, s_wAt_mem (p := 208) (by decide +kernel), s_wAt_mem (p := 116) (by decide +kernel)⟩
  obtain ⟨k, hk, rfl⟩ := List.mem_map.mp hw
  have h := List.all_eq_true.mp s_la2 k hk
  rw [Bool.and_eq_true] at h
  exact ⟨s_wAt_mem h.1, h.2⟩
def s_lp3 : List Nat := [517]
set_option maxRecDepth 100000 in
theorem s_la3 : ((List.range 1).all fun k => s_wAt (s_lp3.getD k 0) (u_lay RX3 TX3 k) && goodWord (u_lay RX3 TX3 k)) = true := by decide +kernel
theorem s_ok3 : s_okK 3 RX3 TX3 tyX3 := by
  refine ⟨rfl, rfl, fun w hw => ?_, tyX3_ok, nmX3, by decide +kernel, by decide +kernel, by decide +kernel, s_wAt_mem (p := 511) (by decide +kernel), s_wAt_mem (p := 125) (by decide +kernel)⟩
  obtain ⟨k, hk, rfl⟩ := List.mem_map.mp hw
  have h := List.all_eq_true.mp s_la3 k hk
  rw [Bool.and_eq_true] at h
  exact ⟨s_wAt_mem h.1, h.2⟩
def s_lp4 : List Nat := [433, 435, 437]
set_option maxRecDepth 100000 in
theorem s_la4 : ((List.range 3).all fun k => s_wAt (s_lp4.getD k 0) (u_lay RX4 TX4 k) && goodWord (u_lay RX4 TX4 k)) = true := by decide +kernel
theorem s_ok4 : s_okK 4 RX4 TX4 tyX4 := by
  refine ⟨rfl, rfl, fun w hw => ?_, tyX4_ok, nmX4, by decide +kernel, by decide +kernel, by decide +kernel, s_wAt_mem (p := 422) (by decide +kernel), s_wAt_mem (p := 121) (by decide +kernel)⟩
  obtain ⟨k, hk, rfl⟩ := List.mem_map.mp hw
  have h := List.all_eq_true.mp s_la4 k hk
  rw [Bool.and_eq_true] at h
  exact ⟨s_wAt_mem h.1, h.2⟩
def s_lp5 : List Nat := [458, 460, 462, 464]
set_option maxRecDepth 100000 in
theorem s_la5 : ((List.range 4).all fun k => s_wAt (s_lp5.getD k 0) (u_lay RX5 TX5 k) && goodWord (u_lay RX5 TX5 k)) = true := by decide +kernel
theorem s_ok5 : s_okK 5 RX5 TX5 tyX5 := by
  refine ⟨rfl, rfl, fun w hw => ?_, tyX5_ok, nmX5, by decide +kernel, by decide +kernel, by decide +kernel, s_wAt_mem (p := 442) (by decide +kernel), s_wAt_mem (p := 122) (by decide +kernel)⟩
  obtain ⟨k, hk, rfl⟩ := List.mem_map.mp hw
  have h := List.all_eq_true.mp s_la5 k hk
  rw [Bool.and_eq_true] at h
  exact ⟨s_wAt_mem h.1, h.2⟩
def s_lp6 : List Nat := [507]
set_option maxRecDepth 100000 in
theorem s_la6 : ((List.range 1).all fun k => s_wAt (s_lp6.getD k 0) (u_lay RX6 TX6 k) && goodWord (u_lay RX6 TX6 k)) = true := by decide +kernel
theorem s_ok6 : s_okK 6 RX6 TX6 tyX6 := by
  refine ⟨rfl, rfl, fun w hw => ?_, tyX6_ok, nmX6, by decide +kernel, by decide +kernel, by decide +kernel, s_wAt_mem (p := 501) (by decide +kernel), s_wAt_mem (p := 124) (by decide +kernel)⟩
  obtain ⟨k, hk, rfl⟩ := List.mem_map.mp hw
  have h := List.all_eq_true.mp s_la6 k hk
  rw [Bool.and_eq_true] at h
  exact ⟨s_wAt_mem h.1, h.2⟩
def s_lp7 : List Nat := [361, 363, 365, 367, 369, 371, 373]
set_option maxRecDepth 100000 in
theorem s_la7 : ((List.range 7).all fun k => s_wAt (s_lp7.getD k 0) (u_lay RX7 TX7 k) && goodWord (u_lay RX7 TX7 k)) = true := by decide +kernel
theorem s_ok7 : s_okK 7 RX7 TX7 tyX7 := by
  refine ⟨rfl, rfl, fun w hw => ?_, tyX7_ok, nmX7, by decide +kernel, by decide +kernel, by decide +kernel, s_wAt_mem (p := 345) (by decide +kernel), s_wAt_mem (p := 119) (by decide +kernel)⟩
  obtain ⟨k, hk, rfl⟩ := List.mem_map.mp hw
  have h := List.all_eq_true.mp s_la7 k hk
  rw [Bool.and_eq_true] at h
  exact ⟨s_wAt_mem h.1, h.2⟩
def s_lp8 : List Nat := [323, 325, 327, 329, 331, 333, 335, 337, 339, 341]
set_option maxRecDepth 100000 in
theorem s_la8 : ((List.range 10).all fun k => s_wAt (s_lp8.getD k 0) (u_lay RX8 TX8 k) && goodWord (u_lay RX8 TX8 k)) = true := by decide +kernel
theorem s_ok8 : s_okK 8 RX8 TX8 tyX8 := by
  refine ⟨rfl, rfl, fun w hw => ?_, tyX8_ok, nmX8, by decide +kernel, by decide +kernel, by decide +kernel, s_wAt_mem (p := 294) (by decide +kernel), s_wAt_mem (p := 118) (by decide +kernel)⟩
  obtain ⟨k, hk, rfl⟩ := List.mem_map.mp hw
  have h := List.all_eq_true.mp s_la8 k hk
  rw [Bool.and_eq_true] at h
  exact ⟨s_wAt_mem h.1, h.2⟩
def s_lp9 : List Nat := [181, 183, 185, 187, 189, 191, 193, 195, 197, 199, 201, 203]
set_option maxRecDepth 100000 in
theorem s_la9 : ((List.range 12).all fun k => s_wAt (s_lp9.getD k 0) (u_lay RX9 TX9 k) && goodWord (u_lay RX9 TX9 k)) = true := by decide +kernel
theorem s_ok9 : s_okK 9 RX9 TX9 tyX9 := by
  refine ⟨rfl, rfl, fun w hw => ?_, tyX9_ok, nmX9, by decide +kernel, by decide +kernel, by decide +kernel, s_wAt_mem (p := 149) (by decide +kernel), s_wAt_mem (p := 115) (by decide +kernel)⟩
  obtain ⟨k, hk, rfl⟩ := List.mem_map.mp hw
  have h := List.all_eq_true.mp s_la9 k hk
  rw [Bool.and_eq_true] at h
  exact ⟨s_wAt_mem h.1, h.2⟩
def s_lp11 : List Nat := [545, 547, 549, 551, 553, 555, 557, 559, 561, 563, 565, 567, 569, 571, 573, 575]
set_option maxRecDepth 100000 in
theorem s_la11 : ((List.range 16).all fun k => s_wAt (s_lp11.getD k 0) (u_lay RX11 TX11 k) && goodWord (u_lay RX11 TX11 k)) = true := by decide +kernel
theorem s_ok11 : s_okK 11 RX11 TX11 tyX11 := by
  refine ⟨rfl, rfl, fun w hw => ?_, tyX11_ok, nmX11, by decide +kernel, by decide +kernel, by decide +kernel, s_wAt_mem (p := 141) (by decide +kernel), s_wAt_mem (p := 114) (by decide +kernel)⟩
  obtain ⟨k, hk, rfl⟩ := List.mem_map.mp hw
  have h := List.all_eq_true.mp s_la11 k hk
  rw [Bool.and_eq_true] at h
  exact ⟨s_wAt_mem h.1, h.2⟩
def s_lp12 : List Nat := [1448, 1450, 1452, 1454, 1456, 1458, 1460, 1462, 1464, 1466, 1468, 1470, 1472, 1474, 1476, 1478, 1480, 1482, 1484, 1486, 1488, 1490, 1492, 1494, 1496, 1498, 1500, 1502, 1504, 1506, 1508, 1510, 1512, 1514, 1516, 1518, 1520, 1522, 1524, 1526, 1528, 1530, 1532, 1534, 1536, 1538, 1540, 1542]
set_option maxRecDepth 100000 in
theorem s_la12 : ((List.range 48).all fun k => s_wAt (s_lp12.getD k 0) (u_lay RX12 TX12 k) && goodWord (u_lay RX12 TX12 k)) = true := by decide +kernel
theorem s_ok12 : s_okK 12 RX12 TX12 tyX12 := by
  refine ⟨rfl, rfl, fun w hw => ?_, tyX12_ok, nmX12, by decide +kernel, by decide +kernel, by decide +kernel, s_wAt_mem (p := 1381) (by decide +kernel), s_wAt_mem (p := 126) (by decide +kernel)⟩
  obtain ⟨k, hk, rfl⟩ := List.mem_map.mp hw
  have h := List.all_eq_true.mp s_la12 k hk
  rw [Bool.and_eq_true] at h
  exact ⟨s_wAt_mem h.1, h.2⟩
theorem s_okC : ∀ c, c < 13 → c ≠ 10 → s_okK c (s_R c) (s_Tx c) (s_tyx c) := by
  intro c hc h10
  match c, hc, h10 with
  | 0, _, _ => exact s_ok0
  | 1, _, _ => exact s_ok1
  | 2, _, _ => exact s_ok2
  | 3, _, _ => exact s_ok3
  | 4, _, _ => exact s_ok4
  | 5, _, _ => exact s_ok5
  | 6, _, _ => exact s_ok6
  | 7, _, _ => exact s_ok7
  | 8, _, _ => exact s_ok8
  | 9, _, _ => exact s_ok9
  | 10, _, h => exact absurd rfl h
  | 11, _, _ => exact s_ok11
  | 12, _, _ => exact s_ok12
  | n + 13, h, _ => exact absurd h (by omega)
end
section
def s_wn : List String := ["BOY", "EVENT", "TAKES", "FIRE", "LOGS", "TURF", "WET", "FEAR", "SHAME", "GRIEF", "JOY", "TELLS", "LIES", "GIVES", "LOG", "RAKE", "DAY", "OR", "AND", "NOT", "OVER", "HUSHED", "LIGHT", "HAS", "HIS", "LOAD", "BEARS", "TEARS", "NUMBER"]
def s_sx : List String := [" bears ", " of ", " weeps"]
def s_nws : List Cond := [(Jvm.Cond.methodLinkNest "CampAshes" (9 : Nat) ({ cls := "CampAshes$Tape", name := "<init>", desc := "()V" } : Jvm.MethodName) "CampAshes"), (Jvm.Cond.fieldLinkNest "CampAshes$Sentence" (156 : Nat) "CampAshes$State" "camp" "LCampAshes$Camp;" "CampAshes"), (Jvm.Cond.methodLinkNest "CampAshes" (40 : Nat) ({ cls := "CampAshes$Sentence", name := "<init>", desc := "()V" } : Jvm.MethodName) "CampAshes"), (Jvm.Cond.methodLinkNest "CampAshes" (50 : Nat) ({ cls := "CampAshes$Book", name := "<init>", desc := "()V" } : Jvm.MethodName) "CampAshes"), (Jvm.Cond.methodLinkNest "CampAshes" (64 : Nat) ({ cls := "CampAshes$Image", name := "<init>", desc := "()V" } : Jvm.MethodName) "CampAshes"), (Jvm.Cond.methodLinkNest "CampAshes$Image" (27 : Nat) ({ cls := "CampAshes$Sentence", name := "<init>", desc := "()V" } : Jvm.MethodName) "CampAshes"), (Jvm.Cond.methodLinkNest "CampAshes" (71 : Nat) ({ cls := "CampAshes$Advice", name := "<init>", desc := "()V" } : Jvm.MethodName) "CampAshes"), (Jvm.Cond.methodLinkNest "CampAshes" (78 : Nat) ({ cls := "CampAshes$Laws", name := "<init>", desc := "()V" } : Jvm.MethodName) "CampAshes"), (Jvm.Cond.methodLinkNest "CampAshes" (85 : Nat) ({ cls := "CampAshes$Draws", name := "<init>", desc := "()V" } : Jvm.MethodName) "CampAshes")]
def s_pI : List Nat := [143, 151, 210, 215, 218, 296, 347, 379, 424, 444, 470, 503, 513, 521, 527, 579, 583, 587, 591, 595, 599, 603, 607, 612, 615, 620, 624, 629, 634, 639, 642, 648, 651, 655, 659, 667, 670, 674, 680, 684, 690, 699, 703, 707, 714, 718, 722, 726, 730, 734, 738, 742, 746, 751, 755, 759, 763, 767, 771, 775, 779, 783, 787, 792, 796, 801, 808, 812, 816, 819, 825, 829, 833, 837, 841, 845, 849, 853, 857, 861, 865, 870, 873, 877, 881, 885, 890, 893, 899, 902, 910, 914, 917, 921, 925, 931, 935, 939, 943, 947, 950, 954, 958, 963, 966, 970, 974, 978, 982, 987, 990, 994, 999, 1004, 1009, 1014, 1019, 1071, 1077, 1081, 1085, 1089, 1093, 1100, 1104, 1108, 1112, 1118, 1131, 1137, 1149, 1153, 1158, 1166, 1172, 1176, 1180, 1186, 1190, 1194, 1197, 1203, 1228, 1234, 1243, 1248, 1252, 1257, 1261, 1268, 1272, 1276, 1283, 1287, 1291, 1299, 1371, 1375, 1380, 1384, 1389, 1394, 1398, 1547, 1552, 1556, 1560, 1563, 1566, 1570, 1576, 1580, 1583, 1586, 1590, 1594, 1598, 1602, 1606, 1609, 1613, 1616, 1620, 1624, 1628, 1632, 1636, 1640, 1644, 1648, 1651, 1655, 1660, 1664, 1668, 1672, 1676, 1680, 1683, 1687, 1690, 1695, 1698, 1702, 1707, 1711, 1714, 1718, 1723, 1727, 1730, 1735, 1739, 1743, 1747, 1751, 1755, 1758, 1762, 1765, 1769, 1773, 1777, 1781, 1785, 1790, 1794, 1797, 1802, 1806, 1810, 1814, 1818, 1821, 1824, 1828, 1832, 1836, 1840, 1844, 1849, 1852, 1856, 1860, 1863, 1867, 1872, 1876, 1879, 1884, 1888, 1892, 1896, 1899, 1903, 1908, 1912, 1917, 1920, 1924, 1929, 1933, 1937, 1941, 1945, 1949, 1952, 1956, 1961, 1965, 1969, 1973, 1977, 1981, 1985, 1989, 1993, 1996, 2001, 2004, 2008, 2012]
def s_pS : List Nat := [0, 0, 0, 0, 0, 0, 0, 0, 0, 0, 0, 0, 0, 522, 1, 580, 584, 588, 592, 596, 600, 0, 2, 3, 0, 621, 625, 4, 635, 5, 643, 6, 652, 656, 660, 7, 671, 0, 8, 9, 10, 700, 704, 708, 715, 719, 723, 727, 731, 735, 739, 743, 747, 752, 756, 760, 764, 768, 772, 776, 780, 784, 788, 793, 797, 802, 11, 12, 13, 820, 826, 830, 834, 838, 842, 846, 850, 854, 858, 862, 866, 14, 874, 878, 882, 886, 15, 894, 16, 0, 0, 17, 918, 922, 926, 932, 936, 940, 944, 0, 951, 955, 959, 0, 967, 971, 0, 979, 983, 18, 991, 995, 19, 1005, 20, 21, 22, 23, 1078, 1082, 1086, 1090, 1094, 24, 1105, 1109, 1113, 25, 26, 27, 28, 1154, 29, 0, 1173, 1177, 1181, 30, 31, 32, 0, 0, 33, 34, 1244, 1249, 1253, 35, 36, 0, 1273, 1277, 1284, 1288, 1292, 1300, 1372, 1376, 38, 1385, 0, 39, 40, 1548, 41, 42, 43, 0, 0, 44, 45, 46, 0, 0, 47, 48, 49, 50, 51, 0, 52, 0, 53, 54, 55, 56, 57, 58, 59, 60, 1652, 1656, 61, 62, 63, 64, 65, 66, 0, 67, 1691, 68, 1699, 1703, 69, 70, 1715, 1719, 71, 72, 1731, 73, 74, 75, 76, 77, 78, 0, 79, 1766, 1770, 1774, 1778, 1782, 1786, 80, 81, 1798, 82, 83, 84, 85, 86, 0, 1825, 1829, 1833, 1837, 1841, 1845, 0, 1853, 0, 87, 1864, 1868, 88, 89, 1880, 90, 91, 92, 93, 1900, 1904, 94, 95, 96, 1921, 1925, 97, 98, 99, 100, 101, 102, 1953, 1957, 103, 104, 105, 106, 107, 108, 109, 110, 111, 1997, 112, 2005, 2009, 2013]
def s_ckF (own : Nat) (e : Nat × Nat × Nat) (p : Nat) : Bool := match Nat.beq e.2.1 10 with
  | true => (match e.2.2 with
    | 0 => s_wAt p (.fieldLink (s_R own) e.1 RX10 "letters" "J")
    | 1 => s_wAt p (.fieldLink (s_R own) e.1 RX10 "kind" "I")
    | _ => false)
  | false => Nat.blt e.2.1 13 && Nat.blt e.2.2 (s_nf e.2.1) && (s_wAt p (.fieldLink (s_R own) e.1 (s_R e.2.1) (s_Tx e.2.1 e.2.2).2.1 (s_Tx e.2.1 e.2.2).2.2.1) || decide (Cond.fieldLinkNest (s_R own) e.1 (s_R e.2.1) (s_Tx e.2.1 e.2.2).2.1 (s_Tx e.2.1 e.2.2).2.2.1 "CampAshes" ∈ s_nws))
def s_ckS (own : Nat) (e : Nat × Value) (p : Nat) : Bool := match e.2 with
  | .ref a => (match Nat.beq a 1100 with
    | true => s_wAt p (.fieldLink (s_R own) e.1 RX10 "ALL" "[LCampAshes$Word;")
    | false => Nat.ble 1000 a && Nat.blt a 1029 && s_wAt p (.fieldLink (s_R own) e.1 RX10 (s_wn.getD (a - 1000) "") "LCampAshes$Word;"))
  | _ => false
def s_ckM (own : Nat) (e : Nat × Nat × Nat × Nat) (p : Nat) : Bool := match e.2.1 with
  | 0 => (match s_ms[e.2.2.1]? with
    | some q => s_wAt p (.methodLink (s_R own) e.1 q.1) && s_wAt (s_pI.getD e.2.2.1 0) (.instanceMethod q.1) && s_wAt (s_pS.getD e.2.2.1 0) (.selects q.1.cls q.1 q.1) && decide ((parseMethodDescriptor q.1.desc).map (fun d => d.parameters.length) = some e.2.2.2)
    | none => false)
  | 1 => (match s_ms[e.2.2.1]? with
    | some q => s_wAt p (.methodLink (s_R own) e.1 q.1) && s_wAt (s_pI.getD e.2.2.1 0) (.static q.1) && decide ((parseMethodDescriptor q.1.desc).map (fun d => d.parameters.length) = some e.2.2.2)
    | none => false)
  | 2 => (match s_ms[e.2.2.1]? with
    | some q => s_wAt p (.methodLink (s_R own) e.1 q.1) && s_wAt (s_pI.getD e.2.2.1 0) (.instanceMethod q.1) && q.2.2.2.2.2.1 && decide ((parseMethodDescriptor q.1.desc).map (fun d => d.parameters.length) = some e.2.2.2)
    | none => false)
  | 3 => (match s_ms[e.2.2.1]? with
    | some q => decide (Cond.methodLinkNest (s_R own) e.1 q.1 "CampAshes" ∈ s_nws) && s_wAt (s_pI.getD e.2.2.1 0) (.instanceMethod q.1) && q.2.2.2.2.2.1 && decide ((parseMethodDescriptor q.1.desc).map (fun d => d.parameters.length) = some e.2.2.2)
    | none => false)
  | 10 => s_wAt p (.methodLink (s_R own) e.1 objectInit)
  | 11 => s_wAt p (.methodLink (s_R own) e.1 arraycopyName)
  | 12 => s_wAt p (.methodLink (s_R own) e.1 yJ0_length_8abf5)
  | 13 => s_wAt p (.methodLink (s_R own) e.1 yJ0_charAt_5068e)
  | 14 => s_wAt p (.methodLink (s_R own) e.1 yL_boy)
  | 15 => s_wAt p (.methodLink (s_R own) e.1 Lib.Math.min.name)
  | 16 => s_wAt p (.methodLink (s_R own) e.1 Lib.Math.max.name)
  | _ => false
def s_ckC (own : Nat) (e : Nat × Nat) (p : Nat) : Bool := Nat.blt e.2 13 && s_wAt p (.classLink (s_R own) e.1 (s_R e.2))
def s_ckK (own : Nat) (e : Nat × Value) (p : Nat) : Bool := match e.2 with
  | .int v => s_wAt p (.constant (s_R own) e.1 v)
  | .long v => s_wAt p (.constantLong (s_R own) e.1 v)
  | .ref a => Nat.ble 1300 a && Nat.blt a 1303 && s_wAt p (.stringRef (s_R own) e.1 (s_sx.getD (a - 1300) ""))
  | _ => false
def s_okP (own : Nat) (cp : s_C) : Prop := (∀ e ∈ cp.1, ∃ p, s_ckF own e p = true) ∧ (∀ e ∈ cp.2.1, ∃ p, s_ckS own e p = true) ∧ (∀ e ∈ cp.2.2.1, ∃ p, s_ckM own e p = true) ∧ (∀ e ∈ cp.2.2.2.1, ∃ p, s_ckC own e p = true) ∧ ∀ e ∈ cp.2.2.2.2, ∃ p, s_ckK own e p = true
theorem s_zip {α : Type} (f : α → Nat → Bool) (l : List α) (ps : List Nat) (hl : l.length = ps.length) (h : ((l.zip ps).all fun x => f x.1 x.2) = true) : ∀ e ∈ l, ∃ p, f e p = true := by
  intro e he
  obtain ⟨i, hi⟩ := List.getElem?_of_mem he
  have h1 : i < l.length := (List.getElem?_eq_some_iff.mp hi).1
  have h2 : ps[i]? = some (ps[i]'(by omega)) := List.getElem?_eq_getElem (by omega)
  have h3 : (l.zip ps)[i]? = some (e, ps[i]'(by omega)) := by
    rw [List.getElem?_zip_eq_some]
    exact ⟨hi, h2⟩
  exact ⟨_, List.all_eq_true.mp h _ (List.mem_of_getElem? h3)⟩
set_option maxRecDepth 100000 in
theorem s_cF0 : ((s_cp0.1.zip [221, 227, 233, 241, 248, 303, 314, 473, 475, 477, 479, 481, 483, 484]).all fun x => s_ckF 0 x.1 x.2) = true := by decide +kernel
set_option maxRecDepth 100000 in
theorem s_cS0 : ((s_cp0.2.1.zip []).all fun x => s_ckS 0 x.1 x.2) = true := by decide +kernel
set_option maxRecDepth 100000 in
theorem s_cM0 : ((s_cp0.2.2.1.zip [472, 888, 892, 896, 897, 901, 907, 908, 909, 912, 928, 929, 942, 946, 962]).all fun x => s_ckM 0 x.1 x.2) = true := by decide +kernel
set_option maxRecDepth 100000 in
theorem s_cC0 : ((s_cp0.2.2.2.1.zip []).all fun x => s_ckC 0 x.1 x.2) = true := by decide +kernel
set_option maxRecDepth 100000 in
theorem s_cK0 : ((s_cp0.2.2.2.2.zip [961]).all fun x => s_ckK 0 x.1 x.2) = true := by decide +kernel
theorem s_okp0 : s_okP 0 s_cp0 := ⟨s_zip (s_ckF 0) _ _ (by decide +kernel) s_cF0, s_zip (s_ckS 0) _ _ (by decide +kernel) s_cS0, s_zip (s_ckM 0) _ _ (by decide +kernel) s_cM0, s_zip (s_ckC 0) _ _ (by decide +kernel) s_cC0, s_zip (s_ckK 0) _ _ (by decide +kernel) s_cK0⟩
set_option maxRecDepth 100000 in
theorem s_cF1 : ((s_cp1.1.zip [162, 169, 173, 319, 382, 383, 384, 385, 386, 387, 388, 390, 392, 394, 396]).all fun x => s_ckF 1 x.1 x.2) = true := by decide +kernel
set_option maxRecDepth 100000 in
theorem s_cS1 : ((s_cp1.2.1.zip [1120, 1123, 1125, 1140, 1142, 1144]).all fun x => s_ckS 1 x.1 x.2) = true := by decide +kernel
set_option maxRecDepth 100000 in
theorem s_cM1 : ((s_cp1.2.2.1.zip [381, 1115, 1116, 1122, 1127, 1128, 1129, 1133, 1134, 1135, 1139, 1146, 1147, 1151, 1156, 1160, 1161, 1162, 1163, 1164, 1165, 1168, 1169, 1170]).all fun x => s_ckM 1 x.1 x.2) = true := by decide +kernel
set_option maxRecDepth 100000 in
theorem s_cC1 : ((s_cp1.2.2.2.1.zip []).all fun x => s_ckC 1 x.1 x.2) = true := by decide +kernel
set_option maxRecDepth 100000 in
theorem s_cK1 : ((s_cp1.2.2.2.2.zip []).all fun x => s_ckK 1 x.1 x.2) = true := by decide +kernel
theorem s_okp1 : s_okP 1 s_cp1 := ⟨s_zip (s_ckF 1) _ _ (by decide +kernel) s_cF1, s_zip (s_ckS 1) _ _ (by decide +kernel) s_cS1, s_zip (s_ckM 1) _ _ (by decide +kernel) s_cM1, s_zip (s_ckC 1) _ _ (by decide +kernel) s_cC1, s_zip (s_ckK 1) _ _ (by decide +kernel) s_cK1⟩
set_option maxRecDepth 100000 in
theorem s_cF2 : ((s_cp2.1.zip [165, 172, 176, 220, 225, 229, 231, 236, 240, 244, 247, 250, 252, 254, 257, 260, 261, 2033]).all fun x => s_ckF 2 x.1 x.2) = true := by decide +kernel
set_option maxRecDepth 100000 in
theorem s_cS2 : ((s_cp2.2.1.zip [631, 663, 676, 686, 692, 694, 696]).all fun x => s_ckS 2 x.1 x.2) = true := by decide +kernel
set_option maxRecDepth 100000 in
theorem s_cM2 : ((s_cp2.2.2.1.zip [212, 213, 217, 623, 627, 633, 637, 641, 645, 646, 650, 654, 658, 665, 669, 673, 678, 682, 688, 698, 710]).all fun x => s_ckM 2 x.1 x.2) = true := by decide +kernel
set_option maxRecDepth 100000 in
theorem s_cC2 : ((s_cp2.2.2.2.1.zip []).all fun x => s_ckC 2 x.1 x.2) = true := by decide +kernel
set_option maxRecDepth 100000 in
theorem s_cK2 : ((s_cp2.2.2.2.2.zip []).all fun x => s_ckK 2 x.1 x.2) = true := by decide +kernel
theorem s_okp2 : s_okP 2 s_cp2 := ⟨s_zip (s_ckF 2) _ _ (by decide +kernel) s_cF2, s_zip (s_ckS 2) _ _ (by decide +kernel) s_cS2, s_zip (s_ckM 2) _ _ (by decide +kernel) s_cM2, s_zip (s_ckC 2) _ _ (by decide +kernel) s_cC2, s_zip (s_ckK 2) _ _ (by decide +kernel) s_cK2⟩
set_option maxRecDepth 100000 in
theorem s_cF3 : ((s_cp3.1.zip [516]).all fun x => s_ckF 3 x.1 x.2) = true := by decide +kernel
set_option maxRecDepth 100000 in
theorem s_cS3 : ((s_cp3.2.1.zip []).all fun x => s_ckS 3 x.1 x.2) = true := by decide +kernel
set_option maxRecDepth 100000 in
theorem s_cM3 : ((s_cp3.2.2.1.zip [515]).all fun x => s_ckM 3 x.1 x.2) = true := by decide +kernel
set_option maxRecDepth 100000 in
theorem s_cC3 : ((s_cp3.2.2.2.1.zip []).all fun x => s_ckC 3 x.1 x.2) = true := by decide +kernel
set_option maxRecDepth 100000 in
theorem s_cK3 : ((s_cp3.2.2.2.2.zip [1096]).all fun x => s_ckK 3 x.1 x.2) = true := by decide +kernel
theorem s_okp3 : s_okP 3 s_cp3 := ⟨s_zip (s_ckF 3) _ _ (by decide +kernel) s_cF3, s_zip (s_ckS 3) _ _ (by decide +kernel) s_cS3, s_zip (s_ckM 3) _ _ (by decide +kernel) s_cM3, s_zip (s_ckC 3) _ _ (by decide +kernel) s_cC3, s_zip (s_ckK 3) _ _ (by decide +kernel) s_cK3⟩
set_option maxRecDepth 100000 in
theorem s_cF4 : ((s_cp4.1.zip [430, 431, 432]).all fun x => s_ckF 4 x.1 x.2) = true := by decide +kernel
set_option maxRecDepth 100000 in
theorem s_cS4 : ((s_cp4.2.1.zip []).all fun x => s_ckS 4 x.1 x.2) = true := by decide +kernel
set_option maxRecDepth 100000 in
theorem s_cM4 : ((s_cp4.2.2.1.zip [426, 429, 822, 823]).all fun x => s_ckM 4 x.1 x.2) = true := by decide +kernel
set_option maxRecDepth 100000 in
theorem s_cC4 : ((s_cp4.2.2.2.1.zip [427]).all fun x => s_ckC 4 x.1 x.2) = true := by decide +kernel
set_option maxRecDepth 100000 in
theorem s_cK4 : ((s_cp4.2.2.2.2.zip []).all fun x => s_ckK 4 x.1 x.2) = true := by decide +kernel
theorem s_okp4 : s_okP 4 s_cp4 := ⟨s_zip (s_ckF 4) _ _ (by decide +kernel) s_cF4, s_zip (s_ckS 4) _ _ (by decide +kernel) s_cS4, s_zip (s_ckM 4) _ _ (by decide +kernel) s_cM4, s_zip (s_ckC 4) _ _ (by decide +kernel) s_cC4, s_zip (s_ckK 4) _ _ (by decide +kernel) s_cK4⟩
set_option maxRecDepth 100000 in
theorem s_cF5 : ((s_cp5.1.zip [453, 454, 455, 456]).all fun x => s_ckF 5 x.1 x.2) = true := by decide +kernel
set_option maxRecDepth 100000 in
theorem s_cS5 : ((s_cp5.2.1.zip []).all fun x => s_ckS 5 x.1 x.2) = true := by decide +kernel
set_option maxRecDepth 100000 in
theorem s_cM5 : ((s_cp5.2.2.1.zip [446, 448, 450, 452, 1279, 1280, 1281]).all fun x => s_ckM 5 x.1 x.2) = true := by decide +kernel
set_option maxRecDepth 100000 in
theorem s_cC5 : ((s_cp5.2.2.2.1.zip [447, 449, 451]).all fun x => s_ckC 5 x.1 x.2) = true := by decide +kernel
set_option maxRecDepth 100000 in
theorem s_cK5 : ((s_cp5.2.2.2.2.zip []).all fun x => s_ckK 5 x.1 x.2) = true := by decide +kernel
theorem s_okp5 : s_okP 5 s_cp5 := ⟨s_zip (s_ckF 5) _ _ (by decide +kernel) s_cF5, s_zip (s_ckS 5) _ _ (by decide +kernel) s_cS5, s_zip (s_ckM 5) _ _ (by decide +kernel) s_cM5, s_zip (s_ckC 5) _ _ (by decide +kernel) s_cC5, s_zip (s_ckK 5) _ _ (by decide +kernel) s_cK5⟩
set_option maxRecDepth 100000 in
theorem s_cF6 : ((s_cp6.1.zip [155, 156, 506]).all fun x => s_ckF 6 x.1 x.2) = true := by decide +kernel
set_option maxRecDepth 100000 in
theorem s_cS6 : ((s_cp6.2.1.zip []).all fun x => s_ckS 6 x.1 x.2) = true := by decide +kernel
set_option maxRecDepth 100000 in
theorem s_cM6 : ((s_cp6.2.2.1.zip [505, 973, 976, 985]).all fun x => s_ckM 6 x.1 x.2) = true := by decide +kernel
set_option maxRecDepth 100000 in
theorem s_cC6 : ((s_cp6.2.2.2.1.zip []).all fun x => s_ckC 6 x.1 x.2) = true := by decide +kernel
set_option maxRecDepth 100000 in
theorem s_cK6 : ((s_cp6.2.2.2.2.zip []).all fun x => s_ckK 6 x.1 x.2) = true := by decide +kernel
theorem s_okp6 : s_okP 6 s_cp6 := ⟨s_zip (s_ckF 6) _ _ (by decide +kernel) s_cF6, s_zip (s_ckS 6) _ _ (by decide +kernel) s_cS6, s_zip (s_ckM 6) _ _ (by decide +kernel) s_cM6, s_zip (s_ckC 6) _ _ (by decide +kernel) s_cC6, s_zip (s_ckK 6) _ _ (by decide +kernel) s_cK6⟩
set_option maxRecDepth 100000 in
theorem s_cF7 : ((s_cp7.1.zip [164, 168, 171, 175, 223, 235, 239, 300, 305, 310, 352, 353, 354, 355, 356, 357, 359]).all fun x => s_ckF 7 x.1 x.2) = true := by decide +kernel
set_option maxRecDepth 100000 in
theorem s_cS7 : ((s_cp7.2.1.zip [1200, 1205, 1207, 1209, 1211, 1213, 1215, 1217, 1219, 1221, 1236, 1239]).all fun x => s_ckS 7 x.1 x.2) = true := by decide +kernel
set_option maxRecDepth 100000 in
theorem s_cM7 : ((s_cp7.2.2.1.zip [349, 1183, 1184, 1188, 1192, 1196, 1199, 1202, 1223, 1224, 1225, 1226, 1230, 1231, 1232, 1238, 1241, 1246, 1255, 1259, 1263, 1264, 1265, 1266, 1267]).all fun x => s_ckM 7 x.1 x.2) = true := by decide +kernel
set_option maxRecDepth 100000 in
theorem s_cC7 : ((s_cp7.2.2.2.1.zip [350]).all fun x => s_ckC 7 x.1 x.2) = true := by decide +kernel
set_option maxRecDepth 100000 in
theorem s_cK7 : ((s_cp7.2.2.2.2.zip []).all fun x => s_ckK 7 x.1 x.2) = true := by decide +kernel
theorem s_okp7 : s_okP 7 s_cp7 := ⟨s_zip (s_ckF 7) _ _ (by decide +kernel) s_cF7, s_zip (s_ckS 7) _ _ (by decide +kernel) s_cS7, s_zip (s_ckM 7) _ _ (by decide +kernel) s_cM7, s_zip (s_ckC 7) _ _ (by decide +kernel) s_cC7, s_zip (s_ckK 7) _ _ (by decide +kernel) s_cK7⟩
set_option maxRecDepth 100000 in
theorem s_cF8 : ((s_cp8.1.zip [222, 226, 232, 237, 243, 245, 249, 251, 253, 255, 258, 299, 301, 302, 306, 308, 311, 313, 316, 318, 321]).all fun x => s_ckF 8 x.1 x.2) = true := by decide +kernel
set_option maxRecDepth 100000 in
theorem s_cS8 : ((s_cp8.2.1.zip []).all fun x => s_ckS 8 x.1 x.2) = true := by decide +kernel
set_option maxRecDepth 100000 in
theorem s_cM8 : ((s_cp8.2.2.1.zip [298, 524, 525, 749, 774, 790, 795, 799, 800, 804, 805, 806, 864, 868, 997, 1001, 1002, 1092, 1097, 1098, 1102]).all fun x => s_ckM 8 x.1 x.2) = true := by decide +kernel
set_option maxRecDepth 100000 in
theorem s_cC8 : ((s_cp8.2.2.2.1.zip []).all fun x => s_ckC 8 x.1 x.2) = true := by decide +kernel
set_option maxRecDepth 100000 in
theorem s_cK8 : ((s_cp8.2.2.2.2.zip []).all fun x => s_ckK 8 x.1 x.2) = true := by decide +kernel
theorem s_okp8 : s_okP 8 s_cp8 := ⟨s_zip (s_ckF 8) _ _ (by decide +kernel) s_cF8, s_zip (s_ckS 8) _ _ (by decide +kernel) s_cS8, s_zip (s_ckM 8) _ _ (by decide +kernel) s_cM8, s_zip (s_ckC 8) _ _ (by decide +kernel) s_cC8, s_zip (s_ckK 8) _ _ (by decide +kernel) s_cK8⟩
set_option maxRecDepth 100000 in
theorem s_cF9 : ((s_cp9.1.zip [154, 158, 159, 160, 161, 163, 166, 167, 170, 174, 177, 179]).all fun x => s_ckF 9 x.1 x.2) = true := by decide +kernel
set_option maxRecDepth 100000 in
theorem s_cS9 : ((s_cp9.2.1.zip []).all fun x => s_ckS 9 x.1 x.2) = true := by decide +kernel
set_option maxRecDepth 100000 in
theorem s_cM9 : ((s_cp9.2.2.1.zip [153, 598, 602, 605, 610, 614, 662, 702]).all fun x => s_ckM 9 x.1 x.2) = true := by decide +kernel
set_option maxRecDepth 100000 in
theorem s_cC9 : ((s_cp9.2.2.2.1.zip []).all fun x => s_ckC 9 x.1 x.2) = true := by decide +kernel
set_option maxRecDepth 100000 in
theorem s_cK9 : ((s_cp9.2.2.2.2.zip [609]).all fun x => s_ckK 9 x.1 x.2) = true := by decide +kernel
theorem s_okp9 : s_okP 9 s_cp9 := ⟨s_zip (s_ckF 9) _ _ (by decide +kernel) s_cF9, s_zip (s_ckS 9) _ _ (by decide +kernel) s_cS9, s_zip (s_ckM 9) _ _ (by decide +kernel) s_cM9, s_zip (s_ckC 9) _ _ (by decide +kernel) s_cC9, s_zip (s_ckK 9) _ _ (by decide +kernel) s_cK9⟩
set_option maxRecDepth 100000 in
theorem s_cF10 : ((s_cp10.1.zip [2032]).all fun x => s_ckF 10 x.1 x.2) = true := by decide +kernel
set_option maxRecDepth 100000 in
theorem s_cS10 : ((s_cp10.2.1.zip [617]).all fun x => s_ckS 10 x.1 x.2) = true := by decide +kernel
set_option maxRecDepth 100000 in
theorem s_cM10 : ((s_cp10.2.2.1.zip []).all fun x => s_ckM 10 x.1 x.2) = true := by decide +kernel
set_option maxRecDepth 100000 in
theorem s_cC10 : ((s_cp10.2.2.2.1.zip []).all fun x => s_ckC 10 x.1 x.2) = true := by decide +kernel
set_option maxRecDepth 100000 in
theorem s_cK10 : ((s_cp10.2.2.2.2.zip []).all fun x => s_ckK 10 x.1 x.2) = true := by decide +kernel
theorem s_okp10 : s_okP 10 s_cp10 := ⟨s_zip (s_ckF 10) _ _ (by decide +kernel) s_cF10, s_zip (s_ckS 10) _ _ (by decide +kernel) s_cS10, s_zip (s_ckM 10) _ _ (by decide +kernel) s_cM10, s_zip (s_ckC 10) _ _ (by decide +kernel) s_cC10, s_zip (s_ckK 10) _ _ (by decide +kernel) s_cK10⟩
set_option maxRecDepth 100000 in
theorem s_cF11 : ((s_cp11.1.zip [157, 178, 180, 224, 228, 230, 234, 238, 242, 246, 256, 259, 304, 307, 309, 312, 315, 317, 320, 322, 358, 360, 389, 391, 393, 395, 397, 457, 474, 476, 478, 480, 482, 529, 530, 531, 532, 533, 534, 535, 536, 537, 538, 539, 540, 541, 542, 543, 544]).all fun x => s_ckF 11 x.1 x.2) = true := by decide +kernel
set_option maxRecDepth 100000 in
theorem s_cS11 : ((s_cp11.2.1.zip []).all fun x => s_ckS 11 x.1 x.2) = true := by decide +kernel
set_option maxRecDepth 100000 in
theorem s_cM11 : ((s_cp11.2.2.1.zip [145, 150, 209, 295, 346, 378, 423, 443, 469, 502, 512, 520, 582, 594, 619, 706, 713, 717, 729, 733, 737, 745, 754, 766, 770, 778, 786, 791, 810, 814, 818, 828, 836, 844, 852, 860, 876, 884, 924, 938, 957, 969, 981, 993, 1007, 1012, 1017, 1021, 1031, 1069, 1074, 1084, 1088, 1111, 1152, 1179, 1242, 1251, 1270, 1275, 1286, 1367, 1368]).all fun x => s_ckM 11 x.1 x.2) = true := by decide +kernel
set_option maxRecDepth 100000 in
theorem s_cC11 : ((s_cp11.2.2.2.1.zip [148, 207, 293, 344, 376, 421, 440, 467, 500, 510]).all fun x => s_ckC 11 x.1 x.2) = true := by decide +kernel
set_option maxRecDepth 100000 in
theorem s_cK11 : ((s_cp11.2.2.2.2.zip [1011, 1016, 1073, 1075]).all fun x => s_ckK 11 x.1 x.2) = true := by decide +kernel
theorem s_okp11 : s_okP 11 s_cp11 := ⟨s_zip (s_ckF 11) _ _ (by decide +kernel) s_cF11, s_zip (s_ckS 11) _ _ (by decide +kernel) s_cS11, s_zip (s_ckM 11) _ _ (by decide +kernel) s_cM11, s_zip (s_ckC 11) _ _ (by decide +kernel) s_cC11, s_zip (s_ckK 11) _ _ (by decide +kernel) s_cK11⟩
set_option maxRecDepth 100000 in
theorem s_cF12 : ((s_cp12.1.zip [1400, 1401, 1402, 1403, 1404, 1405, 1406, 1407, 1408, 1409, 1410, 1411, 1412, 1413, 1414, 1415, 1416, 1417, 1418, 1419, 1420, 1421, 1422, 1423, 1424, 1425, 1426, 1427, 1428, 1429, 1430, 1431, 1432, 1433, 1434, 1435, 1436, 1437, 1438, 1439, 1440, 1441, 1442, 1443, 1444, 1445, 1446, 1447]).all fun x => s_ckF 12 x.1 x.2) = true := by decide +kernel
set_option maxRecDepth 100000 in
theorem s_cS12 : ((s_cp12.2.1.zip []).all fun x => s_ckS 12 x.1 x.2) = true := by decide +kernel
set_option maxRecDepth 100000 in
theorem s_cM12 : ((s_cp12.2.2.1.zip [1378, 1391, 1392, 1396, 1550, 1554, 1558, 1562, 1565, 1568, 1574, 1578, 1582, 1585, 1588, 1592, 1596, 1600, 1604, 1608, 1611, 1615, 1618, 1622, 1626, 1630, 1634, 1638, 1642, 1646, 1658, 1662, 1666, 1670, 1674, 1678, 1682, 1685, 1693, 1705, 1709, 1721, 1725, 1733, 1737, 1741, 1745, 1749, 1753, 1757, 1760, 1788, 1792, 1800, 1804, 1808, 1812, 1816, 1820, 1848, 1855, 1858, 1870, 1874, 1882, 1886, 1890, 1894, 1906, 1910, 1915, 1927, 1931, 1935, 1939, 1943, 1947, 1959, 1963, 1967, 1971, 1975, 1979, 1983, 1987, 1991, 1999]).all fun x => s_ckM 12 x.1 x.2) = true := by decide +kernel
set_option maxRecDepth 100000 in
theorem s_cC12 : ((s_cp12.2.2.2.1.zip []).all fun x => s_ckC 12 x.1 x.2) = true := by decide +kernel
set_option maxRecDepth 100000 in
theorem s_cK12 : ((s_cp12.2.2.2.2.zip [1572, 1573, 1847, 1914]).all fun x => s_ckK 12 x.1 x.2) = true := by decide +kernel
theorem s_okp12 : s_okP 12 s_cp12 := ⟨s_zip (s_ckF 12) _ _ (by decide +kernel) s_cF12, s_zip (s_ckS 12) _ _ (by decide +kernel) s_cS12, s_zip (s_ckM 12) _ _ (by decide +kernel) s_cM12, s_zip (s_ckC 12) _ _ (by decide +kernel) s_cC12, s_zip (s_ckK 12) _ _ (by decide +kernel) s_cK12⟩
set_option maxRecDepth 100000 in
theorem s_cF13 : ((s_cp13.1.zip []).all fun x => s_ckF 13 x.1 x.2) = true := by decide +kernel
set_option maxRecDepth 100000 in
theorem s_cS13 : ((s_cp13.2.1.zip []).all fun x => s_ckS 13 x.1 x.2) = true := by decide +kernel
set_option maxRecDepth 100000 in
theorem s_cM13 : ((s_cp13.2.2.1.zip [142, 578, 586, 590, 721, 725, 741, 750, 758, 762, 782, 824, 832, 840, 848, 856, 872, 880, 916, 920, 930, 934, 949, 953, 965, 977, 989, 1003, 1076, 1080, 1103, 1107, 1171, 1175, 1247, 1271, 1282, 1290, 1294, 1298, 1370, 1374, 1383, 1388, 1546, 1650, 1654, 1689, 1697, 1701, 1713, 1717, 1729, 1764, 1768, 1772, 1776, 1780, 1784, 1796, 1823, 1827, 1831, 1835, 1839, 1843, 1851, 1862, 1866, 1878, 1898, 1902, 1919, 1923, 1951, 1955, 1995, 2003, 2007, 2011]).all fun x => s_ckM 13 x.1 x.2) = true := by decide +kernel
set_option maxRecDepth 100000 in
theorem s_cC13 : ((s_cp13.2.2.2.1.zip [140, 1387]).all fun x => s_ckC 13 x.1 x.2) = true := by decide +kernel
set_option maxRecDepth 100000 in
theorem s_cK13 : ((s_cp13.2.2.2.2.zip []).all fun x => s_ckK 13 x.1 x.2) = true := by decide +kernel
theorem s_okp13 : s_okP 13 s_cp13 := ⟨s_zip (s_ckF 13) _ _ (by decide +kernel) s_cF13, s_zip (s_ckS 13) _ _ (by decide +kernel) s_cS13, s_zip (s_ckM 13) _ _ (by decide +kernel) s_cM13, s_zip (s_ckC 13) _ _ (by decide +kernel) s_cC13, s_zip (s_ckK 13) _ _ (by decide +kernel) s_cK13⟩
set_option maxRecDepth 100000 in
theorem s_cF14 : ((s_cp14.1.zip []).all fun x => s_ckF 14 x.1 x.2) = true := by decide +kernel
set_option maxRecDepth 100000 in
theorem s_cS14 : ((s_cp14.2.1.zip []).all fun x => s_ckS 14 x.1 x.2) = true := by decide +kernel
set_option maxRecDepth 100000 in
theorem s_cM14 : ((s_cp14.2.2.1.zip []).all fun x => s_ckM 14 x.1 x.2) = true := by decide +kernel
set_option maxRecDepth 100000 in
theorem s_cC14 : ((s_cp14.2.2.2.1.zip []).all fun x => s_ckC 14 x.1 x.2) = true := by decide +kernel
set_option maxRecDepth 100000 in
theorem s_cK14 : ((s_cp14.2.2.2.2.zip [904, 905, 906]).all fun x => s_ckK 14 x.1 x.2) = true := by decide +kernel
theorem s_okp14 : s_okP 14 s_cp14 := ⟨s_zip (s_ckF 14) _ _ (by decide +kernel) s_cF14, s_zip (s_ckS 14) _ _ (by decide +kernel) s_cS14, s_zip (s_ckM 14) _ _ (by decide +kernel) s_cM14, s_zip (s_ckC 14) _ _ (by decide +kernel) s_cC14, s_zip (s_ckK 14) _ _ (by decide +kernel) s_cK14⟩
set_option maxRecDepth 100000 in
theorem s_cF15 : ((s_cp15.1.zip []).all fun x => s_ckF 15 x.1 x.2) = true := by decide +kernel
set_option maxRecDepth 100000 in
theorem s_cS15 : ((s_cp15.2.1.zip []).all fun x => s_ckS 15 x.1 x.2) = true := by decide +kernel
set_option maxRecDepth 100000 in
theorem s_cM15 : ((s_cp15.2.2.1.zip []).all fun x => s_ckM 15 x.1 x.2) = true := by decide +kernel
set_option maxRecDepth 100000 in
theorem s_cC15 : ((s_cp15.2.2.2.1.zip []).all fun x => s_ckC 15 x.1 x.2) = true := by decide +kernel
set_option maxRecDepth 100000 in
theorem s_cK15 : ((s_cp15.2.2.2.2.zip []).all fun x => s_ckK 15 x.1 x.2) = true := by decide +kernel
theorem s_okp15 : s_okP 15 s_cp15 := ⟨s_zip (s_ckF 15) _ _ (by decide +kernel) s_cF15, s_zip (s_ckS 15) _ _ (by decide +kernel) s_cS15, s_zip (s_ckM 15) _ _ (by decide +kernel) s_cM15, s_zip (s_ckC 15) _ _ (by decide +kernel) s_cC15, s_zip (s_ckK 15) _ _ (by decide +kernel) s_cK15⟩
set_option maxRecDepth 100000 in
theorem s_cF16 : ((s_cp16.1.zip []).all fun x => s_ckF 16 x.1 x.2) = true := by decide +kernel
set_option maxRecDepth 100000 in
theorem s_cS16 : ((s_cp16.2.1.zip []).all fun x => s_ckS 16 x.1 x.2) = true := by decide +kernel
set_option maxRecDepth 100000 in
theorem s_cM16 : ((s_cp16.2.2.1.zip []).all fun x => s_ckM 16 x.1 x.2) = true := by decide +kernel
set_option maxRecDepth 100000 in
theorem s_cC16 : ((s_cp16.2.2.2.1.zip []).all fun x => s_ckC 16 x.1 x.2) = true := by decide +kernel
set_option maxRecDepth 100000 in
theorem s_cK16 : ((s_cp16.2.2.2.2.zip []).all fun x => s_ckK 16 x.1 x.2) = true := by decide +kernel
theorem s_okp16 : s_okP 16 s_cp16 := ⟨s_zip (s_ckF 16) _ _ (by decide +kernel) s_cF16, s_zip (s_ckS 16) _ _ (by decide +kernel) s_cS16, s_zip (s_ckM 16) _ _ (by decide +kernel) s_cM16, s_zip (s_ckC 16) _ _ (by decide +kernel) s_cC16, s_zip (s_ckK 16) _ _ (by decide +kernel) s_cK16⟩
theorem s_okPs : ∀ (own : Nat) (cp : s_C), s_cps[own]? = some cp → s_okP own cp := by
  intro own cp h
  match own, h with
  | 0, h => cases h; exact s_okp0
  | 1, h => cases h; exact s_okp1
  | 2, h => cases h; exact s_okp2
  | 3, h => cases h; exact s_okp3
  | 4, h => cases h; exact s_okp4
  | 5, h => cases h; exact s_okp5
  | 6, h => cases h; exact s_okp6
  | 7, h => cases h; exact s_okp7
  | 8, h => cases h; exact s_okp8
  | 9, h => cases h; exact s_okp9
  | 10, h => cases h; exact s_okp10
  | 11, h => cases h; exact s_okp11
  | 12, h => cases h; exact s_okp12
  | 13, h => cases h; exact s_okp13
  | 14, h => cases h; exact s_okp14
  | 15, h => cases h; exact s_okp15
  | 16, h => cases h; exact s_okp16
  | n + 17, h => exact absurd (List.getElem?_eq_some_iff.mp h).1 (by show ¬ n + 17 < 17; omega)
theorem s_look_mem {α : Type} : ∀ (l : List (Nat × α)) (n : Nat) (x : α), s_look l n = some x → (n, x) ∈ l := by
  intro l
  induction l with
  | nil => intro n x h; cases h
  | cons a t ih =>
    intro n x h
    obtain ⟨k, y⟩ := a
    unfold s_look at h
    cases hb : Nat.beq k n with
    | true =>
      rw [hb] at h
      have e := Nat.eq_of_beq_eq_true hb
      subst e
      cases h
      exact List.mem_cons_self
    | false =>
      rw [hb] at h
      exact List.mem_cons_of_mem _ (ih n x h)
theorem s_w1 : Cond.instanceMethod objectInit ∈ lw_tbl := s_wAt_mem (p := 146) (by decide +kernel)
theorem s_w2 : Cond.code objectInit ⟨#[0xb1]⟩ 1 none ∈ lw_tbl := s_wAt_mem (p := 147) (by decide +kernel)
theorem s_w3 : Cond.native arraycopyName ∈ lw_tbl := s_wAt_mem (p := 712) (by decide +kernel)
theorem s_w4 : Cond.static arraycopyName ∈ lw_tbl := s_wAt_mem (p := 711) (by decide +kernel)
theorem s_w5 : Cond.initialized "java/lang/System" ∈ lw_tbl := s_wAt_mem (p := 130) (by decide +kernel)
theorem s_wa100 : Cond.arrayClass .byte ∈ lw_tbl := s_wAt_mem (p := 206) (by decide +kernel)
theorem s_wa101 : Cond.arrayClass .int ∈ lw_tbl := s_wAt_mem (p := 292) (by decide +kernel)
theorem s_wa102 : Cond.arrayClass .long ∈ lw_tbl := s_wAt_mem (p := 291) (by decide +kernel)
theorem s_wa103 : Cond.arrayClass .boolean ∈ lw_tbl := s_wAt_mem (p := 1545) (by decide +kernel)
theorem s_wm0 : Cond.static Lib.Math.min.name ∈ lw_tbl := s_wAt_mem (p := 603) (by decide +kernel)
theorem s_wc0 : Cond.code Lib.Math.min.name Lib.Math.min.code 2 (some .int) ∈ lw_tbl := s_wAt_mem (p := 604) (by decide +kernel)
theorem s_wm1 : Cond.static Lib.Math.max.name ∈ lw_tbl := s_wAt_mem (p := 910) (by decide +kernel)
theorem s_wc1 : Cond.code Lib.Math.max.name Lib.Math.max.code 2 (some .int) ∈ lw_tbl := s_wAt_mem (p := 911) (by decide +kernel)
theorem s_wi : Cond.initialized "java/lang/Math" ∈ lw_tbl := s_wAt_mem (p := 127) (by decide +kernel)
end
section
-- SOUNDNESS of the pure machine, an instruction a case
def s_A (base : Nat) : Nat → Prop := fun q => base ≤ q
def s_tys (cid : Nat → ClassId) : List (ClassId × FieldType) := [(cid 100, .byte), (cid 101, .int), (cid 102, .long), (cid 103, .boolean), (cid 104, .object RX10), (cid 105, .object RX8), (cid 106, .object RX5)]
def s_HR (base : Nat) (ρ : Nat → Nat) (D : va_G) (cid : Nat → ClassId) (xs : Nat → Int32) (Ln : Nat) (h : s_H) (H : Heap) : Prop := va_P D s_cl2 (s_w base ρ cid h) H ∧ (h.2.2.1 = false → h.2.2.2.1 1200 = xs ∧ h.2.2.2.1 1201 0 = Int32.ofNat Ln)
/-- the text constants, and what the JDK's own code reads on the way to their signs -/
def s_SS (base : Nat) (ρ : Nat → Nat) (U : State) : Prop :=
  (∀ i, i < 3 → ∃ t, va_O "java/lang/String" (ρ (1300 + i)) (s_A base) U U.heap ∧ va_OF "java/lang/String" "coder" "B" (.int 0) (ρ (1300 + i)) (s_A base) U U.heap ∧ va_OF "java/lang/String" "value" "[B" (.ref t) (ρ (1300 + i)) (s_A base) U U.heap ∧ va_T .byte t (s_txs.getD i []).length (fun j => .int ((s_txs.getD i []).getD j 0)) (s_A base) U U.heap) ∧
  va_Z "java/lang/String" "COMPACT_STRINGS" "Z" (.int 1) (s_A base) U U.heap ∧ va_Zq "jdk/internal/util/Preconditions" "SIOOBE_FORMATTER" "Ljava/util/function/BiFunction;" (s_A base) U U.heap
def s_SR (base : Nat) (ρ : Nat → Nat) (D : va_G) (cid : Nat → ClassId) (xs : Nat → Int32) (Ln : Nat) (U : State) : Prop :=
  va_K D s_cl2 (s_tys cid) U ∧ (∀ w ∈ s_nws, va_Nw w U) ∧ (va_AO RX10 U ∧ va_AO RX8 U ∧ va_AO RX5 U) ∧
  ((∀ i, i < 29 → va_Z RX10 (s_wn.getD i "") "LCampAshes$Word;" (.ref (ρ (1000 + i))) (s_A base) U U.heap) ∧ va_Z RX10 "ALL" "[LCampAshes$Word;" (.ref (ρ 1100)) (s_A base) U U.heap) ∧
  (∀ i, i < 29 → va_OF RX10 "letters" "J" (.long (s_wl.getD i 0)) (ρ (1000 + i)) (s_A base) U U.heap ∧ va_OF RX10 "kind" "I" (.int (s_wk i)) (ρ (1000 + i)) (s_A base) U U.heap ∧ va_O RX10 (ρ (1000 + i)) (s_A base) U U.heap ∧ va_Any RX10 U U.heap (ρ (1000 + i))) ∧
  va_T (.object RX10) (ρ 1100) 29 (fun j => .ref (ρ (1000 + j))) (s_A base) U U.heap ∧
  (va_X (ρ 1200) Ln xs U U.heap ∧ ¬ s_A base (ρ 1200) ∧ ρ 1200 < U.heap.size ∧ Ln < 2 ^ 31) ∧
  ((∀ (k a : Nat), (k, (.ref a : Value)) ∈ s_cp11.2.2.2.2 → vk_R (s_R 11) k (s_sx.getD (a - 1300) "") (ρ a) U) ∧ s_SS base ρ U) ∧ base ≤ U.heap.size
def s_Cx (p : Program) (s : State) (m : MethodId) (args : Array Value) (meth : Method) (c : Code) (base : Nat) (ρ : Nat → Nat) (D : va_G) (cid : Nat → ClassId) (xs : Nat → Int32) (Ln : Nat) (q : s_M) : Prop :=
  p.tables.exec = Jvm.exec ∧ c.code = q.2.1 ∧ c.maxLocals = q.2.2.1 ∧ s.vm.findClass (s_R q.2.2.2.2.1) = some m.cls ∧ (∀ w ∈ s_gw, w.before args s = true) ∧ (q.2.2.2.2.2.1 = true → meth.name = "<init>") ∧ s_SR base ρ D cid xs Ln s ∧ (∀ a, a < 1000 → ρ a = base + a) ∧ (∀ a b, 1000 ≤ a → a < 1029 → 1000 ≤ b → b < 1029 → ρ a = ρ b → a = b) ∧ s_dec q.2.1 q.2.2.2.2.2.2 ∧ q.2.2.2.2.2.2.all s_ck = true
theorem s_nx_of {pc pc1 : Nat} {L L1 : s_L} {st st1 : List Value} {h h1 : s_H} (e : s_nx pc L st h = some (.inl (pc1, L1, st1, h1))) : pc1 = pc ∧ L1 = L ∧ st1 = st ∧ h1 = h := by
  unfold s_nx at e
  have e2 := Sum.inl.inj (Option.some.inj e)
  have e3 := Prod.mk.inj e2
  have e4 := Prod.mk.inj e3.2
  have e5 := Prod.mk.inj e4.2
  exact ⟨e3.1.symm, e4.1.symm, e5.1.symm, e5.2.symm⟩
theorem s_br_of {c : Prop} [Decidable c] {tg pc pc1 : Nat} {L L1 : s_L} {st st1 : List Value} {h h1 : s_H} (e : s_br c tg pc L st h = some (.inl (pc1, L1, st1, h1))) : ((c ∧ pc1 = tg) ∨ (¬ c ∧ pc1 = pc + 3)) ∧ L1 = L ∧ st1 = st ∧ h1 = h := by
  unfold s_br at e
  by_cases hc : c
  · rw [if_pos hc] at e
    obtain ⟨a, b⟩ := s_nx_of e
    exact ⟨Or.inl ⟨hc, a⟩, b⟩
  · rw [if_neg hc] at e
    obtain ⟨a, b⟩ := s_nx_of e
    exact ⟨Or.inr ⟨hc, a⟩, b⟩
theorem s_i1_of {st : List Value} {k : Int32 → List Value → Option s_O} {y : s_O} (e : s_i1 st k = some y) : ∃ x r, st = .int x :: r ∧ k x r = some y := by
  unfold s_i1 at e
  split at e
  · exact ⟨_, _, rfl, e⟩
  · cases e
theorem s_ii_of {st : List Value} {k : Int32 → Int32 → List Value → Option s_O} {z : s_O} (e : s_ii st k = some z) : ∃ x y r, st = .int y :: .int x :: r ∧ k x y r = some z := by
  unfold s_ii at e
  split at e
  · exact ⟨_, _, _, rfl, e⟩
  · cases e
theorem s_l1_of {st : List Value} {k : Int64 → List Value → Option s_O} {y : s_O} (e : s_l1 st k = some y) : ∃ x r, st = .long x :: r ∧ k x r = some y := by
  unfold s_l1 at e
  split at e
  · exact ⟨_, _, rfl, e⟩
  · cases e
theorem s_ll_of {st : List Value} {k : Int64 → Int64 → List Value → Option s_O} {z : s_O} (e : s_ll st k = some z) : ∃ x y r, st = .long y :: .long x :: r ∧ k x y r = some z := by
  unfold s_ll at e
  split at e
  · exact ⟨_, _, _, rfl, e⟩
  · cases e
theorem s_r1_of {st : List Value} {k : Nat → List Value → Option s_O} {y : s_O} (e : s_r1 st k = some y) : ∃ x r, st = .ref x :: r ∧ k x r = some y := by
  unfold s_r1 at e
  split at e
  · exact ⟨_, _, rfl, e⟩
  · cases e
theorem s_ir_of {st : List Value} {k : Int32 → Nat → List Value → Option s_O} {y : s_O} (e : s_ir st k = some y) : ∃ i a r, st = .int i :: .ref a :: r ∧ k i a r = some y := by
  unfold s_ir at e
  split at e
  · exact ⟨_, _, _, rfl, e⟩
  · cases e
theorem s_c1_cat {v : Value} (h : s_c1 v = true) (ρ : Nat → Nat) : (s_v ρ v).category = 1 := by
  cases v <;> first | rfl | cases h
theorem s_or_of {v : Value} {r : Option Nat} (h : s_or v = some r) (ρ : Nat → Nat) : s_v ρ v = va_rf (r.map ρ) := by
  cases v <;> first | (cases h; rfl) | cases h
theorem s_ow_of {v : Value} {r : Option Nat} (h : s_ow v = some r) : s_or v = some r ∧ ∀ a, r = some a → 1000 ≤ a ∧ a < 1029 := by
  cases v with
  | ref a =>
    unfold s_ow at h
    dsimp only at h
    split at h
    · rename_i hw
      cases h
      exact ⟨rfl, fun b hb => by cases hb; exact hw⟩
    · cases h
  | null =>
    cases h
    exact ⟨rfl, fun b hb => by cases hb⟩
  | _ => cases h
theorem s_w_new {base : Nat} {ρ : Nat → Nat} {cid : Nat → ClassId} {h : s_H} (n : Nat) : s_w base ρ cid (s_new h n) = s_w base ρ cid h ++ [(base + h.1, s_E ρ cid (s_new h n) h.1)] := by
  unfold s_w
  show (List.range (h.1 + 1)).map _ = _
  rw [List.range_succ, List.map_append]
  congr 1
  apply List.map_congr_left
  intro a ha
  have hne : a ≠ h.1 := by
    have := List.mem_range.mp ha
    omega
  congr 1
  exact s_E_congr (s_cl0_n _ _ hne) (s_cl0_n _ _ hne) (s_cl0_n _ _ hne)
section SND
variable {p : Program} {l : Launch} {e : Env} {R : Room} {s : State} {m : MethodId} {args : Array Value} {below : List Frame} {meth : Method} {c : Code} {Q : State → Prop}
variable {base : Nat} {ρ : Nat → Nat} {D : va_G} {cid : Nat → ClassId} {xs : Nat → Int32} {Ln : Nat}
abbrev s_K (p : Program) (l : Launch) (e : Env) (R : Room) (s : State) (m : MethodId) (args : Array Value) (below : List Frame) (meth : Method) (c : Code) (Q : State → Prop) (base : Nat) (ρ : Nat → Nat) (D : va_G) (cid : Nat → ClassId) (xs : Nat → Int32) (Ln : Nat) (q : s_M) (n0 z0 G Gs : Nat) (pc1 : Nat) (L1 : s_L) (st1 : List Value) (h1 : s_H) : Prop :=
  ∀ (H1 : Heap) (locs1 : List Loc) (ls1 : Array Slot), s_HR base ρ D cid xs Ln h1 H1 → va_S (s_A base) s.heap H1 locs1 → lv_has ls1 q.2.2.1 (s_as ρ 0 L1) → L1.length = q.2.2.1 → W p l e R s m args below meth c H1 locs1 (h1.1 - n0 + G) (h1.2.1 - z0 + Gs) Q (F0 m pc1 ls1 (st1.map (s_v ρ)))
theorem s_ild_of {L L1 : s_L} {i pc pc1 : Nat} {st st1 : List Value} {h h1 : s_H} (e : s_ild L i pc st h = some (.inl (pc1, L1, st1, h1))) : ∃ x, L[i]? = some (some (.int x)) ∧ pc1 = pc ∧ L1 = L ∧ st1 = .int x :: st ∧ h1 = h := by
  unfold s_ild at e
  split at e
  · rename_i x hx
    exact ⟨x, hx, s_nx_of e⟩
  · cases e
theorem s_lld_of {L L1 : s_L} {i pc pc1 : Nat} {st st1 : List Value} {h h1 : s_H} (e : s_lld L i pc st h = some (.inl (pc1, L1, st1, h1))) : ∃ x, L[i]? = some (some (.long x)) ∧ pc1 = pc ∧ L1 = L ∧ st1 = .long x :: st ∧ h1 = h := by
  unfold s_lld at e
  split at e
  · rename_i x hx
    exact ⟨x, hx, s_nx_of e⟩
  · cases e
theorem s_ald_of {L L1 : s_L} {i pc pc1 : Nat} {st st1 : List Value} {h h1 : s_H} (e : s_ald L i pc st h = some (.inl (pc1, L1, st1, h1))) : ∃ v, L[i]? = some (some v) ∧ (v = .null ∨ ∃ x, v = .ref x) ∧ pc1 = pc ∧ L1 = L ∧ st1 = v :: st ∧ h1 = h := by
  unfold s_ald at e
  split at e
  · rename_i x hx
    exact ⟨_, hx, Or.inr ⟨x, rfl⟩, s_nx_of e⟩
  · rename_i hx
    exact ⟨_, hx, Or.inl rfl, s_nx_of e⟩
  · cases e
theorem s_blt {a b : Nat} (h : Nat.blt a b = true) : a < b := Nat.lt_of_succ_le (by simpa [Nat.blt] using h)
theorem s_ist_of {L L1 : s_L} {i pc pc1 : Nat} {st st1 : List Value} {h h1 : s_H} (e : s_ist L i pc st h = some (.inl (pc1, L1, st1, h1))) : ∃ x r, i < L.length ∧ st = .int x :: r ∧ pc1 = pc ∧ L1 = s_s1 L i (.int x) ∧ st1 = r ∧ h1 = h := by
  unfold s_ist at e
  split at e
  · rename_i hb
    obtain ⟨x, r, rfl, e⟩ := s_i1_of e
    exact ⟨x, r, s_blt hb, rfl, s_nx_of e⟩
  · cases e
theorem s_lst_of {L L1 : s_L} {i pc pc1 : Nat} {st st1 : List Value} {h h1 : s_H} (e : s_lst L i pc st h = some (.inl (pc1, L1, st1, h1))) : ∃ x r, i + 1 < L.length ∧ st = .long x :: r ∧ pc1 = pc ∧ L1 = s_s2 L i (.long x) ∧ st1 = r ∧ h1 = h := by
  unfold s_lst at e
  split at e
  · rename_i hb
    obtain ⟨x, r, rfl, e⟩ := s_l1_of e
    exact ⟨x, r, s_blt hb, rfl, s_nx_of e⟩
  · cases e
theorem s_ast_of {L L1 : s_L} {i pc pc1 : Nat} {st st1 : List Value} {h h1 : s_H} (e : s_ast L i pc st h = some (.inl (pc1, L1, st1, h1))) : ∃ v r, i < L.length ∧ (v = .null ∨ ∃ x, v = .ref x) ∧ st = v :: r ∧ pc1 = pc ∧ L1 = s_s1 L i v ∧ st1 = r ∧ h1 = h := by
  unfold s_ast at e
  split at e
  · rename_i hb
    split at e
    · exact ⟨_, _, s_blt hb, Or.inr ⟨_, rfl⟩, rfl, s_nx_of e⟩
    · exact ⟨_, _, s_blt hb, Or.inl rfl, rfl, s_nx_of e⟩
    · cases e
  · cases e
def s_hd (i : Instr) : Bool := match i with
  | .aconst_null => true
  | .iconst _ => true
  | .bipush _ => true
  | .sipush _ => true
  | .lconst _ => true
  | .iload_n _ => true
  | .iload _ => true
  | .lload_n _ => true
  | .lload _ => true
  | .aload_n _ => true
  | .aload _ => true
  | .istore_n _ => true
  | .istore _ => true
  | .lstore_n _ => true
  | .lstore _ => true
  | .astore_n _ => true
  | .astore _ => true
  | .iinc _ _ => true
  | .iadd => true
  | .isub => true
  | .imul => true
  | .iand => true
  | .ior => true
  | .ixor => true
  | .ishl => true
  | .ishr => true
  | .idiv => true
  | .irem => true
  | .ineg => true
  | .iushr => true
  | .ladd => true
  | .lsub => true
  | .lmul => true
  | .land => true
  | .ldiv => true
  | .lrem => true
  | .lshr => true
  | .lcmp => true
  | .i2l => true
  | .l2i => true
  | .i2b => true
  | .dup => true
  | .dup2 => true
  | .pop => true
  | .ifCond _ _ => true
  | .if_icmp _ _ => true
  | .if_acmp _ _ => true
  | .ifnull _ => true
  | .ifnonnull _ => true
  | .goto _ => true
  | _ => false
set_option maxHeartbeats 4000000 in
/-- loads, stores, numbers, branches: whatever touches no cell -/
theorem s_step1 {cp0 : s_C} {q : s_M} {n0 z0 G Gs pc pc1 len tg : Nat} {L L1 : s_L} {st st1 : List Value} {h h1 : s_H} {H : Heap} {locs : List Loc} {ls : Array Slot}
    (cx : s_Cx p s m args meth c base ρ D cid xs Ln q) (hH : s_HR base ρ D cid xs Ln h H) (hS : va_S (s_A base) s.heap H locs) (hl : lv_has ls q.2.2.1 (s_as ρ 0 L)) (hL : L.length = q.2.2.1) {i : Instr} (hex : s_ex cp0 q.2.2.2.2.1 q.2.2.2.2.2.1 q.2.2.2.1 pc i tg L st h = some (.inl (pc1, L1, st1, h1))) (hlk : s_lk i len = true) (htk : s_tk pc i tg = true) (hdg : decode q.2.1 pc = .ok (i, len))
    (kk : s_K p l e R s m args below meth c Q base ρ D cid xs Ln q n0 z0 G Gs pc1 L1 st1 h1)
    (rest : s_hd i = false → W p l e R s m args below meth c H locs (h.1 - n0 + G) (h.2.1 - z0 + Gs) Q (F0 m pc ls (st.map (s_v ρ)))) : W p l e R s m args below meth c H locs (h.1 - n0 + G) (h.2.1 - z0 + Gs) Q (F0 m pc ls (st.map (s_v ρ))) := by
  obtain ⟨hx, hb, hml, hown, hts, hin, hSR, hρ, hinj, hdc, hck⟩ := cx
  cases i with
  | aconst_null =>
    obtain rfl : 1 = len := Nat.eq_of_beq_eq_true hlk
    obtain ⟨rfl, rfl, rfl, rfl⟩ := s_nx_of hex
    exact lv_null hx hb hdg (kk H locs ls hH hS hl hL)
  | iconst n =>
    obtain rfl : 1 = len := Nat.eq_of_beq_eq_true hlk
    obtain ⟨rfl, rfl, rfl, rfl⟩ := s_nx_of hex
    exact lv_iconst hx hb hdg rfl (kk H locs ls hH hS hl hL)
  | bipush n =>
    obtain rfl : 2 = len := Nat.eq_of_beq_eq_true hlk
    obtain ⟨rfl, rfl, rfl, rfl⟩ := s_nx_of hex
    exact lv_bipush hx hb hdg rfl (kk H locs ls hH hS hl hL)
  | sipush n =>
    obtain rfl : 3 = len := Nat.eq_of_beq_eq_true hlk
    obtain ⟨rfl, rfl, rfl, rfl⟩ := s_nx_of hex
    exact lv_sipush hx hb hdg rfl (kk H locs ls hH hS hl hL)
  | lconst n =>
    obtain rfl : 1 = len := Nat.eq_of_beq_eq_true hlk
    obtain ⟨rfl, rfl, rfl, rfl⟩ := s_nx_of hex
    exact lv_lconst hx hb hdg rfl (kk H locs ls hH hS hl hL)
  | iload_n k =>
    obtain rfl : 1 = len := Nat.eq_of_beq_eq_true hlk
    obtain ⟨x, hx1, rfl, rfl, rfl, rfl⟩ := s_ild_of hex
    exact lv_iload_n hx hb hdg rfl (s_lat hl hx1) (kk H locs ls hH hS hl hL)
  | iload k =>
    obtain rfl : 2 = len := Nat.eq_of_beq_eq_true hlk
    obtain ⟨x, hx1, rfl, rfl, rfl, rfl⟩ := s_ild_of hex
    exact lv_iload hx hb hdg (s_lat hl hx1) (kk H locs ls hH hS hl hL)
  | lload_n k =>
    obtain rfl : 1 = len := Nat.eq_of_beq_eq_true hlk
    obtain ⟨x, hx1, rfl, rfl, rfl, rfl⟩ := s_lld_of hex
    exact lv_lload_n hx hb hdg rfl (s_lat hl hx1) (kk H locs ls hH hS hl hL)
  | lload k =>
    obtain rfl : 2 = len := Nat.eq_of_beq_eq_true hlk
    obtain ⟨x, hx1, rfl, rfl, rfl, rfl⟩ := s_lld_of hex
    exact lv_lload hx hb hdg (s_lat hl hx1) (kk H locs ls hH hS hl hL)
  | aload_n k =>
    obtain rfl : 1 = len := Nat.eq_of_beq_eq_true hlk
    obtain ⟨v, hx1, hv, rfl, rfl, rfl, rfl⟩ := s_ald_of hex
    rcases hv with rfl | ⟨x, rfl⟩
    · exact lv_aload_nN hx hb hdg rfl (s_lat hl hx1) (kk H locs ls hH hS hl hL)
    · exact lv_aload_n hx hb hdg rfl (s_lat hl hx1) (kk H locs ls hH hS hl hL)
  | aload k =>
    obtain rfl : 2 = len := Nat.eq_of_beq_eq_true hlk
    obtain ⟨v, hx1, hv, rfl, rfl, rfl, rfl⟩ := s_ald_of hex
    rcases hv with rfl | ⟨x, rfl⟩
    · exact lv_aloadN hx hb hdg (s_lat hl hx1) (kk H locs ls hH hS hl hL)
    · exact lv_aload hx hb hdg (s_lat hl hx1) (kk H locs ls hH hS hl hL)
  | istore_n k =>
    obtain rfl : 1 = len := Nat.eq_of_beq_eq_true hlk
    obtain ⟨x, r, hi, rfl, rfl, rfl, rfl, rfl⟩ := s_ist_of hex
    exact lv_istore_n hx hb hdg rfl hl (by rw [← hL]; exact hi) rfl (fun ls1 hl1 => kk H locs ls1 hH hS (s_st1 (v := .int x) hl1) (by rw [s_s1_len]; exact hL))
  | istore k =>
    obtain rfl : 2 = len := Nat.eq_of_beq_eq_true hlk
    obtain ⟨x, r, hi, rfl, rfl, rfl, rfl, rfl⟩ := s_ist_of hex
    exact lv_istore hx hb hdg hl (by rw [← hL]; exact hi) rfl (fun ls1 hl1 => kk H locs ls1 hH hS (s_st1 (v := .int x) hl1) (by rw [s_s1_len]; exact hL))
  | lstore_n k =>
    obtain rfl : 1 = len := Nat.eq_of_beq_eq_true hlk
    obtain ⟨x, r, hi, rfl, rfl, rfl, rfl, rfl⟩ := s_lst_of hex
    exact lv_lstore_n hx hb hdg rfl hl (by rw [← hL]; exact hi) rfl (fun ls1 hl1 => kk H locs ls1 hH hS (s_st2 (v := .long x) hl1) (by rw [s_s2_len]; exact hL))
  | lstore k =>
    obtain rfl : 2 = len := Nat.eq_of_beq_eq_true hlk
    obtain ⟨x, r, hi, rfl, rfl, rfl, rfl, rfl⟩ := s_lst_of hex
    exact lv_lstore hx hb hdg hl (by rw [← hL]; exact hi) rfl (fun ls1 hl1 => kk H locs ls1 hH hS (s_st2 (v := .long x) hl1) (by rw [s_s2_len]; exact hL))
  | astore_n k =>
    obtain rfl : 1 = len := Nat.eq_of_beq_eq_true hlk
    obtain ⟨v, r, hi, hv, rfl, rfl, rfl, rfl, rfl⟩ := s_ast_of hex
    rcases hv with rfl | ⟨x, rfl⟩
    · exact lv_astore_nN hx hb hdg rfl hl (by rw [← hL]; exact hi) rfl (fun ls1 hl1 => kk H locs ls1 hH hS (s_st1 (v := .null) hl1) (by rw [s_s1_len]; exact hL))
    · exact lv_astore_n hx hb hdg rfl hl (by rw [← hL]; exact hi) rfl (fun ls1 hl1 => kk H locs ls1 hH hS (s_st1 (v := .ref x) hl1) (by rw [s_s1_len]; exact hL))
  | astore k =>
    obtain rfl : 2 = len := Nat.eq_of_beq_eq_true hlk
    obtain ⟨v, r, hi, hv, rfl, rfl, rfl, rfl, rfl⟩ := s_ast_of hex
    rcases hv with rfl | ⟨x, rfl⟩
    · exact lv_astoreN hx hb hdg hl (by rw [← hL]; exact hi) rfl (fun ls1 hl1 => kk H locs ls1 hH hS (s_st1 (v := .null) hl1) (by rw [s_s1_len]; exact hL))
    · exact lv_astore hx hb hdg hl (by rw [← hL]; exact hi) rfl (fun ls1 hl1 => kk H locs ls1 hH hS (s_st1 (v := .ref x) hl1) (by rw [s_s1_len]; exact hL))
  | iinc k n =>
    obtain rfl : 3 = len := Nat.eq_of_beq_eq_true hlk
    unfold s_ex at hex
    dsimp only at hex
    split at hex
    · rename_i x hx1
      obtain ⟨rfl, rfl, rfl, rfl⟩ := s_nx_of hex
      have hm := s_as_mem (ρ := ρ) L 0 k (.int x) hx1
      rw [Nat.zero_add] at hm
      obtain ⟨j, hj⟩ := List.getElem?_of_mem hm
      have hk : k < L.length := (List.getElem?_eq_some_iff.mp hx1).1
      exact lv_iinc hx hb hdg hl (k := j) hj rfl (by rw [← hL]; exact hk) rfl (fun ls1 hl1 => kk H locs ls1 hH hS (s_st1 (v := .int (x + Int32.ofInt n)) hl1) (by rw [s_s1_len]; exact hL))
    · cases hex
  | iadd =>
    obtain rfl : 1 = len := Nat.eq_of_beq_eq_true hlk
    obtain ⟨x, y, r, rfl, hex⟩ := s_ii_of hex
    obtain ⟨rfl, rfl, rfl, rfl⟩ := s_nx_of hex
    exact lv_iadd hx hb hdg (kk H locs ls hH hS hl hL)
  | isub =>
    obtain rfl : 1 = len := Nat.eq_of_beq_eq_true hlk
    obtain ⟨x, y, r, rfl, hex⟩ := s_ii_of hex
    obtain ⟨rfl, rfl, rfl, rfl⟩ := s_nx_of hex
    exact lv_isub hx hb hdg (kk H locs ls hH hS hl hL)
  | imul =>
    obtain rfl : 1 = len := Nat.eq_of_beq_eq_true hlk
    obtain ⟨x, y, r, rfl, hex⟩ := s_ii_of hex
    obtain ⟨rfl, rfl, rfl, rfl⟩ := s_nx_of hex
    exact lv_imul hx hb hdg (kk H locs ls hH hS hl hL)
  | iand =>
    obtain rfl : 1 = len := Nat.eq_of_beq_eq_true hlk
    obtain ⟨x, y, r, rfl, hex⟩ := s_ii_of hex
    obtain ⟨rfl, rfl, rfl, rfl⟩ := s_nx_of hex
    exact lv_iand hx hb hdg (kk H locs ls hH hS hl hL)
  | ior =>
    obtain rfl : 1 = len := Nat.eq_of_beq_eq_true hlk
    obtain ⟨x, y, r, rfl, hex⟩ := s_ii_of hex
    obtain ⟨rfl, rfl, rfl, rfl⟩ := s_nx_of hex
    exact lv_ior hx hb hdg (kk H locs ls hH hS hl hL)
  | ixor =>
    obtain rfl : 1 = len := Nat.eq_of_beq_eq_true hlk
    obtain ⟨x, y, r, rfl, hex⟩ := s_ii_of hex
    obtain ⟨rfl, rfl, rfl, rfl⟩ := s_nx_of hex
    exact lv_ixor hx hb hdg (kk H locs ls hH hS hl hL)
  | ishl =>
    obtain rfl : 1 = len := Nat.eq_of_beq_eq_true hlk
    obtain ⟨x, y, r, rfl, hex⟩ := s_ii_of hex
    obtain ⟨rfl, rfl, rfl, rfl⟩ := s_nx_of hex
    exact lv_ishl hx hb hdg (kk H locs ls hH hS hl hL)
  | ishr =>
    obtain rfl : 1 = len := Nat.eq_of_beq_eq_true hlk
    obtain ⟨x, y, r, rfl, hex⟩ := s_ii_of hex
    obtain ⟨rfl, rfl, rfl, rfl⟩ := s_nx_of hex
    exact lv_ishr hx hb hdg (kk H locs ls hH hS hl hL)
  | idiv =>
    obtain rfl : 1 = len := Nat.eq_of_beq_eq_true hlk
    obtain ⟨x, y, r, rfl, hex2⟩ := s_ii_of hex
    split at hex2
    · cases hex2
    · rename_i hne
      obtain ⟨rfl, rfl, rfl, rfl⟩ := s_nx_of hex2
      exact lv_idiv hx hb hdg hne (kk H locs ls hH hS hl hL)
  | irem =>
    obtain rfl : 1 = len := Nat.eq_of_beq_eq_true hlk
    obtain ⟨x, y, r, rfl, hex2⟩ := s_ii_of hex
    split at hex2
    · cases hex2
    · rename_i hne
      obtain ⟨rfl, rfl, rfl, rfl⟩ := s_nx_of hex2
      exact lv_irem hx hb hdg hne (kk H locs ls hH hS hl hL)
  | ineg =>
    obtain rfl : 1 = len := Nat.eq_of_beq_eq_true hlk
    obtain ⟨x, r, rfl, hex⟩ := s_i1_of hex
    obtain ⟨rfl, rfl, rfl, rfl⟩ := s_nx_of hex
    exact lv_ineg hx hb hdg (kk H locs ls hH hS hl hL)
  | iushr =>
    obtain rfl : 1 = len := Nat.eq_of_beq_eq_true hlk
    obtain ⟨x, y, r, rfl, hex⟩ := s_ii_of hex
    obtain ⟨rfl, rfl, rfl, rfl⟩ := s_nx_of hex
    exact lv_iushr hx hb hdg rfl (kk H locs ls hH hS hl hL)
  | ladd =>
    obtain rfl : 1 = len := Nat.eq_of_beq_eq_true hlk
    obtain ⟨x, y, r, rfl, hex⟩ := s_ll_of hex
    obtain ⟨rfl, rfl, rfl, rfl⟩ := s_nx_of hex
    exact lv_ladd hx hb hdg (kk H locs ls hH hS hl hL)
  | lsub =>
    obtain rfl : 1 = len := Nat.eq_of_beq_eq_true hlk
    obtain ⟨x, y, r, rfl, hex⟩ := s_ll_of hex
    obtain ⟨rfl, rfl, rfl, rfl⟩ := s_nx_of hex
    exact lv_lsub hx hb hdg (kk H locs ls hH hS hl hL)
  | lmul =>
    obtain rfl : 1 = len := Nat.eq_of_beq_eq_true hlk
    obtain ⟨x, y, r, rfl, hex⟩ := s_ll_of hex
    obtain ⟨rfl, rfl, rfl, rfl⟩ := s_nx_of hex
    exact lv_lmul hx hb hdg (kk H locs ls hH hS hl hL)
  | land =>
    obtain rfl : 1 = len := Nat.eq_of_beq_eq_true hlk
    obtain ⟨x, y, r, rfl, hex⟩ := s_ll_of hex
    obtain ⟨rfl, rfl, rfl, rfl⟩ := s_nx_of hex
    exact lv_land hx hb hdg (kk H locs ls hH hS hl hL)
  | ldiv =>
    obtain rfl : 1 = len := Nat.eq_of_beq_eq_true hlk
    obtain ⟨x, y, r, rfl, hex2⟩ := s_ll_of hex
    split at hex2
    · cases hex2
    · rename_i hne
      obtain ⟨rfl, rfl, rfl, rfl⟩ := s_nx_of hex2
      exact lv_ldiv hx hb hdg hne (kk H locs ls hH hS hl hL)
  | lrem =>
    obtain rfl : 1 = len := Nat.eq_of_beq_eq_true hlk
    obtain ⟨x, y, r, rfl, hex2⟩ := s_ll_of hex
    split at hex2
    · cases hex2
    · rename_i hne
      obtain ⟨rfl, rfl, rfl, rfl⟩ := s_nx_of hex2
      exact lv_lrem hx hb hdg hne (kk H locs ls hH hS hl hL)
  | lshr =>
    obtain rfl : 1 = len := Nat.eq_of_beq_eq_true hlk
    obtain ⟨y, r1, rfl, hex⟩ := s_i1_of hex
    obtain ⟨x, r, rfl, hex⟩ := s_l1_of hex
    obtain ⟨rfl, rfl, rfl, rfl⟩ := s_nx_of hex
    exact lv_lshr hx hb hdg rfl (kk H locs ls hH hS hl hL)
  | lcmp =>
    obtain rfl : 1 = len := Nat.eq_of_beq_eq_true hlk
    obtain ⟨x, y, r, rfl, hex⟩ := s_ll_of hex
    obtain ⟨rfl, rfl, rfl, rfl⟩ := s_nx_of hex
    exact W.lcmp hx hb hdg (kk H locs ls hH hS hl hL)
  | i2l =>
    obtain rfl : 1 = len := Nat.eq_of_beq_eq_true hlk
    obtain ⟨x, r, rfl, hex⟩ := s_i1_of hex
    obtain ⟨rfl, rfl, rfl, rfl⟩ := s_nx_of hex
    exact lv_i2l hx hb hdg rfl (kk H locs ls hH hS hl hL)
  | l2i =>
    obtain rfl : 1 = len := Nat.eq_of_beq_eq_true hlk
    obtain ⟨x, r, rfl, hex⟩ := s_l1_of hex
    obtain ⟨rfl, rfl, rfl, rfl⟩ := s_nx_of hex
    exact lv_l2i hx hb hdg rfl (kk H locs ls hH hS hl hL)
  | i2b =>
    obtain rfl : 1 = len := Nat.eq_of_beq_eq_true hlk
    obtain ⟨x, r, rfl, hex⟩ := s_i1_of hex
    obtain ⟨rfl, rfl, rfl, rfl⟩ := s_nx_of hex
    exact lv_i2b hx hb hdg rfl (kk H locs ls hH hS hl hL)
  | dup =>
    obtain rfl : 1 = len := Nat.eq_of_beq_eq_true hlk
    unfold s_ex at hex
    dsimp only at hex
    split at hex
    · split at hex
      · rename_i hc
        obtain ⟨rfl, rfl, rfl, rfl⟩ := s_nx_of hex
        exact lv_dup hx hb hdg (s_c1_cat hc ρ) (kk H locs ls hH hS hl hL)
      · cases hex
    · cases hex
  | dup2 =>
    obtain rfl : 1 = len := Nat.eq_of_beq_eq_true hlk
    unfold s_ex at hex
    dsimp only at hex
    split at hex
    · split at hex
      · rename_i hc
        rw [Bool.and_eq_true] at hc
        obtain ⟨rfl, rfl, rfl, rfl⟩ := s_nx_of hex
        exact lv_dup2_11 hx hb hdg (s_c1_cat hc.1 ρ) (s_c1_cat hc.2 ρ) (kk H locs ls hH hS hl hL)
      · cases hex
    · cases hex
  | pop =>
    obtain rfl : 1 = len := Nat.eq_of_beq_eq_true hlk
    unfold s_ex at hex
    dsimp only at hex
    split at hex
    · split at hex
      · rename_i hc
        obtain ⟨rfl, rfl, rfl, rfl⟩ := s_nx_of hex
        exact lv_pop hx hb hdg (s_c1_cat hc ρ) (kk H locs ls hH hS hl hL)
      · cases hex
    · cases hex
  | ifCond o1 o2 =>
    obtain rfl : 3 = len := Nat.eq_of_beq_eq_true hlk
    have ht : (pc : Int) + o2 = (tg : Int) := of_decide_eq_true htk
    obtain ⟨x, r, rfl, hex⟩ := s_i1_of hex
    cases o1 with
    | eq =>
      obtain ⟨hc, rfl, rfl, rfl⟩ := s_br_of hex
      rcases hc with ⟨hc, rfl⟩ | ⟨hc, rfl⟩
      · exact lv_if_eq hx hb hdg ht (fun _ => kk H locs ls hH hS hl hL) (fun hn => absurd hc hn)
      · exact lv_if_eq hx hb hdg ht (fun hn => absurd hn hc) (fun _ => kk H locs ls hH hS hl hL)
    | ne =>
      obtain ⟨hc, rfl, rfl, rfl⟩ := s_br_of hex
      rcases hc with ⟨hc, rfl⟩ | ⟨hc, rfl⟩
      · exact lv_if_ne hx hb hdg ht (fun _ => kk H locs ls hH hS hl hL) (fun hn => absurd hc (fun q => q hn))
      · exact lv_if_ne hx hb hdg ht (fun hn => absurd hn hc) (fun _ => kk H locs ls hH hS hl hL)
    | lt =>
      obtain ⟨hc, rfl, rfl, rfl⟩ := s_br_of hex
      rcases hc with ⟨hc, rfl⟩ | ⟨hc, rfl⟩
      · exact lv_if_lt hx hb hdg ht (fun _ => kk H locs ls hH hS hl hL) (fun hn => absurd hc hn)
      · exact lv_if_lt hx hb hdg ht (fun hn => absurd hn hc) (fun _ => kk H locs ls hH hS hl hL)
    | ge =>
      obtain ⟨hc, rfl, rfl, rfl⟩ := s_br_of hex
      rcases hc with ⟨hc, rfl⟩ | ⟨hc, rfl⟩
      · exact lv_if_ge hx hb hdg ht (fun _ => kk H locs ls hH hS hl hL) (fun hn => absurd hc hn)
      · exact lv_if_ge hx hb hdg ht (fun hn => absurd hn hc) (fun _ => kk H locs ls hH hS hl hL)
    | gt =>
      obtain ⟨hc, rfl, rfl, rfl⟩ := s_br_of hex
      rcases hc with ⟨hc, rfl⟩ | ⟨hc, rfl⟩
      · exact lv_if_gt hx hb hdg ht (fun _ => kk H locs ls hH hS hl hL) (fun hn => absurd hc hn)
      · exact lv_if_gt hx hb hdg ht (fun hn => absurd hn hc) (fun _ => kk H locs ls hH hS hl hL)
    | le =>
      obtain ⟨hc, rfl, rfl, rfl⟩ := s_br_of hex
      rcases hc with ⟨hc, rfl⟩ | ⟨hc, rfl⟩
      · exact lv_if_le hx hb hdg ht (fun _ => kk H locs ls hH hS hl hL) (fun hn => absurd hc hn)
      · exact lv_if_le hx hb hdg ht (fun hn => absurd hn hc) (fun _ => kk H locs ls hH hS hl hL)
  | if_icmp o1 o2 =>
    obtain rfl : 3 = len := Nat.eq_of_beq_eq_true hlk
    have ht : (pc : Int) + o2 = (tg : Int) := of_decide_eq_true htk
    obtain ⟨x, y, r, rfl, hex⟩ := s_ii_of hex
    cases o1 with
    | eq =>
      obtain ⟨hc, rfl, rfl, rfl⟩ := s_br_of hex
      rcases hc with ⟨hc, rfl⟩ | ⟨hc, rfl⟩
      · exact lv_icmp_eq hx hb hdg ht (fun _ => kk H locs ls hH hS hl hL) (fun hn => absurd hc hn)
      · exact lv_icmp_eq hx hb hdg ht (fun hn => absurd hn hc) (fun _ => kk H locs ls hH hS hl hL)
    | ne =>
      obtain ⟨hc, rfl, rfl, rfl⟩ := s_br_of hex
      rcases hc with ⟨hc, rfl⟩ | ⟨hc, rfl⟩
      · exact lv_icmp_ne hx hb hdg ht (fun _ => kk H locs ls hH hS hl hL) (fun hn => absurd hc (fun q => q hn))
      · exact lv_icmp_ne hx hb hdg ht (fun hn => absurd hn hc) (fun _ => kk H locs ls hH hS hl hL)
    | lt =>
      obtain ⟨hc, rfl, rfl, rfl⟩ := s_br_of hex
      rcases hc with ⟨hc, rfl⟩ | ⟨hc, rfl⟩
      · exact lv_icmp_lt hx hb hdg ht (fun _ => kk H locs ls hH hS hl hL) (fun hn => absurd hc hn)
      · exact lv_icmp_lt hx hb hdg ht (fun hn => absurd hn hc) (fun _ => kk H locs ls hH hS hl hL)
    | ge =>
      obtain ⟨hc, rfl, rfl, rfl⟩ := s_br_of hex
      rcases hc with ⟨hc, rfl⟩ | ⟨hc, rfl⟩
      · exact lv_icmp_ge hx hb hdg ht (fun _ => kk H locs ls hH hS hl hL) (fun hn => absurd hc hn)
      · exact lv_icmp_ge hx hb hdg ht (fun hn => absurd hn hc) (fun _ => kk H locs ls hH hS hl hL)
    | gt =>
      obtain ⟨hc, rfl, rfl, rfl⟩ := s_br_of hex
      rcases hc with ⟨hc, rfl⟩ | ⟨hc, rfl⟩
      · exact lv_icmp_gt hx hb hdg ht (fun _ => kk H locs ls hH hS hl hL) (fun hn => absurd hc hn)
      · exact lv_icmp_gt hx hb hdg ht (fun hn => absurd hn hc) (fun _ => kk H locs ls hH hS hl hL)
    | le =>
      obtain ⟨hc, rfl, rfl, rfl⟩ := s_br_of hex
      rcases hc with ⟨hc, rfl⟩ | ⟨hc, rfl⟩
      · exact lv_icmp_le hx hb hdg ht (fun _ => kk H locs ls hH hS hl hL) (fun hn => absurd hc hn)
      · exact lv_icmp_le hx hb hdg ht (fun hn => absurd hn hc) (fun _ => kk H locs ls hH hS hl hL)
  | if_acmp o1 o2 =>
    obtain rfl : 3 = len := Nat.eq_of_beq_eq_true hlk
    have ht : (pc : Int) + o2 = (tg : Int) := of_decide_eq_true htk
    cases st with
    | nil => cases hex
    | cons v st2 =>
      cases st2 with
      | nil => cases hex
      | cons w r =>
        cases hv0 : s_ow v with
        | none => simp only [s_ex, hv0] at hex; cases hex
        | some ry =>
          cases hw0 : s_ow w with
          | none => simp only [s_ex, hv0, hw0] at hex; cases hex
          | some rx =>
            simp only [s_ex, hv0, hw0] at hex
            obtain ⟨hv, hv2⟩ := s_ow_of hv0
            obtain ⟨hw, hw2⟩ := s_ow_of hw0
            have e1 : (v :: w :: r).map (s_v ρ) = va_rf (ry.map ρ) :: va_rf (rx.map ρ) :: r.map (s_v ρ) := by
              rw [List.map_cons, List.map_cons, s_or_of hv ρ, s_or_of hw ρ]
            rw [e1]
            have inj : rx.map ρ = ry.map ρ → rx = ry := by
              cases rx with
              | none => cases ry with
                | none => intro _; rfl
                | some b => intro q; cases q
              | some a => cases ry with
                | none => intro q; cases q
                | some b => intro q; exact congrArg some (hinj a b (hw2 a rfl).1 (hw2 a rfl).2 (hv2 b rfl).1 (hv2 b rfl).2 (Option.some.inj q))
            cases o1 with
            | eq =>
              obtain ⟨hc, rfl, rfl, rfl⟩ := s_br_of hex
              rcases hc with ⟨hc, rfl⟩ | ⟨hc, rfl⟩
              · exact lv_acmp_eq hx hb hdg ht (fun _ => kk H locs ls hH hS hl hL) (fun hn => absurd (by rw [hc]) hn)
              · exact lv_acmp_eq hx hb hdg ht (fun hn => absurd (inj hn) hc) (fun _ => kk H locs ls hH hS hl hL)
            | ne =>
              obtain ⟨hc, rfl, rfl, rfl⟩ := s_br_of hex
              rcases hc with ⟨hc, rfl⟩ | ⟨hc, rfl⟩
              · exact lv_acmp_ne hx hb hdg ht (fun _ => kk H locs ls hH hS hl hL) (fun hn => absurd (inj hn) hc)
              · exact lv_acmp_ne hx hb hdg ht (fun hn => absurd (by rw [Decidable.not_not.mp hc]) hn) (fun _ => kk H locs ls hH hS hl hL)
  | ifnull o2 =>
    obtain rfl : 3 = len := Nat.eq_of_beq_eq_true hlk
    have ht : (pc : Int) + o2 = (tg : Int) := of_decide_eq_true htk
    unfold s_ex at hex
    dsimp only at hex
    split at hex
    · obtain ⟨rfl, rfl, rfl, rfl⟩ := s_nx_of hex
      exact lv_ifnull hx hb hdg (kk H locs ls hH hS hl hL)
    · obtain ⟨rfl, rfl, rfl, rfl⟩ := s_nx_of hex
      exact lv_ifnullN hx hb hdg ht (kk H locs ls hH hS hl hL)
    · cases hex
  | ifnonnull o2 =>
    obtain rfl : 3 = len := Nat.eq_of_beq_eq_true hlk
    have ht : (pc : Int) + o2 = (tg : Int) := of_decide_eq_true htk
    unfold s_ex at hex
    dsimp only at hex
    split at hex
    · obtain ⟨rfl, rfl, rfl, rfl⟩ := s_nx_of hex
      exact lv_ifnonnull hx hb hdg ht (kk H locs ls hH hS hl hL)
    · obtain ⟨rfl, rfl, rfl, rfl⟩ := s_nx_of hex
      exact lv_ifnonnullN hx hb hdg (kk H locs ls hH hS hl hL)
    · cases hex
  | goto o2 =>
    obtain rfl : 3 = len := Nat.eq_of_beq_eq_true hlk
    have ht : (pc : Int) + o2 = (tg : Int) := of_decide_eq_true htk
    obtain ⟨rfl, rfl, rfl, rfl⟩ := s_nx_of hex
    exact lv_goto hx hb hdg ht (kk H locs ls hH hS hl hL)
  | _ => exact rest rfl
end SND
end
section
section SNE
variable {p : Program} {l : Launch} {e : Env} {R : Room} {s : State} {m : MethodId} {args : Array Value} {below : List Frame} {meth : Method} {c : Code} {Q : State → Prop}
variable {base : Nat} {ρ : Nat → Nat} {D : va_G} {cid : Nat → ClassId} {xs : Nat → Int32} {Ln : Nat}
/-- what a call of this heap's size tells: no more cells than were counted -/
theorem s_Wsz {H : Heap} {locs : List Loc} {cells slots : Nat} {g : JFrame} (k : H.size ≤ s.heap.size + cells → W p l e R s m args below meth c H locs cells slots Q g) : W p l e R s m args below meth c H locs cells slots Q g := by
  intro T hT X
  have h1 := X.same.2.2.1
  exact k (by rw [← hT]; exact h1) T hT X
theorem s_ckF_of {own : Nat} {cp : s_C} (hcp : s_cps[own]? = some cp) {x c k : Nat} (hl : s_look cp.1 x = some (c, k)) : (c = 10 ∧ ((k = 0 ∧ Cond.fieldLink (s_R own) x RX10 "letters" "J" ∈ s_gw) ∨ (k = 1 ∧ Cond.fieldLink (s_R own) x RX10 "kind" "I" ∈ s_gw))) ∨ (c ≠ 10 ∧ c < 13 ∧ k < s_nf c ∧ (Cond.fieldLink (s_R own) x (s_R c) (s_Tx c k).2.1 (s_Tx c k).2.2.1 ∈ s_gw ∨ Cond.fieldLinkNest (s_R own) x (s_R c) (s_Tx c k).2.1 (s_Tx c k).2.2.1 "CampAshes" ∈ s_nws)) := by
  obtain ⟨pp, hp⟩ := (s_okPs own cp hcp).1 _ (s_look_mem _ _ _ hl)
  unfold s_ckF at hp
  dsimp only at hp
  cases hb : Nat.beq c 10 with
  | true =>
    rw [hb] at hp
    refine Or.inl ⟨Nat.eq_of_beq_eq_true hb, ?_⟩
    dsimp only at hp
    split at hp
    · exact Or.inl ⟨rfl, s_gw_mem (s_wAt_mem hp) rfl⟩
    · exact Or.inr ⟨rfl, s_gw_mem (s_wAt_mem hp) rfl⟩
    · cases hp
  | false =>
    rw [hb] at hp
    simp only [Bool.and_eq_true, Bool.or_eq_true] at hp
    refine Or.inr ⟨fun q => ?_, s_blt hp.1.1, s_blt hp.1.2, ?_⟩
    · rw [q] at hb; cases hb
    · rcases hp.2 with h | h
      · exact Or.inl (s_gw_mem (s_wAt_mem h) rfl)
      · exact Or.inr (of_decide_eq_true h)
theorem s_sv_of {a k : Nat} {v : Value} (h : s_sv a k = some v) : ∃ i, i < 29 ∧ a = 1000 + i ∧ ((k = 0 ∧ v = .long (s_wl.getD i 0)) ∨ (k = 1 ∧ v = .int (s_wk i))) := by
  unfold s_sv at h
  split at h
  · cases h
  · split at h
    · refine ⟨a - 1000, by omega, by omega, ?_⟩
      split at h
      · exact Or.inl ⟨rfl, (Option.some.inj h).symm⟩
      · exact Or.inr ⟨rfl, (Option.some.inj h).symm⟩
      · cases h
    · cases h
theorem s_isG_lt {h : s_H} {a k : Nat} (hg : s_isG h a k = true) : a < 1000 := by
  have := s_Gs_lt (s_isG_of hg).2
  omega
set_option maxHeartbeats 1000000 in
theorem s_k_getf {x cc k : Nat}  {cp : s_C} {q : s_M} {n0 z0 G Gs pc pc1 : Nat} {L L1 : s_L} {st st1 : List Value} {h h1 : s_H} {H : Heap} {locs : List Loc} {ls : Array Slot}
    (cx : s_Cx p s m args meth c base ρ D cid xs Ln q) (hcp : s_cps[q.2.2.2.2.1]? = some cp) (hH : s_HR base ρ D cid xs Ln h H) (hS : va_S (s_A base) s.heap H locs) (hl : lv_has ls q.2.2.1 (s_as ρ 0 L)) (hL : L.length = q.2.2.1)
    (hlo : s_look cp.1 x = some (cc, k)) (hex : s_gf q.2.2.2.2.1 (pc + 3) cc k L st h = some (.inl (pc1, L1, st1, h1))) (hdg : decode q.2.1 pc = .ok (.getfield x, 3))
    (kk : s_K p l e R s m args below meth c Q base ρ D cid xs Ln q n0 z0 G Gs pc1 L1 st1 h1) : W p l e R s m args below meth c H locs (h.1 - n0 + G) (h.2.1 - z0 + Gs) Q (F0 m pc ls (st.map (s_v ρ))) := by
  obtain ⟨hx, hb, hml, hown, hts, hin, hSR, hρ, hinj, hdc, hck⟩ := cx
  obtain ⟨a, r, rfl, hex2⟩ := s_r1_of hex
  clear hex
  rcases s_ckF_of hcp hlo with ⟨rfl, hw⟩ | ⟨h10, h13, hk, hw⟩
  · have e10 : Nat.beq 10 10 = true := rfl
    rw [e10] at hex2
    dsimp only at hex2
    split at hex2
    · rename_i v hv
      obtain ⟨i, hi, rfl, hv2⟩ := s_sv_of hv
      obtain ⟨rfl, rfl, rfl, rfl⟩ := s_nx_of hex2
      have hOF := hSR.2.2.2.2.1 i hi
      rcases hv2 with ⟨rfl, rfl⟩ | ⟨rfl, rfl⟩
      · rcases hw with ⟨-, hw⟩ | ⟨hk, -⟩
        · exact vk_getf hx hb hOF.1 hS hown (hts _ hw) (fun _ h => h) hdg (kk H locs ls hH hS hl hL)
        · cases hk
      · rcases hw with ⟨hk, -⟩ | ⟨-, hw⟩
        · cases hk
        · exact vk_getf hx hb hOF.2.1 hS hown (hts _ hw) (fun _ h => h) hdg (kk H locs ls hH hS hl hL)
    · cases hex2
  · have e10 : Nat.beq cc 10 = false := by
      cases hq : Nat.beq cc 10 with
      | false => rfl
      | true => exact absurd (Nat.eq_of_beq_eq_true hq) h10
    rw [e10] at hex2
    dsimp only at hex2
    split at hex2
    · rename_i hg
      obtain ⟨rfl, rfl, rfl, rfl⟩ := s_nx_of hex2
      obtain ⟨o1, o2, o3, o4, o5, o6, o7, o8, o9, o10⟩ := s_okC cc h13 h10
      have ha := (s_isG_of hg).1
      have he := s_w_at (base := base) (ρ := ρ) (cid := cid) ha
      rw [s_E_obj hg (by omega)] at he
      have hρa : ρ a = base + a := hρ a (s_isG_lt hg)
      show W p l e R s m args below meth c H locs (_ - n0 + G) (_ - z0 + Gs) Q (F0 m pc ls (.ref (ρ a) :: r.map (s_v ρ)))
      rw [hρa]
      have hsame : ∀ z, s.fieldFound? (s_Tx cc k).1 (s_Tx cc k).2.1 (s_Tx cc k).2.2.1 = some z → s.fieldFound? (s_R cc) (s_Tx cc k).2.1 (s_Tx cc k).2.2.1 = some z := fun z h => by rw [o7 k hk] at h; exact h
      rcases hw with hw | hw
      · exact va_get hx hb hts (fun w hw => s_gw_mem (o3 w hw).1 (o3 w hw).2) hown hSR.1 hH.1 a he o1 k hk (hts _ hw) hsame (s_fs_at hk) hdg (kk H locs ls hH hS hl hL)
      · exact va_getN hx hb hts (fun w hw => s_gw_mem (o3 w hw).1 (o3 w hw).2) hown hSR.1 hH.1 a he o1 k hk (va_Nw.use rfl (hSR.2.1 _ hw)) hsame (s_fs_at hk) hdg (kk H locs ls hH hS hl hL)
    · cases hex2
theorem s_HR_set {h h1 : s_H} {H H1 : Heap} {a : Nat} {E1 : va_E} (hH : s_HR base ρ D cid xs Ln h H) (ha : a < h.1) (ha2 : a < 1000) (hn : h1.1 = h.1) (hfl : h1.2.2.1 = h.2.2.1) (hE : s_E ρ cid h1 a = E1) (ho : ∀ b, b ≠ a → h1.2.2.2.1 b = h.2.2.2.1 b ∧ h1.2.2.2.2.1 b = h.2.2.2.2.1 b ∧ h1.2.2.2.2.2 b = h.2.2.2.2.2 b) (hP : va_P D s_cl2 ((s_w base ρ cid h).set a (base + a, E1)) H1) : s_HR base ρ D cid xs Ln h1 H1 := by
  refine ⟨?_, fun hf => ?_⟩
  · rw [← hE, s_w_set hn ha (fun b hb => s_E_congr (ho b hb).1 (ho b hb).2.1 (ho b hb).2.2)] at hP
    exact hP
  · rw [hfl] at hf
    rw [(ho 1200 (by omega)).1, (ho 1201 (by omega)).1]
    exact hH.2 hf
theorem s_wI_o (h : s_H) {a b : Nat} (k : Nat) (x : Int32) (hb : b ≠ a) : (s_wI h a k x).2.2.2.1 b = h.2.2.2.1 b ∧ (s_wI h a k x).2.2.2.2.1 b = h.2.2.2.2.1 b ∧ (s_wI h a k x).2.2.2.2.2 b = h.2.2.2.2.2 b := ⟨s_up_n _ _ _ hb, rfl, rfl⟩
theorem s_wL_o (h : s_H) {a b : Nat} (k : Nat) (x : Int64) (hb : b ≠ a) : (s_wL h a k x).2.2.2.1 b = h.2.2.2.1 b ∧ (s_wL h a k x).2.2.2.2.1 b = h.2.2.2.2.1 b ∧ (s_wL h a k x).2.2.2.2.2 b = h.2.2.2.2.2 b := ⟨rfl, s_up_n _ _ _ hb, rfl⟩
theorem s_wR_o (h : s_H) {a b : Nat} (k : Nat) (x : Option Nat) (hb : b ≠ a) : (s_wR h a k x).2.2.2.1 b = h.2.2.2.1 b ∧ (s_wR h a k x).2.2.2.2.1 b = h.2.2.2.2.1 b ∧ (s_wR h a k x).2.2.2.2.2 b = h.2.2.2.2.2 b := ⟨rfl, rfl, s_up_n _ _ _ hb⟩
theorem s_pf_of {own pc pc1 cc k : Nat} {ini : Bool} {L L1 : s_L} {st st1 : List Value} {h h1 : s_H} (hex : s_pf own ini pc cc k L st h = some (.inl (pc1, L1, st1, h1))) : ∃ v a r, st = v :: .ref a :: r ∧ s_isG h a cc = true ∧ ((!(s_fi cc k)) || (ini && Nat.beq own cc)) = true ∧ pc1 = pc ∧ L1 = L ∧ st1 = r ∧ ((s_ft cc k = 0 ∧ ∃ x, v = .int x ∧ h1 = s_wI h a k x) ∨ (s_ft cc k = 1 ∧ ∃ x, v = .int x ∧ (x = 0 ∨ x = 1) ∧ h1 = s_wI h a k x) ∨ (s_ft cc k = 2 ∧ ∃ x, v = .long x ∧ h1 = s_wL h a k x) ∨ (s_ft cc k = 3 ∧ ∃ x, s_or v = some x ∧ h1 = s_wR h a k x)) := by
  unfold s_pf at hex
  split at hex
  · cases hex
  · rename_i hf
    split at hex
    · rename_i v a r
      split at hex
      · cases hex
      · rename_i hg
        split at hex
        · rename_i hft
          obtain ⟨e1, e2, e3, e4⟩ := s_nx_of hex
          exact ⟨_, _, _, rfl, hg, hf, e1, e2, e3, Or.inl ⟨hft, _, rfl, e4⟩⟩
        · rename_i hft
          split at hex
          · rename_i h01
            obtain ⟨e1, e2, e3, e4⟩ := s_nx_of hex
            exact ⟨_, _, _, rfl, hg, hf, e1, e2, e3, Or.inr (Or.inl ⟨hft, _, rfl, h01, e4⟩)⟩
          · cases hex
        · rename_i hft
          obtain ⟨e1, e2, e3, e4⟩ := s_nx_of hex
          exact ⟨_, _, _, rfl, hg, hf, e1, e2, e3, Or.inr (Or.inr (Or.inl ⟨hft, _, rfl, e4⟩))⟩
        · rename_i hft
          obtain ⟨e1, e2, e3, e4⟩ := s_nx_of hex
          exact ⟨_, _, _, rfl, hg, hf, e1, e2, e3, Or.inr (Or.inr (Or.inr ⟨hft, _, rfl, e4⟩))⟩
        · rename_i hft
          obtain ⟨e1, e2, e3, e4⟩ := s_nx_of hex
          exact ⟨_, _, _, rfl, hg, hf, e1, e2, e3, Or.inr (Or.inr (Or.inr ⟨hft, _, rfl, e4⟩))⟩
        · cases hex
    · cases hex
theorem s_va_ne {α : Type} (f : Nat → α) {j k : Nat} (v : α) (h : j ≠ k) : va_up f k v j = f j := if_neg h
theorem s_va_eq {α : Type} (f : Nat → α) (k : Nat) (v : α) : va_up f k v k = v := if_pos rfl
theorem s_pv_I {h : s_H} {t a j k : Nat} {x : Int32} (hj : j ≠ k) : s_pv (s_wI h a k x) t a j = s_pv h t a j := by
  unfold s_pv s_wI
  dsimp only
  rw [s_up_s, s_va_ne _ _ hj]
theorem s_pv_L {h : s_H} {t a j k : Nat} {x : Int64} (hj : j ≠ k) : s_pv (s_wL h a k x) t a j = s_pv h t a j := by
  unfold s_pv s_wL
  dsimp only
  rw [s_up_s, s_va_ne _ _ hj]
theorem s_pv_R {h : s_H} {t a j k : Nat} {x : Option Nat} (hj : j ≠ k) : s_pv (s_wR h a k x) t a j = s_pv h t a j := by
  unfold s_pv s_wR
  dsimp only
  rw [s_up_s, s_va_ne _ _ hj]
theorem s_tyc_0 {t : FieldType} (h : s_tyc t = 0) : t = .int := by cases t <;> first | rfl | cases h
theorem s_tyc_1 {t : FieldType} (h : s_tyc t = 1) : t = .boolean := by cases t <;> first | rfl | cases h
theorem s_tyc_2 {t : FieldType} (h : s_tyc t = 2) : t = .long := by cases t <;> first | rfl | cases h
theorem s_tyc_3 {t : FieldType} (h : s_tyc t = 3) : (∃ C, t = .object C) ∨ ∃ u, t = .array u := by cases t <;> first | exact Or.inl ⟨_, rfl⟩ | exact Or.inr ⟨_, rfl⟩ | cases h
set_option maxHeartbeats 2000000 in
theorem s_k_putf {x cc k : Nat} {cp : s_C} {q : s_M} {n0 z0 G Gs pc pc1 : Nat} {L L1 : s_L} {st st1 : List Value} {h h1 : s_H} {H : Heap} {locs : List Loc} {ls : Array Slot}
    (cx : s_Cx p s m args meth c base ρ D cid xs Ln q) (hcp : s_cps[q.2.2.2.2.1]? = some cp) (hH : s_HR base ρ D cid xs Ln h H) (hS : va_S (s_A base) s.heap H locs) (hl : lv_has ls q.2.2.1 (s_as ρ 0 L)) (hL : L.length = q.2.2.1)
    (hlo : s_look cp.1 x = some (cc, k)) (hex : s_pf q.2.2.2.2.1 q.2.2.2.2.2.1 (pc + 3) cc k L st h = some (.inl (pc1, L1, st1, h1))) (hdg : decode q.2.1 pc = .ok (.putfield x, 3))
    (kk : s_K p l e R s m args below meth c Q base ρ D cid xs Ln q n0 z0 G Gs pc1 L1 st1 h1) : W p l e R s m args below meth c H locs (h.1 - n0 + G) (h.2.1 - z0 + Gs) Q (F0 m pc ls (st.map (s_v ρ))) := by
  obtain ⟨hx, hb, hml, hown, hts, hin, hSR, hρ, hinj, hdc, hck⟩ := cx
  obtain ⟨v, a, r, rfl, hg, hf, rfl, rfl, rfl, hty⟩ := s_pf_of hex
  have ha := (s_isG_of hg).1
  have ha2 := s_isG_lt hg
  have hρa : ρ a = base + a := hρ a ha2
  rcases s_ckF_of hcp hlo with ⟨rfl, hw⟩ | ⟨h10, h13, hk, hw⟩
  · exfalso
    have h1 := (s_isG_of hg).2
    have h2 : ∀ z ∈ s_Gs, z.1 ≠ 10 := by decide +kernel
    exact h2 _ (List.mem_of_getElem? h1) rfl
  · obtain ⟨o1, o2, o3, o4, o5, o6, o7, o8, o9, o10⟩ := s_okC cc h13 h10
    have he := s_w_at (base := base) (ρ := ρ) (cid := cid) ha
    rw [s_E_obj hg (by omega)] at he
    have hsame : ∀ z, s.fieldFound? (s_Tx cc k).1 (s_Tx cc k).2.1 (s_Tx cc k).2.2.1 = some z → s.fieldFound? (s_R cc) (s_Tx cc k).2.1 (s_Tx cc k).2.2.1 = some z := fun z h => by rw [o7 k hk] at h; exact h
    -- the new heap, and what it holds at a
    have key : h1.1 = h.1 ∧ h1.2.2.1 = h.2.2.1 ∧ h1.2.1 = h.2.1 ∧ (∀ b, b ≠ a → h1.2.2.2.1 b = h.2.2.2.1 b ∧ h1.2.2.2.2.1 b = h.2.2.2.2.1 b ∧ h1.2.2.2.2.2 b = h.2.2.2.2.2 b) ∧ s_pv h1 (s_ft cc k) a k = v ∧ (∀ j, j ≠ k → s_pv h1 (s_ft cc j) a j = s_pv h (s_ft cc j) a j) ∧ narrow (s_tyx cc k) (s_v ρ v) = s_v ρ v ∧ fits (s_tyx cc k) (s_v ρ v) = true := by
      have ht := o6 k hk
      rcases hty with ⟨h0, x, rfl, rfl⟩ | ⟨h0, x, rfl, h01, rfl⟩ | ⟨h0, x, rfl, rfl⟩ | ⟨h0, x, hv, rfl⟩
      · rw [h0] at ht
        rw [s_tyc_0 ht, h0]
        refine ⟨rfl, rfl, rfl, fun b hb => s_wI_o h k x hb, ?_, fun j hj => s_pv_I hj, rfl, rfl⟩
        show Value.int (s_up h.2.2.2.1 a k x a k) = _
        rw [s_up_s, s_va_eq]
      · rw [h0] at ht
        rw [s_tyc_1 ht, h0]
        refine ⟨rfl, rfl, rfl, fun b hb => s_wI_o h k x hb, ?_, fun j hj => s_pv_I hj, ?_, ?_⟩
        · show Value.int (s_up h.2.2.2.1 a k x a k) = _
          rw [s_up_s, s_va_eq]
        · rcases h01 with rfl | rfl <;> rfl
        · rcases h01 with rfl | rfl <;> rfl
      · rw [h0] at ht
        rw [s_tyc_2 ht, h0]
        refine ⟨rfl, rfl, rfl, fun b hb => s_wL_o h k x hb, ?_, fun j hj => s_pv_L hj, rfl, rfl⟩
        show Value.long (s_up h.2.2.2.2.1 a k x a k) = _
        rw [s_up_s, s_va_eq]
      · rw [h0] at ht
        rw [h0]
        refine ⟨rfl, rfl, rfl, fun b hb => s_wR_o h k x hb, ?_, fun j hj => s_pv_R hj, ?_, ?_⟩
        · show va_rf (s_up h.2.2.2.2.2 a k x a k) = _
          rw [s_up_s, s_va_eq]
          have := s_or_of hv id
          cases v <;> first | (cases hv; rfl) | cases hv
        · rcases s_tyc_3 ht with ⟨C, e⟩ | ⟨u, e⟩ <;> rw [e] <;> cases v <;> first | rfl | cases hv
        · rcases s_tyc_3 ht with ⟨C, e⟩ | ⟨u, e⟩ <;> rw [e] <;> cases v <;> first | rfl | cases hv
    obtain ⟨n1, n8, n2, n3, n4, n5, n6, n7⟩ := key
    have hg1 : s_isG h1 a cc = true := by unfold s_isG at hg ⊢; rw [n1]; exact hg
    have hset : (s_fs ρ h a cc).set k (s_v ρ v) = s_fs ρ h1 a cc := by
      have := s_fs_set (ρ := ρ) (h := h) (h' := h1) (a := a) hk n5
      rw [n4] at this
      exact this
    have go : ∀ (H1 : Heap) (locs1 : List Loc), va_P D s_cl2 ((s_w base ρ cid h).set a (base + a, .inr (cc, (s_fs ρ h a cc).set k (s_v ρ v)))) H1 → va_D (s_A base) ((s_w base ρ cid h).set a (base + a, .inr (cc, (s_fs ρ h a cc).set k (s_v ρ v)))) → va_S (s_A base) s.heap H1 locs1 → W p l e R s m args below meth c H1 locs1 (h.1 - n0 + G) (h.2.1 - z0 + Gs) Q (F0 m (pc + 3) ls (st1.map (s_v ρ))) := by
      intro H1 locs1 hP _ hS1
      rw [hset] at hP
      have := kk H1 locs1 ls (s_HR_set hH ha ha2 n1 n8 (s_E_obj hg1 (by omega)) n3 hP) hS1 hl hL
      rw [n1, n2] at this
      exact this
    show W p l e R s m args below meth c H locs (h.1 - n0 + G) (h.2.1 - z0 + Gs) Q (F0 m pc ls (s_v ρ v :: .ref (ρ a) :: st1.map (s_v ρ)))
    rw [hρa]
    have hfin := o8 k hk
    have hD : va_D (s_A base) (s_w base ρ cid h) := s_w_D
    cases hfi : s_fi cc k with
    | false =>
      rw [hfi] at hfin
      rcases hw with hw | hw
      · exact va_put hx hb hts (fun w hw => s_gw_mem (o3 w hw).1 (o3 w hw).2) (s_tyx cc) o4 o5 hown hSR.1 hH.1 hD hS a he o1 k hk (hts _ hw) hsame hfin (o4 k hk) n6 n7 (by rw [s_fs_len]; exact hk) hdg go
      · exact va_putN hx hb hts (fun w hw => s_gw_mem (o3 w hw).1 (o3 w hw).2) (s_tyx cc) o4 o5 hown hSR.1 hH.1 hD hS a he o1 k hk (va_Nw.use rfl (hSR.2.1 _ hw)) hsame hfin (o4 k hk) n6 n7 (by rw [s_fs_len]; exact hk) hdg go
    | true =>
      rw [hfi] at hfin hf
      have hf2 : q.2.2.2.2.2.1 = true ∧ q.2.2.2.2.1 = cc := by
        simp only [Bool.not_true, Bool.false_or, Bool.and_eq_true] at hf
        exact ⟨hf.1, Nat.eq_of_beq_eq_true hf.2⟩
      have hdecl : (s_Tx cc k).1 = s_R q.2.2.2.2.1 := by rw [o7 k hk, hf2.2]
      rcases hw with hw | hw
      · exact va_putF hx hb hts (fun w hw => s_gw_mem (o3 w hw).1 (o3 w hw).2) (s_tyx cc) o4 o5 hown hSR.1 hH.1 hD hS a he o1 k hk (hts _ hw) hsame hfin (hin hf2.1) hdecl (o4 k hk) n6 n7 (by rw [s_fs_len]; exact hk) hdg go
      · exfalso
        have h2 : ∀ z ∈ s_nws, (match z with
          | Cond.fieldLinkNest a _ b _ _ _ => decide (a = b)
          | _ => false) = false := by decide +kernel
        have h3 := h2 _ hw
        dsimp only at h3
        rw [hf2.2] at h3
        simp at h3
end SNE
end
section
section SNF
variable {p : Program} {l : Launch} {e : Env} {R : Room} {s : State} {m : MethodId} {args : Array Value} {below : List Frame} {meth : Method} {c : Code} {Q : State → Prop}
variable {base : Nat} {ρ : Nat → Nat} {D : va_G} {cid : Nat → ClassId} {xs : Nat → Int32} {Ln : Nat}
theorem s_arr_at {h : s_H} {a k : Nat} (hg : s_isG h a k = true) (hk : 100 ≤ k) : (s_w base ρ cid h)[a]? = some (base + a, .inl (cid k, s_len a, s_ar ρ h a k)) := by
  have h1 := s_isG_of hg
  rw [s_w_at h1.1, s_E_arr h1.2 hk]
set_option maxHeartbeats 1000000 in
/-- reading rows -/
theorem s_k_ald {cp : s_C} {q : s_M} {n0 z0 G Gs pc pc1 : Nat} {L L1 : s_L} {st st1 : List Value} {h h1 : s_H} {H : Heap} {locs : List Loc} {ls : Array Slot} {i : Instr}
    (cx : s_Cx p s m args meth c base ρ D cid xs Ln q) (hH : s_HR base ρ D cid xs Ln h H) (hS : va_S (s_A base) s.heap H locs) (hl : lv_has ls q.2.2.1 (s_as ρ 0 L)) (hL : L.length = q.2.2.1)
    (hdg : decode q.2.1 pc = .ok (i, 1))
    (hex : (i = .iaload ∧ s_iald (pc + 1) L st h = some (.inl (pc1, L1, st1, h1))) ∨ (i = .baload ∧ s_bald (pc + 1) L st h = some (.inl (pc1, L1, st1, h1))) ∨ (i = .laload ∧ s_lald (pc + 1) L st h = some (.inl (pc1, L1, st1, h1))) ∨ (i = .aaload ∧ s_aald (pc + 1) L st h = some (.inl (pc1, L1, st1, h1))))
    (kk : s_K p l e R s m args below meth c Q base ρ D cid xs Ln q n0 z0 G Gs pc1 L1 st1 h1) : W p l e R s m args below meth c H locs (h.1 - n0 + G) (h.2.1 - z0 + Gs) Q (F0 m pc ls (st.map (s_v ρ))) := by
  obtain ⟨hx, hb, hml, hown, hts, hin, hSR, hρ, hinj, hdc, hck⟩ := cx
  rcases hex with ⟨rfl, hex⟩ | ⟨rfl, hex⟩ | ⟨rfl, hex⟩ | ⟨rfl, hex⟩
  · obtain ⟨i, a, r, rfl, hex2⟩ := s_ir_of hex
    clear hex
    cases h12 : (Nat.beq a 1200 && !h.2.2.1) with
    | true =>
      rw [h12] at hex2
      rw [Bool.and_eq_true, Bool.not_eq_true'] at h12
      have ea := Nat.eq_of_beq_eq_true h12.1
      have hsc := hH.2 h12.2
      subst ea
      dsimp only at hex2
      split at hex2
      · cases hex2
      · rename_i hi
        obtain ⟨rfl, rfl, rfl, rfl⟩ := s_nx_of hex2
        obtain ⟨x1, x2, x3, x4⟩ := hSR.2.2.2.2.2.2.1
        rw [hsc.2, show (Int32.ofNat Ln).toNatClampNeg = Ln from nI_clamp x4] at hi
        refine va_sld hx hb x1 x3 x2 hS hi hdg ?_
        have := kk H locs ls hH hS hl hL
        rw [hsc.1] at this
        exact this
    | false =>
      rw [h12] at hex2
      dsimp only at hex2
      cases hg : s_isG h a 101 with
      | false => rw [hg] at hex2; cases hex2
      | true =>
        rw [hg] at hex2
        dsimp only at hex2
        have hρa : ρ a = base + a := hρ a (s_isG_lt hg)
        have he := s_arr_at (base := base) (ρ := ρ) (cid := cid) hg (by omega)
        split at hex2
        · cases hex2
        · rename_i hi
          obtain ⟨rfl, rfl, rfl, rfl⟩ := s_nx_of hex2
          show W p l e R s m args below meth c H locs (_ - n0 + G) (_ - z0 + Gs) Q (F0 m pc ls (.int i :: .ref (ρ a) :: r.map (s_v ρ)))
          rw [hρa]
          exact va_iald hx hb hSR.1 hH.1 a 1 he rfl hi hdg (kk H locs ls hH hS hl hL)
  · obtain ⟨i, a, r, rfl, hex2⟩ := s_ir_of hex
    clear hex
    cases hg : s_isG h a 100 with
    | true =>
      rw [hg, Bool.true_or] at hex2
      dsimp only at hex2
      have hρa : ρ a = base + a := hρ a (s_isG_lt hg)
      have he := s_arr_at (base := base) (ρ := ρ) (cid := cid) hg (by omega)
      split at hex2
      · cases hex2
      · rename_i hi
        obtain ⟨rfl, rfl, rfl, rfl⟩ := s_nx_of hex2
        show W p l e R s m args below meth c H locs (_ - n0 + G) (_ - z0 + Gs) Q (F0 m pc ls (.int i :: .ref (ρ a) :: r.map (s_v ρ)))
        rw [hρa]
        exact va_bald hx hb hSR.1 hH.1 a 0 he rfl hi hdg (kk H locs ls hH hS hl hL)
    | false =>
      rw [hg, Bool.false_or] at hex2
      cases hg : s_isG h a 103 with
      | false => rw [hg] at hex2; cases hex2
      | true =>
        rw [hg] at hex2
        dsimp only at hex2
        have hρa : ρ a = base + a := hρ a (s_isG_lt hg)
        have he := s_arr_at (base := base) (ρ := ρ) (cid := cid) hg (by omega)
        split at hex2
        · cases hex2
        · rename_i hi
          obtain ⟨rfl, rfl, rfl, rfl⟩ := s_nx_of hex2
          show W p l e R s m args below meth c H locs (_ - n0 + G) (_ - z0 + Gs) Q (F0 m pc ls (.int i :: .ref (ρ a) :: r.map (s_v ρ)))
          rw [hρa]
          exact va_zald hx hb hSR.1 hH.1 a 3 he rfl hi hdg (kk H locs ls hH hS hl hL)
  · obtain ⟨i, a, r, rfl, hex2⟩ := s_ir_of hex
    clear hex
    cases hg : s_isG h a 102 with
    | false => rw [hg] at hex2; cases hex2
    | true =>
      rw [hg] at hex2
      dsimp only at hex2
      have hρa : ρ a = base + a := hρ a (s_isG_lt hg)
      have he := s_arr_at (base := base) (ρ := ρ) (cid := cid) hg (by omega)
      split at hex2
      · cases hex2
      · rename_i hi
        obtain ⟨rfl, rfl, rfl, rfl⟩ := s_nx_of hex2
        show W p l e R s m args below meth c H locs (_ - n0 + G) (_ - z0 + Gs) Q (F0 m pc ls (.int i :: .ref (ρ a) :: r.map (s_v ρ)))
        rw [hρa]
        exact va_lald hx hb hSR.1 hH.1 a 2 he rfl hi hdg (kk H locs ls hH hS hl hL)
  · obtain ⟨i, a, r, rfl, hex2⟩ := s_ir_of hex
    clear hex
    cases h12 : Nat.beq a 1100 with
    | true =>
      rw [h12] at hex2
      have ea := Nat.eq_of_beq_eq_true h12
      subst ea
      dsimp only at hex2
      split at hex2
      · cases hex2
      · rename_i hi
        obtain ⟨rfl, rfl, rfl, rfl⟩ := s_nx_of hex2
        exact vb_tq hx hb hSR.2.2.2.2.2.1 hS hi rfl hdg (kk H locs ls hH hS hl hL)
    | false =>
      rw [h12] at hex2
      dsimp only at hex2
      have go : ∀ (k t0 : Nat) (C : String), s_isG h a k = true → 104 ≤ k → (s_tys cid)[t0]? = some (cid k, .object C) → W p l e R s m args below meth c H locs (h.1 - n0 + G) (h.2.1 - z0 + Gs) Q (F0 m pc ls ((Value.int i :: Value.ref a :: r).map (s_v ρ))) := by
        intro k t0 C hg hk ht
        have hor : (s_isG h a 104 || s_isG h a 105 || s_isG h a 106) = true := by
          cases hz : (s_isG h a 104 || s_isG h a 105 || s_isG h a 106) with
          | true => rfl
          | false => rw [hz] at hex2; cases hex2
        rw [hor] at hex2
        dsimp only at hex2
        have hρa : ρ a = base + a := hρ a (s_isG_lt hg)
        have he := s_arr_at (base := base) (ρ := ρ) (cid := cid) hg (by omega)
        rw [show s_ar ρ h a k = .inr (.inr (.inr (.inr (fun j => (h.2.2.2.2.2 a j).map ρ)))) by unfold s_ar; rw [if_neg (by omega), if_pos hk]] at he
        split at hex2
        · cases hex2
        · rename_i hi
          obtain ⟨rfl, rfl, rfl, rfl⟩ := s_nx_of hex2
          show W p l e R s m args below meth c H locs (_ - n0 + G) (_ - z0 + Gs) Q (F0 m pc ls (.int i :: .ref (ρ a) :: r.map (s_v ρ)))
          rw [hρa]
          refine va_aldq hx hb hSR.1 hH.1 a t0 he ht hi hdg ?_
          have := kk H locs ls hH hS hl hL
          rw [List.map_cons, s_v_rf] at this
          exact this
      cases g4 : s_isG h a 104 with
      | true => exact go 104 4 _ g4 (by omega) rfl
      | false => cases g5 : s_isG h a 105 with
        | true => exact go 105 5 _ g5 (by omega) rfl
        | false => cases g6 : s_isG h a 106 with
          | true => exact go 106 6 _ g6 (by omega) rfl
          | false => rw [g4, g5, g6] at hex2; cases hex2
set_option maxHeartbeats 1000000 in
/-- writing rows of numbers -/
theorem s_k_ast {cp : s_C} {q : s_M} {n0 z0 G Gs pc pc1 : Nat} {L L1 : s_L} {st st1 : List Value} {h h1 : s_H} {H : Heap} {locs : List Loc} {ls : Array Slot} {i : Instr}
    (cx : s_Cx p s m args meth c base ρ D cid xs Ln q) (hH : s_HR base ρ D cid xs Ln h H) (hS : va_S (s_A base) s.heap H locs) (hl : lv_has ls q.2.2.1 (s_as ρ 0 L)) (hL : L.length = q.2.2.1)
    (hdg : decode q.2.1 pc = .ok (i, 1))
    (hex : (i = .iastore ∧ s_iast (pc + 1) L st h = some (.inl (pc1, L1, st1, h1))) ∨ (i = .bastore ∧ s_bast (pc + 1) L st h = some (.inl (pc1, L1, st1, h1))) ∨ (i = .lastore ∧ s_last (pc + 1) L st h = some (.inl (pc1, L1, st1, h1))))
    (kk : s_K p l e R s m args below meth c Q base ρ D cid xs Ln q n0 z0 G Gs pc1 L1 st1 h1) : W p l e R s m args below meth c H locs (h.1 - n0 + G) (h.2.1 - z0 + Gs) Q (F0 m pc ls (st.map (s_v ρ))) := by
  obtain ⟨hx, hb, hml, hown, hts, hin, hSR, hρ, hinj, hdc, hck⟩ := cx
  have hD : va_D (s_A base) (s_w base ρ cid h) := s_w_D
  -- a store of an int
  have storeI : ∀ (a k j : Nat) (x : Int32), s_isG h a k = true → 100 ≤ k → k < 104 → k ≠ 102 → ∀ (H1 : Heap) (locs1 : List Loc), va_P D s_cl2 ((s_w base ρ cid h).set a (base + a, .inl (cid k, s_len a, .inl (upd (h.2.2.2.1 a) j x)))) H1 → va_S (s_A base) s.heap H1 locs1 → s_HR base ρ D cid xs Ln (s_wI h a j x) H1 := by
    intro a k j x hg h1 h2 h3 H1 locs1 hP _
    refine s_HR_set hH (s_isG_of hg).1 (s_isG_lt hg) rfl rfl ?_ (fun b hb => s_wI_o h j x hb) hP
    rw [s_E_arr (s_isG_of hg).2 h1]
    unfold s_ar
    rw [if_neg h3, if_neg (by omega)]
    show _ = Sum.inl (cid k, s_len a, Sum.inl (upd (h.2.2.2.1 a) j x))
    have : (s_wI h a j x).2.2.2.1 a = upd (h.2.2.2.1 a) j x := s_up_s _ _ _ _
    rw [this]
  rcases hex with ⟨rfl, hex⟩ | ⟨rfl, hex⟩ | ⟨rfl, hex⟩
  · obtain ⟨x, st2, rfl, hex2⟩ := s_i1_of hex
    clear hex
    obtain ⟨i, a, r, rfl, hex⟩ := s_ir_of hex2
    clear hex2
    cases hg : s_isG h a 101 with
    | false => rw [hg] at hex; cases hex
    | true =>
      rw [hg] at hex
      dsimp only at hex
      have hρa : ρ a = base + a := hρ a (s_isG_lt hg)
      have he := s_arr_at (base := base) (ρ := ρ) (cid := cid) hg (by omega)
      split at hex
      · cases hex
      · rename_i hi
        obtain ⟨rfl, rfl, rfl, rfl⟩ := s_nx_of hex
        show W p l e R s m args below meth c H locs (_ - n0 + G) (_ - z0 + Gs) Q (F0 m pc ls (.int x :: .int i :: .ref (ρ a) :: st1.map (s_v ρ)))
        rw [hρa]
        exact va_iast hx hb hSR.1 hH.1 hD hS a 1 he rfl hi hdg (fun H1 locs1 hP _ hS1 => kk H1 locs1 ls (storeI a 101 _ x hg (by omega) (by omega) (by omega) H1 locs1 hP hS1) hS1 hl hL)
  · obtain ⟨x, st2, rfl, hex2⟩ := s_i1_of hex
    clear hex
    obtain ⟨i, a, r, rfl, hex⟩ := s_ir_of hex2
    clear hex2
    cases hg : s_isG h a 100 with
    | true =>
      rw [hg] at hex
      dsimp only at hex
      have hρa : ρ a = base + a := hρ a (s_isG_lt hg)
      have he := s_arr_at (base := base) (ρ := ρ) (cid := cid) hg (by omega)
      split at hex
      · cases hex
      · rename_i hi
        obtain ⟨rfl, rfl, rfl, rfl⟩ := s_nx_of hex
        show W p l e R s m args below meth c H locs (_ - n0 + G) (_ - z0 + Gs) Q (F0 m pc ls (.int x :: .int i :: .ref (ρ a) :: st1.map (s_v ρ)))
        rw [hρa]
        exact va_bast hx hb hSR.1 hH.1 hD hS a 0 he rfl hi hdg (fun H1 locs1 hP _ hS1 => kk H1 locs1 ls (storeI a 100 _ _ hg (by omega) (by omega) (by omega) H1 locs1 hP hS1) hS1 hl hL)
    | false =>
      rw [hg] at hex
      dsimp only at hex
      cases hg : s_isG h a 103 with
      | false => rw [hg] at hex; cases hex
      | true =>
        rw [hg] at hex
        dsimp only at hex
        have hρa : ρ a = base + a := hρ a (s_isG_lt hg)
        have he := s_arr_at (base := base) (ρ := ρ) (cid := cid) hg (by omega)
        split at hex
        · cases hex
        · rename_i hi
          obtain ⟨rfl, rfl, rfl, rfl⟩ := s_nx_of hex
          show W p l e R s m args below meth c H locs (_ - n0 + G) (_ - z0 + Gs) Q (F0 m pc ls (.int x :: .int i :: .ref (ρ a) :: st1.map (s_v ρ)))
          rw [hρa]
          exact va_zast hx hb hSR.1 hH.1 hD hS a 3 he rfl hi hdg (fun H1 locs1 hP _ hS1 => kk H1 locs1 ls (storeI a 103 _ _ hg (by omega) (by omega) (by omega) H1 locs1 hP hS1) hS1 hl hL)
  · obtain ⟨x, st2, rfl, hex2⟩ := s_l1_of hex
    clear hex
    obtain ⟨i, a, r, rfl, hex⟩ := s_ir_of hex2
    clear hex2
    cases hg : s_isG h a 102 with
    | false => rw [hg] at hex; cases hex
    | true =>
      rw [hg] at hex
      dsimp only at hex
      have hρa : ρ a = base + a := hρ a (s_isG_lt hg)
      have he := s_arr_at (base := base) (ρ := ρ) (cid := cid) hg (by omega)
      split at hex
      · cases hex
      · rename_i hi
        obtain ⟨rfl, rfl, rfl, rfl⟩ := s_nx_of hex
        show W p l e R s m args below meth c H locs (_ - n0 + G) (_ - z0 + Gs) Q (F0 m pc ls (.long x :: .int i :: .ref (ρ a) :: st1.map (s_v ρ)))
        rw [hρa]
        refine va_last hx hb hSR.1 hH.1 hD hS a 2 he rfl hi hdg (fun H1 locs1 hP _ hS1 => kk H1 locs1 ls (s_HR_set hH (s_isG_of hg).1 (s_isG_lt hg) rfl rfl ?_ (fun b hb => s_wL_o h _ x hb) hP) hS1 hl hL)
        rw [s_E_arr (s_isG_of hg).2 (by omega)]
        unfold s_ar
        rw [if_pos rfl]
        have : (s_wL h a i.toNatClampNeg x).2.2.2.2.1 a = vp_updL (h.2.2.2.2.1 a) i.toNatClampNeg x := s_up_s _ _ _ _
        rw [this]
end SNF
end
section
section SNG
variable {p : Program} {l : Launch} {e : Env} {R : Room} {s : State} {m : MethodId} {args : Array Value} {below : List Frame} {meth : Method} {c : Code} {Q : State → Prop}
variable {base : Nat} {ρ : Nat → Nat} {D : va_G} {cid : Nat → ClassId} {xs : Nat → Int32} {Ln : Nat}
theorem s_Any_kept {E : String} {s : State} {H H1 : Heap} {a : Nat} (h : va_Any E s H a) (hq : H1[a]? = H[a]?) : va_Any E s H1 a := by
  obtain ⟨cell, h1, h2⟩ := h
  exact ⟨cell, by rw [hq]; exact h1, h2⟩
theorem s_ar_R {h : s_H} {a k : Nat} (hk : 104 ≤ k) : s_ar ρ h a k = .inr (.inr (.inr (.inr (fun j => (h.2.2.2.2.2 a j).map ρ)))) := by
  unfold s_ar
  rw [if_neg (by omega), if_pos hk]
theorem s_HR_R {h : s_H} {H H1 : Heap} {a k j : Nat} {v : Option Nat} (hH : s_HR base ρ D cid xs Ln h H) (hg : s_isG h a k = true) (hk : 104 ≤ k) (hP : va_P D s_cl2 ((s_w base ρ cid h).set a (base + a, .inl (cid k, s_len a, .inr (.inr (.inr (.inr (va_up (fun j => (h.2.2.2.2.2 a j).map ρ) j (v.map ρ)))))))) H1) : s_HR base ρ D cid xs Ln (s_wR h a j v) H1 := by
  refine s_HR_set hH (s_isG_of hg).1 (s_isG_lt hg) rfl rfl ?_ (fun b hb => s_wR_o h _ v hb) hP
  rw [s_E_arr (s_isG_of hg).2 (by omega), s_ar_R hk]
  have e1 : (s_wR h a j v).2.2.2.2.2 a = va_up (h.2.2.2.2.2 a) j v := s_up_s _ _ _ _
  rw [e1]
  have e2 : (fun z => (va_up (h.2.2.2.2.2 a) j v z).map ρ) = va_up (fun z => (h.2.2.2.2.2 a z).map ρ) j (v.map ρ) := by
    funext z
    unfold va_up
    split <;> rfl
  rw [e2]
set_option maxHeartbeats 1000000 in
/-- a reference into a row -/
theorem s_k_aast {q : s_M} {n0 z0 G Gs pc pc1 : Nat} {L L1 : s_L} {st st1 : List Value} {h h1 : s_H} {H : Heap} {locs : List Loc} {ls : Array Slot}
    (cx : s_Cx p s m args meth c base ρ D cid xs Ln q) (hH : s_HR base ρ D cid xs Ln h H) (hS : va_S (s_A base) s.heap H locs) (hl : lv_has ls q.2.2.1 (s_as ρ 0 L)) (hL : L.length = q.2.2.1)
    (hdg : decode q.2.1 pc = .ok (.aastore, 1)) (hex : s_aast (pc + 1) L st h = some (.inl (pc1, L1, st1, h1)))
    (kk : s_K p l e R s m args below meth c Q base ρ D cid xs Ln q n0 z0 G Gs pc1 L1 st1 h1) : W p l e R s m args below meth c H locs (h.1 - n0 + G) (h.2.1 - z0 + Gs) Q (F0 m pc ls (st.map (s_v ρ))) := by
  obtain ⟨hx, hb, hml, hown, hts, hin, hSR, hρ, hinj, hdc, hck⟩ := cx
  have hD : va_D (s_A base) (s_w base ρ cid h) := s_w_D
  unfold s_aast at hex
  split at hex
  · rename_i v i a r
    cases hor : (s_isG h a 104 || s_isG h a 105 || s_isG h a 106) with
    | false => rw [hor] at hex; cases hex
    | true =>
      rw [hor] at hex
      dsimp only at hex
      split at hex
      · cases hex
      · rename_i hi
        have kind : ∃ (k t0 : Nat) (C : String), s_isG h a k = true ∧ 104 ≤ k ∧ (s_tys cid)[t0]? = some (cid k, FieldType.object C) := by
          simp only [Bool.or_eq_true] at hor
          rcases hor with (g | g) | g
          · exact ⟨104, 4, _, g, by omega, rfl⟩
          · exact ⟨105, 5, _, g, by omega, rfl⟩
          · exact ⟨106, 6, _, g, by omega, rfl⟩
        split at hex
        · obtain ⟨rfl, rfl, rfl, rfl⟩ := s_nx_of hex
          obtain ⟨k, t0, C, hg, hk, ht⟩ := kind
          have hρa : ρ a = base + a := hρ a (s_isG_lt hg)
          have he := s_arr_at (base := base) (ρ := ρ) (cid := cid) hg (by omega)
          rw [s_ar_R hk] at he
          show W p l e R s m args below meth c H locs (_ - n0 + G) (_ - z0 + Gs) Q (F0 m pc ls (.null :: .int i :: .ref (ρ a) :: st1.map (s_v ρ)))
          rw [hρa]
          exact va_astqN hx hb hSR.1 hH.1 hD hS a t0 he ht hi hdg (fun H1 locs1 hP _ hS1 => kk H1 locs1 ls (s_HR_R (v := none) hH hg hk hP) hS1 hl hL)
        · rename_i b
          cases hok : s_okR h a b with
          | false => rw [hok] at hex; cases hex
          | true =>
            rw [hok] at hex
            dsimp only at hex
            obtain ⟨rfl, rfl, rfl, rfl⟩ := s_nx_of hex
            unfold s_okR at hok
            cases g4 : s_isG h a 104 with
            | true =>
              rw [g4] at hok
              simp only [Bool.and_eq_true] at hok
              have hb1 := Nat.le_of_ble_eq_true hok.1
              have hb2 := s_blt hok.2
              have hρa : ρ a = base + a := hρ a (s_isG_lt g4)
              have he := s_arr_at (base := base) (ρ := ρ) (cid := cid) g4 (by omega)
              rw [s_ar_R (by omega)] at he
              show W p l e R s m args below meth c H locs (_ - n0 + G) (_ - z0 + Gs) Q (F0 m pc ls (.ref (ρ b) :: .int i :: .ref (ρ a) :: st1.map (s_v ρ)))
              rw [hρa]
              obtain ⟨j, rfl⟩ := Nat.exists_eq_add_of_le hb1
              obtain ⟨-, -, hO, hAny⟩ := hSR.2.2.2.2.1 j (by omega)
              obtain ⟨cell, w1, w2, w3, w4⟩ := hO
              have hq : H[ρ (1000 + j)]? = s.heap[ρ (1000 + j)]? := hS.2.1 _ (Array.getElem?_eq_some_iff.mp w1).1 w4
              exact va_astqM hx hb hSR.1 hH.1 hD hS a 4 he rfl (s_Any_kept hAny hq) hi hdg (fun H1 locs1 hP _ hS1 => kk H1 locs1 ls (s_HR_R (v := some (1000 + j)) hH g4 (by omega) hP) hS1 hl hL)
            | false =>
              rw [g4] at hok
              simp only [Bool.or_eq_true, Bool.and_eq_true] at hok
              have two : ∀ (k t0 ci : Nat) (C : String) (T : u_T), s_isG h a k = true → 104 ≤ k → (s_tys cid)[t0]? = some (cid k, FieldType.object C) → s_isG h b ci = true → ci < 100 → s_cl2[ci]? = some (C, T, s_nf ci) → W p l e R s m args below meth c H locs (h.1 - n0 + G) (h.2.1 - z0 + Gs) Q (F0 m pc ls ((Value.ref b :: Value.int i :: Value.ref a :: st1).map (s_v ρ))) := by
                intro k t0 ci C T hg hk ht hgb hci hc
                have hρa : ρ a = base + a := hρ a (s_isG_lt hg)
                have hρb : ρ b = base + b := hρ b (s_isG_lt hgb)
                have he := s_arr_at (base := base) (ρ := ρ) (cid := cid) hg (by omega)
                rw [s_ar_R hk] at he
                have heb := s_w_at (base := base) (ρ := ρ) (cid := cid) (s_isG_of hgb).1
                rw [s_E_obj hgb hci] at heb
                show W p l e R s m args below meth c H locs (_ - n0 + G) (_ - z0 + Gs) Q (F0 m pc ls (.ref (ρ b) :: .int i :: .ref (ρ a) :: st1.map (s_v ρ)))
                rw [hρa, hρb]
                refine va_astq hx hb hSR.1 hH.1 hD hS a t0 b ci he (r := (C, T, s_nf ci)) ht heb hc hi hdg (fun H1 locs1 hP _ hS1 => kk H1 locs1 ls (s_HR_R (v := some b) hH hg hk ?_) hS1 hl hL)
                show va_P D s_cl2 ((s_w base ρ cid h).set a (base + a, .inl (cid k, s_len a, .inr (.inr (.inr (.inr (va_up (fun j => (h.2.2.2.2.2 a j).map ρ) i.toNatClampNeg (some (ρ b)))))))) ) H1
                rw [hρb]
                exact hP
              rcases hok with ⟨g5, gb⟩ | ⟨g6, gb⟩
              · exact two 105 5 8 _ _ g5 (by omega) rfl gb (by omega) rfl
              · exact two 106 6 5 _ _ g6 (by omega) rfl gb (by omega) rfl
        · cases hex
  · cases hex
set_option maxHeartbeats 1000000 in
theorem s_k_alen {q : s_M} {n0 z0 G Gs pc pc1 : Nat} {L L1 : s_L} {st st1 : List Value} {h h1 : s_H} {H : Heap} {locs : List Loc} {ls : Array Slot}
    (cx : s_Cx p s m args meth c base ρ D cid xs Ln q) (hH : s_HR base ρ D cid xs Ln h H) (hS : va_S (s_A base) s.heap H locs) (hl : lv_has ls q.2.2.1 (s_as ρ 0 L)) (hL : L.length = q.2.2.1)
    (hdg : decode q.2.1 pc = .ok (.arraylength, 1)) (hex : s_alen (pc + 1) L st h = some (.inl (pc1, L1, st1, h1)))
    (kk : s_K p l e R s m args below meth c Q base ρ D cid xs Ln q n0 z0 G Gs pc1 L1 st1 h1) : W p l e R s m args below meth c H locs (h.1 - n0 + G) (h.2.1 - z0 + Gs) Q (F0 m pc ls (st.map (s_v ρ))) := by
  obtain ⟨hx, hb, hml, hown, hts, hin, hSR, hρ, hinj, hdc, hck⟩ := cx
  obtain ⟨a, r, rfl, hex2⟩ := s_r1_of hex
  clear hex
  cases h12 : (Nat.beq a 1200 && !h.2.2.1) with
  | true =>
    rw [h12] at hex2
    rw [Bool.and_eq_true, Bool.not_eq_true'] at h12
    have ea := Nat.eq_of_beq_eq_true h12.1
    have hsc := hH.2 h12.2
    subst ea
    obtain ⟨rfl, rfl, rfl, rfl⟩ := s_nx_of hex2
    obtain ⟨x1, x2, x3, x4⟩ := hSR.2.2.2.2.2.2.1
    refine va_slen hx hb x1 x3 x2 hS hdg ?_
    have := kk H locs ls hH hS hl hL
    rw [hsc.2] at this
    exact this
  | false =>
    rw [h12] at hex2
    dsimp only at hex2
    cases h11 : Nat.beq a 1100 with
    | true =>
      rw [h11] at hex2
      have ea := Nat.eq_of_beq_eq_true h11
      subst ea
      obtain ⟨rfl, rfl, rfl, rfl⟩ := s_nx_of hex2
      exact va_tlen hx hb hSR.2.2.2.2.2.1 hS rfl hdg (kk H locs ls hH hS hl hL)
    | false =>
      rw [h11] at hex2
      dsimp only at hex2
      cases hlt : Nat.blt a h.1 with
      | false => rw [hlt] at hex2; cases hex2
      | true =>
        rw [hlt] at hex2
        dsimp only at hex2
        cases hgs : s_Gs[a]? with
        | none => rw [hgs] at hex2; cases hex2
        | some x =>
          obtain ⟨k, n⟩ := x
          rw [hgs] at hex2
          dsimp only at hex2
          cases hk : Nat.ble 100 k with
          | false => rw [hk] at hex2; cases hex2
          | true =>
            rw [hk] at hex2
            obtain ⟨rfl, rfl, rfl, rfl⟩ := s_nx_of hex2
            have hk2 : 100 ≤ k := Nat.le_of_ble_eq_true hk
            have ha : a < h1.1 := s_blt hlt
            have h153 := s_Gs_lt hgs
            have hρa : ρ a = base + a := hρ a (by omega)
            have he := s_w_at (base := base) (ρ := ρ) (cid := cid) ha
            rw [s_E_arr hgs hk2] at he
            have hk7 : ∀ z ∈ s_Gs, z.1 < 107 := by decide +kernel
            have hk3 := hk7 _ (List.mem_of_getElem? hgs)
            have ht : ∃ ty, (s_tys cid)[k - 100]? = some (cid k, ty) := by
              have : k = 100 ∨ k = 101 ∨ k = 102 ∨ k = 103 ∨ k = 104 ∨ k = 105 ∨ k = 106 := by
                have : k < 107 := hk3
                omega
              rcases this with rfl | rfl | rfl | rfl | rfl | rfl | rfl <;> exact ⟨_, rfl⟩
            obtain ⟨ty, ht⟩ := ht
            show W p l e R s m args below meth c H locs (_ - n0 + G) (_ - z0 + Gs) Q (F0 m pc ls (.ref (ρ a) :: r.map (s_v ρ)))
            rw [hρa]
            exact va_alen hx hb hSR.1 hH.1 a (k - 100) he ht rfl hdg (kk H locs ls hH hS hl hL)
/-- statics and constants -/
theorem s_k_gets {cp : s_C} {q : s_M} {n0 z0 G Gs pc x : Nat} {L : s_L} {st : List Value} {h : s_H} {H : Heap} {locs : List Loc} {ls : Array Slot} {v : Value}
    (cx : s_Cx p s m args meth c base ρ D cid xs Ln q) (hcp : s_cps[q.2.2.2.2.1]? = some cp) (hH : s_HR base ρ D cid xs Ln h H) (hS : va_S (s_A base) s.heap H locs) (hl : lv_has ls q.2.2.1 (s_as ρ 0 L)) (hL : L.length = q.2.2.1)
    (hdg : decode q.2.1 pc = .ok (.getstatic x, 3)) (hlo : s_look cp.2.1 x = some v)
    (kk : s_K p l e R s m args below meth c Q base ρ D cid xs Ln q n0 z0 G Gs (pc + 3) L (v :: st) h) : W p l e R s m args below meth c H locs (h.1 - n0 + G) (h.2.1 - z0 + Gs) Q (F0 m pc ls (st.map (s_v ρ))) := by
  obtain ⟨hx, hb, hml, hown, hts, hin, hSR, hρ, hinj, hdc, hck⟩ := cx
  obtain ⟨pp, hp⟩ := (s_okPs _ cp hcp).2.1 _ (s_look_mem _ _ _ hlo)
  unfold s_ckS at hp
  dsimp only at hp
  cases v with
  | ref a =>
    dsimp only at hp
    cases h11 : Nat.beq a 1100 with
    | true =>
      rw [h11] at hp
      have ea := Nat.eq_of_beq_eq_true h11
      subst ea
      exact va_gets hx hb hSR.2.2.2.1.2 hS hown (hts _ (s_gw_mem (s_wAt_mem hp) rfl)) (fun _ h => h) hdg (kk H locs ls hH hS hl hL)
    | false =>
      rw [h11] at hp
      simp only [Bool.and_eq_true] at hp
      have h1 := Nat.le_of_ble_eq_true hp.1.1
      have h2 := s_blt hp.1.2
      obtain ⟨i, rfl⟩ := Nat.exists_eq_add_of_le h1
      have e1 : 1000 + i - 1000 = i := Nat.add_sub_cancel_left 1000 i
      rw [e1] at hp
      exact va_gets hx hb (hSR.2.2.2.1.1 i (by omega)) hS hown (hts _ (s_gw_mem (s_wAt_mem hp.2) rfl)) (fun _ h => h) hdg (kk H locs ls hH hS hl hL)
  | _ => cases hp
theorem s_k_ldc {cp : s_C} {q : s_M} {n0 z0 G Gs pc pc1 x : Nat} {L : s_L} {st : List Value} {h : s_H} {H : Heap} {locs : List Loc} {ls : Array Slot} {v : Value} {i : Instr} {len : Nat}
    (cx : s_Cx p s m args meth c base ρ D cid xs Ln q) (hcp : s_cps[q.2.2.2.2.1]? = some cp) (hH : s_HR base ρ D cid xs Ln h H) (hS : va_S (s_A base) s.heap H locs) (hl : lv_has ls q.2.2.1 (s_as ρ 0 L)) (hL : L.length = q.2.2.1)
    (hdg : decode q.2.1 pc = .ok (i, len)) (hlo : s_look cp.2.2.2.2 x = some v)
    (hi : (i = .ldc x ∧ len = 2 ∧ ((∃ z, v = .int z) ∨ ((∃ z, v = .ref z) ∧ q.2.2.2.2.1 = 11))) ∨ (i = .ldc_w x ∧ len = 3 ∧ ((∃ z, v = .int z) ∨ ((∃ z, v = .ref z) ∧ q.2.2.2.2.1 = 11))) ∨ (i = .ldc2_w x ∧ len = 3 ∧ ∃ z, v = .long z))
    (kk : s_K p l e R s m args below meth c Q base ρ D cid xs Ln q n0 z0 G Gs (pc + len) L (v :: st) h) : W p l e R s m args below meth c H locs (h.1 - n0 + G) (h.2.1 - z0 + Gs) Q (F0 m pc ls (st.map (s_v ρ))) := by
  obtain ⟨hx, hb, hml, hown, hts, hin, hSR, hρ, hinj, hdc, hck⟩ := cx
  have hmem := s_look_mem _ _ _ hlo
  obtain ⟨pp, hp⟩ := (s_okPs _ cp hcp).2.2.2.2 _ hmem
  unfold s_ckK at hp
  dsimp only at hp
  rcases hi with ⟨rfl, rfl, hv⟩ | ⟨rfl, rfl, hv⟩ | ⟨rfl, rfl, z, rfl⟩
  · rcases hv with ⟨z, rfl⟩ | ⟨⟨z, rfl⟩, h11⟩
    · exact lv_ldc hx hb hown (hts _ (s_gw_mem (s_wAt_mem hp) rfl)) hdg (kk H locs ls hH hS hl hL)
    · rw [h11] at hcp hown
      cases hcp
      exact va_ldcS hx hb hown (hSR.2.2.2.2.2.2.2.1.1 x z hmem) hdg (kk H locs ls hH hS hl hL)
  · rcases hv with ⟨z, rfl⟩ | ⟨⟨z, rfl⟩, h11⟩
    · exact lv_ldcw hx hb hown (hts _ (s_gw_mem (s_wAt_mem hp) rfl)) hdg (kk H locs ls hH hS hl hL)
    · rw [h11] at hcp hown
      cases hcp
      have hZ := hSR.2.2.2.2.2.2.2.1.1 x z hmem
      intro T hT X
      obtain ⟨t, a1, b1⟩ := kk H locs ls hH hS hl hL T hT X
      exact ⟨t, X.ldcStringW hx hown (text := _) (a := ρ z) hZ.1 hZ.2 (g := F0 m pc ls (st.map (s_v ρ))) rfl (by rw [hb]; exact hdg) t a1, b1⟩
  · exact lv_ldc2 hx hb hown (hts _ (s_gw_mem (s_wAt_mem hp) rfl)) hdg (kk H locs ls hH hS hl hL)
/-- switches -/
theorem s_ts_of {x : Int} {pc pc1 : Nat} {L L1 : s_L} {st st1 : List Value} {h h1 : s_H} {d : Int} : ∀ (offs : List Int) (lo : Int), s_ts x pc L st h d lo offs = some (.inl (pc1, L1, st1, h1)) → L1 = L ∧ st1 = st ∧ h1 = h ∧ (((x < lo ∨ lo + (offs.length : Int) ≤ x) ∧ (pc : Int) + d = (pc1 : Int)) ∨ (¬ x < lo ∧ x < lo + (offs.length : Int) ∧ ∃ o, offs[(x - lo).toNat]? = some o ∧ (pc : Int) + o = (pc1 : Int))) := by
  intro offs
  induction offs with
  | nil =>
    intro lo e
    unfold s_ts at e
    split at e
    · rename_i h0
      obtain ⟨rfl, rfl, rfl, rfl⟩ := s_nx_of e
      refine ⟨rfl, rfl, rfl, Or.inl ⟨?_, ?_⟩⟩
      · rcases Int.lt_or_le x lo with h | h
        · exact Or.inl h
        · right; simp; exact h
      · rw [Int.toNat_of_nonneg h0]
    · cases e
  | cons o t ih =>
    intro lo e
    unfold s_ts at e
    split at e
    · rename_i hx
      split at e
      · rename_i h0
        obtain ⟨rfl, rfl, rfl, rfl⟩ := s_nx_of e
        refine ⟨rfl, rfl, rfl, Or.inr ⟨by omega, by simp only [List.length_cons]; omega, o, ?_, ?_⟩⟩
        · rw [hx, Int.sub_self]; rfl
        · rw [Int.toNat_of_nonneg h0]
      · cases e
    · rename_i hx
      obtain ⟨e1, e2, e3, e4⟩ := ih (lo + 1) e
      refine ⟨e1, e2, e3, ?_⟩
      simp only [List.length_cons]
      rcases e4 with ⟨h4, h5⟩ | ⟨h4, h5, z, h6, h7⟩
      · refine Or.inl ⟨?_, h5⟩
        rcases h4 with h4 | h4
        · left; omega
        · right; omega
      · refine Or.inr ⟨by omega, by omega, z, ?_, h7⟩
        rw [show (x - lo).toNat = (x - (lo + 1)).toNat + 1 by omega]
        simpa using h6
theorem s_ls_of {x : Int} {pc pc1 : Nat} {L L1 : s_L} {st st1 : List Value} {h h1 : s_H} {d : Int} : ∀ (ps : List (Int × Int)), s_ls x pc L st h d ps = some (.inl (pc1, L1, st1, h1)) → L1 = L ∧ st1 = st ∧ h1 = h ∧ (pc : Int) + Op.lookupswitch.offset ps d x = (pc1 : Int) := by
  intro ps
  induction ps with
  | nil =>
    intro e
    unfold s_ls at e
    split at e
    · rename_i h0
      obtain ⟨rfl, rfl, rfl, rfl⟩ := s_nx_of e
      refine ⟨rfl, rfl, rfl, ?_⟩
      rw [Int.toNat_of_nonneg h0]
      first | rfl | simp [Op.lookupswitch.offset]
    · cases e
  | cons a t ih =>
    obtain ⟨k, o⟩ := a
    intro e
    unfold s_ls at e
    rw [Op.lookupswitch.offset_cons]
    split at e
    · rename_i hx
      split at e
      · rename_i h0
        obtain ⟨rfl, rfl, rfl, rfl⟩ := s_nx_of e
        refine ⟨rfl, rfl, rfl, ?_⟩
        rw [if_pos (by first | exact hx | exact hx.symm), Int.toNat_of_nonneg h0]
      · cases e
    · rename_i hx
      rw [if_neg (by first | exact hx | exact fun q => hx q.symm)]
      exact ih e
end SNG
end
section
section SNH
variable {p : Program} {l : Launch} {e : Env} {R : Room} {s : State} {m : MethodId} {args : Array Value} {below : List Frame} {meth : Method} {c : Code} {Q : State → Prop}
variable {base : Nat} {ρ : Nat → Nat} {D : va_G} {cid : Nat → ClassId} {xs : Nat → Int32} {Ln : Nat}
/-- the place of a new cell, by counting -/
theorem s_fresh {h : s_H} {H1 : Heap} {q : Nat} {E : va_E} (hsz : H1.size ≤ base + h.1 + 1) (hP : va_P D s_cl2 (s_w base ρ cid h ++ [(q, E)]) H1) (hD : va_D (s_A base) (s_w base ρ cid h ++ [(q, E)])) : q = base + h.1 := by
  have hlen : (s_w base ρ cid h).length = h.1 := by unfold s_w; rw [List.length_map, List.length_range]
  have hlast : (s_w base ρ cid h ++ [(q, E)])[h.1]? = some (q, E) := by
    rw [List.getElem?_append_right (by omega), hlen, Nat.sub_self]; rfl
  have h1 : q < H1.size := (hP h.1 _ hlast).lt
  have h2 : base ≤ q := hD.2 h.1 _ hlast
  rcases Nat.lt_or_ge q (base + h.1) with h3 | h3
  · exfalso
    have h4 : q - base < h.1 := by omega
    have h5 : (s_w base ρ cid h ++ [(q, E)])[q - base]? = some (base + (q - base), s_E ρ cid h (q - base)) := by
      rw [List.getElem?_append_left (by omega), s_w_at h4]
    have := hD.1 (q - base) h.1 _ _ h5 hlast (by show base + (q - base) = q; omega)
    omega
  · omega
theorem s_mk_of {h : s_H} {k n : Nat} (hm : s_mk h k n = true) : h.2.2.1 = true ∧ s_Gs[h.1]? = some (k, n) := by
  unfold s_mk at hm
  rw [Bool.and_eq_true] at hm
  refine ⟨hm.1, ?_⟩
  have h2 := hm.2
  cases hs : s_Gs[h.1]? with
  | none => rw [hs] at h2; cases h2
  | some x =>
    obtain ⟨j, y⟩ := x
    rw [hs] at h2
    simp only [Bool.and_eq_true] at h2
    rw [Nat.eq_of_beq_eq_true h2.1, Nat.eq_of_beq_eq_true h2.2]
theorem s_Gs_len {a k n : Nat} (h : s_Gs[a]? = some (k, n)) : n ≤ 1000 := by
  have : ∀ z ∈ s_Gs, z.2 ≤ 1000 := by decide +kernel
  exact this _ (List.mem_of_getElem? h)
theorem s_HR_new {h : s_H} {H H1 : Heap} {k n sl : Nat} {E : va_E} (hH : s_HR base ρ D cid xs Ln h H) (hg : s_Gs[h.1]? = some (k, n)) (hE : s_E ρ cid (s_new h sl) h.1 = E) (hP : va_P D s_cl2 (s_w base ρ cid h ++ [(base + h.1, E)]) H1) : s_HR base ρ D cid xs Ln (s_new h sl) H1 := by
  have h153 := s_Gs_lt hg
  refine ⟨?_, fun hf => ?_⟩
  · rw [s_w_new, hE]; exact hP
  · show s_cl0 h.2.2.2.1 h.1 0 1200 = xs ∧ s_cl0 h.2.2.2.1 h.1 0 1201 0 = _
    rw [s_cl0_n _ _ (by omega), s_cl0_n _ _ (by omega)]
    exact hH.2 hf
theorem s_RA_eq {U : State} {a b : ClassId} {ty : FieldType} (h1 : va_RA U a ty) (h2 : va_RA U b ty) : a = b := by
  cases ty with
  | object C =>
    obtain ⟨_, _, -, -, -, e1⟩ := h1
    obtain ⟨_, _, -, -, -, e2⟩ := h2
    exact Option.some.inj (e1.symm.trans e2)
  | _ => exact Option.some.inj ((show U.vm.findClass _ = some a from h1).symm.trans h2)
set_option maxHeartbeats 1000000 in
/-- a new row -/
theorem s_k_mka {cp : s_C} {q : s_M} {n0 z0 G Gs pc pc1 x : Nat} {L L1 : s_L} {st st1 : List Value} {h h1 : s_H} {H : Heap} {locs : List Loc} {ls : Array Slot} {i : Instr} {len : Nat}
    (cx : s_Cx p s m args meth c base ρ D cid xs Ln q) (hcp : s_cps[q.2.2.2.2.1]? = some cp) (hH : s_HR base ρ D cid xs Ln h H) (hS : va_S (s_A base) s.heap H locs) (hl : lv_has ls q.2.2.1 (s_as ρ 0 L)) (hL : L.length = q.2.2.1)
    (hal : h.2.2.1 = true → s.heap.size = base + n0 ∧ G = 0) (hn0 : n0 ≤ h.1) (hz0 : z0 ≤ h.2.1) (hc1 : h1.1 - n0 + G ≤ R.cells) (hc2 : h1.2.1 - z0 + Gs ≤ R.slots)
    (hdg : decode q.2.1 pc = .ok (i, len))
    (hex : (∃ t, i = .newarray t ∧ len = 2 ∧ s_mka (pc + 2) (s_aty t) L st h = some (.inl (pc1, L1, st1, h1))) ∨ (∃ cc, i = .anewarray x ∧ len = 3 ∧ s_look cp.2.2.2.1 x = some cc ∧ s_mka (pc + 3) (s_rk cc) L st h = some (.inl (pc1, L1, st1, h1))))
    (kk : s_K p l e R s m args below meth c Q base ρ D cid xs Ln q n0 z0 G Gs pc1 L1 st1 h1) : W p l e R s m args below meth c H locs (h.1 - n0 + G) (h.2.1 - z0 + Gs) Q (F0 m pc ls (st.map (s_v ρ))) := by
  obtain ⟨hx, hb, hml, hown, hts, hin, hSR, hρ, hinj, hdc, hck⟩ := cx
  have hD : va_D (s_A base) (s_w base ρ cid h) := s_w_D
  have hA : ∀ q : Nat, s.heap.size ≤ q → s_A base q := fun q hq => Nat.le_trans hSR.2.2.2.2.2.2.2.2 hq
  have fin : ∀ (k pcn : Nat) (t0 : Nat) (ty : FieldType) (a0 : (Nat → Int32) ⊕ (Nat → Int64) ⊕ (Nat → UInt32) ⊕ (Nat → UInt64) ⊕ (Nat → Option Nat)) (n : Int32) (r : List Value), s_mk h k n.toNatClampNeg = true → 100 ≤ k → (s_tys cid)[t0]? = some (cid k, ty) → s_ar ρ (s_new h n.toNatClampNeg) h.1 k = a0 → s_K p l e R s m args below meth c Q base ρ D cid xs Ln q n0 z0 G Gs pcn L (.ref h.1 :: r) (s_new h n.toNatClampNeg) →
      ∀ (qq : Nat) (cA : ClassId) (H1 : Heap), va_K D s_cl2 (s_tys cid ++ [(cA, ty)]) s → va_P D s_cl2 (s_w base ρ cid h ++ [(qq, .inl (cA, n.toNatClampNeg, a0))]) H1 → va_D (s_A base) (s_w base ρ cid h ++ [(qq, .inl (cA, n.toNatClampNeg, a0))]) → va_S (s_A base) s.heap H1 locs →
      W p l e R s m args below meth c H1 locs (h.1 - n0 + G + 1) (h.2.1 - z0 + Gs + n.toNatClampNeg) Q (F0 m pcn ls (.ref qq :: r.map (s_v ρ))) := by
    intro k pcn t0 ty a0 n r hm hk ht ha0 kk2 qq cA H1 hK2 hP2 hD2 hS2
    obtain ⟨hal1, hgs⟩ := s_mk_of hm
    obtain ⟨hs0, hG⟩ := hal hal1
    refine s_Wsz (fun hsz => ?_)
    have hq : qq = base + h.1 := s_fresh (by rw [hs0] at hsz; omega) hP2 hD2
    have hcA : cA = cid k := by
      have e1 := (hSR.1.2 t0 _ ht).2
      have e2 : va_RA s cA ty := (hK2.2 7 (cA, ty) rfl).2
      exact s_RA_eq e2 e1
    subst hq hcA
    have h153 := s_Gs_lt hgs
    have hE : s_E ρ cid (s_new h n.toNatClampNeg) h.1 = .inl (cid k, n.toNatClampNeg, a0) := by
      rw [s_E_arr hgs hk, ha0]
    have := kk2 H1 locs ls (s_HR_new hH hgs hE hP2) hS2 hl hL
    have e1 : (s_new h n.toNatClampNeg).1 - n0 + G = h.1 - n0 + G + 1 := by show h.1 + 1 - n0 + G = _; omega
    have e2 : (s_new h n.toNatClampNeg).2.1 - z0 + Gs = h.2.1 - z0 + Gs + n.toNatClampNeg := by show h.2.1 + _ - z0 + Gs = _; omega
    rw [e1, e2, List.map_cons] at this
    have e3 : s_v ρ (.ref h.1) = .ref (base + h.1) := by show Value.ref (ρ h.1) = _; rw [hρ h.1 (by omega)]
    rw [e3] at this
    exact this
  have ar0 : ∀ n k, k ≠ 102 → k < 104 → s_ar ρ (s_new h n) h.1 k = .inl (fun _ => 0) := by
    intro n k h1 h2
    unfold s_ar
    rw [if_neg h1, if_neg (by omega)]
    have : (s_new h n).2.2.2.1 h.1 = fun _ => 0 := s_cl0_s _ _ _
    rw [this]
  rcases hex with ⟨t, rfl, rfl, hex⟩ | ⟨cc, rfl, rfl, hlo, hex⟩
  · obtain ⟨n, r, rfl, hex2⟩ := s_i1_of hex
    clear hex
    split at hex2
    · cases hex2
    · rename_i hneg
      cases hm : s_mk h (s_aty t) n.toNatClampNeg with
      | false => rw [hm] at hex2; cases hex2
      | true =>
        rw [hm] at hex2
        obtain ⟨rfl, rfl, rfl, rfl⟩ := s_nx_of hex2
        obtain ⟨hal1, hgs⟩ := s_mk_of hm
        have hle := s_Gs_len hgs
        have c1 : h.1 - n0 + G + 1 ≤ R.cells := by
          have : h.1 + 1 - n0 + G ≤ R.cells := hc1
          omega
        have c2 : h.2.1 - z0 + Gs + n.toNatClampNeg ≤ R.slots := by
          have : h.2.1 + n.toNatClampNeg - z0 + Gs ≤ R.slots := hc2
          omega
        cases t with
        | byte => exact va_newa (atype := .byte) (ty := .byte) (a0 := (n.toNatClampNeg, .inl (fun _ => 0))) hx hb (hts _ (s_gw_mem s_wa100 rfl)) rfl hSR.1 hH.1 hD hS hA (fun _ => rfl) hneg rfl (by show n.toNatClampNeg * 1 ≤ _; omega) c1 c2 hdg (fin 100 _ 0 .byte _ n r hm (by omega) rfl (ar0 _ _ (by omega) (by omega)) kk)
        | int => exact va_newa (atype := .int) (ty := .int) (a0 := (n.toNatClampNeg, .inl (fun _ => 0))) hx hb (hts _ (s_gw_mem s_wa101 rfl)) rfl hSR.1 hH.1 hD hS hA (fun _ => rfl) hneg rfl (by show n.toNatClampNeg * 4 ≤ _; omega) c1 c2 hdg (fin 101 _ 1 .int _ n r hm (by omega) rfl (ar0 _ _ (by omega) (by omega)) kk)
        | long =>
          have arL : s_ar ρ (s_new h n.toNatClampNeg) h.1 102 = .inr (.inl (fun _ => 0)) := by
            unfold s_ar
            rw [if_pos rfl]
            have : (s_new h n.toNatClampNeg).2.2.2.2.1 h.1 = fun _ => 0 := s_cl0_s _ _ _
            rw [this]
          exact va_newa (atype := .long) (ty := .long) (a0 := (n.toNatClampNeg, .inr (.inl (fun _ => 0)))) hx hb (hts _ (s_gw_mem s_wa102 rfl)) rfl hSR.1 hH.1 hD hS hA (fun _ => rfl) hneg rfl (by show n.toNatClampNeg * 8 ≤ _; omega) c1 c2 hdg (fin 102 _ 2 .long _ n r hm (by omega) rfl arL kk)
        | boolean => exact va_newa (atype := .boolean) (ty := .boolean) (a0 := (n.toNatClampNeg, .inl (fun _ => 0))) hx hb (hts _ (s_gw_mem s_wa103 rfl)) rfl hSR.1 hH.1 hD hS hA (fun _ => rfl) hneg rfl (by show n.toNatClampNeg * 1 ≤ _; omega) c1 c2 hdg (fin 103 _ 3 .boolean _ n r hm (by omega) rfl (ar0 _ _ (by omega) (by omega)) kk)
        | _ =>
          exfalso
          have : ∀ z ∈ s_Gs, z.1 ≠ 99 := by decide +kernel
          exact this _ (List.mem_of_getElem? hgs) rfl
  · obtain ⟨n, r, rfl, hex2⟩ := s_i1_of hex
    clear hex
    split at hex2
    · cases hex2
    · rename_i hneg
      cases hm : s_mk h (s_rk cc) n.toNatClampNeg with
      | false => rw [hm] at hex2; cases hex2
      | true =>
        rw [hm] at hex2
        obtain ⟨rfl, rfl, rfl, rfl⟩ := s_nx_of hex2
        obtain ⟨hal1, hgs⟩ := s_mk_of hm
        have hle := s_Gs_len hgs
        have c1 : h.1 - n0 + G + 1 ≤ R.cells := by
          have : h.1 + 1 - n0 + G ≤ R.cells := hc1
          omega
        have c2 : h.2.1 - z0 + Gs + n.toNatClampNeg ≤ R.slots := by
          have : h.2.1 + n.toNatClampNeg - z0 + Gs ≤ R.slots := hc2
          omega
        obtain ⟨pp, hp⟩ := (s_okPs _ cp hcp).2.2.2.1 _ (s_look_mem _ _ _ hlo)
        unfold s_ckC at hp
        rw [Bool.and_eq_true] at hp
        have hlink := hts _ (s_gw_mem (s_wAt_mem hp.2) rfl)
        have arR : ∀ k, 104 ≤ k → s_ar ρ (s_new h n.toNatClampNeg) h.1 k = .inr (.inr (.inr (.inr (fun _ => none)))) := by
          intro k hk
          rw [s_ar_R hk]
          have : (s_new h n.toNatClampNeg).2.2.2.2.2 h.1 = fun _ => none := s_cl0_s _ _ _
          rw [this]
          rfl
        have h3 : cc = 10 ∨ cc = 8 ∨ cc = 5 := by
          unfold s_rk at hgs
          split at hgs
          · exact Or.inl rfl
          · exact Or.inr (Or.inl rfl)
          · exact Or.inr (Or.inr rfl)
          · exfalso
            have : ∀ z ∈ s_Gs, z.1 ≠ 99 := by decide +kernel
            exact this _ (List.mem_of_getElem? hgs) rfl
        rcases h3 with rfl | rfl | rfl
        · exact va_newq hx hb hown hlink hSR.2.2.1.1 hSR.1 hH.1 hD hS hA hneg rfl (by omega) c1 c2 hdg (fin 104 _ 4 (.object RX10) _ n r hm (by omega) rfl (arR 104 (by omega)) kk)
        · exact va_newq hx hb hown hlink hSR.2.2.1.2.1 hSR.1 hH.1 hD hS hA hneg rfl (by omega) c1 c2 hdg (fin 105 _ 5 (.object RX8) _ n r hm (by omega) rfl (arR 105 (by omega)) kk)
        · exact va_newq hx hb hown hlink hSR.2.2.1.2.2 hSR.1 hH.1 hD hS hA hneg rfl (by omega) c1 c2 hdg (fin 106 _ 6 (.object RX5) _ n r hm (by omega) rfl (arR 106 (by omega)) kk)
set_option maxHeartbeats 1000000 in
/-- a new object -/
theorem s_k_mko {cp : s_C} {q : s_M} {n0 z0 G Gs pc pc1 x cc : Nat} {L L1 : s_L} {st st1 : List Value} {h h1 : s_H} {H : Heap} {locs : List Loc} {ls : Array Slot}
    (cx : s_Cx p s m args meth c base ρ D cid xs Ln q) (hcp : s_cps[q.2.2.2.2.1]? = some cp) (hH : s_HR base ρ D cid xs Ln h H) (hS : va_S (s_A base) s.heap H locs) (hl : lv_has ls q.2.2.1 (s_as ρ 0 L)) (hL : L.length = q.2.2.1)
    (hal : h.2.2.1 = true → s.heap.size = base + n0 ∧ G = 0) (hn0 : n0 ≤ h.1) (hz0 : z0 ≤ h.2.1) (hc1 : h1.1 - n0 + G ≤ R.cells) (hc2 : h1.2.1 - z0 + Gs ≤ R.slots)
    (hdg : decode q.2.1 pc = .ok (.new x, 3)) (hlo : s_look cp.2.2.2.1 x = some cc) (hex : s_mko (pc + 3) cc L st h = some (.inl (pc1, L1, st1, h1)))
    (kk : s_K p l e R s m args below meth c Q base ρ D cid xs Ln q n0 z0 G Gs pc1 L1 st1 h1) : W p l e R s m args below meth c H locs (h.1 - n0 + G) (h.2.1 - z0 + Gs) Q (F0 m pc ls (st.map (s_v ρ))) := by
  obtain ⟨hx, hb, hml, hown, hts, hin, hSR, hρ, hinj, hdc, hck⟩ := cx
  have hD : va_D (s_A base) (s_w base ρ cid h) := s_w_D
  have hA : ∀ q : Nat, s.heap.size ≤ q → s_A base q := fun q hq => Nat.le_trans hSR.2.2.2.2.2.2.2.2 hq
  unfold s_mko at hex
  cases h10 : Nat.beq cc 10 with
  | true => rw [h10] at hex; cases hex
  | false =>
    rw [h10] at hex
    dsimp only at hex
    have hne : cc ≠ 10 := fun q => by rw [q] at h10; cases h10
    cases hf : s_fts[cc]? with
    | none => rw [hf] at hex; cases hex
    | some lf =>
      rw [hf] at hex
      dsimp only at hex
      cases hm : s_mk h cc 0 with
      | false => rw [hm] at hex; cases hex
      | true =>
        rw [hm] at hex
        obtain ⟨rfl, rfl, rfl, rfl⟩ := s_nx_of hex
        obtain ⟨hal1, hgs⟩ := s_mk_of hm
        obtain ⟨pp, hp⟩ := (s_okPs _ cp hcp).2.2.2.1 _ (s_look_mem _ _ _ hlo)
        unfold s_ckC at hp
        rw [Bool.and_eq_true] at hp
        have hlink := hts _ (s_gw_mem (s_wAt_mem hp.2) rfl)
        have h13 : cc < 13 := s_blt hp.1
        obtain ⟨o1, o2, o3, o4, o5, o6, o7, o8, o9, o10⟩ := s_okC cc h13 hne
        have hnf : s_nf cc = lf.length := by unfold s_nf; rw [hf]
        have c1 : h.1 - n0 + G + 1 ≤ R.cells := by
          have : h.1 + 1 - n0 + G ≤ R.cells := hc1
          omega
        have c2 : h.2.1 - z0 + Gs + s_nf cc ≤ R.slots := by
          have : h.2.1 + lf.length - z0 + Gs ≤ R.slots := hc2
          rw [hnf]; omega
        refine va_new (fs := s_fs ρ (s_new h lf.length) h.1 cc) hx hb hts (fun w hw => s_gw_mem (o3 w hw).1 (o3 w hw).2) (s_tyx cc) o4 hown hlink (hts _ (s_gw_mem o9 rfl)) (hts _ (s_gw_mem o10 rfl)) hSR.1 hH.1 hD hS hA o1 ?_ c1 c2 hdg ?_
        · intro j hj
          unfold vp_V
          rw [List.getD_eq_getElem?_getD, s_fs_at hj]
          have ht := o6 j hj
          have z1 : (s_new h lf.length).2.2.2.1 h.1 = fun _ => 0 := s_cl0_s _ _ _
          have z2 : (s_new h lf.length).2.2.2.2.1 h.1 = fun _ => 0 := s_cl0_s _ _ _
          have z3 : (s_new h lf.length).2.2.2.2.2 h.1 = fun _ => none := s_cl0_s _ _ _
          show defaultValue (s_tyx cc j) = s_v ρ (s_pv (s_new h lf.length) (s_ft cc j) h.1 j)
          rw [← ht]
          cases hty : s_tyx cc j with
          | int => show _ = s_v ρ (.int ((s_new h lf.length).2.2.2.1 h.1 j)); rw [z1]; rfl
          | boolean => show _ = s_v ρ (.int ((s_new h lf.length).2.2.2.1 h.1 j)); rw [z1]; rfl
          | long => show _ = s_v ρ (.long ((s_new h lf.length).2.2.2.2.1 h.1 j)); rw [z2]; rfl
          | object C => show _ = s_v ρ (va_rf ((s_new h lf.length).2.2.2.2.2 h.1 j)); rw [z3]; rfl
          | array u => show _ = s_v ρ (va_rf ((s_new h lf.length).2.2.2.2.2 h.1 j)); rw [z3]; rfl
          | _ =>
            exfalso
            rw [hty] at ht
            have h4 : ∀ c, c < 13 → ∀ k, k < s_nf c → s_ft c k ≠ 8 := by decide +kernel
            exact h4 cc h13 j hj ht.symm
        · intro qq H1 hP2 hD2 hS2
          obtain ⟨hs0, hG⟩ := hal hal1
          refine s_Wsz (fun hsz => ?_)
          have hq : qq = base + h.1 := s_fresh (by rw [hs0] at hsz; omega) hP2 hD2
          subst hq
          have h153 := s_Gs_lt hgs
          have hE : s_E ρ cid (s_new h lf.length) h.1 = .inr (cc, s_fs ρ (s_new h lf.length) h.1 cc) := by
            unfold s_E
            rw [hgs]
            simp only [if_pos (show cc < 100 by omega)]
          have := kk H1 locs ls (s_HR_new hH hgs hE hP2) hS2 hl hL
          have e1 : (s_new h lf.length).1 - n0 + G = h.1 - n0 + G + 1 := by show h.1 + 1 - n0 + G = _; omega
          have e2 : (s_new h lf.length).2.1 - z0 + Gs = h.2.1 - z0 + Gs + s_nf cc := by show h.2.1 + _ - z0 + Gs = _; rw [hnf]; omega
          rw [e1, e2, List.map_cons] at this
          have e3 : s_v ρ (.ref h.1) = .ref (base + h.1) := by show Value.ref (ρ h.1) = _; rw [hρ h.1 (by omega)]
          rw [e3] at this
          exact this
end SNH
end
section
section SNI
variable {p : Program} {l : Launch} {e : Env} {R : Room} {s : State} {m : MethodId} {args : Array Value} {below : List Frame} {meth : Method} {c : Code} {Q : State → Prop}
variable {base : Nat} {ρ : Nat → Nat} {D : va_G} {cid : Nat → ClassId} {xs : Nat → Int32} {Ln : Nat}
/-- a text's length and its signs: calls of the JDK -/
theorem s_k_str {cp : s_C} {q : s_M} {pc x t w : Nat} {H : Heap} {locs : List Loc} {ls : Array Slot} {rest : List Value} {cells slots : Nat} {tx : List Int32}
    (cx : s_Cx p s m args meth c base ρ D cid xs Ln q) (hS : va_S (s_A base) s.heap H locs) (hls : ls.size = q.2.2.1) (hR1 : 6 ≤ R.frames) (hR2 : 240 ≤ R.locals) (hc : cells ≤ R.cells) (hs : slots ≤ R.slots)
    (hdg : decode q.2.1 pc = .ok (.invokevirtual x, 3)) (ht : s_txs[t]? = some tx) (hcat : (rest.map fun v => v.category).sum ≤ 8)
    (hlo : (w = 0 ∧ Cond.methodLink (s_R q.2.2.2.2.1) x yJ0_length_8abf5 ∈ s_gw) ∨ (w = 1 ∧ Cond.methodLink (s_R q.2.2.2.2.1) x yJ0_charAt_5068e ∈ s_gw))
    (st : List Value) (v : Int32) (hst : (w = 0 ∧ st = .ref (ρ (1300 + t)) :: rest ∧ v = Int32.ofNat tx.length) ∨ (w = 1 ∧ ∃ i : Int32, ¬ (i < 0 ∨ tx.length ≤ i.toNatClampNeg) ∧ st = .int i :: .ref (ρ (1300 + t)) :: rest ∧ v = tx.getD i.toNatClampNeg 0))
    (kk : W p l e R s m args below meth c H locs cells slots Q (F0 m (pc + 3) ls (.int v :: rest))) : W p l e R s m args below meth c H locs cells slots Q (F0 m pc ls st) := by
  sorry
set_option maxHeartbeats 1000000 in
set_option maxRecDepth 100000 in
/-- calls that are steps: Object's constructor, arraycopy, a text's length and signs, the lesser and the greater -/
theorem s_k_prim {cp : s_C} {q : s_M} {n0 z0 G Gs pc pc1 x w : Nat} {en : Nat × Nat × Nat} {L L1 : s_L} {st st1 : List Value} {h h1 : s_H} {H : Heap} {locs : List Loc} {ls : Array Slot} {i : Instr}
    (cx : s_Cx p s m args meth c base ρ D cid xs Ln q) (hcp : s_cps[q.2.2.2.2.1]? = some cp) (hH : s_HR base ρ D cid xs Ln h H) (hS : va_S (s_A base) s.heap H locs) (hl : lv_has ls q.2.2.1 (s_as ρ 0 L)) (hL : L.length = q.2.2.1)
    (hR1 : 6 ≤ R.frames) (hR2 : 240 ≤ R.locals) (hc1 : h.1 - n0 + G ≤ R.cells) (hc2 : h.2.1 - z0 + Gs ≤ R.slots)
    (hdg : decode q.2.1 pc = .ok (i, 3)) (hlo : s_look cp.2.2.1 x = some en) (hi : (w = 0 ∧ i = .invokevirtual x) ∨ (w = 1 ∧ i = .invokestatic x) ∨ (w = 2 ∧ i = .invokespecial x)) (hex : s_inv w (pc + 3) en L st h = some (.inl (pc1, L1, st1, h1)))
    (kk : s_K p l e R s m args below meth c Q base ρ D cid xs Ln q n0 z0 G Gs pc1 L1 st1 h1) : W p l e R s m args below meth c H locs (h.1 - n0 + G) (h.2.1 - z0 + Gs) Q (F0 m pc ls (st.map (s_v ρ))) := by
  have cx0 := cx
  obtain ⟨hx, hb, hml, hown, hts, hin, hSR, hρ, hinj, hdc, hck⟩ := cx
  obtain ⟨pp, hp⟩ := (s_okPs _ cp hcp).2.2.1 _ (s_look_mem _ _ _ hlo)
  have nocall : ∀ md n, s_call md n st = some (.inl (pc1, L1, st1, h1)) → False := by
    intro md n hq
    unfold s_call at hq
    split at hq
    · cases hq
    · cases hq
  have hsz : c.maxLocals = ls.size := by rw [hml, hl.1]
  unfold s_inv at hex
  split at hex
  · -- virtual
    split at hex
    · split at hex
      · exact (nocall _ _ hex).elim
      · cases hex
    · cases hex
  · exact (nocall _ _ hex).elim
  · split at hex
    · exact (nocall _ _ hex).elim
    · cases hex
  · split at hex
    · exact (nocall _ _ hex).elim
    · cases hex
  · -- Object
    rcases hi with ⟨hw, -⟩ | ⟨hw, -⟩ | ⟨-, rfl⟩
    · cases hw
    · cases hw
    obtain ⟨a, r, rfl, hex2⟩ := s_r1_of hex
    clear hex
    cases hcat : Nat.ble (s_cat r) 8 with
    | false => rw [hcat] at hex2; cases hex2
    | true =>
      rw [hcat] at hex2
      obtain ⟨rfl, rfl, rfl, rfl⟩ := s_nx_of hex2
      have h8 := Nat.le_of_ble_eq_true hcat
      have hlink : Cond.methodLink (s_R q.2.2.2.2.1) x objectInit ∈ lw_tbl := s_wAt_mem hp
      refine W.objInit hx hb hown (hts _ (s_gw_mem hlink rfl)) (hts _ (s_gw_mem s_w1 rfl)) (hts _ (s_gw_mem s_w2 rfl)) (g := F0 m pc ls _) rfl (by rw [hml]; exact hl.1) (a := ρ a) (rest := List.map (s_v ρ) st1) rfl hdg (by omega) ?_ (kk H locs ls hH hS hl hL)
      have := lv_room (m := m) (pc := pc) (ls := ls) (rest := List.map (s_v ρ) (Value.ref a :: st1)) (st := List.map (s_v ρ) st1) (by rw [s_cat_map]; exact h8)
      omega
  · -- arraycopy
    rcases hi with ⟨hw, -⟩ | ⟨-, rfl⟩ | ⟨hw, -⟩
    · cases hw
    · have hlink : Cond.methodLink (s_R q.2.2.2.2.1) x arraycopyName ∈ lw_tbl := s_wAt_mem hp
      have hD : va_D (s_A base) (s_w base ρ cid h) := s_w_D
      unfold s_acp at hex
      split at hex
      · rename_i n dp b sp a r
        split at hex
        · cases hex
        · rename_i hg
          simp only [not_or] at hg
          obtain ⟨g1, g2, g3, g4, g5, g6⟩ := hg
          have hroom : ((r.map (s_v ρ)).map fun v => v.category).sum + (nativeFrameWords "java/lang/System" "arraycopy" 5 + 11) ≤ R.locals := by
            rw [s_cat_map]
            have : nativeFrameWords "java/lang/System" "arraycopy" 5 = 7 := by decide +kernel
            omega
          cases hi1 : (s_isG h a 101 && s_isG h b 101) with
          | true =>
            rw [hi1] at hex
            obtain ⟨rfl, rfl, rfl, rfl⟩ := s_nx_of hex
            rw [Bool.and_eq_true] at hi1
            have ha := s_arr_at (base := base) (ρ := ρ) (cid := cid) hi1.1 (by omega)
            have hb2 := s_arr_at (base := base) (ρ := ρ) (cid := cid) hi1.2 (by omega)
            have e1 : ρ a = base + a := hρ a (s_isG_lt hi1.1)
            have e2 : ρ b = base + b := hρ b (s_isG_lt hi1.2)
            show W p l e R s m args below meth c H locs (h.1 - n0 + G) (h.2.1 - z0 + Gs) Q (F0 m pc ls (.int n :: .int dp :: .ref (ρ b) :: .int sp :: .ref (ρ a) :: st1.map (s_v ρ)))
            rw [e1, e2]
            refine va_copyi hx hb hsz hown (hts _ (s_gw_mem hlink rfl)) (hts _ (s_gw_mem s_w3 rfl)) (hts _ (s_gw_mem s_w4 rfl)) (hts _ (s_gw_mem s_w5 rfl)) hSR.1 hH.1 hD hS a b 1 1 (ty := .int) ha hb2 rfl rfl rfl g1 g2 g3 (by omega) (by omega) (fun _ _ => rfl) (by omega) hroom hdg (fun H1 locs1 hP _ hS1 => kk H1 locs1 ls (s_HR_set hH (s_isG_of hi1.2).1 (s_isG_lt hi1.2) rfl rfl ?_ (fun z hz => ⟨s_row_n _ _ hz, rfl, rfl⟩) hP) hS1 hl hL)
            rw [s_E_arr (s_isG_of hi1.2).2 (by omega)]
            unfold s_ar
            rw [if_neg (by omega), if_neg (by omega)]
            dsimp only
            rw [s_row_s]
          | false =>
            rw [hi1] at hex
            dsimp only at hex
            cases hi2 : (s_isG h a 102 && s_isG h b 102) with
            | false => rw [hi2] at hex; cases hex
            | true =>
              rw [hi2] at hex
              obtain ⟨rfl, rfl, rfl, rfl⟩ := s_nx_of hex
              rw [Bool.and_eq_true] at hi2
              have ha := s_arr_at (base := base) (ρ := ρ) (cid := cid) hi2.1 (by omega)
              have hb2 := s_arr_at (base := base) (ρ := ρ) (cid := cid) hi2.2 (by omega)
              have e1 : ρ a = base + a := hρ a (s_isG_lt hi2.1)
              have e2 : ρ b = base + b := hρ b (s_isG_lt hi2.2)
              show W p l e R s m args below meth c H locs (h.1 - n0 + G) (h.2.1 - z0 + Gs) Q (F0 m pc ls (.int n :: .int dp :: .ref (ρ b) :: .int sp :: .ref (ρ a) :: st1.map (s_v ρ)))
              rw [e1, e2]
              refine va_copyl hx hb hsz hown (hts _ (s_gw_mem hlink rfl)) (hts _ (s_gw_mem s_w3 rfl)) (hts _ (s_gw_mem s_w4 rfl)) (hts _ (s_gw_mem s_w5 rfl)) hSR.1 hH.1 hD hS a b 2 2 (ty := .long) ha hb2 rfl rfl rfl g1 g2 g3 (by omega) (by omega) (fun _ _ => rfl) (by omega) hroom hdg (fun H1 locs1 hP _ hS1 => kk H1 locs1 ls (s_HR_set hH (s_isG_of hi2.2).1 (s_isG_lt hi2.2) rfl rfl ?_ (fun z hz => ⟨rfl, s_row_n _ _ hz, rfl⟩) hP) hS1 hl hL)
              rw [s_E_arr (s_isG_of hi2.2).2 (by omega)]
              unfold s_ar
              rw [if_pos rfl]
              dsimp only
              rw [s_row_s]
      · cases hex
    · cases hw
  · exact (nocall _ _ hex).elim
  · -- the lesser
    rcases hi with ⟨hw, -⟩ | ⟨-, rfl⟩ | ⟨hw, -⟩
    · cases hw
    · have hlink : Cond.methodLink (s_R q.2.2.2.2.1) x Lib.Math.min.name ∈ lw_tbl := s_wAt_mem hp
      obtain ⟨u, v, r, rfl, hex2⟩ := s_ii_of hex
      clear hex
      cases hcat : Nat.ble (s_cat r) 8 with
      | false => rw [hcat] at hex2; cases hex2
      | true =>
        rw [hcat] at hex2
        obtain ⟨rfl, rfl, rfl, rfl⟩ := s_nx_of hex2
        have h8 := Nat.le_of_ble_eq_true hcat
        exact va_mmin hx hb hsz hown (hts _ (s_gw_mem hlink rfl)) (hts _ (s_gw_mem s_wm0 rfl)) (hts _ (s_gw_mem s_wi rfl)) (hts _ (s_gw_mem s_wc0 rfl)) (by omega) (by rw [s_cat_map]; omega) hc1 hc2 hdg (kk H locs ls hH hS hl hL)
    · cases hw
  · -- the greater
    rcases hi with ⟨hw, -⟩ | ⟨-, rfl⟩ | ⟨hw, -⟩
    · cases hw
    · have hlink : Cond.methodLink (s_R q.2.2.2.2.1) x Lib.Math.max.name ∈ lw_tbl := s_wAt_mem hp
      obtain ⟨u, v, r, rfl, hex2⟩ := s_ii_of hex
      clear hex
      cases hcat : Nat.ble (s_cat r) 8 with
      | false => rw [hcat] at hex2; cases hex2
      | true =>
        rw [hcat] at hex2
        obtain ⟨rfl, rfl, rfl, rfl⟩ := s_nx_of hex2
        have h8 := Nat.le_of_ble_eq_true hcat
        exact va_mmax hx hb hsz hown (hts _ (s_gw_mem hlink rfl)) (hts _ (s_gw_mem s_wm1 rfl)) (hts _ (s_gw_mem s_wi rfl)) (hts _ (s_gw_mem s_wc1 rfl)) (by omega) (by rw [s_cat_map]; omega) hc1 hc2 hdg (kk H locs ls hH hS hl hL)
    · cases hw
  · -- length
    rcases hi with ⟨-, rfl⟩ | ⟨hw, -⟩ | ⟨hw, -⟩
    · have hlink : Cond.methodLink (s_R q.2.2.2.2.1) x yJ0_length_8abf5 ∈ lw_tbl := s_wAt_mem hp
      obtain ⟨a, r, rfl, hex2⟩ := s_r1_of hex
      clear hex
      split at hex2
      · cases hex2
      · rename_i hge
        cases htx : s_txs[a - 1300]? with
        | none => rw [htx] at hex2; cases hex2
        | some tx =>
          rw [htx] at hex2
          dsimp only at hex2
          cases hcat : Nat.ble (s_cat r) 8 with
          | false => rw [hcat] at hex2; cases hex2
          | true =>
            rw [hcat] at hex2
            obtain ⟨rfl, rfl, rfl, rfl⟩ := s_nx_of hex2
            have h8 := Nat.le_of_ble_eq_true hcat
            have ea : 1300 + (a - 1300) = a := Nat.add_sub_cancel' (Nat.not_lt.mp hge)
            refine s_k_str (cp := cp) (w := 0) (t := a - 1300) (rest := r.map (s_v ρ)) cx0 hS hl.1 hR1 hR2 hc1 hc2 hdg htx (by rw [s_cat_map]; exact h8) (Or.inl ⟨rfl, s_gw_mem hlink rfl⟩) _ _ (Or.inl ⟨rfl, ?_, rfl⟩) (kk H locs ls hH hS hl hL)
            rw [ea]; rfl
    · cases hw
    · cases hw
  · -- charAt
    rcases hi with ⟨-, rfl⟩ | ⟨hw, -⟩ | ⟨hw, -⟩
    · have hlink : Cond.methodLink (s_R q.2.2.2.2.1) x yJ0_charAt_5068e ∈ lw_tbl := s_wAt_mem hp
      obtain ⟨i, a, r, rfl, hex2⟩ := s_ir_of hex
      clear hex
      split at hex2
      · cases hex2
      · rename_i hge
        cases htx : s_txs[a - 1300]? with
        | none => rw [htx] at hex2; cases hex2
        | some tx =>
          rw [htx] at hex2
          dsimp only at hex2
          cases hcat : Nat.ble (s_cat r) 8 with
          | false => rw [hcat] at hex2; cases hex2
          | true =>
            rw [hcat] at hex2
            dsimp only at hex2
            split at hex2
            · cases hex2
            · rename_i hin2
              obtain ⟨rfl, rfl, rfl, rfl⟩ := s_nx_of hex2
              have h8 := Nat.le_of_ble_eq_true hcat
              have ea : 1300 + (a - 1300) = a := Nat.add_sub_cancel' (Nat.not_lt.mp hge)
              refine s_k_str (cp := cp) (w := 1) (t := a - 1300) (rest := r.map (s_v ρ)) cx0 hS hl.1 hR1 hR2 hc1 hc2 hdg htx (by rw [s_cat_map]; exact h8) (Or.inr ⟨rfl, s_gw_mem hlink rfl⟩) _ _ (Or.inr ⟨rfl, i, hin2, ?_, rfl⟩) (kk H locs ls hH hS hl hL)
              rw [ea]; rfl
    · cases hw
    · cases hw
  · cases hex
end SNI
end
section
theorem s_own11a : ((List.range 17).all fun o => Nat.beq o 11 || (match s_cps[o]? with
    | some cq => cq.2.2.2.2.all (fun z => match z.2 with
      | .ref _ => false
      | _ => true)
    | none => true)) = true := by decide +kernel
theorem s_own11 {own : Nat} {cp : s_C} (hcp : s_cps[own]? = some cp) {x a : Nat} (hm : (x, (Value.ref a)) ∈ cp.2.2.2.2) : own = 11 := by
  have h2 : own < 17 := (List.getElem?_eq_some_iff.mp hcp).1
  have h3 := List.all_eq_true.mp s_own11a own (List.mem_range.mpr h2)
  rw [Bool.or_eq_true] at h3
  rcases h3 with h3 | h3
  · exact Nat.eq_of_beq_eq_true h3
  · rw [hcp] at h3
    have h4 := List.all_eq_true.mp h3 _ hm
    cases h4
end
section
section SNJ
variable {p : Program} {l : Launch} {e : Env} {R : Room} {s : State} {m : MethodId} {args : Array Value} {below : List Frame} {meth : Method} {c : Code} {Q : State → Prop}
variable {base : Nat} {ρ : Nat → Nat} {D : va_G} {cid : Nat → ClassId} {xs : Nat → Int32} {Ln : Nat}
set_option maxHeartbeats 4000000 in
theorem s_step2 {cp : s_C} {q : s_M} {n0 z0 G Gs pc pc1 len tg : Nat} {i : Instr} {L L1 : s_L} {st st1 : List Value} {h h1 : s_H} {H : Heap} {locs : List Loc} {ls : Array Slot}
    (cx : s_Cx p s m args meth c base ρ D cid xs Ln q) (hcp : s_cps[q.2.2.2.2.1]? = some cp) (hH : s_HR base ρ D cid xs Ln h H) (hS : va_S (s_A base) s.heap H locs) (hl : lv_has ls q.2.2.1 (s_as ρ 0 L)) (hL : L.length = q.2.2.1)
    (hal : h.2.2.1 = true → s.heap.size = base + n0 ∧ G = 0) (hn0 : n0 ≤ h.1) (hz0 : z0 ≤ h.2.1) (hR1 : 6 ≤ R.frames) (hR2 : 240 ≤ R.locals) (hc1 : h1.1 - n0 + G ≤ R.cells) (hc2 : h1.2.1 - z0 + Gs ≤ R.slots) (hd1 : h.1 - n0 + G ≤ R.cells) (hd2 : h.2.1 - z0 + Gs ≤ R.slots)
    (hex : s_ex cp q.2.2.2.2.1 q.2.2.2.2.2.1 q.2.2.2.1 pc i tg L st h = some (.inl (pc1, L1, st1, h1))) (hlk : s_lk i len = true) (htk : s_tk pc i tg = true) (hdg : decode q.2.1 pc = .ok (i, len)) (hh : s_hd i = false)
    (kk : s_K p l e R s m args below meth c Q base ρ D cid xs Ln q n0 z0 G Gs pc1 L1 st1 h1) : W p l e R s m args below meth c H locs (h.1 - n0 + G) (h.2.1 - z0 + Gs) Q (F0 m pc ls (st.map (s_v ρ))) := by
  cases i with
  | getfield x =>
    obtain rfl : 3 = len := Nat.eq_of_beq_eq_true hlk
    unfold s_ex at hex
    dsimp only at hex
    split at hex
    · rename_i c1 k1 hq
      exact s_k_getf cx hcp hH hS hl hL hq hex hdg kk
    · cases hex
  | putfield x =>
    obtain rfl : 3 = len := Nat.eq_of_beq_eq_true hlk
    unfold s_ex at hex
    dsimp only at hex
    split at hex
    · rename_i c1 k1 hq
      exact s_k_putf cx hcp hH hS hl hL hq hex hdg kk
    · cases hex
  | getstatic x =>
    obtain rfl : 3 = len := Nat.eq_of_beq_eq_true hlk
    unfold s_ex at hex
    dsimp only at hex
    split at hex
    · rename_i v hq
      obtain ⟨rfl, rfl, rfl, rfl⟩ := s_nx_of hex
      exact s_k_gets cx hcp hH hS hl hL hdg hq kk
    · cases hex
  | ldc x =>
    obtain rfl : 2 = len := Nat.eq_of_beq_eq_true hlk
    unfold s_ex at hex
    dsimp only at hex
    split at hex
    · rename_i v hq
      obtain ⟨rfl, rfl, rfl, rfl⟩ := s_nx_of hex
      exact s_k_ldc (pc1 := 0) cx hcp hH hS hl hL hdg hq (Or.inl ⟨rfl, rfl, Or.inl ⟨_, rfl⟩⟩) kk
    · rename_i v hq
      obtain ⟨rfl, rfl, rfl, rfl⟩ := s_nx_of hex
      exact s_k_ldc (pc1 := 0) cx hcp hH hS hl hL hdg hq (Or.inl ⟨rfl, rfl, Or.inr ⟨⟨_, rfl⟩, s_own11 hcp (s_look_mem _ _ _ hq)⟩⟩) kk
    · cases hex
  | ldc_w x =>
    obtain rfl : 3 = len := Nat.eq_of_beq_eq_true hlk
    unfold s_ex at hex
    dsimp only at hex
    split at hex
    · rename_i v hq
      obtain ⟨rfl, rfl, rfl, rfl⟩ := s_nx_of hex
      exact s_k_ldc (pc1 := 0) cx hcp hH hS hl hL hdg hq (Or.inr (Or.inl ⟨rfl, rfl, Or.inl ⟨_, rfl⟩⟩)) kk
    · rename_i v hq
      obtain ⟨rfl, rfl, rfl, rfl⟩ := s_nx_of hex
      exact s_k_ldc (pc1 := 0) cx hcp hH hS hl hL hdg hq (Or.inr (Or.inl ⟨rfl, rfl, Or.inr ⟨⟨_, rfl⟩, s_own11 hcp (s_look_mem _ _ _ hq)⟩⟩)) kk
    · cases hex
  | ldc2_w x =>
    obtain rfl : 3 = len := Nat.eq_of_beq_eq_true hlk
    unfold s_ex at hex
    dsimp only at hex
    split at hex
    · rename_i v hq
      obtain ⟨rfl, rfl, rfl, rfl⟩ := s_nx_of hex
      exact s_k_ldc (pc1 := 0) cx hcp hH hS hl hL hdg hq (Or.inr (Or.inr ⟨rfl, rfl, _, rfl⟩)) kk
    · cases hex
  | iaload =>
    obtain rfl : 1 = len := Nat.eq_of_beq_eq_true hlk
    exact s_k_ald (cp := cp) cx hH hS hl hL hdg (Or.inl ⟨rfl, hex⟩) kk
  | baload =>
    obtain rfl : 1 = len := Nat.eq_of_beq_eq_true hlk
    exact s_k_ald (cp := cp) cx hH hS hl hL hdg (Or.inr (Or.inl ⟨rfl, hex⟩)) kk
  | laload =>
    obtain rfl : 1 = len := Nat.eq_of_beq_eq_true hlk
    exact s_k_ald (cp := cp) cx hH hS hl hL hdg (Or.inr (Or.inr (Or.inl ⟨rfl, hex⟩))) kk
  | aaload =>
    obtain rfl : 1 = len := Nat.eq_of_beq_eq_true hlk
    exact s_k_ald (cp := cp) cx hH hS hl hL hdg (Or.inr (Or.inr (Or.inr ⟨rfl, hex⟩))) kk
  | iastore =>
    obtain rfl : 1 = len := Nat.eq_of_beq_eq_true hlk
    exact s_k_ast (cp := cp) cx hH hS hl hL hdg (Or.inl ⟨rfl, hex⟩) kk
  | bastore =>
    obtain rfl : 1 = len := Nat.eq_of_beq_eq_true hlk
    exact s_k_ast (cp := cp) cx hH hS hl hL hdg (Or.inr (Or.inl ⟨rfl, hex⟩)) kk
  | lastore =>
    obtain rfl : 1 = len := Nat.eq_of_beq_eq_true hlk
    exact s_k_ast (cp := cp) cx hH hS hl hL hdg (Or.inr (Or.inr ⟨rfl, hex⟩)) kk
  | aastore =>
    obtain rfl : 1 = len := Nat.eq_of_beq_eq_true hlk
    exact s_k_aast cx hH hS hl hL hdg hex kk
  | arraylength =>
    obtain rfl : 1 = len := Nat.eq_of_beq_eq_true hlk
    exact s_k_alen cx hH hS hl hL hdg hex kk
  | newarray t =>
    obtain rfl : 2 = len := Nat.eq_of_beq_eq_true hlk
    exact s_k_mka (x := 0) cx hcp hH hS hl hL hal hn0 hz0 hc1 hc2 hdg (Or.inl ⟨t, rfl, rfl, hex⟩) kk
  | anewarray x =>
    obtain rfl : 3 = len := Nat.eq_of_beq_eq_true hlk
    unfold s_ex at hex
    dsimp only at hex
    split at hex
    · rename_i c1 hq
      exact s_k_mka (x := x) cx hcp hH hS hl hL hal hn0 hz0 hc1 hc2 hdg (Or.inr ⟨_, rfl, rfl, hq, hex⟩) kk
    · cases hex
  | new x =>
    obtain rfl : 3 = len := Nat.eq_of_beq_eq_true hlk
    unfold s_ex at hex
    dsimp only at hex
    split at hex
    · rename_i c1 hq
      exact s_k_mko cx hcp hH hS hl hL hal hn0 hz0 hc1 hc2 hdg hq hex kk
    · split at hex
      · cases hex
      · cases hex
  | invokevirtual x =>
    obtain rfl : 3 = len := Nat.eq_of_beq_eq_true hlk
    unfold s_ex at hex
    dsimp only at hex
    split at hex
    · rename_i en hq
      exact s_k_prim (w := 0) cx hcp hH hS hl hL hR1 hR2 hd1 hd2 hdg hq (Or.inl ⟨rfl, rfl⟩) hex kk
    · cases hex
  | invokestatic x =>
    obtain rfl : 3 = len := Nat.eq_of_beq_eq_true hlk
    unfold s_ex at hex
    dsimp only at hex
    split at hex
    · rename_i en hq
      exact s_k_prim (w := 1) cx hcp hH hS hl hL hR1 hR2 hd1 hd2 hdg hq (Or.inr (Or.inl ⟨rfl, rfl⟩)) hex kk
    · cases hex
  | invokespecial x =>
    obtain rfl : 3 = len := Nat.eq_of_beq_eq_true hlk
    unfold s_ex at hex
    dsimp only at hex
    split at hex
    · rename_i en hq
      exact s_k_prim (w := 2) cx hcp hH hS hl hL hR1 hR2 hd1 hd2 hdg hq (Or.inr (Or.inr ⟨rfl, rfl⟩)) hex kk
    · cases hex
  | tableswitch d lo hi offs =>
    obtain ⟨hx, hb, -⟩ := cx
    obtain ⟨x, r, rfl, hex2⟩ := s_i1_of hex
    clear hex
    split at hex2
    · rename_i hlen
      obtain ⟨rfl, rfl, rfl, hcs⟩ := s_ts_of _ _ hex2
      rcases hcs with ⟨h4, h5⟩ | ⟨h4, h5, o, h6, h7⟩
      · exact lv_tableOut hx hb hdg (by rcases h4 with h4 | h4; exact Or.inl h4; right; omega) h5 (kk H locs ls hH hS hl hL)
      · exact lv_tableIn hx hb hdg h4 (by omega) (by rw [← Array.getElem?_toList]; exact h6) h7 (kk H locs ls hH hS hl hL)
    · cases hex2
  | lookupswitch d ps =>
    obtain ⟨hx, hb, -⟩ := cx
    obtain ⟨x, r, rfl, hex2⟩ := s_i1_of hex
    clear hex
    obtain ⟨rfl, rfl, rfl, h5⟩ := s_ls_of _ hex2
    exact lv_lookup hx hb hdg htk rfl h5 (kk H locs ls hH hS hl hL)
  | ireturn =>
    exfalso
    unfold s_ex s_ret at hex
    dsimp only at hex
    split at hex
    · cases hex
    · split at hex <;> cases hex
    · cases hex
  | lreturn =>
    exfalso
    unfold s_ex at hex
    dsimp only at hex
    split at hex <;> cases hex
  | areturn =>
    exfalso
    unfold s_ex at hex
    dsimp only at hex
    split at hex <;> cases hex
  | return_ =>
    exfalso
    unfold s_ex at hex
    dsimp only at hex
    split at hex <;> cases hex
  | _ => first | exact Bool.noConfusion (show true = false from hh) | exact (Option.some_ne_none _ (Eq.symm (show (none : Option s_O) = some _ from hex))).elim
end SNJ
end
section
section SNK
variable {p : Program} {l : Launch} {e : Env} {R : Room} {s : State} {m : MethodId} {args : Array Value} {below : List Frame} {meth : Method} {c : Code} {Q : State → Prop}
variable {base : Nat} {ρ : Nat → Nat} {D : va_G} {cid : Nat → ClassId} {xs : Nat → Int32} {Ln : Nat}
theorem s_ck_of {pc len tg : Nat} {i : Instr} (h : s_ck (pc, i, len, tg) = true) : s_lk i len = true ∧ s_tk pc i tg = true := by
  have h2 : (s_lk i len && s_tk pc i tg) = true := h
  rw [Bool.and_eq_true] at h2
  exact h2
theorem s_tb_at {b : ByteArray} {t : s_T} (hdc : s_dec b t) (hck : t.all s_ck = true) {pc len tg : Nat} {i : Instr} (hlo : s_look t pc = some (i, len, tg)) : decode b pc = .ok (i, len) ∧ s_lk i len = true ∧ s_tk pc i tg = true := by
  have hmem := s_look_mem _ _ _ hlo
  have h1 := hdc (pc, i, len, tg) hmem
  have h2 := List.all_eq_true.mp hck (pc, i, len, tg) hmem
  exact ⟨h1, s_ck_of h2⟩
theorem s_cx_at {q : s_M} (cx : s_Cx p s m args meth c base ρ D cid xs Ln q) {pc len tg : Nat} {i : Instr} (hlo : s_look q.2.2.2.2.2.2 pc = some (i, len, tg)) : decode q.2.1 pc = .ok (i, len) ∧ s_lk i len = true ∧ s_tk pc i tg = true := by
  obtain ⟨-, -, -, -, -, -, -, -, -, hdc, hck⟩ := cx
  exact s_tb_at hdc hck hlo
set_option maxHeartbeats 4000000 in
/-- A STEP of the pure machine is a walk -/
theorem s_step {cp : s_C} {q : s_M} {n0 z0 G Gs pc pc1 len tg : Nat} {i : Instr} {L L1 : s_L} {st st1 : List Value} {h h1 : s_H} {H : Heap} {locs : List Loc} {ls : Array Slot}
    (cx : s_Cx p s m args meth c base ρ D cid xs Ln q) (hcp : s_cps[q.2.2.2.2.1]? = some cp) (hH : s_HR base ρ D cid xs Ln h H) (hS : va_S (s_A base) s.heap H locs) (hl : lv_has ls q.2.2.1 (s_as ρ 0 L)) (hL : L.length = q.2.2.1)
    (hal : h.2.2.1 = true → s.heap.size = base + n0 ∧ G = 0) (hn0 : n0 ≤ h.1) (hz0 : z0 ≤ h.2.1) (hR1 : 6 ≤ R.frames) (hR2 : 240 ≤ R.locals) (hc1 : h1.1 - n0 + G ≤ R.cells) (hc2 : h1.2.1 - z0 + Gs ≤ R.slots) (hd1 : h.1 - n0 + G ≤ R.cells) (hd2 : h.2.1 - z0 + Gs ≤ R.slots)
    (hlo : s_look q.2.2.2.2.2.2 pc = some (i, len, tg)) (hex : s_ex cp q.2.2.2.2.1 q.2.2.2.2.2.1 q.2.2.2.1 pc i tg L st h = some (.inl (pc1, L1, st1, h1)))
    (kk : s_K p l e R s m args below meth c Q base ρ D cid xs Ln q n0 z0 G Gs pc1 L1 st1 h1) : W p l e R s m args below meth c H locs (h.1 - n0 + G) (h.2.1 - z0 + Gs) Q (F0 m pc ls (st.map (s_v ρ))) := by
  obtain ⟨hdg, hlk, htk⟩ := s_cx_at cx hlo
  exact s_step1 cx hH hS hl hL hex hlk htk hdg kk (fun hh => s_step2 cx hcp hH hS hl hL hal hn0 hz0 hR1 hR2 hc1 hc2 hd1 hd2 hex hlk htk hdg hh kk)

end SNK
end
section
-- the shape of a step
theorem s_one_of {run : Nat → s_M → Nat → s_L → List Value → s_H → Option (Nat × Option (Option Value) × s_H)} {d : Nat} {q : s_M} {pc : Nat} {L : s_L} {st : List Value} {h : s_H} {y : (Nat × s_L × List Value × s_H) ⊕ Option (Option Value)} (hr : s_one run d q pc L st h = some y) :
    ∃ (i : Instr) (len tg : Nat) (cp : s_C), s_look q.2.2.2.2.2.2 pc = some (i, len, tg) ∧ s_cps[q.2.2.2.2.1]? = some cp ∧
    ((∃ pc1 L1 st1 h1, y = .inl (pc1, L1, st1, h1) ∧ s_ex cp q.2.2.2.2.1 q.2.2.2.2.2.1 q.2.2.2.1 pc i tg L st h = some (.inl (pc1, L1, st1, h1)) ∧ s_mo h h1 = true) ∨
     (∃ r, y = .inr r ∧ s_ex cp q.2.2.2.2.1 q.2.2.2.2.2.1 q.2.2.2.1 pc i tg L st h = some (.inr (.inl r)) ∧ s_isE i = true) ∨
     (∃ w x md vs rest d1 q1 px1 v h1, y = .inl (pc + 3, L, v.toList ++ rest, h1) ∧ s_ex cp q.2.2.2.2.1 q.2.2.2.2.2.1 q.2.2.2.1 pc i tg L st h = some (.inr (.inr (md, vs, rest))) ∧ s_iv i = some (w, x) ∧ d = d1 + 1 ∧ s_ms[md]? = some q1 ∧ (s_en vs).length ≤ q1.2.2.1 ∧ run d1 q1 0 (s_ent vs q1.2.2.1) [] h = some (px1, some v, h1))) := by
  unfold s_one at hr
  split at hr
  · rename_i i len tg cp hlo hcp
    refine ⟨i, len, tg, cp, hlo, hcp, ?_⟩
    split at hr
    · rename_i pc1 L1 st1 h1 hex
      split at hr
      · rename_i hmo
        cases hr
        exact Or.inl ⟨pc1, L1, st1, h1, rfl, hex, hmo⟩
      · cases hr
    · rename_i r1 hex
      split at hr
      · rename_i hE
        cases hr
        exact Or.inr (Or.inl ⟨r1, rfl, hex, hE⟩)
      · cases hr
    · rename_i md vs rest hex
      split at hr
      · cases hr
      · rename_i wx hiv
        split at hr
        · rename_i d1 q1 hq1
          split at hr
          · rename_i hle
            split at hr
            · rename_i px1 v h1 hrun
              cases hr
              exact Or.inr (Or.inr ⟨wx.1, wx.2, md, vs, rest, d1, q1, px1, v, h1, rfl, hex, hiv, rfl, hq1, Nat.le_of_ble_eq_true hle, hrun⟩)
            · cases hr
          · cases hr
        · cases hr
    · cases hr
  · cases hr
/-- the shape of a run's first step -/
theorem s_run_of {d f : Nat} {q : s_M} {pc px : Nat} {L : s_L} {st : List Value} {h h' : s_H} {r : Option (Option Value)} (hr : s_run (f + 1) d q pc L st h = some (px, r, h')) :
    ∃ (i : Instr) (len tg : Nat) (cp : s_C), s_look q.2.2.2.2.2.2 pc = some (i, len, tg) ∧ s_cps[q.2.2.2.2.1]? = some cp ∧
    ((∃ pc1 L1 st1 h1, s_ex cp q.2.2.2.2.1 q.2.2.2.2.2.1 q.2.2.2.1 pc i tg L st h = some (.inl (pc1, L1, st1, h1)) ∧ s_mo h h1 = true ∧ s_run f d q pc1 L1 st1 h1 = some (px, r, h')) ∨
     (s_ex cp q.2.2.2.2.1 q.2.2.2.2.2.1 q.2.2.2.1 pc i tg L st h = some (.inr (.inl r)) ∧ s_isE i = true ∧ px = pc ∧ h' = h) ∨
     (∃ w x md vs rest d1 q1 px1 v h1, s_ex cp q.2.2.2.2.1 q.2.2.2.2.2.1 q.2.2.2.1 pc i tg L st h = some (.inr (.inr (md, vs, rest))) ∧ s_iv i = some (w, x) ∧ d = d1 + 1 ∧ s_ms[md]? = some q1 ∧ (s_en vs).length ≤ q1.2.2.1 ∧ s_run f d1 q1 0 (s_ent vs q1.2.2.1) [] h = some (px1, some v, h1) ∧ s_run f d q (pc + 3) L (v.toList ++ rest) h1 = some (px, r, h'))) := by
  rw [s_run] at hr
  split at hr
  · rename_i pc1 L1 st1 h1 ho
    obtain ⟨i, len, tg, cp, hlo, hcp, hc⟩ := s_one_of ho
    refine ⟨i, len, tg, cp, hlo, hcp, ?_⟩
    rcases hc with ⟨a1, a2, a3, a4, e, hex, hmo⟩ | ⟨r1, e, -, -⟩ | ⟨w, x, md, vs, rest, d1, q1, px1, v, h2, e, hex, hiv, hd, hq1, hle, hrun⟩
    · cases e
      exact Or.inl ⟨_, _, _, _, hex, hmo, hr⟩
    · cases e
    · cases e
      exact Or.inr (Or.inr ⟨w, x, md, vs, rest, d1, q1, px1, v, _, hex, hiv, hd, hq1, hle, hrun, hr⟩)
  · rename_i r1 ho
    cases hr
    obtain ⟨i, len, tg, cp, hlo, hcp, hc⟩ := s_one_of ho
    refine ⟨i, len, tg, cp, hlo, hcp, ?_⟩
    rcases hc with ⟨a1, a2, a3, a4, e, hex, hmo⟩ | ⟨r1, e, hex, hE⟩ | ⟨w, x, md, vs, rest, d1, q1, px1, v, h2, e, -⟩
    · cases e
    · cases e
      exact Or.inr (Or.inl ⟨hex, hE, rfl, rfl⟩)
    · cases e
  · cases hr
theorem s_mo_of {h h1 : s_H} (hm : s_mo h h1 = true) : h.1 ≤ h1.1 ∧ h.2.1 ≤ h1.2.1 ∧ h1.2.2.1 = h.2.2.1 := by
  unfold s_mo at hm
  simp only [Bool.and_eq_true] at hm
  refine ⟨Nat.le_of_ble_eq_true hm.1.1, Nat.le_of_ble_eq_true hm.1.2, ?_⟩
  have h2 := hm.2
  cases ha : h.2.2.1 <;> cases hb : h1.2.2.1 <;> rw [ha, hb] at h2 <;> first | rfl | cases h2
theorem s_run_mono : ∀ (f d : Nat) (q : s_M) (pc px : Nat) (L : s_L) (st : List Value) (h h' : s_H) (r : Option (Option Value)), s_run f d q pc L st h = some (px, r, h') → h.1 ≤ h'.1 ∧ h.2.1 ≤ h'.2.1 ∧ h'.2.2.1 = h.2.2.1 := by
  intro f
  induction f with
  | zero => intro d q pc px L st h h' r hr; rw [s_run] at hr; cases hr
  | succ f ih =>
    intro d q pc px L st h h' r hr
    obtain ⟨i, len, tg, cp, -, -, hc⟩ := s_run_of hr
    rcases hc with ⟨pc1, L1, st1, h1, -, hmo, hr1⟩ | ⟨-, -, -, rfl⟩ | ⟨w, x, md, vs, rest, d1, q1, px1, v, h1, -, -, rfl, -, -, hr1, hr2⟩
    · obtain ⟨a1, a2, a3⟩ := s_mo_of hmo
      obtain ⟨b1, b2, b3⟩ := ih _ _ _ _ _ _ _ _ _ hr1
      exact ⟨by omega, by omega, by rw [b3, a3]⟩
    · exact ⟨Nat.le_refl _, Nat.le_refl _, rfl⟩
    · obtain ⟨a1, a2, a3⟩ := ih _ _ _ _ _ _ _ _ _ hr1
      obtain ⟨b1, b2, b3⟩ := ih _ _ _ _ _ _ _ _ _ hr2
      exact ⟨by omega, by omega, by rw [b3, a3]⟩
-- what holds of the start stays
def s_isN (w : Cond) : Bool := match w with
  | .fieldLinkNest _ _ _ _ _ _ => true
  | .methodLinkNest _ _ _ _ => true
  | _ => false
theorem s_nws_N : ∀ w ∈ s_nws, s_isN w = true := by decide +kernel
theorem s_Any_moved {E : String} {u U : State} {H : Heap} {a : Nat} (hvm : u.vm.Alike U.vm) (h : va_Any E u H a) : va_Any E U H a := by
  obtain ⟨cell, h1, h2, ⟨kC, h3⟩, h4⟩ := h
  obtain ⟨k', hk', -⟩ := hvm.2.2 _ _ h3
  refine ⟨cell, h1, h2, ⟨k', hk'⟩, fun comp hc => ?_⟩
  rw [hvm.findClass] at hc
  rw [Vm.Alike.assignable hvm]
  exact h4 comp hc
theorem s_SR_moved {base : Nat} {ρ : Nat → Nat} {D : va_G} {cid : Nat → ClassId} {xs : Nat → Int32} {Ln : Nat} {s U : State} (h : s_SR base ρ D cid xs Ln s) (hW : s.WarmedH U.vm) (hz : s.heap.size ≤ U.heap.size) (hq : ∀ a : Nat, a < s.heap.size → ¬ s_A base a → U.heap[a]? = s.heap[a]?) : s_SR base ρ D cid xs Ln U := by
  obtain ⟨k1, k2, ⟨k3, k4, k5⟩, ⟨k6, k7⟩, k8, k9, ⟨k10, k11, k12, k13⟩, ⟨k14, k16, k17, k18⟩, k15⟩ := h
  have hA := hW.alike
  refine ⟨va_K.moved hA k1, fun w hw => ?_, ⟨va_AO.moved hA k3, va_AO.moved hA k4, va_AO.moved hA k5⟩, ⟨fun i hi => va_Z.moved hA ((k6 i hi).kept hq), va_Z.moved hA (k7.kept hq)⟩, fun i hi => ?_, va_T.moved hA (k9.kept hq), ⟨va_X.moved hA (k10.kept (hq _ k12 k11)), k11, Nat.lt_of_lt_of_le k12 hz, k13⟩, ⟨fun k a hm => vk_R.warm hW (k14 k a hm), fun i hi => ?_, va_Z.moved hA (k17.kept hq), va_Zq.moved hA (k18.kept hq)⟩, Nat.le_trans k15 hz⟩
  · have h1 := k2 w hw
    have h2 := s_nws_N w hw
    cases w with
    | fieldLinkNest a b c d e f => exact va_Nw.warmF hW h1
    | methodLinkNest a b c d => exact va_Nw.warmM hW h1
    | _ => cases h2
  · obtain ⟨j1, j2, j3, j4⟩ := k8 i hi
    refine ⟨va_OF.moved hA (j1.kept hq), va_OF.moved hA (j2.kept hq), va_O.moved hA (j3.kept hq), ?_⟩
    obtain ⟨cell, w1, w2, w3, w4⟩ := j3
    exact s_Any_moved hA (s_Any_kept j4 (hq _ (Array.getElem?_eq_some_iff.mp w1).1 w4))
  · obtain ⟨t, j1, j2, j3, j4⟩ := k16 i hi
    exact ⟨t, va_O.moved hA (j1.kept hq), va_OF.moved hA (j2.kept hq), va_OF.moved hA (j3.kept hq), va_T.moved hA (j4.kept hq)⟩
-- a method's contract, by its run
def s_ws (q : s_M) : List Cond := Cond.code q.1 q.2.1 q.2.2.1 q.2.2.2.1 :: s_gw
def s_rm (d mc ms : Nat) : Room := { frames := d + 6, cells := mc, slots := ms, locals := 40 * d + 240 }
def s_Pc (base : Nat) (ρ : Nat → Nat) (D : va_G) (cid : Nat → ClassId) (xs : Nat → Int32) (Ln : Nat) (vs : List Value) (h : s_H) : Array Value → State → Prop := fun a U => a = (vs.map (s_v ρ)).toArray ∧ s_HR base ρ D cid xs Ln h U.heap ∧ s_SR base ρ D cid xs Ln U ∧ (h.2.2.1 = true → U.heap.size = base + h.1)
def s_Qc (base : Nat) (ρ : Nat → Nat) (D : va_G) (cid : Nat → ClassId) (xs : Nat → Int32) (Ln : Nat) (v : Option Value) (h : s_H) : Array Value → State → Outcome → State → Prop := fun _ st oc t => oc = .returned (v.map (s_v ρ)) ∧ s_HR base ρ D cid xs Ln h t.heap ∧ va_F (s_A base) st t
theorem s_Pc_blind {base : Nat} {ρ : Nat → Nat} {D : va_G} {cid : Nat → ClassId} {xs : Nat → Int32} {Ln : Nat} {vs : List Value} {h : s_H} : FrameBlind (s_Pc base ρ D cid xs Ln vs h) := by
  intro a U g mk hp
  obtain ⟨h1, h2, h3, h4⟩ := hp
  exact ⟨h1, h2, s_SR_moved (U := U.calling g mk a) h3 (State.WarmedH.refl U) (Nat.le_refl _) (fun _ _ _ => rfl), h4⟩
def s_Snd (l : Launch) (base : Nat) (ρ : Nat → Nat) (D : va_G) (cid : Nat → ClassId) (xs : Nat → Int32) (Ln : Nat) (d f : Nat) : Prop :=
  ∀ (q : s_M) (pc : Nat) (L : s_L) (st : List Value) (h : s_H) (px : Nat) (r : Option (Option Value)) (h' : s_H), s_run f d q pc L st h = some (px, r, h') →
  ∀ (p : Program) (e : Env) (R : Room) (s : State) (m : MethodId) (args : Array Value) (below : List Frame) (meth : Method) (c : Code) (Q : State → Prop) (n0 z0 G Gs : Nat) (H : Heap) (locs : List Loc) (ls : Array Slot),
  s_Cx p s m args meth c base ρ D cid xs Ln q → (h.2.2.1 = true → s.heap.size = base + n0 ∧ G = 0) → n0 ≤ h.1 → z0 ≤ h.2.1 → d + 6 ≤ R.frames → 40 * d + 240 ≤ R.locals → h'.1 - n0 + G ≤ R.cells → h'.2.1 - z0 + Gs ≤ R.slots →
  s_HR base ρ D cid xs Ln h H → va_S (s_A base) s.heap H locs → lv_has ls q.2.2.1 (s_as ρ 0 L) → L.length = q.2.2.1 →
  (∀ (i : Instr) (len tg : Nat) (cp : s_C) (L' : s_L) (st' : List Value), s_look q.2.2.2.2.2.2 px = some (i, len, tg) → s_cps[q.2.2.2.2.1]? = some cp → s_isE i = true → s_ex cp q.2.2.2.2.1 q.2.2.2.2.2.1 q.2.2.2.1 px i tg L' st' h' = some (.inr (.inl r)) → s_K p l e R s m args below meth c Q base ρ D cid xs Ln q n0 z0 G Gs px L' st' h') →
  W p l e R s m args below meth c H locs (h.1 - n0 + G) (h.2.1 - z0 + Gs) Q (F0 m pc ls (st.map (s_v ρ)))
section SNL
variable {p : Program} {l : Launch} {e : Env} {R : Room} {s : State} {m : MethodId} {args : Array Value} {below : List Frame} {meth : Method} {c : Code} {Q : State → Prop}
variable {base : Nat} {ρ : Nat → Nat} {D : va_G} {cid : Nat → ClassId} {xs : Nat → Int32} {Ln : Nat}
set_option maxHeartbeats 1000000 in
/-- the end of a method that returns -/
theorem s_exit {cp : s_C} {q : s_M} {n0 z0 G Gs px len tg : Nat} {i : Instr} {L' : s_L} {st' : List Value} {h' : s_H} {v : Option Value}
    (cx : s_Cx p s m args meth c base ρ D cid xs Ln q) (hr : meth.sig.returnType = q.2.2.2.1) (hlocks : meth.locks = false) (hlo : s_look q.2.2.2.2.2.2 px = some (i, len, tg)) (hE : s_isE i = true) (hex : s_ex cp q.2.2.2.2.1 q.2.2.2.2.2.1 q.2.2.2.1 px i tg L' st' h' = some (.inr (.inl (some v)))) :
    s_K p l e R s m args below meth c (MQ below (s_Qc base ρ D cid xs Ln v h') args s (h'.1 - n0 + G) (h'.2.1 - z0 + Gs) (s_A base)) base ρ D cid xs Ln q n0 z0 G Gs px L' st' h' := by
  obtain ⟨hdg, hlk, -⟩ := s_cx_at cx hlo
  obtain ⟨hx, hb, -⟩ := cx
  intro H1 locs1 ls1 hH hS hl hL
  have hq : ∀ t : State, t.heap = H1 → s.WarmedH t.vm → s_Qc base ρ D cid xs Ln v h' args s (.returned (v.map (s_v ρ))) t := fun t ht _ => ⟨rfl, by rw [ht]; exact hH, hS.F ht⟩
  cases i with
  | ireturn =>
    obtain rfl : 1 = len := Nat.eq_of_beq_eq_true hlk
    change s_ret q.2.2.2.1 st' = _ at hex
    unfold s_ret at hex
    split at hex
    · rename_i x hrt
      cases hex
      rw [hrt] at hr
      exact W.iret hx hb hr hq hS.2.2 hdg hlocks
    · rename_i x hrt
      rw [hrt] at hr
      split at hex
      · rename_i h01
        cases hex
        exact W.zret hx hb hr (by rcases h01 with rfl | rfl <;> rfl) hq hS.2.2 hdg hlocks
      · cases hex
    · cases hex
  | lreturn =>
    obtain rfl : 1 = len := Nat.eq_of_beq_eq_true hlk
    unfold s_ex at hex
    dsimp only at hex
    split at hex
    · rename_i x hrt
      cases hex
      rw [hrt] at hr
      exact W.lret hx hb hr hq hS.2.2 hdg hlocks
    · cases hex
  | areturn =>
    obtain rfl : 1 = len := Nat.eq_of_beq_eq_true hlk
    unfold s_ex at hex
    dsimp only at hex
    split at hex
    · rename_i C x hrt
      cases hex
      rw [hrt] at hr
      exact W.aret hx hb hr (Or.inl ⟨_, rfl⟩) (Or.inr ⟨_, rfl⟩) hq hS.2.2 hdg hlocks
    · rename_i C hrt
      cases hex
      rw [hrt] at hr
      exact W.aret hx hb hr (Or.inl ⟨_, rfl⟩) (Or.inl rfl) hq hS.2.2 hdg hlocks
    · cases hex
  | return_ =>
    obtain rfl : 1 = len := Nat.eq_of_beq_eq_true hlk
    unfold s_ex at hex
    dsimp only at hex
    split at hex
    · rename_i hrt
      cases hex
      rw [hrt] at hr
      exact W.vret hx hb hr hq hS.2.2 hdg hlocks
    · cases hex
  | new x =>
    exfalso
    unfold s_ex at hex
    dsimp only at hex
    split at hex
    · unfold s_mko at hex
      split at hex
      · cases hex
      · split at hex
        · split at hex
          · cases hex
          · cases hex
        · cases hex
    · split at hex
      · cases hex
      · cases hex
  | _ => cases hE
set_option maxHeartbeats 1000000 in
/-- the contract of a method whose run is known -/
theorem s_met {d f : Nat} (ih : s_Snd l base ρ D cid xs Ln d f) (hρ : ∀ a, a < 1000 → ρ a = base + a) (hinj : ∀ a b, 1000 ≤ a → a < 1029 → 1000 ≤ b → b < 1029 → ρ a = ρ b → a = b) {q : s_M} (hok : s_okM q) {vs : List Value} (hlen : (s_en vs).length ≤ q.2.2.1) {h h' : s_H} {px : Nat} {v : Option Value}
    (hr : s_run f d q 0 (s_ent vs q.2.2.1) [] h = some (px, some v, h')) : Met l q.1 (s_ws q) (s_rm d (h'.1 - h.1) (h'.2.1 - h.2.1)) (s_Pc base ρ D cid xs Ln vs h) (s_Qc base ρ D cid xs Ln v h') (h'.1 - h.1) (h'.2.1 - h.2.1) (s_A base) := by
  obtain ⟨o1, o2, o3, o4, o5, o6, o7, o8, o9⟩ := hok
  refine Met.ofW (cc := q.2.1) (maxL := q.2.2.1) (ret := q.2.2.2.1) o1 rfl ?_
  intro p e s m args below meth c s₁ B hml hv
  obtain ⟨rfl, hH, hSR, hal⟩ := hv
  have hts := atoms_spec (ws := s_ws q) B.pre
  have hown : s.vm.findClass q.1.cls = some m.cls := findClass_of_methodNamed B.named
  have cx : s_Cx p s m ((vs.map (s_v ρ)).toArray) meth c base ρ D cid xs Ln q := ⟨B.exec, B.bytes, hml, by rw [← o2]; exact hown, fun w hw => hts w (List.mem_cons_of_mem _ hw), fun hi => ((name_of_methodNamed B.named B.method).1).trans (o6 hi).1, hSR, hρ, hinj, o4, o5⟩
  have hsl : ∀ us : List Value, (lg_sl (us.map (s_v ρ))).length = (s_en us).length := by
    intro us
    induction us with
    | nil => rfl
    | cons u r ihu =>
      have e1 : lg_sl ((u :: r).map (s_v ρ)) = (if (s_v ρ u).category = 2 then [.val (s_v ρ u), .second] else [.val (s_v ρ u)]) ++ lg_sl (r.map (s_v ρ)) := rfl
      rw [e1, List.length_append, ihu, s_v_cat]
      cases u <;> simp [s_en, Value.category] <;> omega
  have hl := lv_entry (vs.map (s_v ρ)) (n := q.2.2.1) (by rw [hsl]; exact hlen)
  rw [lg_entry_eq]
  generalize (lg_sl (vs.map (s_v ρ)) ++ List.replicate (q.2.2.1 - (lg_sl (vs.map (s_v ρ))).length) Slot.unset).toArray = ls at hl ⊢
  rw [← s_ent_as (ρ := ρ) vs q.2.2.1] at hl
  have hLn : (s_ent vs q.2.2.1).length = q.2.2.1 := by
    unfold s_ent
    rw [List.length_append, List.length_replicate]
    omega
  have hS : va_S (s_A base) s.heap s.heap [] := va_S.rf
  have key := ih q 0 (s_ent vs q.2.2.1) [] h px (some v) h' hr p e (headSpec (s_ws q) (s_rm d (h'.1 - h.1) (h'.2.1 - h.2.1))).room s m ((vs.map (s_v ρ)).toArray) below meth c (MQ below (s_Qc base ρ D cid xs Ln v h') ((vs.map (s_v ρ)).toArray) s (h'.1 - h.1) (h'.2.1 - h.2.1) (s_A base)) h.1 h.2.1 0 0 s.heap [] ls cx (fun ha => ⟨hal ha, rfl⟩) (Nat.le_refl _) (Nat.le_refl _) (Nat.le_refl _) (Nat.le_refl _) (Nat.le_refl _) (Nat.le_refl _) hH hS hl hLn (fun i len tg cp L' st' hlo hcp hE hex => s_exit cx B.returns B.notSynchronized hlo hE hex)
  rw [Nat.sub_self, Nat.sub_self] at key
  exact key
end SNL
end
section
-- calls
theorem s_call_of {md n md1 : Nat} {st vs rest : List Value} (h : s_call md n st = some (.inr (.inr (md1, vs, rest)))) : md1 = md ∧ n ≤ st.length ∧ s_cat (st.drop n) ≤ 8 ∧ vs = (st.take n).reverse ∧ rest = st.drop n := by
  unfold s_call at h
  split at h
  · rename_i hb
    rw [Bool.and_eq_true] at hb
    have h2 := Prod.mk.inj (Sum.inr.inj (Sum.inr.inj (Option.some.inj h)))
    have h3 := Prod.mk.inj h2.2
    exact ⟨h2.1.symm, Nat.le_of_ble_eq_true hb.1, Nat.le_of_ble_eq_true hb.2, h3.1.symm, h3.2.symm⟩
  · cases h
theorem s_call_no {pc md : Nat} {L : s_L} {r vs rest : List Value} {h : s_H} (hq : s_nx pc L r h = some (.inr (.inr (md, vs, rest)))) : False := by
  unfold s_nx at hq
  cases hq
/-- which row of the pool a call comes from -/
theorem s_inv_of {w pc md : Nat} {en : Nat × Nat × Nat} {L : s_L} {st vs rest : List Value} {h : s_H} (hex : s_inv w pc en L st h = some (.inr (.inr (md, vs, rest)))) :
    (∃ n q1 a, w = 0 ∧ en = (0, md, n) ∧ s_ms[md]? = some q1 ∧ st[n]? = some (.ref a) ∧ s_isG h a q1.2.2.2.2.1 = true ∧ s_call md (n + 1) st = some (.inr (.inr (md, vs, rest)))) ∨
    (∃ n, w = 1 ∧ en = (1, md, n) ∧ s_call md n st = some (.inr (.inr (md, vs, rest)))) ∨
    (∃ n a, w = 2 ∧ (en = (2, md, n) ∨ en = (3, md, n)) ∧ st[n]? = some (.ref a) ∧ s_call md (n + 1) st = some (.inr (.inr (md, vs, rest)))) ∨
    (w = 1 ∧ en.1 = 14 ∧ md = 9999 ∧ s_call md 4 st = some (.inr (.inr (md, vs, rest)))) := by
  unfold s_inv at hex
  split at hex
  · split at hex
    · rename_i q1 a hq1 ha
      split at hex
      · rename_i hg
        have e := (s_call_of hex).1
        subst e
        exact Or.inl ⟨_, q1, a, rfl, rfl, hq1, ha, hg, hex⟩
      · cases hex
    · cases hex
  · have e := (s_call_of hex).1
    subst e
    exact Or.inr (Or.inl ⟨_, rfl, rfl, hex⟩)
  · split at hex
    · rename_i a ha
      have e := (s_call_of hex).1
      subst e
      exact Or.inr (Or.inr (Or.inl ⟨_, a, rfl, Or.inl rfl, ha, hex⟩))
    · cases hex
  · split at hex
    · rename_i a ha
      have e := (s_call_of hex).1
      subst e
      exact Or.inr (Or.inr (Or.inl ⟨_, a, rfl, Or.inr rfl, ha, hex⟩))
    · cases hex
  · exfalso
    obtain ⟨a, r, -, hex2⟩ := s_r1_of hex
    split at hex2
    · exact s_call_no (md := md) hex2
    · cases hex2
  · exfalso
    unfold s_acp at hex
    split at hex
    · split at hex
      · cases hex
      · split at hex
        · exact s_call_no (md := md) hex
        · split at hex
          · exact s_call_no (md := md) hex
          · cases hex
    · cases hex
  · have e := (s_call_of hex).1
    subst e
    exact Or.inr (Or.inr (Or.inr ⟨rfl, rfl, rfl, hex⟩))
  · exfalso
    obtain ⟨a, b, r, -, hex2⟩ := s_ii_of hex
    split at hex2
    · exact s_call_no (md := md) hex2
    · cases hex2
  · exfalso
    obtain ⟨a, b, r, -, hex2⟩ := s_ii_of hex
    split at hex2
    · exact s_call_no (md := md) hex2
    · cases hex2
  · exfalso
    obtain ⟨a, r, -, hex2⟩ := s_r1_of hex
    split at hex2
    · cases hex2
    · split at hex2
      · split at hex2
        · exact s_call_no (md := md) hex2
        · cases hex2
      · cases hex2
  · exfalso
    obtain ⟨i, a, r, -, hex2⟩ := s_ir_of hex
    split at hex2
    · cases hex2
    · split at hex2
      · split at hex2
        · split at hex2
          · cases hex2
          · exact s_call_no (md := md) hex2
        · cases hex2
      · cases hex2
  · cases hex
theorem s_ws_gw {q : s_M} (hok : s_okM q) : ∀ w ∈ s_ws q, w ∈ s_gw := by
  intro w hw
  rcases List.mem_cons.mp hw with rfl | h
  · exact s_gw_mem hok.2.2.1 rfl
  · exact h
theorem s_rm_l (d mc ms : Nat) : (s_rm d mc ms).locals = 40 * d + 240 := rfl
theorem s_rm_f (d mc ms : Nat) : (s_rm d mc ms).frames = d + 6 := rfl
theorem s_ms_9999 : s_ms[9999]? = none := by decide +kernel
theorem s_lc {d x R : Nat} (h : 40 * (d + 1) + 240 ≤ R) (hx : x ≤ 20) : 8 + (x + 11) + (40 * d + 240) ≤ R := by omega
theorem s_ow17 : ∀ q ∈ s_ms, q.2.2.2.2.1 < 17 := by decide +kernel
theorem s_Gs_ob : ∀ z ∈ s_Gs, z.1 < 17 → z.1 < 13 ∧ z.1 ≠ 10 := by decide +kernel
section SNM
variable {p : Program} {l : Launch} {e : Env} {R : Room} {s : State} {m : MethodId} {args : Array Value} {below : List Frame} {meth : Method} {c : Code} {Q : State → Prop}
variable {base : Nat} {ρ : Nat → Nat} {D : va_G} {cid : Nat → ClassId} {xs : Nat → Int32} {Ln : Nat}
theorem s_callW {H : Heap} {locs : List Loc} {cells slots mc ms pc : Nat} {ls : Array Slot} {rest st0 : List Value} {a : Array Value} {v : Option Value} {h1 : s_H} (hr : va_Run p l e R s m args below meth c H locs cells slots mc ms (F0 m pc ls st0) rest (s_Qc base ρ D cid xs Ln v h1 a) (s_A base)) (hS : va_S (s_A base) s.heap H locs)
    (kk : ∀ (H1 : Heap) (locs1 : List Loc), s_HR base ρ D cid xs Ln h1 H1 → va_S (s_A base) s.heap H1 locs1 → W p l e R s m args below meth c H1 locs1 (cells + mc) (slots + ms) Q (F0 m (pc + 3) ls ((v.map (s_v ρ)).toList ++ rest))) : W p l e R s m args below meth c H locs cells slots Q (F0 m pc ls st0) := by
  intro T hT X
  obtain ⟨v', st₀, t, T', L, h0, X', hL, e1, e2, ⟨hv, hHR, hz, hk⟩, st⟩ := hr T hT X
  cases hv
  rw [h0] at hz hk
  obtain ⟨t2, a1, b1⟩ := kk T'.heap (locs ++ L) (by rw [e1]; exact hHR) ⟨Nat.le_trans hS.1 (by rw [e1]; exact hz), fun q h1 h2 => by rw [e1, hk q (Nat.lt_of_lt_of_le h1 hS.1) h2]; exact hS.2.1 q h1 h2, fun q hq => by
      rcases List.mem_append.mp hq with h | h
      · exact hS.2.2 q h
      · exact hL q h⟩ T' rfl X'
  exact ⟨t2, st t2 a1, b1⟩
theorem s_size {h : s_H} {H : Heap} {locs : List Loc} {n0 : Nat} (hH : s_HR base ρ D cid xs Ln h H) (hS : va_S (s_A base) s.heap H locs) (hs : s.heap.size = base + n0) (hn0 : n0 ≤ h.1) (hsz : H.size ≤ s.heap.size + (h.1 - n0)) : H.size = base + h.1 := by
  rcases Nat.eq_zero_or_pos h.1 with h0 | h0
  · have := hS.1
    omega
  · have h1 := (hH.1 (h.1 - 1) _ (s_w_at (by omega))).lt
    have h2 : base + (h.1 - 1) < H.size := h1
    omega
set_option maxHeartbeats 2000000 in
theorem s_k_call {cp : s_C} {q q1 : s_M} {n0 z0 G Gs pc px1 len tg w x md d1 f : Nat} {i : Instr} {L : s_L} {st vs rest : List Value} {h h1 : s_H} {H : Heap} {locs : List Loc} {ls : Array Slot} {v : Option Value}
    (cx : s_Cx p s m args meth c base ρ D cid xs Ln q) (hcp : s_cps[q.2.2.2.2.1]? = some cp) (hH : s_HR base ρ D cid xs Ln h H) (hS : va_S (s_A base) s.heap H locs) (hl : lv_has ls q.2.2.1 (s_as ρ 0 L)) (hL : L.length = q.2.2.1)
    (hal : h.2.2.1 = true → s.heap.size = base + n0 ∧ G = 0) (hn0 : n0 ≤ h.1) (hz0 : z0 ≤ h.2.1) (hR1 : d1 + 1 + 6 ≤ R.frames) (hR2 : 40 * (d1 + 1) + 240 ≤ R.locals) (hc1 : h1.1 - n0 + G ≤ R.cells) (hc2 : h1.2.1 - z0 + Gs ≤ R.slots)
    (hlo : s_look q.2.2.2.2.2.2 pc = some (i, len, tg)) (hex : s_ex cp q.2.2.2.2.1 q.2.2.2.2.2.1 q.2.2.2.1 pc i tg L st h = some (.inr (.inr (md, vs, rest)))) (hiv : s_iv i = some (w, x))
    (hq1 : s_ms[md]? = some q1) (hlen : (s_en vs).length ≤ q1.2.2.1) (ih : s_Snd l base ρ D cid xs Ln d1 f) (hr1 : s_run f d1 q1 0 (s_ent vs q1.2.2.1) [] h = some (px1, some v, h1))
    (kk : s_K p l e R s m args below meth c Q base ρ D cid xs Ln q n0 z0 G Gs (pc + 3) L (v.toList ++ rest) h1) : W p l e R s m args below meth c H locs (h.1 - n0 + G) (h.2.1 - z0 + Gs) Q (F0 m pc ls (st.map (s_v ρ))) := by
  obtain ⟨hdg, hlk, -⟩ := s_cx_at cx hlo
  obtain ⟨hx, hb, hml, hown, hts, hin, hSR, hρ, hinj, hdc, hck⟩ := cx
  have hmemq := List.mem_of_getElem? hq1
  have hok := s_okMs q1 hmemq
  have hM := s_met ih hρ hinj hok hlen hr1
  have hmono := s_run_mono _ _ _ _ _ _ _ _ _ _ hr1
  have hok0 := hok
  obtain ⟨o1, o2, o3, o4, o5, o6, o7, o8, o9⟩ := hok0
  have hlen3 : len = 3 := by
    cases i with
    | invokevirtual y => exact (Nat.eq_of_beq_eq_true hlk).symm
    | invokestatic y => exact (Nat.eq_of_beq_eq_true hlk).symm
    | invokespecial y => exact (Nat.eq_of_beq_eq_true hlk).symm
    | _ => cases hiv
  subst hlen3
  have hinv : ∃ en, s_look cp.2.2.1 x = some en ∧ s_inv w (pc + 3) en L st h = some (.inr (.inr (md, vs, rest))) ∧ ((w = 0 ∧ i = .invokevirtual x) ∨ (w = 1 ∧ i = .invokestatic x) ∨ (w = 2 ∧ i = .invokespecial x)) := by
    cases i with
    | invokevirtual y =>
      cases hiv
      change (match s_look cp.2.2.1 x with
        | some e => s_inv 0 (pc + 3) e L st h
        | none => none) = _ at hex
      cases hy : s_look cp.2.2.1 x with
      | none => rw [hy] at hex; cases hex
      | some en => rw [hy] at hex; exact ⟨en, rfl, hex, Or.inl ⟨rfl, rfl⟩⟩
    | invokestatic y =>
      cases hiv
      change (match s_look cp.2.2.1 x with
        | some e => s_inv 1 (pc + 3) e L st h
        | none => none) = _ at hex
      cases hy : s_look cp.2.2.1 x with
      | none => rw [hy] at hex; cases hex
      | some en => rw [hy] at hex; exact ⟨en, rfl, hex, Or.inr (Or.inl ⟨rfl, rfl⟩)⟩
    | invokespecial y =>
      cases hiv
      change (match s_look cp.2.2.1 x with
        | some e => s_inv 2 (pc + 3) e L st h
        | none => none) = _ at hex
      cases hy : s_look cp.2.2.1 x with
      | none => rw [hy] at hex; cases hex
      | some en => rw [hy] at hex; exact ⟨en, rfl, hex, Or.inr (Or.inr ⟨rfl, rfl⟩)⟩
    | _ => cases hiv
  obtain ⟨en, hen, hinv, hi⟩ := hinv
  obtain ⟨pp, hp⟩ := (s_okPs _ cp hcp).2.2.1 _ (s_look_mem _ _ _ hen)
  have hpay : ∀ w ∈ s_ws q1, ∀ (a' : Array Value) (U : State), s.WarmedH U.vm → w.before a' U = true := fun w hw a' U hW => word_at hW (good_of_word (s_gw_good (s_ws_gw hok w hw)).2) (hts w (s_ws_gw hok w hw))
  have hcode : (Cond.code q1.1 q1.2.1 q1.2.2.1 q1.2.2.2.1).before args s = true := hts _ (s_gw_mem o3 rfl)
  have hini : (Cond.initialized q1.1.cls).before args s = true := hts _ (s_gw_mem o7 rfl)
  have hpar : ∀ n : Nat, (parseMethodDescriptor q1.1.desc).map (fun d => d.parameters.length) = some n → ∀ sig, parseMethodDescriptor q1.1.desc = some sig → n = sig.parameters.length := by
    intro n hn sig hs
    rw [hs] at hn
    exact (Option.some.inj hn).symm
  have hfr : (s_rm d1 (h1.1 - h.1) (h1.2.1 - h.2.1)).frames + 1 ≤ R.frames := by rw [s_rm_f]; omega
  have hlc : 8 + (q1.2.2.1 + 11) + (s_rm d1 (h1.1 - h.1) (h1.2.1 - h.2.1)).locals ≤ R.locals := by rw [s_rm_l]; exact s_lc hR2 o9
  have hcl : h.1 - n0 + G + (h1.1 - h.1) = h1.1 - n0 + G := by omega
  have hsl : h.2.1 - z0 + Gs + (h1.2.1 - h.2.1) = h1.2.1 - z0 + Gs := by omega
  have hf : h.1 - n0 + G + (h1.1 - h.1) ≤ R.cells ∧ h.2.1 - z0 + Gs + (h1.2.1 - h.2.1) ≤ R.slots := by rw [hcl, hsl]; exact ⟨hc1, hc2⟩
  refine s_Wsz (fun hsz => ?_)
  have hpre : ∀ U : State, U.heap = H → s.WarmedH U.vm → s_Pc base ρ D cid xs Ln vs h (vs.map (s_v ρ)).toArray U := by
    intro U hU hW
    refine ⟨rfl, by rw [hU]; exact hH, s_SR_moved hSR hW (by rw [hU]; exact hS.1) (fun a h1 h2 => by rw [hU]; exact hS.2.1 a h1 h2), fun ha => ?_⟩
    rw [hU]
    obtain ⟨hs0, hG⟩ := hal ha
    exact s_size hH hS hs0 hn0 (by rw [hG] at hsz; exact hsz)
  have S : CallFix p m c q.2.1 q.2.2.1 s args s_gw (s_R q.2.2.2.2.1) := ⟨hx, hb, hml, hown, hts⟩
  have fin : ∀ (a : Array Value) (rst : List Value), rst = rest.map (s_v ρ) → va_Run p l e R s m args below meth c H locs (h.1 - n0 + G) (h.2.1 - z0 + Gs) (h1.1 - h.1) (h1.2.1 - h.2.1) (F0 m pc ls (st.map (s_v ρ))) rst (s_Qc base ρ D cid xs Ln v h1 a) (s_A base) → W p l e R s m args below meth c H locs (h.1 - n0 + G) (h.2.1 - z0 + Gs) Q (F0 m pc ls (st.map (s_v ρ))) := by
    intro a rst hrst hrun
    refine s_callW hrun hS (fun H1 locs1 hH1 hS1 => ?_)
    have := kk H1 locs1 ls hH1 hS1 hl hL
    rw [hcl, hsl, hrst]
    rw [List.map_append] at this
    cases v with
    | none => exact this
    | some z => exact this
  have hroom : ∀ n : Nat, s_cat (st.drop n) ≤ 8 → 2 * (F0 m pc ls (st.map (s_v ρ))).monitorRoom + (((st.drop n).map (s_v ρ)).map fun v => v.category).sum ≤ 8 := fun n h8 => lv_room (by rw [s_cat_map]; exact h8)
  have cut : ∀ (n : Nat) (a : Nat), st[n]? = some (.ref a) → st = st.take n ++ .ref a :: st.drop (n + 1) ∧ (st.take (n + 1)).reverse = .ref a :: (st.take n).reverse := by
    intro n a ha
    have hlt := (List.getElem?_eq_some_iff.mp ha).1
    have hge : st[n] = .ref a := (List.getElem?_eq_some_iff.mp ha).2
    refine ⟨?_, ?_⟩
    · rw [← hge, ← List.drop_eq_getElem_cons hlt, List.take_append_drop]
    · rw [List.take_succ_eq_append_getElem hlt, List.reverse_append, hge]; rfl
  rcases s_inv_of hinv with ⟨n, qx, a, rfl, rfl, hqx, ha, hg, hcall⟩ | ⟨n, rfl, rfl, hcall⟩ | ⟨n, a, rfl, hen3, ha, hcall⟩ | ⟨-, -, rfl, -⟩
  · -- virtual
    cases hq1.symm.trans hqx
    obtain ⟨-, hnl, h8, hvs, hrest⟩ := s_call_of hcall
    rcases hi with ⟨-, rfl⟩ | ⟨hw, -⟩ | ⟨hw, -⟩
    · unfold s_ckM at hp
      dsimp only at hp
      rw [hq1] at hp
      simp only [Bool.and_eq_true] at hp
      obtain ⟨⟨⟨p1, p2⟩, p3⟩, p4⟩ := hp
      obtain ⟨c1, c2⟩ := cut n a ha
      have hgo := s_isG_of hg
      have hob := s_Gs_ob _ (List.mem_of_getElem? hgo.2) (s_ow17 q1 hmemq)
      obtain ⟨k1, k2, -⟩ := s_okC q1.2.2.2.2.1 hob.1 hob.2
      have he := s_w_at (base := base) (ρ := ρ) (cid := cid) hgo.1
      have hob1 : q1.2.2.2.2.1 < 13 := hob.1
      rw [s_E_obj hg (by omega)] at he
      have hrec := va_recv hSR.1 hH.1 k1 he
      rw [← o2] at hrec
      have hρa : ρ a = base + a := hρ a (s_isG_lt hg)
      rw [hvs, c2] at hpre
      refine fin ((Value.ref (base + a) :: ((st.take n).reverse.map (s_v ρ))).toArray) _ (by rw [hrest]) (va_runV (C := q1.1.cls) (b := base + a) (As := (st.take n).reverse.map (s_v ρ)) (rest := (st.drop (n + 1)).map (s_v ρ)) (n := n) S hM ⟨⟨rfl, rfl, hfr, hlc, hpay, List.mem_cons_self, hcode, hini, o8, hpar n (of_decide_eq_true p4), hts _ (s_gw_mem (s_wAt_mem p1) rfl)⟩, hts _ (s_gw_mem (s_wAt_mem p2) rfl), hts _ (s_gw_mem (s_wAt_mem p3) rfl)⟩ ⟨s_Pc_blind, hrec, fun U hU hW => ?_⟩ rfl ?_ hl.1 ?_ (hroom _ h8) hdg hf)
      · have := hpre U hU hW
        rw [List.map_cons] at this
        rw [hvs, c2]
        have e3 : s_v ρ (.ref a) = .ref (base + a) := by show Value.ref (ρ a) = _; rw [hρa]
        rw [e3] at this
        exact this
      · rw [List.length_map, List.length_reverse, List.length_take]
        omega
      · show st.map (s_v ρ) = _
        rw [← List.map_reverse, List.reverse_reverse]
        have e3 : s_v ρ (.ref a) = .ref (base + a) := by show Value.ref (ρ a) = _; rw [hρa]
        rw [← e3, ← List.map_cons, ← List.map_append, ← c1]
    · cases hw
    · cases hw
  · -- static
    obtain ⟨-, hnl, h8, hvs, hrest⟩ := s_call_of hcall
    rcases hi with ⟨hw, -⟩ | ⟨-, rfl⟩ | ⟨hw, -⟩
    · cases hw
    · unfold s_ckM at hp
      dsimp only at hp
      rw [hq1] at hp
      simp only [Bool.and_eq_true] at hp
      obtain ⟨⟨p1, p2⟩, p3⟩ := hp
      refine fin ((vs.map (s_v ρ)).toArray) _ (by rw [hrest]) (va_runS (As := vs.map (s_v ρ)) (rest := (st.drop n).map (s_v ρ)) (n := n) S hM ⟨⟨rfl, rfl, hfr, hlc, hpay, List.mem_cons_self, hcode, hini, o8, hpar n (of_decide_eq_true p3), hts _ (s_gw_mem (s_wAt_mem p1) rfl)⟩, hts _ (s_gw_mem (s_wAt_mem p2) rfl)⟩ ⟨s_Pc_blind, hpre⟩ rfl ?_ hl.1 ?_ (hroom _ h8) hdg hf)
      · rw [hvs, List.length_map, List.length_reverse, List.length_take]
        omega
      · show st.map (s_v ρ) = _
        rw [hvs, ← List.map_reverse, List.reverse_reverse, ← List.map_append, List.take_append_drop]
    · cases hw
  · -- special
    obtain ⟨-, hnl, h8, hvs, hrest⟩ := s_call_of hcall
    rcases hi with ⟨hw, -⟩ | ⟨hw, -⟩ | ⟨-, rfl⟩
    · cases hw
    · cases hw
    · obtain ⟨c1, c2⟩ := cut n a ha
      rw [hvs, c2] at hpre
      have hstk : st.map (s_v ρ) = ((st.take n).reverse.map (s_v ρ)).reverse ++ .ref (ρ a) :: (st.drop (n + 1)).map (s_v ρ) := by
        rw [← List.map_reverse, List.reverse_reverse]
        show _ = (st.take n).map (s_v ρ) ++ (s_v ρ (.ref a) :: (st.drop (n + 1)).map (s_v ρ))
        rw [← List.map_cons, ← List.map_append, ← c1]
      have hpre2 : ∀ U : State, U.heap = H → s.WarmedH U.vm → s_Pc base ρ D cid xs Ln vs h (Value.ref (ρ a) :: (st.take n).reverse.map (s_v ρ)).toArray U := by
        intro U hU hW
        have := hpre U hU hW
        rw [List.map_cons] at this
        rw [hvs, c2]
        exact this
      have hnn : ((st.take n).reverse.map (s_v ρ)).length = n := by
        rw [List.length_map, List.length_reverse, List.length_take]
        omega
      rcases hen3 with rfl | rfl
      · unfold s_ckM at hp
        dsimp only at hp
        rw [hq1] at hp
        simp only [Bool.and_eq_true] at hp
        obtain ⟨⟨⟨p1, p2⟩, p3⟩, p4⟩ := hp
        have hrt : q1.2.2.2.1 = none := (o6 p3).2
        have hcode2 := hcode
        rw [hrt] at hcode2
        refine fin ((Value.ref (ρ a) :: (st.take n).reverse.map (s_v ρ)).toArray) _ (by rw [hrest]) (va_runI (bytes := q1.2.1) (maxL := q1.2.2.1) (b := ρ a) (As := (st.take n).reverse.map (s_v ρ)) (rest := (st.drop (n + 1)).map (s_v ρ)) (n := n) S hM ⟨⟨rfl, rfl, hfr, hlc, hpay, by rw [← hrt]; exact List.mem_cons_self, hcode2, hini, o8, hpar n (of_decide_eq_true p4), hts _ (s_gw_mem (s_wAt_mem p1) rfl)⟩, (o6 p3).1, hts _ (s_gw_mem (s_wAt_mem p2) rfl)⟩ ⟨s_Pc_blind, hpre2⟩ rfl hnn hl.1 hstk (hroom _ h8) hdg hf)
      · unfold s_ckM at hp
        dsimp only at hp
        rw [hq1] at hp
        simp only [Bool.and_eq_true] at hp
        obtain ⟨⟨⟨p1, p2⟩, p3⟩, p4⟩ := hp
        have hrt : q1.2.2.2.1 = none := (o6 p3).2
        have hcode2 := hcode
        rw [hrt] at hcode2
        have hlink := va_Nw.use (A := args) rfl (hSR.2.1 _ (of_decide_eq_true p1))
        refine fin ((Value.ref (ρ a) :: (st.take n).reverse.map (s_v ρ)).toArray) _ (by rw [hrest]) (va_runIN (bytes := q1.2.1) (maxL := q1.2.2.1) (host := "CampAshes") (b := ρ a) (As := (st.take n).reverse.map (s_v ρ)) (rest := (st.drop (n + 1)).map (s_v ρ)) (n := n) S hM ⟨⟨⟨rfl, rfl, hfr, hlc, hpay, by rw [← hrt]; exact List.mem_cons_self⟩, hcode2, hini, o8, hpar n (of_decide_eq_true p4), hlink⟩, (o6 p3).1, hts _ (s_gw_mem (s_wAt_mem p2) rfl)⟩ ⟨s_Pc_blind, hpre2⟩ rfl hnn hl.1 hstk (hroom _ h8) hdg hf)
  · rw [s_ms_9999] at hq1
    cases hq1
set_option maxHeartbeats 1000000 in
/-- SOUNDNESS: what the pure machine's run comes to, the JVM comes to -/
theorem s_sound (l : Launch) : ∀ (f d : Nat), s_Snd l base ρ D cid xs Ln d f := by
  intro f
  induction f with
  | zero => intro d q pc L st h px r h' hr; rw [s_run] at hr; cases hr
  | succ f ih =>
    intro d q pc L st h px r h' hr p e R s m args below meth c Q n0 z0 G Gs H locs ls cx hal hn0 hz0 hR1 hR2 hc1 hc2 hH hS hl hL kx
    obtain ⟨i, len, tg, cp, hlo, hcp, hc⟩ := s_run_of hr
    have hmo0 := s_run_mono _ _ _ _ _ _ _ _ _ _ hr
    rcases hc with ⟨pc1, L1, st1, h1, hex, hmo, hr1⟩ | ⟨hex, hE, rfl, rfl⟩ | ⟨w, x, md, vs, rest, d1, q1, px1, v, h1, hex, hiv, rfl, hq1, hlen, hr1, hr2⟩
    · have hm1 := s_mo_of hmo
      have hm2 := s_run_mono _ _ _ _ _ _ _ _ _ _ hr1
      refine s_step cx hcp hH hS hl hL hal hn0 hz0 (by omega) (by omega) (by omega) (by omega) (by omega) (by omega) hlo hex ?_
      intro H1 locs1 ls1 hH1 hS1 hl1 hL1
      exact ih d q pc1 L1 st1 h1 px r h' hr1 p e R s m args below meth c Q n0 z0 G Gs H1 locs1 ls1 cx (by rw [hm1.2.2]; exact hal) (by omega) (by omega) hR1 hR2 hc1 hc2 hH1 hS1 hl1 hL1 kx
    · exact kx i len tg cp L st hlo hcp hE hex H locs ls hH hS hl hL
    · have hm1 := s_run_mono _ _ _ _ _ _ _ _ _ _ hr1
      have hm2 := s_run_mono _ _ _ _ _ _ _ _ _ _ hr2
      refine s_k_call cx hcp hH hS hl hL hal hn0 hz0 hR1 hR2 (by omega) (by omega) hlo hex hiv hq1 hlen (ih d1) hr1 ?_
      intro H1 locs1 ls1 hH1 hS1 hl1 hL1
      exact ih (d1 + 1) q (pc + 3) L (v.toList ++ rest) h1 px r h' hr2 p e R s m args below meth c Q n0 z0 G Gs H1 locs1 ls1 cx (by rw [hm1.2.2]; exact hal) (by omega) (by omega) hR1 hR2 hc1 hc2 hH1 hS1 hl1 hL1 kx
end SNM
end
section
-- REASONING on the pure machine: from a place to a place (s_To), from a call to its answer (s_Ev)
abbrev s_S : Type := Nat × s_L × List Value × s_H
def s_mny (f d : Nat) (q : s_M) : Nat → s_S → Option s_S
  | 0, x => some x
  | n + 1, x => match s_one (s_run f) d q x.1 x.2.1 x.2.2.1 x.2.2.2 with
    | some (.inl y) => s_mny f d q n y
    | _ => none
def s_exq (q : s_M) (pc : Nat) (L : s_L) (st : List Value) (h : s_H) : Option s_O := match s_look q.2.2.2.2.2.2 pc, s_cps[q.2.2.2.2.1]? with
  | some (i, _, tg), some cp => s_ex cp q.2.2.2.2.1 q.2.2.2.2.2.1 q.2.2.2.1 pc i tg L st h
  | _, _ => none
def s_isq (q : s_M) (pc : Nat) : Bool := match s_look q.2.2.2.2.2.2 pc with
  | some (i, _, _) => (match s_iv i with
    | some _ => true
    | none => false)
  | none => false
def s_isx (q : s_M) (pc : Nat) : Bool := match s_look q.2.2.2.2.2.2 pc with
  | some (i, _, _) => s_isE i
  | none => false
theorem s_one_nx {run : Nat → s_M → Nat → s_L → List Value → s_H → Option (Nat × Option (Option Value) × s_H)} {d : Nat} {q : s_M} {pc pc1 : Nat} {L L1 : s_L} {st st1 : List Value} {h h1 : s_H} (hex : s_exq q pc L st h = some (.inl (pc1, L1, st1, h1))) (hmo : s_mo h h1 = true) : s_one run d q pc L st h = some (.inl (pc1, L1, st1, h1)) := by
  unfold s_exq at hex
  split at hex
  · rename_i i len tg cp hlo hcp
    unfold s_one
    rw [hlo, hcp]
    dsimp only
    rw [hex]
    dsimp only
    rw [hmo]
  · cases hex
theorem s_one_ret {run : Nat → s_M → Nat → s_L → List Value → s_H → Option (Nat × Option (Option Value) × s_H)} {d : Nat} {q : s_M} {pc : Nat} {L : s_L} {st : List Value} {h : s_H} {r : Option (Option Value)} (hex : s_exq q pc L st h = some (.inr (.inl r))) (hE : s_isx q pc = true) : s_one run d q pc L st h = some (.inr r) := by
  unfold s_exq at hex
  split at hex
  · rename_i i len tg cp hlo hcp
    unfold s_isx at hE
    rw [hlo] at hE
    unfold s_one
    rw [hlo, hcp]
    dsimp only at hE ⊢
    rw [hex]
    dsimp only
    rw [hE]
  · cases hex
theorem s_one_call {run : Nat → s_M → Nat → s_L → List Value → s_H → Option (Nat × Option (Option Value) × s_H)} {d1 : Nat} {q q1 : s_M} {pc md px1 : Nat} {L : s_L} {st vs rest : List Value} {h h1 : s_H} {v : Option Value} (hex : s_exq q pc L st h = some (.inr (.inr (md, vs, rest)))) (hi : s_isq q pc = true) (hq1 : s_ms[md]? = some q1) (hle : (s_en vs).length ≤ q1.2.2.1) (hrun : run d1 q1 0 (s_ent vs q1.2.2.1) [] h = some (px1, some v, h1)) : s_one run (d1 + 1) q pc L st h = some (.inl (pc + 3, L, v.toList ++ rest, h1)) := by
  unfold s_exq at hex
  split at hex
  · rename_i i len tg cp hlo hcp
    unfold s_isq at hi
    rw [hlo] at hi
    unfold s_one
    rw [hlo, hcp]
    dsimp only at hi ⊢
    rw [hex]
    dsimp only
    cases hiv : s_iv i with
    | none => rw [hiv] at hi; cases hi
    | some wx =>
      dsimp only
      rw [hq1]
      dsimp only
      rw [Nat.ble_eq_true_of_le hle]
      dsimp only
      rw [hrun]
  · cases hex
/-- a step, whatever runs the calls, if it runs at least those -/
theorem s_one_mono {run run' : Nat → s_M → Nat → s_L → List Value → s_H → Option (Nat × Option (Option Value) × s_H)} {d k : Nat} (hrr : ∀ d q pc L st h x, run d q pc L st h = some x → run' (d + k) q pc L st h = some x) {q : s_M} {pc : Nat} {L : s_L} {st : List Value} {h : s_H} {y : (Nat × s_L × List Value × s_H) ⊕ Option (Option Value)} (ho : s_one run d q pc L st h = some y) : s_one run' (d + k) q pc L st h = some y := by
  obtain ⟨i, len, tg, cp, hlo, hcp, hc⟩ := s_one_of ho
  have hq : ∀ o, s_ex cp q.2.2.2.2.1 q.2.2.2.2.2.1 q.2.2.2.1 pc i tg L st h = o → s_exq q pc L st h = o := by
    intro o ho
    unfold s_exq
    rw [hlo, hcp]
    exact ho
  rcases hc with ⟨a1, a2, a3, a4, rfl, hex, hmo⟩ | ⟨r1, rfl, hex, hE⟩ | ⟨w, x, md, vs, rest, d1, q1, px1, v, h2, rfl, hex, hiv, rfl, hq1, hle, hrun⟩
  · exact s_one_nx (hq _ hex) hmo
  · refine s_one_ret (hq _ hex) ?_
    unfold s_isx
    rw [hlo]
    exact hE
  · have e : d1 + 1 + k = d1 + k + 1 := by omega
    rw [e]
    refine s_one_call (hq _ hex) ?_ hq1 hle (hrr _ _ _ _ _ _ _ hrun)
    unfold s_isq
    rw [hlo]
    dsimp only
    rw [hiv]
theorem s_run_up (k : Nat) : ∀ (f d : Nat) (q : s_M) (pc : Nat) (L : s_L) (st : List Value) (h : s_H) (x : Nat × Option (Option Value) × s_H), s_run f d q pc L st h = some x → s_run (f + 1) (d + k) q pc L st h = some x := by
  intro f
  induction f with
  | zero => intro d q pc L st h x hr; rw [s_run] at hr; cases hr
  | succ f ih =>
    intro d q pc L st h x hr
    rw [s_run] at hr ⊢
    split at hr
    · rename_i pc1 L1 st1 h1 ho
      rw [s_one_mono (run' := s_run (f + 1)) (k := k) (fun d q pc L st h x => ih d q pc L st h x) ho]
      exact ih _ _ _ _ _ _ _ hr
    · rename_i r1 ho
      rw [s_one_mono (run' := s_run (f + 1)) (k := k) (fun d q pc L st h x => ih d q pc L st h x) ho]
      exact hr
    · cases hr
theorem s_run_le {f f' d d' : Nat} (hf : f ≤ f') (hd : d ≤ d') {q : s_M} {pc : Nat} {L : s_L} {st : List Value} {h : s_H} {x : Nat × Option (Option Value) × s_H} (hr : s_run f d q pc L st h = some x) : s_run (f' + 1) d' q pc L st h = some x := by
  obtain ⟨k, rfl⟩ := Nat.exists_eq_add_of_le hd
  obtain ⟨j, rfl⟩ := Nat.exists_eq_add_of_le hf
  have h0 := s_run_up k f d q pc L st h x hr
  clear hf hd hr
  induction j with
  | zero => exact h0
  | succ j ih => exact s_run_up 0 _ _ _ _ _ _ _ _ ih
theorem s_mny_le {f f' d d' : Nat} (hf : f ≤ f') (hd : d ≤ d') {q : s_M} : ∀ (n : Nat) (x y : s_S), s_mny f d q n x = some y → s_mny (f' + 1) d' q n x = some y := by
  intro n
  induction n with
  | zero => intro x y h; exact h
  | succ n ih =>
    intro x y h
    rw [s_mny] at h ⊢
    split at h
    · rename_i z ho
      obtain ⟨k, rfl⟩ := Nat.exists_eq_add_of_le hd
      have := s_one_mono (run' := s_run (f' + 1)) (k := k) (fun d q pc L st h x hx => s_run_le hf (Nat.le_add_right d k) hx) ho
      rw [this]
      exact ih _ _ h
    · cases h
theorem s_mny_app {f d : Nat} {q : s_M} : ∀ (n k : Nat) (x y z : s_S), s_mny f d q n x = some y → s_mny f d q k y = some z → s_mny f d q (n + k) x = some z := by
  intro n
  induction n with
  | zero => intro k x y z h1 h2; cases h1; rw [Nat.zero_add]; exact h2
  | succ n ih =>
    intro k x y z h1 h2
    rw [show n + 1 + k = (n + k) + 1 by omega]
    rw [s_mny] at h1 ⊢
    split at h1
    · rename_i w ho
      exact ih k _ _ _ h1 h2
    · cases h1
def s_To (d : Nat) (q : s_M) (x y : s_S) : Prop := ∃ f n, s_mny f d q n x = some y
def s_Ev (d : Nat) (q : s_M) (vs : List Value) (h : s_H) (v : Option Value) (h' : s_H) : Prop := ∃ f px, s_run f d q 0 (s_ent vs q.2.2.1) [] h = some (px, some v, h')
theorem s_To.rf {d : Nat} {q : s_M} {x : s_S} : s_To d q x x := ⟨0, 0, rfl⟩
theorem s_To.tr {d : Nat} {q : s_M} {x y z : s_S} (h1 : s_To d q x y) (h2 : s_To d q y z) : s_To d q x z := by
  obtain ⟨f1, n1, e1⟩ := h1
  obtain ⟨f2, n2, e2⟩ := h2
  have a1 := s_mny_le (Nat.le_max_left f1 f2) (Nat.le_refl d) _ _ _ e1
  have a2 := s_mny_le (Nat.le_max_right f1 f2) (Nat.le_refl d) _ _ _ e2
  exact ⟨_, _, s_mny_app _ _ _ _ _ a1 a2⟩
theorem s_To.up {d d' : Nat} {q : s_M} {x y : s_S} (hd : d ≤ d') (h : s_To d q x y) : s_To d' q x y := by
  obtain ⟨f, n, e⟩ := h
  exact ⟨_, _, s_mny_le (Nat.le_refl f) hd _ _ _ e⟩
theorem s_Ev.up {d d' : Nat} {q : s_M} {vs : List Value} {h h' : s_H} {v : Option Value} (hd : d ≤ d') (he : s_Ev d q vs h v h') : s_Ev d' q vs h v h' := by
  obtain ⟨f, px, e⟩ := he
  exact ⟨_, _, s_run_le (Nat.le_refl f) hd e⟩
/-- some steps that need no question answered -/
theorem s_To.sg (n : Nat) {d : Nat} {q : s_M} {x y z : s_S} (h : s_mny 0 0 q n x = some y) (k : s_To d q y z) : s_To d q x z := s_To.tr ⟨_, _, s_mny_le (Nat.le_refl 0) (Nat.zero_le d) _ _ _ h⟩ k
theorem s_To.nx {d : Nat} {q : s_M} {pc pc1 : Nat} {L L1 : s_L} {st st1 : List Value} {h h1 : s_H} {z : s_S} (hex : s_exq q pc L st h = some (.inl (pc1, L1, st1, h1))) (hmo : s_mo h h1 = true) (k : s_To d q (pc1, L1, st1, h1) z) : s_To d q (pc, L, st, h) z := by
  refine s_To.tr ⟨0, 1, ?_⟩ k
  rw [s_mny, s_one_nx hex hmo]
  rfl
theorem s_mo_rf (h : s_H) : s_mo h h = true := by
  unfold s_mo
  rw [Nat.ble_self_eq_true, Nat.ble_self_eq_true]
  cases h.2.2.1 <;> rfl
/-- a branch -/
theorem s_To.br {c : Prop} [Decidable c] {d : Nat} {q : s_M} {pc tg p2 : Nat} {L L1 : s_L} {st st1 : List Value} {h : s_H} {z : s_S} (hex : s_exq q pc L st h = s_br c tg p2 L1 st1 h) (kt : c → s_To d q (tg, L1, st1, h) z) (kf : ¬ c → s_To d q (p2 + 3, L1, st1, h) z) : s_To d q (pc, L, st, h) z := by
  by_cases hc : c
  · exact s_To.nx (by rw [hex]; unfold s_br; rw [if_pos hc]; rfl) (s_mo_rf h) (kt hc)
  · exact s_To.nx (by rw [hex]; unfold s_br; rw [if_neg hc]; rfl) (s_mo_rf h) (kf hc)
/-- a step that may fail, and doesn't -/
theorem s_To.gd {c : Prop} [Decidable c] {d : Nat} {q : s_M} {pc pc1 : Nat} {L L1 : s_L} {st st1 : List Value} {h h1 : s_H} {z : s_S} (hex : s_exq q pc L st h = if c then none else s_nx pc1 L1 st1 h1) (hmo : s_mo h h1 = true) (hn : ¬ c) (k : s_To d q (pc1, L1, st1, h1) z) : s_To d q (pc, L, st, h) z := s_To.nx (by rw [hex, if_neg hn]; rfl) hmo k
/-- a call -/
theorem s_To.cl {d : Nat} {q q1 : s_M} {pc md : Nat} {L : s_L} {st vs rest : List Value} {h h1 : s_H} {v : Option Value} {z : s_S} (hex : s_exq q pc L st h = some (.inr (.inr (md, vs, rest)))) (hi : s_isq q pc = true) (hq1 : s_ms[md]? = some q1) (hle : (s_en vs).length ≤ q1.2.2.1) (he : s_Ev d q1 vs h v h1) (k : s_To (d + 1) q (pc + 3, L, v.toList ++ rest, h1) z) : s_To (d + 1) q (pc, L, st, h) z := by
  obtain ⟨f, px, e⟩ := he
  refine s_To.tr ⟨f, 1, ?_⟩ k
  rw [s_mny, s_one_call hex hi hq1 hle e]
  rfl
/-- the end of a method -/
theorem s_Ev.of {d : Nat} {q : s_M} {vs : List Value} {h h' : s_H} {v : Option Value} {px : Nat} {L' : s_L} {st' : List Value} (k : s_To d q (0, s_ent vs q.2.2.1, [], h) (px, L', st', h')) (hex : s_exq q px L' st' h' = some (.inr (.inl (some v)))) (hE : s_isx q px = true) : s_Ev d q vs h v h' := by
  obtain ⟨f, n, e⟩ := k
  have key : ∀ (n : Nat) (pc : Nat) (L : s_L) (st : List Value) (h : s_H), s_mny f d q n (pc, L, st, h) = some (px, L', st', h') → ∃ g, s_run (f + g) d q pc L st h = some (px, some v, h') := by
    intro n
    induction n with
    | zero =>
      intro pc L st h e
      cases e
      refine ⟨1, ?_⟩
      rw [s_run, s_one_ret hex hE]
    | succ n ih =>
      intro pc L st h e
      rw [s_mny] at e
      dsimp only at e
      split at e
      · rename_i y ho
        obtain ⟨pc1, L1, st1, h1⟩ := y
        obtain ⟨g, hg⟩ := ih _ _ _ _ e
        refine ⟨g + 2, ?_⟩
        rw [show f + (g + 2) = (f + g + 1) + 1 by omega, s_run]
        have h2 : s_one (s_run (f + g + 1)) d q pc L st h = some (.inl (pc1, L1, st1, h1)) := s_one_mono (run' := s_run (f + g + 1)) (k := 0) (fun d q pc L st h x hx => s_run_le (Nat.le_add_right f g) (Nat.le_refl d) hx) ho
        rw [h2]
        exact s_run_le (Nat.le_refl _) (Nat.le_refl d) hg
      · cases e
  obtain ⟨g, hg⟩ := key n _ _ _ _ e
  exact ⟨_, _, hg⟩
section SNP
variable {p : Program} {l : Launch} {e : Env} {R : Room} {s : State} {m : MethodId} {args : Array Value} {below : List Frame} {meth : Method} {c : Code} {Q : State → Prop}
variable {base : Nat} {ρ : Nat → Nat} {D : va_G} {cid : Nat → ClassId} {xs : Nat → Int32} {Ln : Nat}
set_option maxHeartbeats 1000000 in
/-- from place to place is a walk -/
theorem s_toW {f d : Nat} {q : s_M} {n0 z0 G Gs : Nat} (cx : s_Cx p s m args meth c base ρ D cid xs Ln q) (hR1 : d + 6 ≤ R.frames) (hR2 : 40 * d + 240 ≤ R.locals) : ∀ (n : Nat) (pc pc1 : Nat) (L L1 : s_L) (st st1 : List Value) (h h1 : s_H), s_mny f d q n (pc, L, st, h) = some (pc1, L1, st1, h1) →
    (h.2.2.1 = true → s.heap.size = base + n0 ∧ G = 0) → n0 ≤ h.1 → z0 ≤ h.2.1 → h1.1 - n0 + G ≤ R.cells → h1.2.1 - z0 + Gs ≤ R.slots → h.1 ≤ h1.1 ∧ h.2.1 ≤ h1.2.1 ∧ (s_K p l e R s m args below meth c Q base ρ D cid xs Ln q n0 z0 G Gs pc1 L1 st1 h1 → s_K p l e R s m args below meth c Q base ρ D cid xs Ln q n0 z0 G Gs pc L st h) := by
  intro n
  induction n with
  | zero =>
    intro pc pc1 L L1 st st1 h h1 hm hal hn0 hz0 hc1 hc2
    cases hm
    exact ⟨Nat.le_refl _, Nat.le_refl _, id⟩
  | succ n ih =>
    intro pc pc1 L L1 st st1 h h1 hm hal hn0 hz0 hc1 hc2
    rw [s_mny] at hm
    dsimp only at hm
    split at hm
    · rename_i y ho
      obtain ⟨pc2, L2, st2, h2⟩ := y
      obtain ⟨i, len, tg, cp, hlo, hcp, hc⟩ := s_one_of ho
      rcases hc with ⟨a1, a2, a3, a4, ey, hex, hmo⟩ | ⟨r1, ey, -, -⟩ | ⟨w, x, md, vs, rest, d1, q1, px1, v, h3, ey, hex, hiv, rfl, hq1, hle, hrun⟩
      · cases ey
        obtain ⟨m1, m2, m3⟩ := s_mo_of hmo
        obtain ⟨k1, k2, k3⟩ := ih _ _ _ _ _ _ _ _ hm (by rw [m3]; exact hal) (by omega) (by omega) hc1 hc2
        refine ⟨by omega, by omega, fun kk H locs ls hH hS hl hL => ?_⟩
        exact s_step cx hcp hH hS hl hL hal hn0 hz0 (by omega) (by omega) (by omega) (by omega) (by omega) (by omega) hlo hex (k3 kk)
      · cases ey
      · cases ey
        obtain ⟨m1, m2, m3⟩ := s_run_mono _ _ _ _ _ _ _ _ _ _ hrun
        obtain ⟨k1, k2, k3⟩ := ih _ _ _ _ _ _ _ _ hm (by rw [m3]; exact hal) (by omega) (by omega) hc1 hc2
        refine ⟨by omega, by omega, fun kk H locs ls hH hS hl hL => ?_⟩
        exact s_k_call cx hcp hH hS hl hL hal hn0 hz0 hR1 hR2 (by omega) (by omega) hlo hex hiv hq1 hle (s_sound l f d1) hrun (k3 kk)
    · cases hm
end SNP
end
section
-- KNOWING MORE LOCALS does no harm
def s_le : s_L → s_L → Prop
  | [], [] => True
  | a :: r, b :: r' => (a = none ∨ a = b) ∧ s_le r r'
  | _, _ => False
theorem s_le_rf : ∀ L : s_L, s_le L L := by
  intro L
  induction L with
  | nil => exact trivial
  | cons a r ih => exact ⟨Or.inr rfl, ih⟩
theorem s_le_len : ∀ {L L' : s_L}, s_le L L' → L.length = L'.length := by
  intro L
  induction L with
  | nil => intro L' h; cases L' with
    | nil => rfl
    | cons b r' => cases h
  | cons a r ih => intro L' h; cases L' with
    | nil => cases h
    | cons b r' => simp only [List.length_cons, ih h.2]
theorem s_le_at : ∀ {L L' : s_L} {i : Nat} {v : Value}, s_le L L' → L[i]? = some (some v) → L'[i]? = some (some v) := by
  intro L
  induction L with
  | nil => intro L' i v h hi; simp at hi
  | cons a r ih => intro L' i v h hi; cases L' with
    | nil => cases h
    | cons b r' =>
      cases i with
      | zero =>
        have : a = some v := by simpa using hi
        rcases h.1 with h1 | h1
        · rw [h1] at this; cases this
        · rw [← h1, this]; rfl
      | succ j =>
        have h2 : r[j]? = some (some v) := by simpa using hi
        have := ih h.2 h2
        simpa using this
theorem s_le_set : ∀ {L L' : s_L} (i : Nat) {x y : Option Value}, s_le L L' → (x = none ∨ x = y) → s_le (L.set i x) (L'.set i y) := by
  intro L
  induction L with
  | nil => intro L' i x y h _; cases L' with
    | nil => exact trivial
    | cons b r' => cases h
  | cons a r ih => intro L' i x y h hxy; cases L' with
    | nil => cases h
    | cons b r' =>
      cases i with
      | zero => exact ⟨hxy, h.2⟩
      | succ j => exact ⟨h.1, ih j h.2 hxy⟩
theorem s_set_none : ∀ {L : s_L} {i : Nat}, (∀ v, L[i]? ≠ some (some v)) → L.set i none = L := by
  intro L
  induction L with
  | nil => intro i _; rfl
  | cons a r ih => intro i h; cases i with
    | zero =>
      cases a with
      | none => rfl
      | some v => exact absurd rfl (h v)
    | succ j =>
      show a :: r.set j none = a :: r
      rw [ih (fun v hv => h v (by simpa using hv))]
theorem s_le_s1 {L L' : s_L} (i : Nat) (v : Value) (h : s_le L L') : s_le (s_s1 L i v) (s_s1 L' i v) := by
  unfold s_s1
  cases i with
  | zero => exact s_le_set 0 h (Or.inr rfl)
  | succ j =>
    dsimp only
    have main : ∀ A B : s_L, (A = L ∨ A = L.set j none) → (B = L' ∨ B = L'.set j none) → (A = L → (∀ w, L[j]? = some (some w) → B = L')) → (B = L' → A = L) → s_le (A.set (j + 1) (some v)) (B.set (j + 1) (some v)) := by
      intro A B hA hB h1 h2
      refine s_le_set _ ?_ (Or.inr rfl)
      rcases hA with rfl | rfl
      · rcases hB with rfl | rfl
        · exact h
        · by_cases hw : ∃ w, A[j]? = some (some w)
          · obtain ⟨w, hw⟩ := hw
            rw [h1 rfl w hw]
            exact h
          · rw [← s_set_none (L := A) (i := j) (fun w hq => hw ⟨w, hq⟩)]
            exact s_le_set j h (Or.inl rfl)
      · exact s_le_set j h (Or.inl rfl) |> fun q => by
          rcases hB with rfl | rfl
          · have := h2 rfl
            rw [this]; exact h
          · exact q
    split
    · rename_i z hz
      rw [s_le_at h hz]
      exact main _ _ (Or.inr rfl) (Or.inr rfl) (fun e w hw => by rw [hz] at hw; exact absurd e (by intro e2; have h3 : (L.set j none)[j]? = L[j]? := by rw [e2]
                                                                                                   rw [hz, List.getElem?_set] at h3; simp at h3)) (fun e => by
        have h3 : (L'.set j none)[j]? = L'[j]? := by rw [e]
        rw [s_le_at h hz, List.getElem?_set] at h3; simp at h3)
    · rename_i z hz
      rw [s_le_at h hz]
      exact main _ _ (Or.inr rfl) (Or.inr rfl) (fun e w hw => by rw [hz] at hw; exact absurd e (by intro e2; have h3 : (L.set j none)[j]? = L[j]? := by rw [e2]
                                                                                                   rw [hz, List.getElem?_set] at h3; simp at h3)) (fun e => by
        have h3 : (L'.set j none)[j]? = L'[j]? := by rw [e]
        rw [s_le_at h hz, List.getElem?_set] at h3; simp at h3)
    · rename_i n1 n2
      split
      · rename_i z hz
        refine main _ _ (Or.inl rfl) (Or.inr rfl) (fun _ w hw => ?_) (fun _ => rfl)
        have := s_le_at h hw
        rw [hz] at this
        cases this
        exact absurd hw (n1 _)
      · rename_i z hz
        refine main _ _ (Or.inl rfl) (Or.inr rfl) (fun _ w hw => ?_) (fun _ => rfl)
        have := s_le_at h hw
        rw [hz] at this
        cases this
        exact absurd hw (n2 _)
      · exact main _ _ (Or.inl rfl) (Or.inl rfl) (fun _ _ _ => rfl) (fun _ => rfl)
theorem s_le_s2 {L L' : s_L} (i : Nat) (v : Value) (h : s_le L L') : s_le (s_s2 L i v) (s_s2 L' i v) := s_le_set _ (s_le_s1 i v h) (Or.inl rfl)
-- one outcome says no more of the locals than the other
def s_ro (o o' : Option s_O) : Prop := (∀ a b c d, o = some (.inl (a, b, c, d)) → ∃ b', o' = some (.inl (a, b', c, d)) ∧ s_le b b') ∧ ∀ z, o = some (.inr z) → o' = some (.inr z)
theorem s_ro_no {o' : Option s_O} : s_ro none o' := ⟨fun _ _ _ _ h => (by cases h), fun _ h => (by cases h)⟩
theorem s_ro_rt (z : Option (Option Value) ⊕ (Nat × List Value × List Value)) : s_ro (some (.inr z)) (some (.inr z)) := ⟨fun _ _ _ _ h => (by cases h), fun _ h => h⟩
theorem s_ro_sm (o : Option s_O) (hn : ∀ a b c d, o ≠ some (.inl (a, b, c, d))) : s_ro o o := ⟨fun a b c d h => absurd h (hn a b c d), fun _ h => h⟩
theorem s_ro_nx {pc : Nat} {L L' : s_L} {st : List Value} {h : s_H} (hle : s_le L L') : s_ro (s_nx pc L st h) (s_nx pc L' st h) := by
  refine ⟨fun a b c d e => ?_, fun z e => by unfold s_nx at e; cases e⟩
  obtain ⟨rfl, rfl, rfl, rfl⟩ := s_nx_of e
  exact ⟨L', rfl, hle⟩
theorem s_ro_if {c : Prop} [Decidable c] {a b a' b' : Option s_O} (h1 : s_ro a a') (h2 : s_ro b b') : s_ro (if c then a else b) (if c then a' else b') := by
  by_cases hc : c
  · rw [if_pos hc, if_pos hc]; exact h1
  · rw [if_neg hc, if_neg hc]; exact h2
theorem s_ro_br {c : Prop} [Decidable c] {tg pc : Nat} {L L' : s_L} {st : List Value} {h : s_H} (hle : s_le L L') : s_ro (s_br c tg pc L st h) (s_br c tg pc L' st h) := s_ro_if (s_ro_nx hle) (s_ro_nx hle)
theorem s_ro_i1 {st : List Value} {k k' : Int32 → List Value → Option s_O} (h : ∀ x r, s_ro (k x r) (k' x r)) : s_ro (s_i1 st k) (s_i1 st k') := by
  unfold s_i1
  split
  · exact h _ _
  · exact s_ro_no
theorem s_ro_ii {st : List Value} {k k' : Int32 → Int32 → List Value → Option s_O} (h : ∀ x y r, s_ro (k x y r) (k' x y r)) : s_ro (s_ii st k) (s_ii st k') := by
  unfold s_ii
  split
  · exact h _ _ _
  · exact s_ro_no
theorem s_ro_l1 {st : List Value} {k k' : Int64 → List Value → Option s_O} (h : ∀ x r, s_ro (k x r) (k' x r)) : s_ro (s_l1 st k) (s_l1 st k') := by
  unfold s_l1
  split
  · exact h _ _
  · exact s_ro_no
theorem s_ro_ll {st : List Value} {k k' : Int64 → Int64 → List Value → Option s_O} (h : ∀ x y r, s_ro (k x y r) (k' x y r)) : s_ro (s_ll st k) (s_ll st k') := by
  unfold s_ll
  split
  · exact h _ _ _
  · exact s_ro_no
theorem s_ro_r1 {st : List Value} {k k' : Nat → List Value → Option s_O} (h : ∀ x r, s_ro (k x r) (k' x r)) : s_ro (s_r1 st k) (s_r1 st k') := by
  unfold s_r1
  split
  · exact h _ _
  · exact s_ro_no
theorem s_ro_ir {st : List Value} {k k' : Int32 → Nat → List Value → Option s_O} (h : ∀ i a r, s_ro (k i a r) (k' i a r)) : s_ro (s_ir st k) (s_ir st k') := by
  unfold s_ir
  split
  · exact h _ _ _
  · exact s_ro_no
theorem s_ro_ild {L L' : s_L} {i pc : Nat} {st : List Value} {h : s_H} (hle : s_le L L') : s_ro (s_ild L i pc st h) (s_ild L' i pc st h) := by
  unfold s_ild
  split
  · rename_i x hx
    rw [s_le_at hle hx]
    exact s_ro_nx hle
  · exact s_ro_no
theorem s_ro_lld {L L' : s_L} {i pc : Nat} {st : List Value} {h : s_H} (hle : s_le L L') : s_ro (s_lld L i pc st h) (s_lld L' i pc st h) := by
  unfold s_lld
  split
  · rename_i x hx
    rw [s_le_at hle hx]
    exact s_ro_nx hle
  · exact s_ro_no
theorem s_ro_ald {L L' : s_L} {i pc : Nat} {st : List Value} {h : s_H} (hle : s_le L L') : s_ro (s_ald L i pc st h) (s_ald L' i pc st h) := by
  unfold s_ald
  split
  · rename_i x hx
    rw [s_le_at hle hx]
    exact s_ro_nx hle
  · rename_i hx
    rw [s_le_at hle hx]
    exact s_ro_nx hle
  · exact s_ro_no
theorem s_ro_ist {L L' : s_L} {i pc : Nat} {st : List Value} {h : s_H} (hle : s_le L L') : s_ro (s_ist L i pc st h) (s_ist L' i pc st h) := by
  unfold s_ist
  rw [s_le_len hle]
  split
  · exact s_ro_i1 (fun x r => s_ro_nx (s_le_s1 _ _ hle))
  · exact s_ro_no
theorem s_ro_lst {L L' : s_L} {i pc : Nat} {st : List Value} {h : s_H} (hle : s_le L L') : s_ro (s_lst L i pc st h) (s_lst L' i pc st h) := by
  unfold s_lst
  rw [s_le_len hle]
  split
  · exact s_ro_l1 (fun x r => s_ro_nx (s_le_s2 _ _ hle))
  · exact s_ro_no
theorem s_ro_ast {L L' : s_L} {i pc : Nat} {st : List Value} {h : s_H} (hle : s_le L L') : s_ro (s_ast L i pc st h) (s_ast L' i pc st h) := by
  unfold s_ast
  rw [s_le_len hle]
  split
  · split
    · exact s_ro_nx (s_le_s1 _ _ hle)
    · exact s_ro_nx (s_le_s1 _ _ hle)
    · exact s_ro_no
  · exact s_ro_no
theorem s_ro_ts {x pc : Int} {L L' : s_L} {st : List Value} {h : s_H} {d : Int} (hle : s_le L L') : ∀ (offs : List Int) (lo : Int), s_ro (s_ts x pc L st h d lo offs) (s_ts x pc L' st h d lo offs) := by
  intro offs
  induction offs with
  | nil => intro lo; unfold s_ts; exact s_ro_if (s_ro_nx hle) s_ro_no
  | cons o t ih => intro lo; unfold s_ts; exact s_ro_if (s_ro_if (s_ro_nx hle) s_ro_no) (ih _)
theorem s_ro_ls {x pc : Int} {L L' : s_L} {st : List Value} {h : s_H} {d : Int} (hle : s_le L L') : ∀ (ps : List (Int × Int)), s_ro (s_ls x pc L st h d ps) (s_ls x pc L' st h d ps) := by
  intro ps
  induction ps with
  | nil => unfold s_ls; exact s_ro_if (s_ro_nx hle) s_ro_no
  | cons o t ih => unfold s_ls; exact s_ro_if (s_ro_if (s_ro_nx hle) s_ro_no) ih
theorem s_ro_gf {own pc c k : Nat} {L L' : s_L} {st : List Value} {h : s_H} (hle : s_le L L') : s_ro (s_gf own pc c k L st h) (s_gf own pc c k L' st h) := by
  unfold s_gf
  refine s_ro_r1 (fun a r => ?_)
  split
  · split
    · exact s_ro_nx hle
    · exact s_ro_no
  · split
    · exact s_ro_nx hle
    · exact s_ro_no
theorem s_ro_pf {own pc c k : Nat} {ini : Bool} {L L' : s_L} {st : List Value} {h : s_H} (hle : s_le L L') : s_ro (s_pf own ini pc c k L st h) (s_pf own ini pc c k L' st h) := by
  unfold s_pf
  split
  · exact s_ro_no
  · split
    · split
      · exact s_ro_no
      · split
        · exact s_ro_nx hle
        · exact s_ro_if (s_ro_nx hle) s_ro_no
        · exact s_ro_nx hle
        · exact s_ro_nx hle
        · exact s_ro_nx hle
        · exact s_ro_no
    · exact s_ro_no
theorem s_ro_iald {pc : Nat} {L L' : s_L} {st : List Value} {h : s_H} (hle : s_le L L') : s_ro (s_iald pc L st h) (s_iald pc L' st h) := by
  unfold s_iald
  refine s_ro_ir (fun i a r => ?_)
  split
  · exact s_ro_if s_ro_no (s_ro_nx hle)
  · split
    · exact s_ro_if s_ro_no (s_ro_nx hle)
    · exact s_ro_no
theorem s_ro_bald {pc : Nat} {L L' : s_L} {st : List Value} {h : s_H} (hle : s_le L L') : s_ro (s_bald pc L st h) (s_bald pc L' st h) := by
  unfold s_bald
  refine s_ro_ir (fun i a r => ?_)
  split
  · exact s_ro_if s_ro_no (s_ro_nx hle)
  · exact s_ro_no
theorem s_ro_lald {pc : Nat} {L L' : s_L} {st : List Value} {h : s_H} (hle : s_le L L') : s_ro (s_lald pc L st h) (s_lald pc L' st h) := by
  unfold s_lald
  refine s_ro_ir (fun i a r => ?_)
  split
  · exact s_ro_if s_ro_no (s_ro_nx hle)
  · exact s_ro_no
theorem s_ro_aald {pc : Nat} {L L' : s_L} {st : List Value} {h : s_H} (hle : s_le L L') : s_ro (s_aald pc L st h) (s_aald pc L' st h) := by
  unfold s_aald
  refine s_ro_ir (fun i a r => ?_)
  split
  · exact s_ro_if s_ro_no (s_ro_nx hle)
  · split
    · exact s_ro_if s_ro_no (s_ro_nx hle)
    · exact s_ro_no
theorem s_ro_iast {pc : Nat} {L L' : s_L} {st : List Value} {h : s_H} (hle : s_le L L') : s_ro (s_iast pc L st h) (s_iast pc L' st h) := by
  unfold s_iast
  refine s_ro_i1 (fun x st1 => s_ro_ir (fun i a r => ?_))
  split
  · exact s_ro_if s_ro_no (s_ro_nx hle)
  · exact s_ro_no
theorem s_ro_bast {pc : Nat} {L L' : s_L} {st : List Value} {h : s_H} (hle : s_le L L') : s_ro (s_bast pc L st h) (s_bast pc L' st h) := by
  unfold s_bast
  refine s_ro_i1 (fun x st1 => s_ro_ir (fun i a r => ?_))
  split
  · exact s_ro_if s_ro_no (s_ro_nx hle)
  · split
    · exact s_ro_if s_ro_no (s_ro_nx hle)
    · exact s_ro_no
theorem s_ro_last {pc : Nat} {L L' : s_L} {st : List Value} {h : s_H} (hle : s_le L L') : s_ro (s_last pc L st h) (s_last pc L' st h) := by
  unfold s_last
  refine s_ro_l1 (fun x st1 => s_ro_ir (fun i a r => ?_))
  split
  · exact s_ro_if s_ro_no (s_ro_nx hle)
  · exact s_ro_no
theorem s_ro_aast {pc : Nat} {L L' : s_L} {st : List Value} {h : s_H} (hle : s_le L L') : s_ro (s_aast pc L st h) (s_aast pc L' st h) := by
  unfold s_aast
  split
  · split
    · refine s_ro_if s_ro_no ?_
      split
      · exact s_ro_nx hle
      · split
        · exact s_ro_nx hle
        · exact s_ro_no
      · exact s_ro_no
    · exact s_ro_no
  · exact s_ro_no
theorem s_ro_alen {pc : Nat} {L L' : s_L} {st : List Value} {h : s_H} (hle : s_le L L') : s_ro (s_alen pc L st h) (s_alen pc L' st h) := by
  unfold s_alen
  refine s_ro_r1 (fun a r => ?_)
  split
  · exact s_ro_nx hle
  · split
    · exact s_ro_nx hle
    · split
      · split
        · split
          · exact s_ro_nx hle
          · exact s_ro_no
        · exact s_ro_no
      · exact s_ro_no
theorem s_ro_mka {pc k : Nat} {L L' : s_L} {st : List Value} {h : s_H} (hle : s_le L L') : s_ro (s_mka pc k L st h) (s_mka pc k L' st h) := by
  unfold s_mka
  refine s_ro_i1 (fun x r => s_ro_if s_ro_no ?_)
  split
  · exact s_ro_nx hle
  · exact s_ro_no
theorem s_ro_mko {pc c : Nat} {L L' : s_L} {st : List Value} {h : s_H} (hle : s_le L L') : s_ro (s_mko pc c L st h) (s_mko pc c L' st h) := by
  unfold s_mko
  split
  · exact s_ro_no
  · split
    · split
      · exact s_ro_nx hle
      · exact s_ro_no
    · exact s_ro_no
theorem s_ro_acp {pc : Nat} {L L' : s_L} {st : List Value} {h : s_H} (hle : s_le L L') : s_ro (s_acp pc L st h) (s_acp pc L' st h) := by
  unfold s_acp
  split
  · refine s_ro_if s_ro_no ?_
    split
    · exact s_ro_nx hle
    · split
      · exact s_ro_nx hle
      · exact s_ro_no
  · exact s_ro_no
theorem s_ro_call {md n : Nat} {st : List Value} : s_ro (s_call md n st) (s_call md n st) := by
  unfold s_call
  split
  · exact s_ro_rt _
  · exact s_ro_no
theorem s_ro_inv {w pc : Nat} {e : Nat × Nat × Nat} {L L' : s_L} {st : List Value} {h : s_H} (hle : s_le L L') : s_ro (s_inv w pc e L st h) (s_inv w pc e L' st h) := by
  unfold s_inv
  split
  · split
    · split
      · exact s_ro_call
      · exact s_ro_no
    · exact s_ro_no
  · exact s_ro_call
  · split
    · exact s_ro_call
    · exact s_ro_no
  · split
    · exact s_ro_call
    · exact s_ro_no
  · refine s_ro_r1 (fun _ r => ?_)
    split
    · exact s_ro_nx hle
    · exact s_ro_no
  · exact s_ro_acp hle
  · exact s_ro_call
  · refine s_ro_ii (fun _ _ r => ?_)
    split
    · exact s_ro_nx hle
    · exact s_ro_no
  · refine s_ro_ii (fun _ _ r => ?_)
    split
    · exact s_ro_nx hle
    · exact s_ro_no
  · refine s_ro_r1 (fun a r => s_ro_if s_ro_no ?_)
    split
    · split
      · exact s_ro_nx hle
      · exact s_ro_no
    · exact s_ro_no
  · refine s_ro_ir (fun i a r => s_ro_if s_ro_no ?_)
    split
    · split
      · exact s_ro_if s_ro_no (s_ro_nx hle)
      · exact s_ro_no
    · exact s_ro_no
  · exact s_ro_no
theorem s_ro_mt {α : Type} {x : Option α} {f g : α → Option s_O} (h : ∀ y, s_ro (f y) (g y)) : s_ro (match x with
    | some y => f y
    | none => none) (match x with
    | some y => g y
    | none => none) := by
  cases x with
  | none => exact s_ro_no
  | some y => exact h y
set_option maxHeartbeats 4000000 in
theorem s_ro_ex {cp : s_C} {own : Nat} {ini : Bool} {rt : Option FieldType} {pc : Nat} {i : Instr} {tg : Nat} {L L' : s_L} {st : List Value} {h : s_H} (hle : s_le L L') : s_ro (s_ex cp own ini rt pc i tg L st h) (s_ex cp own ini rt pc i tg L' st h) := by
  cases i with
  | aconst_null => exact s_ro_nx hle
  | iconst n => exact s_ro_nx hle
  | bipush n => exact s_ro_nx hle
  | sipush n => exact s_ro_nx hle
  | lconst n => exact s_ro_nx hle
  | iload_n k => exact s_ro_ild hle
  | iload k => exact s_ro_ild hle
  | lload_n k => exact s_ro_lld hle
  | lload k => exact s_ro_lld hle
  | aload_n k => exact s_ro_ald hle
  | aload k => exact s_ro_ald hle
  | istore_n k => exact s_ro_ist hle
  | istore k => exact s_ro_ist hle
  | lstore_n k => exact s_ro_lst hle
  | lstore k => exact s_ro_lst hle
  | astore_n k => exact s_ro_ast hle
  | astore k => exact s_ro_ast hle
  | iinc k n =>
    unfold s_ex
    dsimp only
    split
    · rename_i x hx
      rw [s_le_at hle hx]
      exact s_ro_nx (s_le_s1 _ _ hle)
    · exact s_ro_no
  | iadd => exact s_ro_ii (fun _ _ _ => s_ro_nx hle)
  | isub => exact s_ro_ii (fun _ _ _ => s_ro_nx hle)
  | imul => exact s_ro_ii (fun _ _ _ => s_ro_nx hle)
  | iand => exact s_ro_ii (fun _ _ _ => s_ro_nx hle)
  | ior => exact s_ro_ii (fun _ _ _ => s_ro_nx hle)
  | ixor => exact s_ro_ii (fun _ _ _ => s_ro_nx hle)
  | ishl => exact s_ro_ii (fun _ _ _ => s_ro_nx hle)
  | ishr => exact s_ro_ii (fun _ _ _ => s_ro_nx hle)
  | iushr => exact s_ro_ii (fun _ _ _ => s_ro_nx hle)
  | idiv => exact s_ro_ii (fun _ _ _ => s_ro_if s_ro_no (s_ro_nx hle))
  | irem => exact s_ro_ii (fun _ _ _ => s_ro_if s_ro_no (s_ro_nx hle))
  | ineg => exact s_ro_i1 (fun _ _ => s_ro_nx hle)
  | i2l => exact s_ro_i1 (fun _ _ => s_ro_nx hle)
  | i2b => exact s_ro_i1 (fun _ _ => s_ro_nx hle)
  | ladd => exact s_ro_ll (fun _ _ _ => s_ro_nx hle)
  | lsub => exact s_ro_ll (fun _ _ _ => s_ro_nx hle)
  | lmul => exact s_ro_ll (fun _ _ _ => s_ro_nx hle)
  | land => exact s_ro_ll (fun _ _ _ => s_ro_nx hle)
  | lcmp => exact s_ro_ll (fun _ _ _ => s_ro_nx hle)
  | ldiv => exact s_ro_ll (fun _ _ _ => s_ro_if s_ro_no (s_ro_nx hle))
  | lrem => exact s_ro_ll (fun _ _ _ => s_ro_if s_ro_no (s_ro_nx hle))
  | l2i => exact s_ro_l1 (fun _ _ => s_ro_nx hle)
  | lshr => exact s_ro_i1 (fun _ _ => s_ro_l1 (fun _ _ => s_ro_nx hle))
  | dup =>
    unfold s_ex
    dsimp only
    split
    · split
      · exact s_ro_nx hle
      · exact s_ro_no
    · exact s_ro_no
  | dup2 =>
    unfold s_ex
    dsimp only
    split
    · split
      · exact s_ro_nx hle
      · exact s_ro_no
    · exact s_ro_no
  | pop =>
    unfold s_ex
    dsimp only
    split
    · split
      · exact s_ro_nx hle
      · exact s_ro_no
    · exact s_ro_no
  | ifCond o _ => exact s_ro_i1 (fun _ _ => by cases o <;> exact s_ro_br hle)
  | if_icmp o _ => exact s_ro_ii (fun _ _ _ => by cases o <;> exact s_ro_br hle)
  | if_acmp o _ =>
    unfold s_ex
    dsimp only
    split
    · split
      · cases o <;> exact s_ro_br hle
      · exact s_ro_no
    · exact s_ro_no
  | ifnull _ =>
    unfold s_ex
    dsimp only
    split
    · exact s_ro_nx hle
    · exact s_ro_nx hle
    · exact s_ro_no
  | ifnonnull _ =>
    unfold s_ex
    dsimp only
    split
    · exact s_ro_nx hle
    · exact s_ro_nx hle
    · exact s_ro_no
  | goto _ => exact s_ro_nx hle
  | tableswitch d lo hi offs => exact s_ro_i1 (fun _ _ => s_ro_if (s_ro_ts hle _ _) s_ro_no)
  | lookupswitch d ps => exact s_ro_i1 (fun _ _ => s_ro_ls hle _)
  | getfield x =>
    unfold s_ex
    dsimp only
    split
    · exact s_ro_gf hle
    · exact s_ro_no
  | putfield x =>
    unfold s_ex
    dsimp only
    split
    · exact s_ro_pf hle
    · exact s_ro_no
  | getstatic x =>
    unfold s_ex
    dsimp only
    split
    · exact s_ro_nx hle
    · exact s_ro_no
  | ldc x =>
    unfold s_ex
    dsimp only
    split
    · exact s_ro_nx hle
    · exact s_ro_nx hle
    · exact s_ro_no
  | ldc_w x =>
    unfold s_ex
    dsimp only
    split
    · exact s_ro_nx hle
    · exact s_ro_nx hle
    · exact s_ro_no
  | ldc2_w x =>
    unfold s_ex
    dsimp only
    split
    · exact s_ro_nx hle
    · exact s_ro_no
  | iaload => exact s_ro_iald hle
  | baload => exact s_ro_bald hle
  | laload => exact s_ro_lald hle
  | aaload => exact s_ro_aald hle
  | iastore => exact s_ro_iast hle
  | bastore => exact s_ro_bast hle
  | lastore => exact s_ro_last hle
  | aastore => exact s_ro_aast hle
  | arraylength => exact s_ro_alen hle
  | newarray t => exact s_ro_mka hle
  | anewarray x =>
    unfold s_ex
    dsimp only
    split
    · exact s_ro_mka hle
    · exact s_ro_no
  | new x =>
    unfold s_ex
    dsimp only
    split
    · exact s_ro_mko hle
    · split
      · exact s_ro_rt _
      · exact s_ro_no
  | invokevirtual x =>
    unfold s_ex
    dsimp only
    split
    · exact s_ro_inv hle
    · exact s_ro_no
  | invokestatic x =>
    unfold s_ex
    dsimp only
    split
    · exact s_ro_inv hle
    · exact s_ro_no
  | invokespecial x =>
    unfold s_ex
    dsimp only
    split
    · exact s_ro_inv hle
    · exact s_ro_no
  | ireturn =>
    show s_ro (s_ret rt st) (s_ret rt st)
    unfold s_ret
    split
    · exact s_ro_rt _
    · exact s_ro_if (s_ro_rt _) s_ro_no
    · exact s_ro_no
  | lreturn =>
    unfold s_ex
    dsimp only
    split
    · exact s_ro_rt _
    · exact s_ro_no
  | areturn =>
    unfold s_ex
    dsimp only
    split
    · exact s_ro_rt _
    · exact s_ro_rt _
    · exact s_ro_no
  | return_ =>
    unfold s_ex
    dsimp only
    split
    · exact s_ro_rt _
    · exact s_ro_no
  | _ => exact s_ro_no
theorem s_exq_le {q : s_M} {pc : Nat} {L L' : s_L} {st : List Value} {h : s_H} (hle : s_le L L') : s_ro (s_exq q pc L st h) (s_exq q pc L' st h) := by
  unfold s_exq
  split
  · exact s_ro_ex hle
  · exact s_ro_no
/-- from a place where more locals are known -/
theorem s_mny_more {f d : Nat} {q : s_M} : ∀ (n : Nat) (pc pc1 : Nat) (L L' L1 : s_L) (st st1 : List Value) (h h1 : s_H), s_le L L' → s_mny f d q n (pc, L, st, h) = some (pc1, L1, st1, h1) → ∃ L1', s_le L1 L1' ∧ s_mny f d q n (pc, L', st, h) = some (pc1, L1', st1, h1) := by
  intro n
  induction n with
  | zero =>
    intro pc pc1 L L' L1 st st1 h h1 hle hm
    cases hm
    exact ⟨L', hle, rfl⟩
  | succ n ih =>
    intro pc pc1 L L' L1 st st1 h h1 hle hm
    rw [s_mny] at hm
    dsimp only at hm
    split at hm
    · rename_i y ho
      obtain ⟨pc2, L2, st2, h2⟩ := y
      obtain ⟨i, len, tg, cp, hlo, hcp, hc⟩ := s_one_of ho
      have hq : ∀ o, s_ex cp q.2.2.2.2.1 q.2.2.2.2.2.1 q.2.2.2.1 pc i tg L st h = o → s_exq q pc L st h = o := by
        intro o ho
        unfold s_exq
        rw [hlo, hcp]
        exact ho
      have hro := s_exq_le (q := q) (pc := pc) (st := st) (h := h) hle
      rcases hc with ⟨a1, a2, a3, a4, ey, hex, hmo⟩ | ⟨r1, ey, -, -⟩ | ⟨w, x, md, vs, rest, d1, q1, px1, v, h3, ey, hex, hiv, rfl, hq1, hlen, hrun⟩
      · cases ey
        obtain ⟨L2', e2, hle2⟩ := hro.1 _ _ _ _ (hq _ hex)
        obtain ⟨L1', hle1, e1⟩ := ih _ _ _ _ _ _ _ _ _ hle2 hm
        refine ⟨L1', hle1, ?_⟩
        rw [s_mny, s_one_nx e2 hmo]
        exact e1
      · cases ey
      · cases ey
        have e2 := hro.2 _ (hq _ hex)
        obtain ⟨L1', hle1, e1⟩ := ih _ _ _ _ _ _ _ _ _ hle hm
        refine ⟨L1', hle1, ?_⟩
        rw [s_mny, s_one_call e2 (by unfold s_isq; rw [hlo]; dsimp only; rw [hiv]) hq1 hlen hrun]
        exact e1
    · cases hm
end
section
-- THE LAW's beginning, from its entry to its loop's head, in the pure machine: by evaluation
def s_hz : s_H := (0, 0, true, fun _ _ => 0, fun _ _ => 0, fun _ _ => none)
def s_x1 : Option s_S := s_mny 20000 20 s_m282 13 (0, s_ent [.ref 1200] 7, [], s_hz)
def s_hOf (o : Option s_S) : s_H := match o with
  | some x => x.2.2.2
  | none => s_hz
theorem s_hOf_some (x : s_S) : s_hOf (some x) = x.2.2.2 := rfl
def s_h1 : s_H := s_hOf s_x1
theorem s_h1_def : s_h1 = s_hOf s_x1 := by unfold s_h1; with_reducible rfl
def s_L1 (i : Int32) : s_L := [some (.ref 1200), some (.ref 0), some (.ref 130), some (.ref 152), some (.int i), none, none]
set_option maxRecDepth 1000000 in
theorem s_x1_ok : (match s_x1 with
  | some x => Nat.beq x.1 23 && (decide (x.2.1 = s_L1 0) && (decide (x.2.2.1 = []) && (Nat.beq x.2.2.2.1 153 && (Nat.beq x.2.2.2.2.1 7386 && x.2.2.2.2.2.1))))
  | none => false) = true := by decide +kernel
theorem s_x1_eq : s_x1 = some (23, s_L1 0, [], s_h1) ∧ s_h1.1 = 153 ∧ s_h1.2.1 = 7386 ∧ s_h1.2.2.1 = true := by
  have h := s_x1_ok
  have e := s_h1_def
  cases hx : s_x1 with
  | none => rw [hx] at h; cases h
  | some x =>
    rw [hx] at h e
    obtain ⟨a, b, c, d⟩ := x
    simp only [Bool.and_eq_true, decide_eq_true_eq] at h
    obtain ⟨h1, h2, h3, h4, h5, h6⟩ := h
    have e1 := Nat.eq_of_beq_eq_true h1
    have e4 := Nat.eq_of_beq_eq_true h4
    have e5 := Nat.eq_of_beq_eq_true h5
    subst e1 h2 h3
    rw [s_hOf_some] at e
    rw [e]
    exact ⟨rfl, e4, e5, h6⟩
end
section
-- WHAT HOLDS AT THE LAW's ENTRY, in the pure machine's words
def s_lsp : List Nat := [632, 664, 677, 687, 693, 695, 697, 2036, 2037, 2038, 2039, 1141, 1143, 1145, 1121, 1124, 1126, 1240, 1237, 1201, 1206, 1208, 1210, 1212, 1214, 1216, 1218, 1220, 1222]
abbrev s_wT (i : Nat) : Term := .static RX10 (s_wn.getD i "") "LCampAshes$Word;"
abbrev s_sT (i : Nat) : Term := .string "CampAshes" (([292, 300, 302] : List Nat).getD i 0)
abbrev s_aT : Term := .static RX10 "ALL" "[LCampAshes$Word;"
abbrev s_vT (i : Nat) : Term := .field (s_sT i) "java/lang/String" "value" "[B"
set_option maxRecDepth 100000 in
theorem s_a1 : ∀ i, i < 29 → s_wAt (s_lsp.getD i 0) (.laysStatic RX10 (s_wn.getD i "") "LCampAshes$Word;") = true := by decide +kernel
set_option maxRecDepth 100000 in
theorem s_a2 : ∀ i, i < 29 → Cond.exactly (s_wT i) RX10 ∈ flatC (Jvm.Cond.and given_1 narrow_1) := by decide +kernel
set_option maxRecDepth 100000 in
theorem s_a3 : ∀ i, i < 29 → Cond.eq (.field (s_wT i) RX10 "letters" "J") (.long (s_wl.getD i 0)) ∈ flatC (Jvm.Cond.and given_1 narrow_1) := by decide +kernel
set_option maxRecDepth 100000 in
theorem s_a4 : ∀ i, i < 29 → Cond.eq (.field (s_wT i) RX10 "kind" "I") (.int (s_wk i)) ∈ flatC (Jvm.Cond.and given_1 narrow_1) := by decide +kernel
set_option maxRecDepth 100000 in
theorem s_a5 : ∀ i, i < 29 → Cond.eq (.elem s_aT (.int (Int32.ofNat i))) (s_wT i) ∈ flatC (Jvm.Cond.and given_1 narrow_1) := by decide +kernel
set_option maxRecDepth 100000 in
theorem s_a6 : Cond.arrayOf s_aT (.object RX10) ∈ flatC (Jvm.Cond.and given_1 narrow_1) ∧ Cond.eq (.length s_aT) (.int 29) ∈ flatC (Jvm.Cond.and given_1 narrow_1) := by decide +kernel
set_option maxRecDepth 100000 in
theorem s_a7 : ∀ i, i < 3 → Cond.exactly (s_sT i) "java/lang/String" ∈ flatC (Jvm.Cond.and given_1 narrow_1) ∧ Cond.eq (.field (s_sT i) "java/lang/String" "coder" "B") (.int 0) ∈ flatC (Jvm.Cond.and given_1 narrow_1) ∧ Cond.arrayOf (s_vT i) .byte ∈ flatC (Jvm.Cond.and given_1 narrow_1) ∧ Cond.eq (.length (s_vT i)) (.int (Int32.ofNat (s_txs.getD i []).length)) ∈ flatC (Jvm.Cond.and given_1 narrow_1) := by decide +kernel
set_option maxRecDepth 100000 in
theorem s_a8 : ∀ i, i < 3 → ∀ j, j < (s_txs.getD i []).length → Cond.eq (.elem (s_vT i) (.int (Int32.ofNat j))) (.int ((s_txs.getD i []).getD j 0)) ∈ flatC (Jvm.Cond.and given_1 narrow_1) := by decide +kernel
set_option maxRecDepth 100000 in
theorem s_a9 : Cond.eq (.static "java/lang/String" "COMPACT_STRINGS" "Z") (.int 1) ∈ flatC (Jvm.Cond.and given_1 narrow_1) ∧ Cond.isRef (.static "jdk/internal/util/Preconditions" "SIOOBE_FORMATTER" "Ljava/util/function/BiFunction;") ∈ flatC (Jvm.Cond.and given_1 narrow_1) := by decide +kernel
theorem s_a10 : (s_nws.zip [150, 300, 346, 378, 443, 452, 469, 502, 512]).all (fun x => s_wAt x.2 x.1) = true ∧ s_nws.length = 9 := by decide +kernel
theorem s_a11 : s_wAt 351 (.arrayOver (.object RX10)) = true ∧ s_wAt 428 (.arrayOver (.object RX8)) = true ∧ s_wAt 441 (.arrayOver (.object RX5)) = true := by decide +kernel
theorem s_a12 : s_wAt 618 (.laysStatic RX10 "ALL" "[LCampAshes$Word;") = true ∧ s_wAt 129 (.initialized RX10) = true ∧ s_wAt 1030 (.laysStatic "java/lang/String" "COMPACT_STRINGS" "Z") = true ∧ s_wAt 136 (.initialized "java/lang/String") = true ∧ s_wAt 1046 (.laysStatic "jdk/internal/util/Preconditions" "SIOOBE_FORMATTER" "Ljava/util/function/BiFunction;") = true ∧ s_wAt 138 (.initialized "jdk/internal/util/Preconditions") = true := by decide +kernel
theorem s_a13 : ∀ i, i < 3 → s_wAt (([1016, 1073, 1075] : List Nat).getD i 0) (.stringRef "CampAshes" (([292, 300, 302] : List Nat).getD i 0) (s_sx.getD i "")) = true := by decide +kernel
theorem s_a14 : ∀ z ∈ s_cp11.2.2.2.2, (match z.2 with
  | .ref a => decide (1300 ≤ a ∧ a < 1303 ∧ z.1 = (([292, 300, 302] : List Nat).getD (a - 1300) 0))
  | _ => true) = true := by decide +kernel
theorem s_a15 : ∀ i, i < 29 → ∀ j, j < 29 → s_wl.getD i 0 = s_wl.getD j 0 → i = j := by decide +kernel
theorem s_a16 : s_R 11 = "CampAshes" := by decide +kernel
def s_arC : List Cond := [.arrayClass .byte, .arrayClass .int, .arrayClass .long, .arrayClass .boolean]
set_option maxHeartbeats 2000000 in
theorem s_start {s : State} {b L : Nat} {xs : Nat → Int32} (hts : ∀ w ∈ lw_tbl, w.before #[Value.ref b] s = true) (hgv : (Jvm.Cond.and given_1 narrow_1).before #[Value.ref b] s = true) (hX : va_X b L xs s s.heap) (hbl : b < s.heap.size) (hL : L ≤ 3072) :
    ∃ (ρ : Nat → Nat) (D : va_G) (cid : Nat → ClassId), s_SR s.heap.size ρ D cid xs L s ∧ (∀ a, a < 1000 → ρ a = s.heap.size + a) ∧ (∀ a b, 1000 ≤ a → a < 1029 → 1000 ≤ b → b < 1029 → ρ a = ρ b → a = b) ∧ ρ 1200 = b := by
  have hs := flat_of_before _ hgv
  have hA : ∀ a : Nat, a < s.heap.size → ¬ s_A s.heap.size a := fun a h => Nat.not_le.mpr h
  have hini := hts _ (s_wAt_mem s_a12.2.1)
  -- the enum's constants
  have hw : ∀ i : Nat, ∃ t : Nat, i < 29 → (s_wT i).eval #[Value.ref b] s none [] s = some (.ref t) ∧ va_O RX10 t (s_A s.heap.size) s s.heap ∧ va_Any RX10 s s.heap t := by
    intro i
    by_cases hi : i < 29
    · obtain ⟨a, c, cell, k, q1, q2, q3, q4, q5, q6, -⟩ := Cond.exactly_spec (hs _ (s_a2 i hi))
      refine ⟨a, fun _ => ⟨q1, ⟨cell, q3, q5, by rw [q6]; exact q2, hA a (Array.getElem?_eq_some_iff.mp q3).1⟩, ⟨cell, q3, q5, ⟨k, by rw [q6]; exact q4⟩, fun comp hc => ?_⟩⟩⟩
      rw [q6]
      cases q2.symm.trans hc
      exact va_asg _ _
    · exact ⟨0, fun h => absurd h hi⟩
  obtain ⟨ad, had⟩ := Classical.axiomOfChoice hw
  have hle : ∀ i, i < 29 → va_OF RX10 "letters" "J" (.long (s_wl.getD i 0)) (ad i) (s_A s.heap.size) s s.heap := fun i hi => vk_OFof (had i hi).1 (va_eqtl (hs _ (s_a3 i hi))) hA
  have hki : ∀ i, i < 29 → va_OF RX10 "kind" "I" (.int (s_wk i)) (ad i) (s_A s.heap.size) s s.heap := fun i hi => vk_OFof (had i hi).1 (va_eqt (hs _ (s_a4 i hi))) hA
  have hinj : ∀ i j, i < 29 → j < 29 → ad i = ad j → i = j := by
    intro i j hi hj e
    obtain ⟨cf, k, fi, f, cell, e1, e2, e3, e4, e5, e6⟩ := hle i hi
    obtain ⟨cf', k', fi', f', cell', g1, g2, g3, g4, g5, g6⟩ := hle j hj
    cases e1.symm.trans g1
    rw [e] at e3
    cases e3.symm.trans g3
    have := e5.symm.trans g5
    exact s_a15 i hi j hj (by injection this with h1; injection h1)
  -- the row of all of them
  obtain ⟨tA, htA, hTA⟩ := va_Tof (N := 29) (f := fun j => .ref (ad j)) (A := s_A s.heap.size) (by decide) (hs _ s_a6.1) (va_eqt (hs _ s_a6.2)) (fun j hj => va_eqv (hs _ (s_a5 j hj)) (had j hj).1) hA
  -- texts
  have hst : ∀ i : Nat, ∃ q : Nat × Nat, i < 3 → (s_sT i).eval #[Value.ref b] s none [] s = some (.ref q.1) ∧ va_O "java/lang/String" q.1 (s_A s.heap.size) s s.heap ∧ va_OF "java/lang/String" "coder" "B" (.int 0) q.1 (s_A s.heap.size) s s.heap ∧ va_OF "java/lang/String" "value" "[B" (.ref q.2) q.1 (s_A s.heap.size) s s.heap ∧ va_T .byte q.2 (s_txs.getD i []).length (fun j => .int ((s_txs.getD i []).getD j 0)) (s_A s.heap.size) s s.heap := by
    intro i
    by_cases hi : i < 3
    · obtain ⟨m1, m2, m3, m4⟩ := s_a7 i hi
      obtain ⟨a, c, cA, kA, q1, q2, q3, q4, q5, q6, -⟩ := Cond.exactly_spec (hs _ m1)
      have hlen : (s_txs.getD i []).length < 2 ^ 31 := by
        have : ∀ i, i < 3 → (s_txs.getD i []).length < 100 := by decide +kernel
        exact Nat.lt_trans (this i hi) (by decide)
      obtain ⟨t, ht, hT⟩ := va_Tof (N := (s_txs.getD i []).length) (f := fun j => .int ((s_txs.getD i []).getD j 0)) (A := s_A s.heap.size) hlen (hs _ m3) (va_eqt (hs _ m4)) (fun j hj => va_eqt (hs _ (s_a8 i hi j hj))) hA
      exact ⟨(a, t), fun _ => ⟨q1, ⟨cA, q3, q5, by rw [q6]; exact q2, hA a (Array.getElem?_eq_some_iff.mp q3).1⟩, vk_OFof q1 (va_eqt (hs _ m2)) hA, vk_OFof q1 ht hA, hT⟩⟩
    · exact ⟨(0, 0), fun h => absurd h hi⟩
  obtain ⟨sd, hsd⟩ := Classical.axiomOfChoice hst
  -- classes
  have hgw : ∀ w ∈ s_gw, w.before #[Value.ref b] s = true := fun w hw => hts w (s_gw_good hw).1
  have hcl : ∀ c : Nat, ∃ x : ClassId × (Nat → Nat), ∀ q : vw_C, s_cl2[c]? = some q → u_Kn s q.1 q.2.1 q.2.2 x.1 x.2 := by
    intro c
    have one : ∀ k, k < 13 → k ≠ 10 → ∃ x : ClassId × (Nat → Nat), u_Kn s (s_R k) (s_Tx k) (s_nf k) x.1 x.2 := by
      intro k hk h10
      obtain ⟨o1, o2, o3, o4, o5, o6, o7, o8, o9, o10⟩ := s_okC k hk h10
      obtain ⟨cC, iS, hk2⟩ := u_known (ws := s_gw) (N := s_nf k) (n := s_nf k) hgw (fun w hw => s_gw_mem (o3 w hw).1 (o3 w hw).2) (hts _ o9)
      exact ⟨(cC, iS), hk2⟩
    by_cases hc : c < 13
    · by_cases h10 : c = 10
      · subst h10
        obtain ⟨x, hx⟩ := one 0 (by omega) (by omega)
        refine ⟨x, fun q hq => ?_⟩
        cases hq
        exact hx
      · obtain ⟨x, hx⟩ := one c hc h10
        refine ⟨x, fun q hq => ?_⟩
        cases (s_okC c hc h10).1.symm.trans hq
        exact hx
    · refine ⟨(0, fun _ => 0), fun q hq => ?_⟩
      have : c < s_cl2.length := (List.getElem?_eq_some_iff.mp hq).1
      have h13 : s_cl2.length = 13 := rfl
      omega
  obtain ⟨dx, hdx⟩ := Classical.axiomOfChoice hcl
  -- rows' classes
  have prim : ∀ ty : FieldType, Cond.arrayClass ty ∈ lw_tbl → (∀ C, ty ≠ .object C) → ∃ cA, ArrOfT s cA ty ∧ va_RA s cA ty := by
    intro ty hm hno
    obtain ⟨c, k, comp, h1, h2, h3⟩ := Cond.arrayClass_spec (hts _ hm)
    refine ⟨c, fun n z => ⟨fun k h => (by cases h), k, h2, comp, h3⟩, ?_⟩
    cases ty with
    | object C => exact absurd rfl (hno C)
    | _ => exact h1
  have obj : ∀ C : String, Cond.arrayOver (.object C) ∈ lw_tbl → ∃ cA, ArrOfT s cA (.object C) ∧ va_RA s cA (.object C) := by
    intro C hm
    obtain ⟨comp, c, k, h1, h2, h3, h4, h5⟩ := Cond.arrayOver_spec (hts _ hm)
    exact ⟨c, fun n z => ⟨fun k h => (by cases h), k, h3, comp, h4⟩, k, comp, h3, h4, h1, h5⟩
  obtain ⟨c0, p0⟩ := prim .byte s_wa100 (fun C h => by cases h)
  obtain ⟨c1, p1⟩ := prim .int s_wa101 (fun C h => by cases h)
  obtain ⟨c2, p2⟩ := prim .long s_wa102 (fun C h => by cases h)
  obtain ⟨c3, p3⟩ := prim .boolean s_wa103 (fun C h => by cases h)
  obtain ⟨c4, p4⟩ := obj RX10 (s_wAt_mem s_a11.1)
  obtain ⟨c5, p5⟩ := obj RX8 (s_wAt_mem s_a11.2.1)
  obtain ⟨c6, p6⟩ := obj RX5 (s_wAt_mem s_a11.2.2)
  let cid : Nat → ClassId := fun k => ([c0, c1, c2, c3, c4, c5, c6] : List ClassId).getD (k - 100) 0
  let ρ : Nat → Nat := fun a => if a < 1000 then s.heap.size + a else if a < 1029 then ad (a - 1000) else if a = 1100 then tA else if a = 1200 then b else if a < 1300 then 0 else (sd (a - 1300)).1
  have r1 : ∀ i, i < 29 → ρ (1000 + i) = ad i := by
    intro i hi
    show (if 1000 + i < 1000 then _ else if 1000 + i < 1029 then ad (1000 + i - 1000) else _) = _
    rw [if_neg (by omega), if_pos (by omega), Nat.add_sub_cancel_left]
  have r2 : ρ 1100 = tA := rfl
  have r3 : ρ 1200 = b := rfl
  have r4 : ∀ i, i < 3 → ρ (1300 + i) = (sd i).1 := by
    intro i hi
    show (if 1300 + i < 1000 then _ else if 1300 + i < 1029 then _ else if 1300 + i = 1100 then _ else if 1300 + i = 1200 then _ else if 1300 + i < 1300 then _ else (sd (1300 + i - 1300)).1) = _
    rw [if_neg (by omega), if_neg (by omega), if_neg (by omega), if_neg (by omega), if_neg (by omega), Nat.add_sub_cancel_left]
  refine ⟨ρ, (fun c => (dx c).1, fun c => (dx c).2), cid, ⟨⟨fun c q hq => hdx c q hq, ?_⟩, ?_, ⟨hts _ (s_wAt_mem s_a11.1), hts _ (s_wAt_mem s_a11.2.1), hts _ (s_wAt_mem s_a11.2.2)⟩, ⟨fun i hi => ?_, ?_⟩, fun i hi => ?_, ?_, ⟨hX, hA b hbl, hbl, by omega⟩, ⟨?_, ?_, ?_, ?_⟩, Nat.le_refl _⟩, fun a ha => if_pos ha, ?_, rfl⟩
  · intro k q hk
    match k, hk with
    | 0, hk => cases hk; exact p0
    | 1, hk => cases hk; exact p1
    | 2, hk => cases hk; exact p2
    | 3, hk => cases hk; exact p3
    | 4, hk => cases hk; exact p4
    | 5, hk => cases hk; exact p5
    | 6, hk => cases hk; exact p6
    | k + 7, hk => cases hk
  · intro w hw
    obtain ⟨pp, hp⟩ := s_zip (fun w p => s_wAt p w) s_nws [150, 300, 346, 378, 443, 452, 469, 502, 512] s_a10.2 s_a10.1 w hw
    have h1 := hts _ (s_wAt_mem hp)
    have h2 := s_nws_N w hw
    cases w with
    | fieldLinkNest a b c d e f => exact va_Nw.of rfl h1
    | methodLinkNest a b c d => exact va_Nw.of rfl h1
    | _ => cases h2
  · rw [r1 i hi]
    exact va_Zref (hts _ (s_wAt_mem (s_a1 i hi))) hini (had i hi).1 hA
  · rw [r2]
    exact va_Zref (hts _ (s_wAt_mem s_a12.1)) hini htA hA
  · rw [r1 i hi]
    exact ⟨hle i hi, hki i hi, (had i hi).2.1, (had i hi).2.2⟩
  · rw [r2]
    obtain ⟨cell, h1, h2, h3, h4, h5, h6, h7⟩ := hTA
    exact ⟨cell, h1, h2, h3, h4, h5, fun j hj => by show _ = some (Value.ref (ρ (1000 + j))); rw [r1 j hj]; exact h6 j hj, h7⟩
  · intro k a hm
    have h1 := s_a14 _ hm
    dsimp only at h1
    have h2 := of_decide_eq_true h1
    obtain ⟨i, rfl⟩ := Nat.exists_eq_add_of_le h2.1
    have hi : i < 3 := Nat.lt_of_add_lt_add_left (show 1300 + i < 1300 + 3 from h2.2.1)
    rw [Nat.add_sub_cancel_left] at h2
    rw [Nat.add_sub_cancel_left, r4 i hi, h2.2.2, s_a16]
    exact vk_R.of (hts _ (s_wAt_mem (s_a13 i hi))) (hsd i hi).1
  · intro i hi
    rw [r4 i hi]
    exact ⟨(sd i).2, (hsd i hi).2⟩
  · exact va_Zof (hts _ (s_wAt_mem s_a12.2.2.1)) (hts _ (s_wAt_mem s_a12.2.2.2.1)) (va_eqi (hs _ s_a9.1)) hA
  · exact va_Zqof (hts _ (s_wAt_mem s_a12.2.2.2.2.1)) (hts _ (s_wAt_mem s_a12.2.2.2.2.2)) (hs _ s_a9.2) hA
  · intro x y h1 h2 h3 h4 e
    obtain ⟨i, rfl⟩ := Nat.exists_eq_add_of_le h1
    obtain ⟨j, rfl⟩ := Nat.exists_eq_add_of_le h3
    rw [r1 i (by omega), r1 j (by omega)] at e
    rw [hinj i j (by omega) (by omega) e]
end
section
-- THE HEAP once all cells are made: which cell each reference holds; four rows of words and the word at hand may change
def s_hr0 : List (Nat × List (Option Nat)) := [(0, [some 1, none, some 3, some 10, some 17, some 22, some 27, some 32, some 37, some 43, some 85, some 122, some 127, some 128, some 129]), (1, [some 2]), (3, [none, none, some 4, some 5, some 6, some 7, some 8, some 9]), (10, [none, none, some 11, some 12, some 13, some 14, some 15, some 16]), (17, [some 3, some 18, some 19, some 20, some 21]), (22, [some 3, some 23, some 24, some 25, some 26]), (27, [some 28, some 29, some 30, some 31]), (32, [some 33, some 34, some 35, some 36]), (37, [some 38, some 39, some 40, some 41, some 42]), (43, [some 44]), (44, [some 45, some 50, some 55, some 60, some 65, some 70, some 75, some 80]), (45, [some 3, some 46, some 47, some 48, some 49]), (50, [some 3, some 51, some 52, some 53, some 54]), (55, [some 3, some 56, some 57, some 58, some 59]), (60, [some 3, some 61, some 62, some 63, some 64]), (65, [some 3, some 66, some 67, some 68, some 69]), (70, [some 3, some 71, some 72, some 73, some 74]), (75, [some 3, some 76, some 77, some 78, some 79]), (80, [some 3, some 81, some 82, some 83, some 84]), (85, [some 86, some 104]), (86, [some 87, some 94, some 99]), (87, [none, none, some 88, some 89, some 90, some 91, some 92, some 93]), (94, [some 87, some 95, some 96, some 97, some 98]), (99, [some 100, some 101, some 102, some 103]), (104, [some 105, some 112, some 117]), (105, [none, none, some 106, some 107, some 108, some 109, some 110, some 111]), (112, [some 105, some 113, some 114, some 115, some 116]), (117, [some 118, some 119, some 120, some 121]), (122, [some 123, none, some 124, none, none, some 125, some 126]), (130, [none, some 131, none, none, none, none, none, none, none, none, none, none, none, none, some 132, some 133, some 134, some 135, some 136, some 137, some 138, some 139, some 140, some 141, some 142, none, some 143, some 144, none, some 145, none, none, none, some 146, none, some 147, some 148, none, none, some 149, some 150, none, none, some 151])]
def s_mut (a k : Nat) : Bool := Nat.beq a 28 || Nat.beq a 33 || Nat.beq a 100 || Nat.beq a 118 || (Nat.beq a 1 && Nat.beq k 9)
def s_hrf (r : Nat → Nat → Option Nat) : Nat → Nat → Option Nat := fun a k => match s_mut a k with
  | true => r a k
  | false => (match s_look s_hr0 a with
    | some l => (match l[k]? with
      | some x => x
      | none => none)
    | none => none)
/-- ints, longs, the references that change -/
abbrev s_G : Type := (Nat → Nat → Int32) × (Nat → Nat → Int64) × (Nat → Nat → Option Nat)
def s_hg (g : s_G) : s_H := (153, 7386, false, g.1, g.2.1, s_hrf g.2.2)
theorem s_hrf_up {r : Nat → Nat → Option Nat} {a k : Nat} {v : Option Nat} (hm : s_mut a k = true) : s_up (s_hrf r) a k v = s_hrf (s_up r a k v) := by
  funext b j
  by_cases hb : b = a
  · subst hb
    rw [s_up_s]
    unfold va_up
    by_cases hj : j = k
    · subst hj
      rw [if_pos rfl]
      unfold s_hrf
      rw [hm]
      dsimp only
      rw [s_up_s]
      unfold va_up
      rw [if_pos rfl]
    · rw [if_neg hj]
      unfold s_hrf
      cases s_mut b j with
      | true => dsimp only; rw [s_up_s]; unfold va_up; rw [if_neg hj]
      | false => rfl
  · rw [s_up_n _ _ _ hb]
    unfold s_hrf
    cases s_mut b j with
    | true => dsimp only; rw [s_up_n _ _ _ hb]
    | false => rfl
/-- a write of a reference that changes -/
theorem s_wR_hg {g : s_G} {a k : Nat} {v : Option Nat} (hm : s_mut a k = true) : s_wR (s_hg g) a k v = s_hg (g.1, g.2.1, s_up g.2.2 a k v) := by
  unfold s_wR s_hg
  dsimp only
  rw [s_hrf_up hm]
end
section
-- TO THE END OF A METHOD
def s_Fin (d : Nat) (q : s_M) (x : s_S) (v : Option Value) (h' : s_H) : Prop := ∃ px L' st', s_To d q x (px, L', st', h') ∧ s_exq q px L' st' h' = some (.inr (.inl (some v))) ∧ s_isx q px = true
theorem s_Fin.rt {d : Nat} {q : s_M} {pc : Nat} {L : s_L} {st : List Value} {h : s_H} {v : Option Value} (hex : s_exq q pc L st h = some (.inr (.inl (some v)))) (hE : s_isx q pc = true) : s_Fin d q (pc, L, st, h) v h := ⟨pc, L, st, s_To.rf, hex, hE⟩
theorem s_Fin.to {d : Nat} {q : s_M} {x y : s_S} {v : Option Value} {h' : s_H} (t : s_To d q x y) (k : s_Fin d q y v h') : s_Fin d q x v h' := by
  obtain ⟨px, L', st', t2, e1, e2⟩ := k
  exact ⟨px, L', st', t.tr t2, e1, e2⟩
theorem s_Fin.sg (n : Nat) {d : Nat} {q : s_M} {x y : s_S} {v : Option Value} {h' : s_H} (h : s_mny 0 0 q n x = some y) (k : s_Fin d q y v h') : s_Fin d q x v h' := s_Fin.to (s_To.sg n h s_To.rf) k
theorem s_Fin.nx {d : Nat} {q : s_M} {pc pc1 : Nat} {L L1 : s_L} {st st1 : List Value} {h h1 h' : s_H} {v : Option Value} (hex : s_exq q pc L st h = some (.inl (pc1, L1, st1, h1))) (hmo : s_mo h h1 = true) (k : s_Fin d q (pc1, L1, st1, h1) v h') : s_Fin d q (pc, L, st, h) v h' := s_Fin.to (s_To.nx hex hmo s_To.rf) k
theorem s_Fin.br {c : Prop} [Decidable c] {d : Nat} {q : s_M} {pc tg p2 : Nat} {L L1 : s_L} {st st1 : List Value} {h h' : s_H} {v : Option Value} (hex : s_exq q pc L st h = s_br c tg p2 L1 st1 h) (kt : c → s_Fin d q (tg, L1, st1, h) v h') (kf : ¬ c → s_Fin d q (p2 + 3, L1, st1, h) v h') : s_Fin d q (pc, L, st, h) v h' := by
  by_cases hc : c
  · exact s_Fin.nx (by rw [hex]; unfold s_br; rw [if_pos hc]; rfl) (s_mo_rf h) (kt hc)
  · exact s_Fin.nx (by rw [hex]; unfold s_br; rw [if_neg hc]; rfl) (s_mo_rf h) (kf hc)
theorem s_Fin.bt {c : Prop} [Decidable c] {d : Nat} {q : s_M} {pc tg p2 : Nat} {L L1 : s_L} {st st1 : List Value} {h h' : s_H} {v : Option Value} (hc : c) (hex : s_exq q pc L st h = s_br c tg p2 L1 st1 h) (k : s_Fin d q (tg, L1, st1, h) v h') : s_Fin d q (pc, L, st, h) v h' := s_Fin.br hex (fun _ => k) (fun hn => absurd hc hn)
theorem s_Fin.bf {c : Prop} [Decidable c] {d : Nat} {q : s_M} {pc tg p2 : Nat} {L L1 : s_L} {st st1 : List Value} {h h' : s_H} {v : Option Value} (hc : ¬ c) (hex : s_exq q pc L st h = s_br c tg p2 L1 st1 h) (k : s_Fin d q (p2 + 3, L1, st1, h) v h') : s_Fin d q (pc, L, st, h) v h' := s_Fin.br hex (fun hn => absurd hn hc) (fun _ => k)
theorem s_Fin.gd {c : Prop} [Decidable c] {d : Nat} {q : s_M} {pc pc1 : Nat} {L L1 : s_L} {st st1 : List Value} {h h1 h' : s_H} {v : Option Value} (hn : ¬ c) (hex : s_exq q pc L st h = if c then none else s_nx pc1 L1 st1 h1) (hmo : s_mo h h1 = true) (k : s_Fin d q (pc1, L1, st1, h1) v h') : s_Fin d q (pc, L, st, h) v h' := s_Fin.nx (by rw [hex, if_neg hn]; rfl) hmo k
theorem s_Fin.cl {d : Nat} {q q1 : s_M} {pc md : Nat} {L : s_L} {st vs rest : List Value} {h h1 h' : s_H} {u v : Option Value} (he : s_Ev d q1 vs h u h1) (hex : s_exq q pc L st h = some (.inr (.inr (md, vs, rest)))) (hi : s_isq q pc = true) (hq1 : s_ms[md]? = some q1) (hle : Nat.ble (s_en vs).length q1.2.2.1 = true) (k : s_Fin (d + 1) q (pc + 3, L, u.toList ++ rest, h1) v h') : s_Fin (d + 1) q (pc, L, st, h) v h' := s_Fin.to (s_To.cl hex hi hq1 (Nat.le_of_ble_eq_true hle) he s_To.rf) k
theorem s_Fin.up {d d' : Nat} {q : s_M} {x : s_S} {v : Option Value} {h' : s_H} (hd : d ≤ d') (k : s_Fin d q x v h') : s_Fin d' q x v h' := by
  obtain ⟨px, L', st', t, e1, e2⟩ := k
  exact ⟨px, L', st', t.up hd, e1, e2⟩
/-- more locals known -/
theorem s_Fin.more {d : Nat} {q : s_M} {pc : Nat} {L L' : s_L} {st : List Value} {h h' : s_H} {v : Option Value} (hle : s_le L L') (k : s_Fin d q (pc, L, st, h) v h') : s_Fin d q (pc, L', st, h) v h' := by
  obtain ⟨px, Lx, st', ⟨f, n, t⟩, e1, e2⟩ := k
  obtain ⟨Ly, hle2, t2⟩ := s_mny_more n _ _ _ _ _ _ _ _ _ hle t
  exact ⟨px, Ly, st', ⟨f, n, t2⟩, (s_exq_le hle2).2 _ e1, e2⟩
theorem s_Ev.fin {d : Nat} {q : s_M} {vs : List Value} {h h' : s_H} {v : Option Value} (k : s_Fin d q (0, s_ent vs q.2.2.1, [], h) v h') : s_Ev d q vs h v h' := by
  obtain ⟨px, L', st', t, e1, e2⟩ := k
  exact s_Ev.of t e1 e2
end
section
-- WHAT THE PURE FUNCTIONS ARE MADE OF: binds, loops, indices, words
def s_b1 {α β : Type} (o : Option α) (f : α → Option β) : Option β := match o with
  | none => none
  | some a => f a
def s_b2 {α β γ : Type} (o : Option (α × β)) (f : α → β → Option γ) : Option γ := match o with
  | none => none
  | some (a, b) => f a b
def s_in {α β : Type} (o : Option β) : Option (α ⊕ β) := match o with
  | none => none
  | some b => some (.inr b)
def s_sm {X R : Type} (P : X → Option Value → s_H → Prop) (Q : R → Option Value → s_H → Prop) (z : X ⊕ R) : Option Value → s_H → Prop := match z with
  | .inl x => P x
  | .inr r => Q r
theorem s_bd {α β : Type} {o : Option α} {f : α → Option β} {z : β} (h : s_b1 o f = some z) : ∃ a, o = some a ∧ f a = some z := by
  cases o with
  | none => cases h
  | some a => exact ⟨a, rfl, h⟩
theorem s_bd2 {α β γ : Type} {o : Option (α × β)} {f : α → β → Option γ} {z : γ} (h : s_b2 o f = some z) : ∃ a b, o = some (a, b) ∧ f a b = some z := by
  cases o with
  | none => cases h
  | some p => exact ⟨p.1, p.2, rfl, h⟩
theorem s_in_of {α β : Type} {o : Option β} {z : α ⊕ β} (h : s_in o = some z) : ∃ b, o = some b ∧ z = .inr b := by
  cases o with
  | none => cases h
  | some b => cases h; exact ⟨b, rfl, rfl⟩
theorem s_b1_s {α β : Type} (a : α) (f : α → Option β) : s_b1 (some a) f = f a := rfl
theorem s_b2_s {α β γ : Type} (a : α) (b : β) (f : α → β → Option γ) : s_b2 (some (a, b)) f = f a b := rfl
theorem s_in_s {α β : Type} (b : β) : (s_in (some b) : Option (α ⊕ β)) = some (.inr b) := rfl
-- loops
def s_it {X R : Type} (B : X → Option (X ⊕ R)) : Nat → X → Option R
  | 0, _ => none
  | n + 1, x => match B x with
    | none => none
    | some (.inl y) => s_it B n y
    | some (.inr r) => some r
theorem s_lp_ex {X R : Type} (B : X → Option (X ⊕ R)) (x : X) : ∃ o : Option R, (o = none ∧ ∀ n, s_it B n x = none) ∨ ∃ r n, o = some r ∧ s_it B n x = some r := by
  by_cases h : ∃ n r, s_it B n x = some r
  · obtain ⟨n, r, h⟩ := h
    exact ⟨some r, Or.inr ⟨r, n, rfl, h⟩⟩
  · refine ⟨none, Or.inl ⟨rfl, fun n => ?_⟩⟩
    cases hn : s_it B n x with
    | none => rfl
    | some r => exact absurd ⟨n, r, hn⟩ h
noncomputable def s_lp {X R : Type} (B : X → Option (X ⊕ R)) (x : X) : Option R := Classical.choose (s_lp_ex B x)
theorem s_lp_sp {X R : Type} (B : X → Option (X ⊕ R)) (x : X) : (s_lp B x = none ∧ ∀ n, s_it B n x = none) ∨ ∃ r n, s_lp B x = some r ∧ s_it B n x = some r := Classical.choose_spec (s_lp_ex B x)
theorem s_it_up {X R : Type} (B : X → Option (X ⊕ R)) (r : R) : ∀ (n k : Nat) (x : X), s_it B n x = some r → s_it B (n + k) x = some r := by
  intro n
  induction n with
  | zero => intro k x h; cases h
  | succ n ih =>
    intro k x h
    rw [show n + 1 + k = (n + k) + 1 by omega]
    rw [s_it] at h ⊢
    split at h
    · cases h
    · exact ih _ _ h
    · exact h
theorem s_it_eq {X R : Type} {B : X → Option (X ⊕ R)} {n k : Nat} {x : X} {r r' : R} (h : s_it B n x = some r) (h' : s_it B k x = some r') : r = r' := by
  have a := s_it_up B r n k x h
  have b := s_it_up B r' k n x h'
  rw [Nat.add_comm] at b
  rw [a] at b
  exact Option.some.inj b
theorem s_lp_of {X R : Type} {B : X → Option (X ⊕ R)} {n : Nat} {x : X} {r : R} (h : s_it B n x = some r) : s_lp B x = some r := by
  rcases s_lp_sp B x with ⟨_, hn⟩ | ⟨r', k, h1, h2⟩
  · rw [hn n] at h; cases h
  · rw [h1, s_it_eq h h2]
theorem s_lp_to {X R : Type} {B : X → Option (X ⊕ R)} {x : X} {r : R} (h : s_lp B x = some r) : ∃ n, s_it B n x = some r := by
  rcases s_lp_sp B x with ⟨hn, _⟩ | ⟨r', k, h1, h2⟩
  · rw [hn] at h; cases h
  · rw [h1] at h; cases h; exact ⟨k, h2⟩
theorem s_lp_out {X R : Type} {B : X → Option (X ⊕ R)} {x : X} {r : R} (h : B x = some (.inr r)) : s_lp B x = some r := s_lp_of (n := 1) (by rw [s_it, h])
theorem s_lp_in {X R : Type} {B : X → Option (X ⊕ R)} {x y : X} (h : B x = some (.inl y)) : s_lp B x = s_lp B y := by
  cases hy : s_lp B y with
  | none =>
    cases hx : s_lp B x with
    | none => rfl
    | some r =>
      obtain ⟨n, hn⟩ := s_lp_to hx
      cases n with
      | zero => cases hn
      | succ n =>
        rw [s_it, h] at hn
        have := s_lp_of (x := y) hn
        rw [hy] at this
        cases this
  | some r =>
    obtain ⟨n, hn⟩ := s_lp_to hy
    exact s_lp_of (n := n + 1) (by rw [s_it, h]; exact hn)
theorem s_lp_s {X R : Type} {B : X → Option (X ⊕ R)} {P : X → Option Value → s_H → Prop} {Q : R → Option Value → s_H → Prop} (hB : ∀ x z, B x = some z → ∀ v h, s_sm P Q z v h → P x v h) {x : X} {z : R} (h : s_lp B x = some z) : ∀ v h, Q z v h → P x v h := by
  intro v h' hq
  obtain ⟨n, hn⟩ := s_lp_to h
  clear h
  induction n generalizing x with
  | zero => cases hn
  | succ n ih =>
    rw [s_it] at hn
    split at hn
    · cases hn
    · rename_i y hy
      exact hB _ _ hy _ _ (ih hn)
    · rename_i r hy
      cases hn
      exact hB _ _ hy _ _ hq
-- writes
def s_si (g : s_G) (a k : Nat) (v : Int32) : s_G := (s_up g.1 a k v, g.2.1, g.2.2)
def s_sl (g : s_G) (a k : Nat) (v : Int64) : s_G := (g.1, s_up g.2.1 a k v, g.2.2)
def s_sr (g : s_G) (a k : Nat) (v : Option Nat) : s_G := (g.1, g.2.1, s_up g.2.2 a k v)
def s_ci (g : s_G) (a b sp dp n : Nat) : s_G := (s_row g.1 b (va_cpy (g.1 a) (g.1 b) sp dp n), g.2.1, g.2.2)
def s_cL (g : s_G) (a b sp dp n : Nat) : s_G := (g.1, s_row g.2.1 b (va_cpy (g.2.1 a) (g.2.1 b) sp dp n), g.2.2)
-- an index
def s_ix (n : Nat) (i : Int32) : Option Nat := if i < 0 ∨ n ≤ i.toNatClampNeg then none else some i.toNatClampNeg
theorem s_ix_of {n : Nat} {i : Int32} {k : Nat} (h : s_ix n i = some k) : ¬ (i < 0 ∨ n ≤ i.toNatClampNeg) ∧ i.toNatClampNeg = k := by
  unfold s_ix at h
  split at h
  · cases h
  · rename_i hn
    exact ⟨hn, Option.some.inj h⟩
theorem s_Fin.ix {n : Nat} {i : Int32} {k : Nat} {d : Nat} {q : s_M} {pc pc1 : Nat} {L L1 : s_L} {st : List Value} {h h' : s_H} {v : Option Value} (st1 : Nat → List Value) (h1 : Nat → s_H) (hk : s_ix n i = some k) (hex : s_exq q pc L st h = if i < 0 ∨ n ≤ i.toNatClampNeg then none else s_nx pc1 L1 (st1 i.toNatClampNeg) (h1 i.toNatClampNeg)) (hmo : s_mo h (h1 k) = true) (kont : s_Fin d q (pc1, L1, st1 k, h1 k) v h') : s_Fin d q (pc, L, st, h) v h' := by
  obtain ⟨hn, rfl⟩ := s_ix_of hk
  exact s_Fin.gd hn hex hmo kont
-- words
def s_okw (w : Option Nat) : Bool := match w with
  | none => true
  | some a => Nat.ble 1000 a && Nat.blt a 1029
theorem s_okw_r {a : Nat} (h : s_okw (some a) = true) : 1000 ≤ a ∧ a < 1029 := by
  unfold s_okw at h
  rw [Bool.and_eq_true] at h
  exact ⟨Nat.le_of_ble_eq_true h.1, Nat.le_of_ble_eq_true h.2⟩
theorem s_ow_w {w : Option Nat} (h : s_okw w = true) : s_ow (va_rf w) = some w := by
  cases w with
  | none => rfl
  | some a =>
    show (if 1000 ≤ a ∧ a < 1029 then some (some a) else none) = some (some a)
    rw [if_pos (s_okw_r h)]
def s_acE (tg pc : Nat) (L : s_L) (r : List Value) (h : s_H) (v w : Value) : Option s_O := match s_ow v, s_ow w with
  | some ry, some rx => s_br (rx = ry) tg pc L r h
  | _, _ => none
def s_acN (tg pc : Nat) (L : s_L) (r : List Value) (h : s_H) (v w : Value) : Option s_O := match s_ow v, s_ow w with
  | some ry, some rx => s_br (¬ rx = ry) tg pc L r h
  | _, _ => none
theorem s_acE_t {tg pc : Nat} {L : s_L} {r : List Value} {h : s_H} {v : Value} {w : Option Nat} {c : Nat} (hw : s_okw w = true) (hv : s_ow v = some (some c)) (hc : w = some c) : s_acE tg pc L r h v (va_rf w) = some (.inl (tg, L, r, h)) := by
  unfold s_acE
  rw [hv, s_ow_w hw]
  dsimp only
  unfold s_br
  rw [if_pos hc]
  rfl
theorem s_acE_f {tg pc : Nat} {L : s_L} {r : List Value} {h : s_H} {v : Value} {w : Option Nat} {c : Nat} (hw : s_okw w = true) (hv : s_ow v = some (some c)) (hc : ¬ w = some c) : s_acE tg pc L r h v (va_rf w) = some (.inl (pc + 3, L, r, h)) := by
  unfold s_acE
  rw [hv, s_ow_w hw]
  dsimp only
  unfold s_br
  rw [if_neg hc]
  rfl
theorem s_acN_t {tg pc : Nat} {L : s_L} {r : List Value} {h : s_H} {v : Value} {w : Option Nat} {c : Nat} (hw : s_okw w = true) (hv : s_ow v = some (some c)) (hc : w = some c) : s_acN tg pc L r h v (va_rf w) = some (.inl (pc + 3, L, r, h)) := by
  unfold s_acN
  rw [hv, s_ow_w hw]
  dsimp only
  unfold s_br
  rw [if_neg (fun hn => hn hc)]
  rfl
theorem s_acN_f {tg pc : Nat} {L : s_L} {r : List Value} {h : s_H} {v : Value} {w : Option Nat} {c : Nat} (hw : s_okw w = true) (hv : s_ow v = some (some c)) (hc : ¬ w = some c) : s_acN tg pc L r h v (va_rf w) = some (.inl (tg, L, r, h)) := by
  unfold s_acN
  rw [hv, s_ow_w hw]
  dsimp only
  unfold s_br
  rw [if_pos hc]
  rfl
def s_wlt (a : Nat) : Option Int64 := if 1000 ≤ a ∧ a < 1029 then some (s_wl.getD (a - 1000) 0) else none
def s_wkd (a : Nat) : Option Int32 := if 1000 ≤ a ∧ a < 1029 then some (s_wk (a - 1000)) else none
def s_gfw (k pc : Nat) (L : s_L) (r : List Value) (h : s_H) (a : Nat) : Option s_O := match s_sv a k with
  | some v => s_nx pc L (v :: r) h
  | none => none
theorem s_wlt_of {a pc : Nat} {u : Int64} {L : s_L} {r : List Value} {h : s_H} (hu : s_wlt a = some u) : s_gfw 0 pc L r h a = some (.inl (pc, L, .long u :: r, h)) := by
  unfold s_wlt at hu
  split at hu
  · rename_i hr
    have hu := Option.some.inj hu
    subst hu
    unfold s_gfw s_sv
    rw [if_neg (by omega), if_pos (by omega)]
    rfl
  · cases hu
theorem s_wkd_of {a pc : Nat} {u : Int32} {L : s_L} {r : List Value} {h : s_H} (hu : s_wkd a = some u) : s_gfw 1 pc L r h a = some (.inl (pc, L, .int u :: r, h)) := by
  unfold s_wkd at hu
  split at hu
  · rename_i hr
    have hu := Option.some.inj hu
    subst hu
    unfold s_gfw s_sv
    rw [if_neg (by omega), if_pos (by omega)]
    rfl
  · cases hu
def s_aaw (a n pc : Nat) (L : s_L) (r : List Value) (h : s_H) (i : Int32) (v : Value) : Option s_O := if i < 0 ∨ n ≤ i.toNatClampNeg then none else (match v with
  | .null => s_nx pc L r (s_wR h a i.toNatClampNeg none)
  | .ref b => (match s_okR h a b with
    | true => s_nx pc L r (s_wR h a i.toNatClampNeg (some b))
    | false => none)
  | _ => none)
theorem s_aaw_of {a n pc : Nat} {L : s_L} {r : List Value} {h : s_H} {i : Int32} {v : Value} {w : Option Nat} {k : Nat} {h1 : Nat → s_H} (hG : s_isG h a 104 = true) (hv : v = va_rf w) (hw : s_okw w = true) (hk : s_ix n i = some k) (hh : ∀ k, s_wR h a k w = h1 k) : s_aaw a n pc L r h i v = some (.inl (pc, L, r, h1 k)) := by
  obtain ⟨hn, rfl⟩ := s_ix_of hk
  unfold s_aaw
  rw [if_neg hn, hv]
  cases w with
  | none => show s_nx pc L r (s_wR h a i.toNatClampNeg none) = _; rw [hh]; rfl
  | some b =>
    have hr := s_okw_r hw
    have ho : s_okR h a b = true := by
      unfold s_okR
      rw [hG]
      dsimp only
      rw [Nat.ble_eq_true_of_le hr.1]
      exact Nat.ble_eq_true_of_le hr.2
    show (match s_okR h a b with
    | true => s_nx pc L r (s_wR h a i.toNatClampNeg (some b))
    | false => none) = _
    rw [ho]
    dsimp only
    rw [hh]
    rfl
-- switches
theorem s_tne {v c : Int32} {k : Int} (hc : ¬ v = c) (hk : c.toInt = k) : ¬ v.toInt = k := fun h => hc (Int32.toInt_inj.mp (h.trans hk.symm))
theorem s_ts_ms0 {x pc : Int} {L : s_L} {st : List Value} {h : s_H} {d : Int} : ∀ (offs : List Int) (lo : Int), (x < lo ∨ lo + (offs.length : Int) ≤ x) → s_ts x pc L st h d lo offs = if 0 ≤ pc + d then s_nx (pc + d).toNat L st h else none := by
  intro offs
  induction offs with
  | nil => intro lo _; rfl
  | cons o t ih =>
    intro lo hx
    rw [List.length_cons] at hx
    rw [s_ts, if_neg (by omega)]
    exact ih _ (by omega)
theorem s_ts_ms {x pc : Int} {L : s_L} {st : List Value} {h : s_H} {d : Int} {offs : List Int} {n : Nat} (hn : offs.length = n) (hx : x < 0 ∨ (n : Int) ≤ x) {t : Nat} (ht : (if 0 ≤ pc + d then s_nx (pc + d).toNat L st h else none) = s_nx t L st h) : s_ts x pc L st h d 0 offs = some (.inl (t, L, st, h)) := by
  rw [s_ts_ms0 offs 0 (by rw [hn]; omega), ht]
  rfl
def s_lsn (x : Int) : List (Int × Int) → Prop
  | [] => True
  | p :: t => (¬ x = p.1) ∧ s_lsn x t
theorem s_ls_ms {x pc : Int} {L : s_L} {st : List Value} {h : s_H} {d : Int} {t : Nat} : ∀ {ps : List (Int × Int)}, s_lsn x ps → (if 0 ≤ pc + d then s_nx (pc + d).toNat L st h else none) = s_nx t L st h → s_ls x pc L st h d ps = some (.inl (t, L, st, h)) := by
  intro ps
  induction ps with
  | nil => intro _ ht; rw [s_ls, ht]; rfl
  | cons p r ih =>
    intro hx ht
    obtain ⟨a, o⟩ := p
    rw [s_ls, if_neg hx.1]
    exact ih hx.2 ht
end
section
-- CampAshesModel.come
noncomputable def fM_come_130_3 (x1 : Int32) (x2 : Int32) (g : s_G) : Option ((Int32 × s_G) ⊕ (s_G)) :=
  if x2 < 0 then (s_in (some g))
  else s_b1 (s_ix 940 (g.1 130 2)) fun k2 => some (.inl (x2 + (-8 : Int32), (s_si (s_si g 131 k2 (((x1.toUInt32 >>> (x2.toUInt32 &&& Int32.toUInt32 31)).toInt32) &&& (255 : Int32))) 130 2 ((g.1 130 2) + (1 : Int32)))))
theorem fM_come_130_3_s {x1 : Int32} {x2 : Int32} {g : s_G} {z : (Int32 × s_G) ⊕ (s_G)} (hB : fM_come_130_3 x1 x2 g = some z) {v : Option Value} {h' : s_H} (hr : (s_sm (fun (x : Int32 × s_G) (v : Option Value) (h' : s_H) => s_Fin 0 s_m158 (3, [some (.ref 130), some (.int x1), some (.int x.1)], [], s_hg x.2) v h') (fun (z : s_G) (v : Option Value) (h' : s_H) => v = none ∧ h' = s_hg z)) z v h') : s_Fin 0 s_m158 (3, [some (.ref 130), some (.int x1), some (.int x2)], [], s_hg g) v h' := by
  unfold fM_come_130_3 at hB
  refine s_Fin.sg 1 (y := (4, [some (.ref 130), some (.int x1), some (.int x2)], [.int x2], s_hg g)) rfl ?_
  by_cases hc : x2 < 0
  · rw [if_pos hc] at hB
    refine s_Fin.bt (c := x2 < 0) (tg := 39) (p2 := 4) (L1 := [some (.ref 130), some (.int x1), some (.int x2)]) (st1 := []) hc rfl ?_
    obtain ⟨z, hB, rfl⟩ := s_in_of hB
    cases hB
    obtain ⟨rfl, rfl⟩ := hr
    exact s_Fin.rt rfl rfl
  · rw [if_neg hc] at hB
    refine s_Fin.bf (c := x2 < 0) (tg := 39) (p2 := 4) (L1 := [some (.ref 130), some (.int x1), some (.int x2)]) (st1 := []) hc rfl ?_
    refine s_Fin.sg 9 (y := (22, [some (.ref 130), some (.int x1), some (.int x2)], [.int (((x1.toUInt32 >>> (x2.toUInt32 &&& Int32.toUInt32 31)).toInt32) &&& (255 : Int32)), .int (g.1 130 2), .ref 131], s_hg g)) rfl ?_
    obtain ⟨k2, hk2, hB⟩ := s_bd hB
    refine s_Fin.ix (n := 940) (i := g.1 130 2) (pc1 := 23) (L1 := [some (.ref 130), some (.int x1), some (.int x2)]) (fun j1 => []) (fun j1 => s_hg (s_si g 131 j1 (((x1.toUInt32 >>> (x2.toUInt32 &&& Int32.toUInt32 31)).toInt32) &&& (255 : Int32)))) hk2 rfl rfl ?_
    refine s_Fin.sg 8 (y := (3, [some (.ref 130), some (.int x1), some (.int (x2 + (-8 : Int32)))], [], s_hg (s_si (s_si g 131 k2 (((x1.toUInt32 >>> (x2.toUInt32 &&& Int32.toUInt32 31)).toInt32) &&& (255 : Int32))) 130 2 ((g.1 130 2) + (1 : Int32))))) rfl ?_
    cases hB
    exact s_Fin.more (L := [some (.ref 130), some (.int x1), some (.int (x2 + (-8 : Int32)))]) ⟨Or.inr rfl, Or.inr rfl, Or.inr rfl, trivial⟩ hr
noncomputable def fM_come_130 (x1 : Int32) (g : s_G) : Option (s_G) :=
  s_lp (fun x => fM_come_130_3 x1 x.1 x.2) ((24 : Int32), g)
theorem fM_come_130_s {x1 : Int32} {g : s_G} {z : s_G} (hB : fM_come_130 x1 g = some z) : s_Ev 0 s_m158 [.ref 130, .int x1] (s_hg g) (none) (s_hg z) := by
  unfold fM_come_130 at hB
  refine s_Ev.fin ((?_ : ∀ (v : Option Value) (h' : s_H), (fun (z : s_G) (v : Option Value) (h' : s_H) => v = none ∧ h' = s_hg z) z v h' → s_Fin 0 s_m158 (0, s_ent [.ref 130, .int x1] (s_m158).2.2.1, [], s_hg g) v h') _ _ ⟨rfl, rfl⟩)
  intro v h' hr
  refine (show s_Fin 0 s_m158 (0, [some (.ref 130), some (.int x1), none], [], s_hg g) v h' from ?_)
  refine s_Fin.sg 2 (y := (3, [some (.ref 130), some (.int x1), some (.int (24 : Int32))], [], s_hg g)) rfl ?_
  exact s_Fin.more (L := [some (.ref 130), some (.int x1), some (.int (24 : Int32))]) ⟨Or.inr rfl, Or.inr rfl, Or.inr rfl, trivial⟩ (s_lp_s (P := (fun (x : Int32 × s_G) (v : Option Value) (h' : s_H) => s_Fin 0 s_m158 (3, [some (.ref 130), some (.int x1), some (.int x.1)], [], s_hg x.2) v h')) (Q := (fun (z : s_G) (v : Option Value) (h' : s_H) => v = none ∧ h' = s_hg z)) (fun x z hB v h' hr => fM_come_130_3_s hB hr) hB _ _ hr)
-- CampAshesModel.feed
noncomputable def fM_feed_130 (x1 : Int32) (x2 : Int32) (x3 : Int32) (x4 : Int32) (x5 : Int32) (g : s_G) : Option (Int32 × s_G) :=
  if (940 : Int32) < ((g.1 130 2) + (20 : Int32)) then (some ((-1 : Int32), (s_si g 130 0 (0 : Int32))))
  else s_b1 (fM_come_130 x1 (s_si g 130 0 (0 : Int32))) fun g1 => s_b1 (fM_come_130 x2 g1) fun g2 => s_b1 (fM_come_130 x3 g2) fun g3 => s_b1 (fM_come_130 x4 g3) fun g4 => s_b1 (fM_come_130 x5 g4) fun g5 => some (g5.1 130 2, g5)
theorem fM_feed_130_s {x1 : Int32} {x2 : Int32} {x3 : Int32} {x4 : Int32} {x5 : Int32} {g : s_G} {z : Int32 × s_G} (hB : fM_feed_130 x1 x2 x3 x4 x5 g = some z) : s_Ev 1 s_m157 [.ref 130, .int x1, .int x2, .int x3, .int x4, .int x5] (s_hg g) (some (.int z.1)) (s_hg z.2) := by
  unfold fM_feed_130 at hB
  refine s_Ev.fin ((?_ : ∀ (v : Option Value) (h' : s_H), (fun (z : Int32 × s_G) (v : Option Value) (h' : s_H) => v = some (.int z.1) ∧ h' = s_hg z.2) z v h' → s_Fin 1 s_m157 (0, s_ent [.ref 130, .int x1, .int x2, .int x3, .int x4, .int x5] (s_m157).2.2.1, [], s_hg g) v h') _ _ ⟨rfl, rfl⟩)
  intro v h' hr
  refine (show s_Fin 1 s_m157 (0, [some (.ref 130), some (.int x1), some (.int x2), some (.int x3), some (.int x4), some (.int x5)], [], s_hg g) v h' from ?_)
  refine s_Fin.sg 8 (y := (15, [some (.ref 130), some (.int x1), some (.int x2), some (.int x3), some (.int x4), some (.int x5)], [.int (940 : Int32), .int ((g.1 130 2) + (20 : Int32))], s_hg (s_si g 130 0 (0 : Int32)))) rfl ?_
  by_cases hc : (940 : Int32) < ((g.1 130 2) + (20 : Int32))
  · rw [if_pos hc] at hB
    refine s_Fin.bf (c := ((g.1 130 2) + (20 : Int32)) ≤ (940 : Int32)) (tg := 20) (p2 := 15) (L1 := [some (.ref 130), some (.int x1), some (.int x2), some (.int x3), some (.int x4), some (.int x5)]) (st1 := []) (Int32.not_le.mpr hc) rfl ?_
    refine s_Fin.sg 1 (y := (19, [some (.ref 130), some (.int x1), some (.int x2), some (.int x3), some (.int x4), some (.int x5)], [.int (-1 : Int32)], s_hg (s_si g 130 0 (0 : Int32)))) rfl ?_
    cases hB
    obtain ⟨rfl, rfl⟩ := hr
    exact s_Fin.rt rfl rfl
  · rw [if_neg hc] at hB
    refine s_Fin.bt (c := ((g.1 130 2) + (20 : Int32)) ≤ (940 : Int32)) (tg := 20) (p2 := 15) (L1 := [some (.ref 130), some (.int x1), some (.int x2), some (.int x3), some (.int x4), some (.int x5)]) (st1 := []) (Int32.not_lt.mp hc) rfl ?_
    refine s_Fin.sg 2 (y := (22, [some (.ref 130), some (.int x1), some (.int x2), some (.int x3), some (.int x4), some (.int x5)], [.int x1, .ref 130], s_hg (s_si g 130 0 (0 : Int32)))) rfl ?_
    obtain ⟨g1, hp, hB⟩ := s_bd hB
    refine s_Fin.cl (d := 0) (q1 := s_m158) (md := 158) (vs := [.ref 130, .int x1]) (rest := []) (h1 := s_hg g1) (u := none) (s_Ev.up (by omega) (fM_come_130_s hp)) rfl rfl rfl rfl ?_
    refine s_Fin.sg 2 (y := (27, [some (.ref 130), some (.int x1), some (.int x2), some (.int x3), some (.int x4), some (.int x5)], [.int x2, .ref 130], s_hg g1)) rfl ?_
    obtain ⟨g2, hp, hB⟩ := s_bd hB
    refine s_Fin.cl (d := 0) (q1 := s_m158) (md := 158) (vs := [.ref 130, .int x2]) (rest := []) (h1 := s_hg g2) (u := none) (s_Ev.up (by omega) (fM_come_130_s hp)) rfl rfl rfl rfl ?_
    refine s_Fin.sg 2 (y := (32, [some (.ref 130), some (.int x1), some (.int x2), some (.int x3), some (.int x4), some (.int x5)], [.int x3, .ref 130], s_hg g2)) rfl ?_
    obtain ⟨g3, hp, hB⟩ := s_bd hB
    refine s_Fin.cl (d := 0) (q1 := s_m158) (md := 158) (vs := [.ref 130, .int x3]) (rest := []) (h1 := s_hg g3) (u := none) (s_Ev.up (by omega) (fM_come_130_s hp)) rfl rfl rfl rfl ?_
    refine s_Fin.sg 2 (y := (38, [some (.ref 130), some (.int x1), some (.int x2), some (.int x3), some (.int x4), some (.int x5)], [.int x4, .ref 130], s_hg g3)) rfl ?_
    obtain ⟨g4, hp, hB⟩ := s_bd hB
    refine s_Fin.cl (d := 0) (q1 := s_m158) (md := 158) (vs := [.ref 130, .int x4]) (rest := []) (h1 := s_hg g4) (u := none) (s_Ev.up (by omega) (fM_come_130_s hp)) rfl rfl rfl rfl ?_
    refine s_Fin.sg 2 (y := (44, [some (.ref 130), some (.int x1), some (.int x2), some (.int x3), some (.int x4), some (.int x5)], [.int x5, .ref 130], s_hg g4)) rfl ?_
    obtain ⟨g5, hp, hB⟩ := s_bd hB
    refine s_Fin.cl (d := 0) (q1 := s_m158) (md := 158) (vs := [.ref 130, .int x5]) (rest := []) (h1 := s_hg g5) (u := none) (s_Ev.up (by omega) (fM_come_130_s hp)) rfl rfl rfl rfl ?_
    refine s_Fin.sg 2 (y := (51, [some (.ref 130), some (.int x1), some (.int x2), some (.int x3), some (.int x4), some (.int x5)], [.int (g5.1 130 2)], s_hg g5)) rfl ?_
    cases hB
    obtain ⟨rfl, rfl⟩ := hr
    exact s_Fin.rt rfl rfl
-- CampAshes$Tape.putNumber
noncomputable def fQ_putNumber_1_3 (x1 : Int32) (x2 : Int32) (g : s_G) : Option ((Int32 × s_G) ⊕ (s_G)) :=
  if x2 < 0 then (s_in (some g))
  else if (g.1 1 1) < (940 : Int32) then (s_b1 (s_ix 940 (g.1 1 1)) fun k2 => some (.inl (x2 + (-8 : Int32), (s_si (s_si g 2 k2 (((x1 >>> (x2 &&& 31)).toInt8.toInt32).toInt8.toInt32)) 1 1 ((g.1 1 1) + (1 : Int32))))))
  else s_in (some g)
theorem fQ_putNumber_1_3_s {x1 : Int32} {x2 : Int32} {g : s_G} {z : (Int32 × s_G) ⊕ (s_G)} (hB : fQ_putNumber_1_3 x1 x2 g = some z) {v : Option Value} {h' : s_H} (hr : (s_sm (fun (x : Int32 × s_G) (v : Option Value) (h' : s_H) => s_Fin 0 s_m16 (3, [some (.ref 1), some (.int x1), some (.int x.1)], [], s_hg x.2) v h') (fun (z : s_G) (v : Option Value) (h' : s_H) => v = none ∧ h' = s_hg z)) z v h') : s_Fin 0 s_m16 (3, [some (.ref 1), some (.int x1), some (.int x2)], [], s_hg g) v h' := by
  unfold fQ_putNumber_1_3 at hB
  refine s_Fin.sg 1 (y := (4, [some (.ref 1), some (.int x1), some (.int x2)], [.int x2], s_hg g)) rfl ?_
  by_cases hc : x2 < 0
  · rw [if_pos hc] at hB
    refine s_Fin.bt (c := x2 < 0) (tg := 46) (p2 := 4) (L1 := [some (.ref 1), some (.int x1), some (.int x2)]) (st1 := []) hc rfl ?_
    obtain ⟨z, hB, rfl⟩ := s_in_of hB
    cases hB
    obtain ⟨rfl, rfl⟩ := hr
    exact s_Fin.rt rfl rfl
  · rw [if_neg hc] at hB
    refine s_Fin.bf (c := x2 < 0) (tg := 46) (p2 := 4) (L1 := [some (.ref 1), some (.int x1), some (.int x2)]) (st1 := []) hc rfl ?_
    refine s_Fin.sg 3 (y := (14, [some (.ref 1), some (.int x1), some (.int x2)], [.int (940 : Int32), .int (g.1 1 1)], s_hg g)) rfl ?_
    by_cases hc : (g.1 1 1) < (940 : Int32)
    · rw [if_pos hc] at hB
      refine s_Fin.bf (c := (940 : Int32) ≤ (g.1 1 1)) (tg := 46) (p2 := 14) (L1 := [some (.ref 1), some (.int x1), some (.int x2)]) (st1 := []) (Int32.not_le.mpr hc) rfl ?_
      refine s_Fin.sg 8 (y := (29, [some (.ref 1), some (.int x1), some (.int x2)], [.int ((x1 >>> (x2 &&& 31)).toInt8.toInt32), .int (g.1 1 1), .ref 2], s_hg g)) rfl ?_
      obtain ⟨k2, hk2, hB⟩ := s_bd hB
      refine s_Fin.ix (n := 940) (i := g.1 1 1) (pc1 := 30) (L1 := [some (.ref 1), some (.int x1), some (.int x2)]) (fun j1 => []) (fun j1 => s_hg (s_si g 2 j1 (((x1 >>> (x2 &&& 31)).toInt8.toInt32).toInt8.toInt32))) hk2 rfl rfl ?_
      refine s_Fin.sg 8 (y := (3, [some (.ref 1), some (.int x1), some (.int (x2 + (-8 : Int32)))], [], s_hg (s_si (s_si g 2 k2 (((x1 >>> (x2 &&& 31)).toInt8.toInt32).toInt8.toInt32)) 1 1 ((g.1 1 1) + (1 : Int32))))) rfl ?_
      cases hB
      exact s_Fin.more (L := [some (.ref 1), some (.int x1), some (.int (x2 + (-8 : Int32)))]) ⟨Or.inr rfl, Or.inr rfl, Or.inr rfl, trivial⟩ hr
    · rw [if_neg hc] at hB
      refine s_Fin.bt (c := (940 : Int32) ≤ (g.1 1 1)) (tg := 46) (p2 := 14) (L1 := [some (.ref 1), some (.int x1), some (.int x2)]) (st1 := []) (Int32.not_lt.mp hc) rfl ?_
      obtain ⟨z, hB, rfl⟩ := s_in_of hB
      cases hB
      obtain ⟨rfl, rfl⟩ := hr
      exact s_Fin.rt rfl rfl
noncomputable def fQ_putNumber_1 (x1 : Int32) (g : s_G) : Option (s_G) :=
  s_lp (fun x => fQ_putNumber_1_3 x1 x.1 x.2) ((24 : Int32), g)
theorem fQ_putNumber_1_s {x1 : Int32} {g : s_G} {z : s_G} (hB : fQ_putNumber_1 x1 g = some z) : s_Ev 0 s_m16 [.ref 1, .int x1] (s_hg g) (none) (s_hg z) := by
  unfold fQ_putNumber_1 at hB
  refine s_Ev.fin ((?_ : ∀ (v : Option Value) (h' : s_H), (fun (z : s_G) (v : Option Value) (h' : s_H) => v = none ∧ h' = s_hg z) z v h' → s_Fin 0 s_m16 (0, s_ent [.ref 1, .int x1] (s_m16).2.2.1, [], s_hg g) v h') _ _ ⟨rfl, rfl⟩)
  intro v h' hr
  refine (show s_Fin 0 s_m16 (0, [some (.ref 1), some (.int x1), none], [], s_hg g) v h' from ?_)
  refine s_Fin.sg 2 (y := (3, [some (.ref 1), some (.int x1), some (.int (24 : Int32))], [], s_hg g)) rfl ?_
  exact s_Fin.more (L := [some (.ref 1), some (.int x1), some (.int (24 : Int32))]) ⟨Or.inr rfl, Or.inr rfl, Or.inr rfl, trivial⟩ (s_lp_s (P := (fun (x : Int32 × s_G) (v : Option Value) (h' : s_H) => s_Fin 0 s_m16 (3, [some (.ref 1), some (.int x1), some (.int x.1)], [], s_hg x.2) v h')) (Q := (fun (z : s_G) (v : Option Value) (h' : s_H) => v = none ∧ h' = s_hg z)) (fun x z hB v h' hr => fQ_putNumber_1_3_s hB hr) hB _ _ hr)
-- CampAshes.feed
noncomputable def fC_feed_0 (x1 : Int32) (x2 : Int32) (x3 : Int32) (x4 : Int32) (x5 : Int32) (g : s_G) : Option (Int32 × s_G) :=
  if (940 : Int32) < ((g.1 1 1) + (20 : Int32)) then (some ((-1 : Int32), g))
  else s_b1 (fQ_putNumber_1 x1 g) fun g1 => s_b1 (fQ_putNumber_1 x2 g1) fun g2 => s_b1 (fQ_putNumber_1 x3 g2) fun g3 => s_b1 (fQ_putNumber_1 x4 g3) fun g4 => s_b1 (fQ_putNumber_1 x5 g4) fun g5 => some (g5.1 1 1, g5)
theorem fC_feed_0_s {x1 : Int32} {x2 : Int32} {x3 : Int32} {x4 : Int32} {x5 : Int32} {g : s_G} {z : Int32 × s_G} (hB : fC_feed_0 x1 x2 x3 x4 x5 g = some z) : s_Ev 1 s_m15 [.ref 0, .int x1, .int x2, .int x3, .int x4, .int x5] (s_hg g) (some (.int z.1)) (s_hg z.2) := by
  unfold fC_feed_0 at hB
  refine s_Ev.fin ((?_ : ∀ (v : Option Value) (h' : s_H), (fun (z : Int32 × s_G) (v : Option Value) (h' : s_H) => v = some (.int z.1) ∧ h' = s_hg z.2) z v h' → s_Fin 1 s_m15 (0, s_ent [.ref 0, .int x1, .int x2, .int x3, .int x4, .int x5] (s_m15).2.2.1, [], s_hg g) v h') _ _ ⟨rfl, rfl⟩)
  intro v h' hr
  refine (show s_Fin 1 s_m15 (0, [some (.ref 0), some (.int x1), some (.int x2), some (.int x3), some (.int x4), some (.int x5)], [], s_hg g) v h' from ?_)
  refine s_Fin.sg 6 (y := (13, [some (.ref 0), some (.int x1), some (.int x2), some (.int x3), some (.int x4), some (.int x5)], [.int (940 : Int32), .int ((g.1 1 1) + (20 : Int32))], s_hg g)) rfl ?_
  by_cases hc : (940 : Int32) < ((g.1 1 1) + (20 : Int32))
  · rw [if_pos hc] at hB
    refine s_Fin.bf (c := ((g.1 1 1) + (20 : Int32)) ≤ (940 : Int32)) (tg := 18) (p2 := 13) (L1 := [some (.ref 0), some (.int x1), some (.int x2), some (.int x3), some (.int x4), some (.int x5)]) (st1 := []) (Int32.not_le.mpr hc) rfl ?_
    refine s_Fin.sg 1 (y := (17, [some (.ref 0), some (.int x1), some (.int x2), some (.int x3), some (.int x4), some (.int x5)], [.int (-1 : Int32)], s_hg g)) rfl ?_
    cases hB
    obtain ⟨rfl, rfl⟩ := hr
    exact s_Fin.rt rfl rfl
  · rw [if_neg hc] at hB
    refine s_Fin.bt (c := ((g.1 1 1) + (20 : Int32)) ≤ (940 : Int32)) (tg := 18) (p2 := 13) (L1 := [some (.ref 0), some (.int x1), some (.int x2), some (.int x3), some (.int x4), some (.int x5)]) (st1 := []) (Int32.not_lt.mp hc) rfl ?_
    refine s_Fin.sg 3 (y := (23, [some (.ref 0), some (.int x1), some (.int x2), some (.int x3), some (.int x4), some (.int x5)], [.int x1, .ref 1], s_hg g)) rfl ?_
    obtain ⟨g1, hp, hB⟩ := s_bd hB
    refine s_Fin.cl (d := 0) (q1 := s_m16) (md := 16) (vs := [.ref 1, .int x1]) (rest := []) (h1 := s_hg g1) (u := none) (s_Ev.up (by omega) (fQ_putNumber_1_s hp)) rfl rfl rfl rfl ?_
    refine s_Fin.sg 3 (y := (31, [some (.ref 0), some (.int x1), some (.int x2), some (.int x3), some (.int x4), some (.int x5)], [.int x2, .ref 1], s_hg g1)) rfl ?_
    obtain ⟨g2, hp, hB⟩ := s_bd hB
    refine s_Fin.cl (d := 0) (q1 := s_m16) (md := 16) (vs := [.ref 1, .int x2]) (rest := []) (h1 := s_hg g2) (u := none) (s_Ev.up (by omega) (fQ_putNumber_1_s hp)) rfl rfl rfl rfl ?_
    refine s_Fin.sg 3 (y := (39, [some (.ref 0), some (.int x1), some (.int x2), some (.int x3), some (.int x4), some (.int x5)], [.int x3, .ref 1], s_hg g2)) rfl ?_
    obtain ⟨g3, hp, hB⟩ := s_bd hB
    refine s_Fin.cl (d := 0) (q1 := s_m16) (md := 16) (vs := [.ref 1, .int x3]) (rest := []) (h1 := s_hg g3) (u := none) (s_Ev.up (by omega) (fQ_putNumber_1_s hp)) rfl rfl rfl rfl ?_
    refine s_Fin.sg 3 (y := (48, [some (.ref 0), some (.int x1), some (.int x2), some (.int x3), some (.int x4), some (.int x5)], [.int x4, .ref 1], s_hg g3)) rfl ?_
    obtain ⟨g4, hp, hB⟩ := s_bd hB
    refine s_Fin.cl (d := 0) (q1 := s_m16) (md := 16) (vs := [.ref 1, .int x4]) (rest := []) (h1 := s_hg g4) (u := none) (s_Ev.up (by omega) (fQ_putNumber_1_s hp)) rfl rfl rfl rfl ?_
    refine s_Fin.sg 3 (y := (57, [some (.ref 0), some (.int x1), some (.int x2), some (.int x3), some (.int x4), some (.int x5)], [.int x5, .ref 1], s_hg g4)) rfl ?_
    obtain ⟨g5, hp, hB⟩ := s_bd hB
    refine s_Fin.cl (d := 0) (q1 := s_m16) (md := 16) (vs := [.ref 1, .int x5]) (rest := []) (h1 := s_hg g5) (u := none) (s_Ev.up (by omega) (fQ_putNumber_1_s hp)) rfl rfl rfl rfl ?_
    refine s_Fin.sg 3 (y := (67, [some (.ref 0), some (.int x1), some (.int x2), some (.int x3), some (.int x4), some (.int x5)], [.int (g5.1 1 1)], s_hg g5)) rfl ?_
    cases hB
    obtain ⟨rfl, rfl⟩ := hr
    exact s_Fin.rt rfl rfl
-- CampAshesModel.end
noncomputable def fM_end_130 (x1 : Int32) (g : s_G) : Option (Int32 × s_G) :=
  if x1 < 0 then (some ((0 : Int32), (s_si g 130 0 (0 : Int32))))
  else if (g.1 130 2) < x1 then (some ((0 : Int32), (s_si g 130 0 (0 : Int32))))
  else some ((1 : Int32), (s_si (s_si g 130 0 (0 : Int32)) 130 2 x1))
theorem fM_end_130_s {x1 : Int32} {g : s_G} {z : Int32 × s_G} (hB : fM_end_130 x1 g = some z) : s_Ev 0 s_m159 [.ref 130, .int x1] (s_hg g) (some (.int z.1)) (s_hg z.2) := by
  unfold fM_end_130 at hB
  refine s_Ev.fin ((?_ : ∀ (v : Option Value) (h' : s_H), (fun (z : Int32 × s_G) (v : Option Value) (h' : s_H) => v = some (.int z.1) ∧ h' = s_hg z.2) z v h' → s_Fin 0 s_m159 (0, s_ent [.ref 130, .int x1] (s_m159).2.2.1, [], s_hg g) v h') _ _ ⟨rfl, rfl⟩)
  intro v h' hr
  refine (show s_Fin 0 s_m159 (0, [some (.ref 130), some (.int x1)], [], s_hg g) v h' from ?_)
  refine s_Fin.sg 4 (y := (6, [some (.ref 130), some (.int x1)], [.int x1], s_hg (s_si g 130 0 (0 : Int32)))) rfl ?_
  by_cases hc : x1 < 0
  · rw [if_pos hc] at hB
    refine s_Fin.bt (c := x1 < 0) (tg := 17) (p2 := 6) (L1 := [some (.ref 130), some (.int x1)]) (st1 := []) hc rfl ?_
    refine s_Fin.sg 1 (y := (18, [some (.ref 130), some (.int x1)], [.int (0 : Int32)], s_hg (s_si g 130 0 (0 : Int32)))) rfl ?_
    cases hB
    obtain ⟨rfl, rfl⟩ := hr
    exact s_Fin.rt rfl rfl
  · rw [if_neg hc] at hB
    refine s_Fin.bf (c := x1 < 0) (tg := 17) (p2 := 6) (L1 := [some (.ref 130), some (.int x1)]) (st1 := []) hc rfl ?_
    refine s_Fin.sg 3 (y := (14, [some (.ref 130), some (.int x1)], [.int (g.1 130 2), .int x1], s_hg (s_si g 130 0 (0 : Int32)))) rfl ?_
    by_cases hc : (g.1 130 2) < x1
    · rw [if_pos hc] at hB
      refine s_Fin.bf (c := x1 ≤ (g.1 130 2)) (tg := 19) (p2 := 14) (L1 := [some (.ref 130), some (.int x1)]) (st1 := []) (Int32.not_le.mpr hc) rfl ?_
      refine s_Fin.sg 1 (y := (18, [some (.ref 130), some (.int x1)], [.int (0 : Int32)], s_hg (s_si g 130 0 (0 : Int32)))) rfl ?_
      cases hB
      obtain ⟨rfl, rfl⟩ := hr
      exact s_Fin.rt rfl rfl
    · rw [if_neg hc] at hB
      refine s_Fin.bt (c := x1 ≤ (g.1 130 2)) (tg := 19) (p2 := 14) (L1 := [some (.ref 130), some (.int x1)]) (st1 := []) (Int32.not_lt.mp hc) rfl ?_
      refine s_Fin.sg 4 (y := (25, [some (.ref 130), some (.int x1)], [.int (1 : Int32)], s_hg (s_si (s_si g 130 0 (0 : Int32)) 130 2 x1))) rfl ?_
      cases hB
      obtain ⟨rfl, rfl⟩ := hr
      exact s_Fin.rt rfl rfl
-- CampAshes.end
noncomputable def fC_end_0 (x1 : Int32) (g : s_G) : Option (Int32 × s_G) :=
  if x1 < 0 then (some ((0 : Int32), g))
  else if (g.1 1 1) < x1 then (some ((0 : Int32), g))
  else some ((1 : Int32), (s_si g 1 1 x1))
theorem fC_end_0_s {x1 : Int32} {g : s_G} {z : Int32 × s_G} (hB : fC_end_0 x1 g = some z) : s_Ev 0 s_m17 [.ref 0, .int x1] (s_hg g) (some (.int z.1)) (s_hg z.2) := by
  unfold fC_end_0 at hB
  refine s_Ev.fin ((?_ : ∀ (v : Option Value) (h' : s_H), (fun (z : Int32 × s_G) (v : Option Value) (h' : s_H) => v = some (.int z.1) ∧ h' = s_hg z.2) z v h' → s_Fin 0 s_m17 (0, s_ent [.ref 0, .int x1] (s_m17).2.2.1, [], s_hg g) v h') _ _ ⟨rfl, rfl⟩)
  intro v h' hr
  refine (show s_Fin 0 s_m17 (0, [some (.ref 0), some (.int x1)], [], s_hg g) v h' from ?_)
  refine s_Fin.sg 1 (y := (1, [some (.ref 0), some (.int x1)], [.int x1], s_hg g)) rfl ?_
  by_cases hc : x1 < 0
  · rw [if_pos hc] at hB
    refine s_Fin.bt (c := x1 < 0) (tg := 15) (p2 := 1) (L1 := [some (.ref 0), some (.int x1)]) (st1 := []) hc rfl ?_
    refine s_Fin.sg 1 (y := (16, [some (.ref 0), some (.int x1)], [.int (0 : Int32)], s_hg g)) rfl ?_
    cases hB
    obtain ⟨rfl, rfl⟩ := hr
    exact s_Fin.rt rfl rfl
  · rw [if_neg hc] at hB
    refine s_Fin.bf (c := x1 < 0) (tg := 15) (p2 := 1) (L1 := [some (.ref 0), some (.int x1)]) (st1 := []) hc rfl ?_
    refine s_Fin.sg 4 (y := (12, [some (.ref 0), some (.int x1)], [.int (g.1 1 1), .int x1], s_hg g)) rfl ?_
    by_cases hc : (g.1 1 1) < x1
    · rw [if_pos hc] at hB
      refine s_Fin.bf (c := x1 ≤ (g.1 1 1)) (tg := 17) (p2 := 12) (L1 := [some (.ref 0), some (.int x1)]) (st1 := []) (Int32.not_le.mpr hc) rfl ?_
      refine s_Fin.sg 1 (y := (16, [some (.ref 0), some (.int x1)], [.int (0 : Int32)], s_hg g)) rfl ?_
      cases hB
      obtain ⟨rfl, rfl⟩ := hr
      exact s_Fin.rt rfl rfl
    · rw [if_neg hc] at hB
      refine s_Fin.bt (c := x1 ≤ (g.1 1 1)) (tg := 17) (p2 := 12) (L1 := [some (.ref 0), some (.int x1)]) (st1 := []) (Int32.not_lt.mp hc) rfl ?_
      refine s_Fin.sg 5 (y := (26, [some (.ref 0), some (.int x1)], [.int (1 : Int32)], s_hg (s_si g 1 1 x1))) rfl ?_
      cases hB
      obtain ⟨rfl, rfl⟩ := hr
      exact s_Fin.rt rfl rfl
-- CampAshesModel.take
noncomputable def fM_take_130 (g : s_G) : Option (Int32 × s_G) :=
  some (g.1 130 2, (s_si g 130 2 (0 : Int32)))
theorem fM_take_130_s {g : s_G} {z : Int32 × s_G} (hB : fM_take_130 g = some z) : s_Ev 0 s_m165 [.ref 130] (s_hg g) (some (.int z.1)) (s_hg z.2) := by
  unfold fM_take_130 at hB
  refine s_Ev.fin ((?_ : ∀ (v : Option Value) (h' : s_H), (fun (z : Int32 × s_G) (v : Option Value) (h' : s_H) => v = some (.int z.1) ∧ h' = s_hg z.2) z v h' → s_Fin 0 s_m165 (0, s_ent [.ref 130] (s_m165).2.2.1, [], s_hg g) v h') _ _ ⟨rfl, rfl⟩)
  intro v h' hr
  refine (show s_Fin 0 s_m165 (0, [some (.ref 130), none], [], s_hg g) v h' from ?_)
  refine s_Fin.sg 7 (y := (11, [some (.ref 130), some (.int (g.1 130 2))], [.int (g.1 130 2)], s_hg (s_si g 130 2 (0 : Int32)))) rfl ?_
  cases hB
  obtain ⟨rfl, rfl⟩ := hr
  exact s_Fin.rt rfl rfl
-- CampAshesModel.isLetter
noncomputable def fM_isLetter_s (x0 : Int32) (g : s_G) : Option (Int32) :=
  if x0 < (97 : Int32) then (some (0 : Int32))
  else if (122 : Int32) < x0 then (some (0 : Int32))
  else some (1 : Int32)
theorem fM_isLetter_s_s {x0 : Int32} {g : s_G} {z : Int32} (hB : fM_isLetter_s x0 g = some z) : s_Ev 0 s_m167 [.int x0] (s_hg g) (some (.int z)) (s_hg g) := by
  unfold fM_isLetter_s at hB
  refine s_Ev.fin ((?_ : ∀ (v : Option Value) (h' : s_H), (fun (z : Int32) (v : Option Value) (h' : s_H) => v = some (.int z) ∧ h' = s_hg g) z v h' → s_Fin 0 s_m167 (0, s_ent [.int x0] (s_m167).2.2.1, [], s_hg g) v h') _ _ ⟨rfl, rfl⟩)
  intro v h' hr
  refine (show s_Fin 0 s_m167 (0, [some (.int x0)], [], s_hg g) v h' from ?_)
  refine s_Fin.sg 2 (y := (3, [some (.int x0)], [.int (97 : Int32), .int x0], s_hg g)) rfl ?_
  by_cases hc : x0 < (97 : Int32)
  · rw [if_pos hc] at hB
    refine s_Fin.bt (c := x0 < (97 : Int32)) (tg := 16) (p2 := 3) (L1 := [some (.int x0)]) (st1 := []) hc rfl ?_
    refine s_Fin.sg 1 (y := (17, [some (.int x0)], [.int (0 : Int32)], s_hg g)) rfl ?_
    cases hB
    obtain ⟨rfl, rfl⟩ := hr
    exact s_Fin.rt rfl rfl
  · rw [if_neg hc] at hB
    refine s_Fin.bf (c := x0 < (97 : Int32)) (tg := 16) (p2 := 3) (L1 := [some (.int x0)]) (st1 := []) hc rfl ?_
    refine s_Fin.sg 2 (y := (9, [some (.int x0)], [.int (122 : Int32), .int x0], s_hg g)) rfl ?_
    by_cases hc : (122 : Int32) < x0
    · rw [if_pos hc] at hB
      refine s_Fin.bt (c := (122 : Int32) < x0) (tg := 16) (p2 := 9) (L1 := [some (.int x0)]) (st1 := []) hc rfl ?_
      refine s_Fin.sg 1 (y := (17, [some (.int x0)], [.int (0 : Int32)], s_hg g)) rfl ?_
      cases hB
      obtain ⟨rfl, rfl⟩ := hr
      exact s_Fin.rt rfl rfl
    · rw [if_neg hc] at hB
      refine s_Fin.bf (c := (122 : Int32) < x0) (tg := 16) (p2 := 9) (L1 := [some (.int x0)]) (st1 := []) hc rfl ?_
      refine s_Fin.sg 2 (y := (17, [some (.int x0)], [.int (1 : Int32)], s_hg g)) rfl ?_
      cases hB
      obtain ⟨rfl, rfl⟩ := hr
      exact s_Fin.rt rfl rfl
-- CampAshesModel.isDigit
noncomputable def fM_isDigit_s (x0 : Int32) (g : s_G) : Option (Int32) :=
  if x0 < (48 : Int32) then (some (0 : Int32))
  else if (57 : Int32) < x0 then (some (0 : Int32))
  else some (1 : Int32)
theorem fM_isDigit_s_s {x0 : Int32} {g : s_G} {z : Int32} (hB : fM_isDigit_s x0 g = some z) : s_Ev 0 s_m168 [.int x0] (s_hg g) (some (.int z)) (s_hg g) := by
  unfold fM_isDigit_s at hB
  refine s_Ev.fin ((?_ : ∀ (v : Option Value) (h' : s_H), (fun (z : Int32) (v : Option Value) (h' : s_H) => v = some (.int z) ∧ h' = s_hg g) z v h' → s_Fin 0 s_m168 (0, s_ent [.int x0] (s_m168).2.2.1, [], s_hg g) v h') _ _ ⟨rfl, rfl⟩)
  intro v h' hr
  refine (show s_Fin 0 s_m168 (0, [some (.int x0)], [], s_hg g) v h' from ?_)
  refine s_Fin.sg 2 (y := (3, [some (.int x0)], [.int (48 : Int32), .int x0], s_hg g)) rfl ?_
  by_cases hc : x0 < (48 : Int32)
  · rw [if_pos hc] at hB
    refine s_Fin.bt (c := x0 < (48 : Int32)) (tg := 16) (p2 := 3) (L1 := [some (.int x0)]) (st1 := []) hc rfl ?_
    refine s_Fin.sg 1 (y := (17, [some (.int x0)], [.int (0 : Int32)], s_hg g)) rfl ?_
    cases hB
    obtain ⟨rfl, rfl⟩ := hr
    exact s_Fin.rt rfl rfl
  · rw [if_neg hc] at hB
    refine s_Fin.bf (c := x0 < (48 : Int32)) (tg := 16) (p2 := 3) (L1 := [some (.int x0)]) (st1 := []) hc rfl ?_
    refine s_Fin.sg 2 (y := (9, [some (.int x0)], [.int (57 : Int32), .int x0], s_hg g)) rfl ?_
    by_cases hc : (57 : Int32) < x0
    · rw [if_pos hc] at hB
      refine s_Fin.bt (c := (57 : Int32) < x0) (tg := 16) (p2 := 9) (L1 := [some (.int x0)]) (st1 := []) hc rfl ?_
      refine s_Fin.sg 1 (y := (17, [some (.int x0)], [.int (0 : Int32)], s_hg g)) rfl ?_
      cases hB
      obtain ⟨rfl, rfl⟩ := hr
      exact s_Fin.rt rfl rfl
    · rw [if_neg hc] at hB
      refine s_Fin.bf (c := (57 : Int32) < x0) (tg := 16) (p2 := 9) (L1 := [some (.int x0)]) (st1 := []) hc rfl ?_
      refine s_Fin.sg 2 (y := (17, [some (.int x0)], [.int (1 : Int32)], s_hg g)) rfl ?_
      cases hB
      obtain ⟨rfl, rfl⟩ := hr
      exact s_Fin.rt rfl rfl
-- CampAshesModel.tapeAt
noncomputable def fM_tapeAt_130 (x1 : Int32) (g : s_G) : Option (Int32) :=
  if x1 < (g.1 130 3) then (s_b1 (s_ix 940 x1) fun k2 => some (g.1 131 k2))
  else some (0 : Int32)
theorem fM_tapeAt_130_s {x1 : Int32} {g : s_G} {z : Int32} (hB : fM_tapeAt_130 x1 g = some z) : s_Ev 0 s_m169 [.ref 130, .int x1] (s_hg g) (some (.int z)) (s_hg g) := by
  unfold fM_tapeAt_130 at hB
  refine s_Ev.fin ((?_ : ∀ (v : Option Value) (h' : s_H), (fun (z : Int32) (v : Option Value) (h' : s_H) => v = some (.int z) ∧ h' = s_hg g) z v h' → s_Fin 0 s_m169 (0, s_ent [.ref 130, .int x1] (s_m169).2.2.1, [], s_hg g) v h') _ _ ⟨rfl, rfl⟩)
  intro v h' hr
  refine (show s_Fin 0 s_m169 (0, [some (.ref 130), some (.int x1)], [], s_hg g) v h' from ?_)
  refine s_Fin.sg 3 (y := (5, [some (.ref 130), some (.int x1)], [.int (g.1 130 3), .int x1], s_hg g)) rfl ?_
  by_cases hc : x1 < (g.1 130 3)
  · rw [if_pos hc] at hB
    refine s_Fin.bf (c := (g.1 130 3) ≤ x1) (tg := 17) (p2 := 5) (L1 := [some (.ref 130), some (.int x1)]) (st1 := []) (Int32.not_le.mpr hc) rfl ?_
    refine s_Fin.sg 3 (y := (13, [some (.ref 130), some (.int x1)], [.int x1, .ref 131], s_hg g)) rfl ?_
    obtain ⟨k2, hk2, hB⟩ := s_bd hB
    refine s_Fin.ix (n := 940) (i := x1) (pc1 := 14) (L1 := [some (.ref 130), some (.int x1)]) (fun j1 => [.int (g.1 131 j1)]) (fun j1 => s_hg g) hk2 rfl rfl ?_
    refine s_Fin.sg 1 (y := (18, [some (.ref 130), some (.int x1)], [.int (g.1 131 k2)], s_hg g)) rfl ?_
    cases hB
    obtain ⟨rfl, rfl⟩ := hr
    exact s_Fin.rt rfl rfl
  · rw [if_neg hc] at hB
    refine s_Fin.bt (c := (g.1 130 3) ≤ x1) (tg := 17) (p2 := 5) (L1 := [some (.ref 130), some (.int x1)]) (st1 := []) (Int32.not_lt.mp hc) rfl ?_
    refine s_Fin.sg 1 (y := (18, [some (.ref 130), some (.int x1)], [.int (0 : Int32)], s_hg g)) rfl ?_
    cases hB
    obtain ⟨rfl, rfl⟩ := hr
    exact s_Fin.rt rfl rfl
end
