section
-- ===== PART A: goes FIRST, ahead of the names: the tables' words, and 'selects' of the private methods out of them =====
/-- a private method of a class that the tables say can be made, by its rows of tables_1 -/
def lw_okq (q : MethodName × Nat) : Prop := (q.1.cls ≠ "java/lang/invoke/MethodHandle" ∧ q.1.cls ≠ "java/lang/invoke/VarHandle") ∧ Cond.instantiable q.1.cls q.2 ∈ tables_1 ∧ Cond.privateMethod q.1 ∈ tables_1 ∧ Cond.instanceMethod q.1 ∈ tables_1
theorem lw_p0 : lw_okq (⟨"EndedByOthers$Reader", "startPart", "()V"⟩, 4) := ⟨⟨by decide +kernel, by decide +kernel⟩, List.mem_of_getElem? (i := 44) (by decide +kernel), List.mem_of_getElem? (i := 241) (by decide +kernel), List.mem_of_getElem? (i := 242) (by decide +kernel)⟩
theorem lw_p1 : lw_okq (⟨"EndedByOthers$Reader", "takes", "(I)Z"⟩, 4) := ⟨⟨by decide +kernel, by decide +kernel⟩, List.mem_of_getElem? (i := 44) (by decide +kernel), List.mem_of_getElem? (i := 245) (by decide +kernel), List.mem_of_getElem? (i := 246) (by decide +kernel)⟩
theorem lw_p2 : lw_okq (⟨"EndedByOthers$Reader", "takesInOpening", "(I)Z"⟩, 4) := ⟨⟨by decide +kernel, by decide +kernel⟩, List.mem_of_getElem? (i := 44) (by decide +kernel), List.mem_of_getElem? (i := 249) (by decide +kernel), List.mem_of_getElem? (i := 250) (by decide +kernel)⟩
theorem lw_p3 : lw_okq (⟨"EndedByOthers$Reader", "takesInSpeaker", "(I)Z"⟩, 4) := ⟨⟨by decide +kernel, by decide +kernel⟩, List.mem_of_getElem? (i := 44) (by decide +kernel), List.mem_of_getElem? (i := 256) (by decide +kernel), List.mem_of_getElem? (i := 257) (by decide +kernel)⟩
theorem lw_p4 : lw_okq (⟨"EndedByOthers$Reader", "takesKind", "(I)Z"⟩, 4) := ⟨⟨by decide +kernel, by decide +kernel⟩, List.mem_of_getElem? (i := 44) (by decide +kernel), List.mem_of_getElem? (i := 347) (by decide +kernel), List.mem_of_getElem? (i := 348) (by decide +kernel)⟩
theorem lw_p5 : lw_okq (⟨"EndedByOthers$Reader", "takesWant", "(I)Z"⟩, 4) := ⟨⟨by decide +kernel, by decide +kernel⟩, List.mem_of_getElem? (i := 44) (by decide +kernel), List.mem_of_getElem? (i := 351) (by decide +kernel), List.mem_of_getElem? (i := 352) (by decide +kernel)⟩
theorem lw_p6 : lw_okq (⟨"EndedByOthers$Reader", "takesNextSpeaker", "(I)Z"⟩, 4) := ⟨⟨by decide +kernel, by decide +kernel⟩, List.mem_of_getElem? (i := 44) (by decide +kernel), List.mem_of_getElem? (i := 355) (by decide +kernel), List.mem_of_getElem? (i := 356) (by decide +kernel)⟩
theorem lw_p7 : lw_okq (⟨"EndedByOthers", "isSpeaker", "(I)Z"⟩, 9) := ⟨⟨by decide +kernel, by decide +kernel⟩, List.mem_of_getElem? (i := 18) (by decide +kernel), List.mem_of_getElem? (i := 391) (by decide +kernel), List.mem_of_getElem? (i := 392) (by decide +kernel)⟩
theorem lw_p8 : lw_okq (⟨"EndedByOthers", "sureOpening", "(I)I"⟩, 9) := ⟨⟨by decide +kernel, by decide +kernel⟩, List.mem_of_getElem? (i := 18) (by decide +kernel), List.mem_of_getElem? (i := 415) (by decide +kernel), List.mem_of_getElem? (i := 416) (by decide +kernel)⟩
theorem lw_p9 : lw_okq (⟨"EndedByOthers", "isSure", "(II)Z"⟩, 9) := ⟨⟨by decide +kernel, by decide +kernel⟩, List.mem_of_getElem? (i := 18) (by decide +kernel), List.mem_of_getElem? (i := 419) (by decide +kernel), List.mem_of_getElem? (i := 420) (by decide +kernel)⟩
theorem lw_p10 : lw_okq (⟨"EndedByOthers", "endingNow", "(II)I"⟩, 9) := ⟨⟨by decide +kernel, by decide +kernel⟩, List.mem_of_getElem? (i := 18) (by decide +kernel), List.mem_of_getElem? (i := 423) (by decide +kernel), List.mem_of_getElem? (i := 424) (by decide +kernel)⟩
theorem lw_p11 : lw_okq (⟨"EndedByOthers", "possibleKinds", "(I)I"⟩, 9) := ⟨⟨by decide +kernel, by decide +kernel⟩, List.mem_of_getElem? (i := 18) (by decide +kernel), List.mem_of_getElem? (i := 439) (by decide +kernel), List.mem_of_getElem? (i := 440) (by decide +kernel)⟩
theorem lw_p12 : lw_okq (⟨"EndedByOthers", "agreesWithHeard", "(II)Z"⟩, 9) := ⟨⟨by decide +kernel, by decide +kernel⟩, List.mem_of_getElem? (i := 18) (by decide +kernel), List.mem_of_getElem? (i := 443) (by decide +kernel), List.mem_of_getElem? (i := 444) (by decide +kernel)⟩
theorem lw_p13 : lw_okq (⟨"EndedByOthers", "tellingOpening", "(II)I"⟩, 9) := ⟨⟨by decide +kernel, by decide +kernel⟩, List.mem_of_getElem? (i := 18) (by decide +kernel), List.mem_of_getElem? (i := 447) (by decide +kernel), List.mem_of_getElem? (i := 448) (by decide +kernel)⟩
theorem lw_p14 : lw_okq (⟨"EndedByOthers", "mostKindsLeft", "(III)I"⟩, 9) := ⟨⟨by decide +kernel, by decide +kernel⟩, List.mem_of_getElem? (i := 18) (by decide +kernel), List.mem_of_getElem? (i := 451) (by decide +kernel), List.mem_of_getElem? (i := 452) (by decide +kernel)⟩
theorem lw_p15 : lw_okq (⟨"EndedByOthers", "isSentence", "(I)Z"⟩, 9) := ⟨⟨by decide +kernel, by decide +kernel⟩, List.mem_of_getElem? (i := 18) (by decide +kernel), List.mem_of_getElem? (i := 484) (by decide +kernel), List.mem_of_getElem? (i := 485) (by decide +kernel)⟩
def lw_privs_1 : List (MethodName × Nat) := [(⟨"EndedByOthers$Reader", "startPart", "()V"⟩, 4), (⟨"EndedByOthers$Reader", "takes", "(I)Z"⟩, 4), (⟨"EndedByOthers$Reader", "takesInOpening", "(I)Z"⟩, 4), (⟨"EndedByOthers$Reader", "takesInSpeaker", "(I)Z"⟩, 4), (⟨"EndedByOthers$Reader", "takesKind", "(I)Z"⟩, 4), (⟨"EndedByOthers$Reader", "takesWant", "(I)Z"⟩, 4), (⟨"EndedByOthers$Reader", "takesNextSpeaker", "(I)Z"⟩, 4), (⟨"EndedByOthers", "isSpeaker", "(I)Z"⟩, 9), (⟨"EndedByOthers", "sureOpening", "(I)I"⟩, 9), (⟨"EndedByOthers", "isSure", "(II)Z"⟩, 9), (⟨"EndedByOthers", "endingNow", "(II)I"⟩, 9), (⟨"EndedByOthers", "possibleKinds", "(I)I"⟩, 9), (⟨"EndedByOthers", "agreesWithHeard", "(II)Z"⟩, 9), (⟨"EndedByOthers", "tellingOpening", "(II)I"⟩, 9), (⟨"EndedByOthers", "mostKindsLeft", "(III)I"⟩, 9), (⟨"EndedByOthers", "isSentence", "(I)Z"⟩, 9)]
theorem lw_r1 : ∀ q ∈ lw_privs_1, lw_okq q := List.forall_mem_cons.mpr ⟨lw_p0, List.forall_mem_cons.mpr ⟨lw_p1, List.forall_mem_cons.mpr ⟨lw_p2, List.forall_mem_cons.mpr ⟨lw_p3, List.forall_mem_cons.mpr ⟨lw_p4, List.forall_mem_cons.mpr ⟨lw_p5, List.forall_mem_cons.mpr ⟨lw_p6, List.forall_mem_cons.mpr ⟨lw_p7, List.forall_mem_cons.mpr ⟨lw_p8, List.forall_mem_cons.mpr ⟨lw_p9, List.forall_mem_cons.mpr ⟨lw_p10, List.forall_mem_cons.mpr ⟨lw_p11, List.forall_mem_cons.mpr ⟨lw_p12, List.forall_mem_cons.mpr ⟨lw_p13, List.forall_mem_cons.mpr ⟨lw_p14, List.forall_mem_cons.mpr ⟨lw_p15, fun _ h => absurd h List.not_mem_nil⟩⟩⟩⟩⟩⟩⟩⟩⟩⟩⟩⟩⟩⟩⟩⟩
theorem lw_p16 : lw_okq (⟨"EndedByOthers", "findPleasing", "()V"⟩, 9) := ⟨⟨by decide +kernel, by decide +kernel⟩, List.mem_of_getElem? (i := 18) (by decide +kernel), List.mem_of_getElem? (i := 501) (by decide +kernel), List.mem_of_getElem? (i := 502) (by decide +kernel)⟩
theorem lw_p17 : lw_okq (⟨"EndedByOthers", "wouldPlease", "(II)Z"⟩, 9) := ⟨⟨by decide +kernel, by decide +kernel⟩, List.mem_of_getElem? (i := 18) (by decide +kernel), List.mem_of_getElem? (i := 505) (by decide +kernel), List.mem_of_getElem? (i := 506) (by decide +kernel)⟩
theorem lw_p18 : lw_okq (⟨"EndedByOthers$Matching", "firstBestPick", "(II)I"⟩, 3) := ⟨⟨by decide +kernel, by decide +kernel⟩, List.mem_of_getElem? (i := 148) (by decide +kernel), List.mem_of_getElem? (i := 518) (by decide +kernel), List.mem_of_getElem? (i := 519) (by decide +kernel)⟩
theorem lw_p19 : lw_okq (⟨"EndedByOthers$Trial", "talkOnce", "(LEndedByOthers$Room;LEndedByOthers$Scene;)V"⟩, 4) := ⟨⟨by decide +kernel, by decide +kernel⟩, List.mem_of_getElem? (i := 167) (by decide +kernel), List.mem_of_getElem? (i := 543) (by decide +kernel), List.mem_of_getElem? (i := 544) (by decide +kernel)⟩
theorem lw_p20 : lw_okq (⟨"EndedByOthers$Trial", "draw", "(I)I"⟩, 4) := ⟨⟨by decide +kernel, by decide +kernel⟩, List.mem_of_getElem? (i := 167) (by decide +kernel), List.mem_of_getElem? (i := 547) (by decide +kernel), List.mem_of_getElem? (i := 548) (by decide +kernel)⟩
theorem lw_p21 : lw_okq (⟨"EndedByOthersModel", "faultOf", "()I"⟩, 31) := ⟨⟨by decide +kernel, by decide +kernel⟩, List.mem_of_getElem? (i := 606) (by decide +kernel), List.mem_of_getElem? (i := 722) (by decide +kernel), List.mem_of_getElem? (i := 723) (by decide +kernel)⟩
theorem lw_p22 : lw_okq (⟨"EndedByOthersModel", "goOpening", "(I)Z"⟩, 31) := ⟨⟨by decide +kernel, by decide +kernel⟩, List.mem_of_getElem? (i := 606) (by decide +kernel), List.mem_of_getElem? (i := 726) (by decide +kernel), List.mem_of_getElem? (i := 727) (by decide +kernel)⟩
theorem lw_p23 : lw_okq (⟨"EndedByOthersModel", "goSpeaker", "(I)Z"⟩, 31) := ⟨⟨by decide +kernel, by decide +kernel⟩, List.mem_of_getElem? (i := 606) (by decide +kernel), List.mem_of_getElem? (i := 731) (by decide +kernel), List.mem_of_getElem? (i := 732) (by decide +kernel)⟩
theorem lw_p24 : lw_okq (⟨"EndedByOthersModel", "isOpening", "(I)Z"⟩, 31) := ⟨⟨by decide +kernel, by decide +kernel⟩, List.mem_of_getElem? (i := 606) (by decide +kernel), List.mem_of_getElem? (i := 751) (by decide +kernel), List.mem_of_getElem? (i := 752) (by decide +kernel)⟩
theorem lw_p25 : lw_okq (⟨"EndedByOthersModel", "lacks", "()Z"⟩, 31) := ⟨⟨by decide +kernel, by decide +kernel⟩, List.mem_of_getElem? (i := 606) (by decide +kernel), List.mem_of_getElem? (i := 755) (by decide +kernel), List.mem_of_getElem? (i := 756) (by decide +kernel)⟩
theorem lw_p26 : lw_okq (⟨"EndedByOthersModel", "isSpeaker", "(I)Z"⟩, 31) := ⟨⟨by decide +kernel, by decide +kernel⟩, List.mem_of_getElem? (i := 606) (by decide +kernel), List.mem_of_getElem? (i := 764) (by decide +kernel), List.mem_of_getElem? (i := 765) (by decide +kernel)⟩
theorem lw_p27 : lw_okq (⟨"EndedByOthersModel", "tell", "(II)I"⟩, 31) := ⟨⟨by decide +kernel, by decide +kernel⟩, List.mem_of_getElem? (i := 606) (by decide +kernel), List.mem_of_getElem? (i := 768) (by decide +kernel), List.mem_of_getElem? (i := 769) (by decide +kernel)⟩
theorem lw_p28 : lw_okq (⟨"EndedByOthersModel", "openOf", "(I)I"⟩, 31) := ⟨⟨by decide +kernel, by decide +kernel⟩, List.mem_of_getElem? (i := 606) (by decide +kernel), List.mem_of_getElem? (i := 772) (by decide +kernel), List.mem_of_getElem? (i := 773) (by decide +kernel)⟩
theorem lw_p29 : lw_okq (⟨"EndedByOthersModel", "saidBy", "(II)I"⟩, 31) := ⟨⟨by decide +kernel, by decide +kernel⟩, List.mem_of_getElem? (i := 606) (by decide +kernel), List.mem_of_getElem? (i := 776) (by decide +kernel), List.mem_of_getElem? (i := 777) (by decide +kernel)⟩
theorem lw_p30 : lw_okq (⟨"EndedByOthersModel", "sureOf", "(I)I"⟩, 31) := ⟨⟨by decide +kernel, by decide +kernel⟩, List.mem_of_getElem? (i := 606) (by decide +kernel), List.mem_of_getElem? (i := 780) (by decide +kernel), List.mem_of_getElem? (i := 781) (by decide +kernel)⟩
theorem lw_p31 : lw_okq (⟨"EndedByOthersModel", "wouldOf", "(II)I"⟩, 31) := ⟨⟨by decide +kernel, by decide +kernel⟩, List.mem_of_getElem? (i := 606) (by decide +kernel), List.mem_of_getElem? (i := 784) (by decide +kernel), List.mem_of_getElem? (i := 785) (by decide +kernel)⟩
def lw_privs_2 : List (MethodName × Nat) := [(⟨"EndedByOthers", "findPleasing", "()V"⟩, 9), (⟨"EndedByOthers", "wouldPlease", "(II)Z"⟩, 9), (⟨"EndedByOthers$Matching", "firstBestPick", "(II)I"⟩, 3), (⟨"EndedByOthers$Trial", "talkOnce", "(LEndedByOthers$Room;LEndedByOthers$Scene;)V"⟩, 4), (⟨"EndedByOthers$Trial", "draw", "(I)I"⟩, 4), (⟨"EndedByOthersModel", "faultOf", "()I"⟩, 31), (⟨"EndedByOthersModel", "goOpening", "(I)Z"⟩, 31), (⟨"EndedByOthersModel", "goSpeaker", "(I)Z"⟩, 31), (⟨"EndedByOthersModel", "isOpening", "(I)Z"⟩, 31), (⟨"EndedByOthersModel", "lacks", "()Z"⟩, 31), (⟨"EndedByOthersModel", "isSpeaker", "(I)Z"⟩, 31), (⟨"EndedByOthersModel", "tell", "(II)I"⟩, 31), (⟨"EndedByOthersModel", "openOf", "(I)I"⟩, 31), (⟨"EndedByOthersModel", "saidBy", "(II)I"⟩, 31), (⟨"EndedByOthersModel", "sureOf", "(I)I"⟩, 31), (⟨"EndedByOthersModel", "wouldOf", "(II)I"⟩, 31)]
theorem lw_r2 : ∀ q ∈ lw_privs_2, lw_okq q := List.forall_mem_cons.mpr ⟨lw_p16, List.forall_mem_cons.mpr ⟨lw_p17, List.forall_mem_cons.mpr ⟨lw_p18, List.forall_mem_cons.mpr ⟨lw_p19, List.forall_mem_cons.mpr ⟨lw_p20, List.forall_mem_cons.mpr ⟨lw_p21, List.forall_mem_cons.mpr ⟨lw_p22, List.forall_mem_cons.mpr ⟨lw_p23, List.forall_mem_cons.mpr ⟨lw_p24, List.forall_mem_cons.mpr ⟨lw_p25, List.forall_mem_cons.mpr ⟨lw_p26, List.forall_mem_cons.mpr ⟨lw_p27, List.forall_mem_cons.mpr ⟨lw_p28, List.forall_mem_cons.mpr ⟨lw_p29, List.forall_mem_cons.mpr ⟨lw_p30, List.forall_mem_cons.mpr ⟨lw_p31, fun _ h => absurd h List.not_mem_nil⟩⟩⟩⟩⟩⟩⟩⟩⟩⟩⟩⟩⟩⟩⟩⟩
theorem lw_p32 : lw_okq (⟨"EndedByOthersModel", "endsBy", "(IIII)I"⟩, 31) := ⟨⟨by decide +kernel, by decide +kernel⟩, List.mem_of_getElem? (i := 606) (by decide +kernel), List.mem_of_getElem? (i := 788) (by decide +kernel), List.mem_of_getElem? (i := 789) (by decide +kernel)⟩
theorem lw_p33 : lw_okq (⟨"EndedByOthersModel", "whichOf", "(I)I"⟩, 31) := ⟨⟨by decide +kernel, by decide +kernel⟩, List.mem_of_getElem? (i := 606) (by decide +kernel), List.mem_of_getElem? (i := 798) (by decide +kernel), List.mem_of_getElem? (i := 799) (by decide +kernel)⟩
theorem lw_p34 : lw_okq (⟨"EndedByOthersModel", "beginOf", "(I)I"⟩, 31) := ⟨⟨by decide +kernel, by decide +kernel⟩, List.mem_of_getElem? (i := 606) (by decide +kernel), List.mem_of_getElem? (i := 802) (by decide +kernel), List.mem_of_getElem? (i := 803) (by decide +kernel)⟩
theorem lw_p35 : lw_okq (⟨"EndedByOthersModel", "isSentence", "(I)Z"⟩, 31) := ⟨⟨by decide +kernel, by decide +kernel⟩, List.mem_of_getElem? (i := 606) (by decide +kernel), List.mem_of_getElem? (i := 827) (by decide +kernel), List.mem_of_getElem? (i := 828) (by decide +kernel)⟩
theorem lw_p36 : lw_okq (⟨"EndedByOthersModel", "tellSentence", "(II)I"⟩, 31) := ⟨⟨by decide +kernel, by decide +kernel⟩, List.mem_of_getElem? (i := 606) (by decide +kernel), List.mem_of_getElem? (i := 835) (by decide +kernel), List.mem_of_getElem? (i := 836) (by decide +kernel)⟩
theorem lw_p37 : lw_okq (⟨"EndedByOthersModel", "isWanted", "(I)Z"⟩, 31) := ⟨⟨by decide +kernel, by decide +kernel⟩, List.mem_of_getElem? (i := 606) (by decide +kernel), List.mem_of_getElem? (i := 839) (by decide +kernel), List.mem_of_getElem? (i := 840) (by decide +kernel)⟩
theorem lw_p38 : lw_okq (⟨"EndedByOthersModel", "matchOf", "(I)I"⟩, 31) := ⟨⟨by decide +kernel, by decide +kernel⟩, List.mem_of_getElem? (i := 606) (by decide +kernel), List.mem_of_getElem? (i := 849) (by decide +kernel), List.mem_of_getElem? (i := 850) (by decide +kernel)⟩
theorem lw_p39 : lw_okq (⟨"EndedByOthersModel", "layRow", "(I)Z"⟩, 31) := ⟨⟨by decide +kernel, by decide +kernel⟩, List.mem_of_getElem? (i := 606) (by decide +kernel), List.mem_of_getElem? (i := 853) (by decide +kernel), List.mem_of_getElem? (i := 854) (by decide +kernel)⟩
theorem lw_p40 : lw_okq (⟨"EndedByOthersModel", "endsAsWanted", "(II)Z"⟩, 31) := ⟨⟨by decide +kernel, by decide +kernel⟩, List.mem_of_getElem? (i := 606) (by decide +kernel), List.mem_of_getElem? (i := 857) (by decide +kernel), List.mem_of_getElem? (i := 858) (by decide +kernel)⟩
theorem lw_p41 : lw_okq (⟨"EndedByOthersModel", "draw", "(I)I"⟩, 31) := ⟨⟨by decide +kernel, by decide +kernel⟩, List.mem_of_getElem? (i := 606) (by decide +kernel), List.mem_of_getElem? (i := 876) (by decide +kernel), List.mem_of_getElem? (i := 877) (by decide +kernel)⟩
theorem lw_p42 : lw_okq (⟨"EndedByOthersModel", "countOf", "(I)I"⟩, 31) := ⟨⟨by decide +kernel, by decide +kernel⟩, List.mem_of_getElem? (i := 606) (by decide +kernel), List.mem_of_getElem? (i := 896) (by decide +kernel), List.mem_of_getElem? (i := 897) (by decide +kernel)⟩
theorem lw_p43 : lw_okq (⟨"EndedByOthersModel", "wantedMany", "()I"⟩, 31) := ⟨⟨by decide +kernel, by decide +kernel⟩, List.mem_of_getElem? (i := 606) (by decide +kernel), List.mem_of_getElem? (i := 900) (by decide +kernel), List.mem_of_getElem? (i := 901) (by decide +kernel)⟩
theorem lw_p44 : lw_okq (⟨"EndedByOthersModel", "unlike", "()I"⟩, 31) := ⟨⟨by decide +kernel, by decide +kernel⟩, List.mem_of_getElem? (i := 606) (by decide +kernel), List.mem_of_getElem? (i := 904) (by decide +kernel), List.mem_of_getElem? (i := 905) (by decide +kernel)⟩
theorem lw_p45 : lw_okq (⟨"EndedByOthersModel", "say", "(J)V"⟩, 31) := ⟨⟨by decide +kernel, by decide +kernel⟩, List.mem_of_getElem? (i := 606) (by decide +kernel), List.mem_of_getElem? (i := 916) (by decide +kernel), List.mem_of_getElem? (i := 917) (by decide +kernel)⟩
theorem lw_p46 : lw_okq (⟨"EndedByOthersModel", "saySpeaker", "(I)V"⟩, 31) := ⟨⟨by decide +kernel, by decide +kernel⟩, List.mem_of_getElem? (i := 606) (by decide +kernel), List.mem_of_getElem? (i := 921) (by decide +kernel), List.mem_of_getElem? (i := 922) (by decide +kernel)⟩
def lw_privs_3 : List (MethodName × Nat) := [(⟨"EndedByOthersModel", "endsBy", "(IIII)I"⟩, 31), (⟨"EndedByOthersModel", "whichOf", "(I)I"⟩, 31), (⟨"EndedByOthersModel", "beginOf", "(I)I"⟩, 31), (⟨"EndedByOthersModel", "isSentence", "(I)Z"⟩, 31), (⟨"EndedByOthersModel", "tellSentence", "(II)I"⟩, 31), (⟨"EndedByOthersModel", "isWanted", "(I)Z"⟩, 31), (⟨"EndedByOthersModel", "matchOf", "(I)I"⟩, 31), (⟨"EndedByOthersModel", "layRow", "(I)Z"⟩, 31), (⟨"EndedByOthersModel", "endsAsWanted", "(II)Z"⟩, 31), (⟨"EndedByOthersModel", "draw", "(I)I"⟩, 31), (⟨"EndedByOthersModel", "countOf", "(I)I"⟩, 31), (⟨"EndedByOthersModel", "wantedMany", "()I"⟩, 31), (⟨"EndedByOthersModel", "unlike", "()I"⟩, 31), (⟨"EndedByOthersModel", "say", "(J)V"⟩, 31), (⟨"EndedByOthersModel", "saySpeaker", "(I)V"⟩, 31)]
theorem lw_r3 : ∀ q ∈ lw_privs_3, lw_okq q := List.forall_mem_cons.mpr ⟨lw_p32, List.forall_mem_cons.mpr ⟨lw_p33, List.forall_mem_cons.mpr ⟨lw_p34, List.forall_mem_cons.mpr ⟨lw_p35, List.forall_mem_cons.mpr ⟨lw_p36, List.forall_mem_cons.mpr ⟨lw_p37, List.forall_mem_cons.mpr ⟨lw_p38, List.forall_mem_cons.mpr ⟨lw_p39, List.forall_mem_cons.mpr ⟨lw_p40, List.forall_mem_cons.mpr ⟨lw_p41, List.forall_mem_cons.mpr ⟨lw_p42, List.forall_mem_cons.mpr ⟨lw_p43, List.forall_mem_cons.mpr ⟨lw_p44, List.forall_mem_cons.mpr ⟨lw_p45, List.forall_mem_cons.mpr ⟨lw_p46, fun _ h => absurd h List.not_mem_nil⟩⟩⟩⟩⟩⟩⟩⟩⟩⟩⟩⟩⟩⟩⟩
def lw_privs : List (MethodName × Nat) := lw_privs_1 ++ (lw_privs_2 ++ (lw_privs_3))
def lw_tbl : List Cond := k2_sels lw_privs ++ tables_1
theorem lw_privs_ok : ∀ q ∈ lw_privs, lw_okq q := by
  show ∀ q ∈ lw_privs_1 ++ (lw_privs_2 ++ (lw_privs_3)), lw_okq q
  exact List.forall_mem_append.mpr ⟨lw_r1, List.forall_mem_append.mpr ⟨lw_r2, lw_r3⟩⟩
-- ===== end of PART A; then your names; then what follows =====
end
section
/-! ===== BEGIN words of one list among another's, by their places ===== -/
theorem goodIn_r {big : List Cond} (ws : List Cond) (ps : List Nat) (hp : ws = ps.filterMap (fun i => big[i]?)) (h : ws.all goodWord = true) : GoodIn big ws := by
  intro w hw
  have h1 := List.all_eq_true.mp h w hw
  rw [hp] at hw
  obtain ⟨i, -, hi⟩ := List.mem_filterMap.mp hw
  have hm : w ∈ big := by first | exact List.mem_of_getElem? hi | exact List.getElem?_mem hi
  exact ⟨hm, good_of_word h1⟩
theorem goodIn_app {big a b : List Cond} (ha : GoodIn big a) (hb : GoodIn big b) : GoodIn big (a ++ b) := fun w h => (List.mem_append.mp h).elim (ha w) (hb w)
theorem goodIn_ca {big a b : List Cond} {c : Cond} (ha : GoodIn big (c :: a)) (hb : GoodIn big b) : GoodIn big (c :: (a ++ b)) := fun w h => (List.mem_cons.mp h).elim (fun e => ha w (List.mem_cons.mpr (Or.inl e))) (fun h => (List.mem_append.mp h).elim (fun h => ha w (List.mem_cons.mpr (Or.inr h))) (hb w))
theorem goodIn_sub {big ws : List Cond} (hm : ∀ w ∈ ws, w ∈ big) (h : ws.all goodWord = true) : GoodIn big ws := fun w hw => ⟨hm w hw, good_of_word (List.all_eq_true.mp h w hw)⟩
/-! ===== END ===== -/

/-! ===== BEGIN printed: names, fields, word lists, decode rows ===== -/
def RX0 : String := "EndedByOthers$Matching"
def TX0 : u_T := fun k => match k with
  | 0 => ("EndedByOthers$Matching", "pleasing", "[I", true)
  | 1 => ("EndedByOthers$Matching", "picks", "[I", true)
  | _ => ("EndedByOthers$Matching", "ended", "I", false)
def tyX0 : Nat → FieldType := fun k => match k with
  | 0 => .array .int
  | 1 => .array .int
  | _ => .int
abbrev wsX00 : List Cond := u_ws RX0 TX0 3
theorem nmX0 : ∀ a, a < 3 → ∀ b, b < 3 → a ≠ b → (TX0 a).2.1 ≠ (TX0 b).2.1 := by decide +kernel
theorem tyX0_ok : ∀ k, k < 3 → parseFieldDescriptor (TX0 k).2.2.1 = some (tyX0 k) := by decide +kernel
abbrev cX0_init : ByteArray := prog_2_method_1_code
def yX0_init : MethodName := ⟨RX0, "<init>", "()V"⟩
abbrev cX0_solve : ByteArray := prog_2_method_2_code
def yX0_solve : MethodName := ⟨RX0, "solve", "()V"⟩
abbrev cX0_firstBestPick : ByteArray := prog_2_method_3_code
def yX0_firstBestPick : MethodName := ⟨RX0, "firstBestPick", "(II)I"⟩
abbrev cX0_mostFrom : ByteArray := prog_2_method_4_code
def yX0_mostFrom : MethodName := ⟨RX0, "mostFrom", "([III)I"⟩
def RX1 : String := "EndedByOthers$Page"
def TX1 : u_T := fun k => match k with
  | 0 => ("EndedByOthers$Page", "codes", "[I", true)
  | _ => ("EndedByOthers$Page", "length", "I", false)
def tyX1 : Nat → FieldType := fun k => match k with
  | 0 => .array .int
  | _ => .int
abbrev wsX10 : List Cond := u_ws RX1 TX1 2
theorem nmX1 : ∀ a, a < 2 → ∀ b, b < 2 → a ≠ b → (TX1 a).2.1 ≠ (TX1 b).2.1 := by decide +kernel
theorem tyX1_ok : ∀ k, k < 2 → parseFieldDescriptor (TX1 k).2.2.1 = some (tyX1 k) := by decide +kernel
abbrev cX1_init : ByteArray := prog_3_method_1_code
def yX1_init : MethodName := ⟨RX1, "<init>", "()V"⟩
abbrev cX1_add : ByteArray := prog_3_method_2_code
def yX1_add : MethodName := ⟨RX1, "add", "(I)V"⟩
def RX2 : String := "EndedByOthers$Reader"
def TX2 : u_T := fun k => match k with
  | 0 => ("EndedByOthers$Reader", "draft", "LEndedByOthers$Room;", true)
  | 1 => ("EndedByOthers$Reader", "opening", "I", false)
  | 2 => ("EndedByOthers$Reader", "lettersOfPart", "I", false)
  | _ => ("EndedByOthers$Reader", "lastCode", "I", false)
def tyX2 : Nat → FieldType := fun k => match k with
  | 0 => .object "EndedByOthers$Room"
  | 1 => .int
  | 2 => .int
  | _ => .int
abbrev wsX20 : List Cond := u_ws RX2 TX2 4
theorem nmX2 : ∀ a, a < 4 → ∀ b, b < 4 → a ≠ b → (TX2 a).2.1 ≠ (TX2 b).2.1 := by decide +kernel
theorem tyX2_ok : ∀ k, k < 4 → parseFieldDescriptor (TX2 k).2.2.1 = some (tyX2 k) := by decide +kernel
abbrev cX2_init : ByteArray := prog_4_method_1_code
def yX2_init : MethodName := ⟨RX2, "<init>", "()V"⟩
abbrev cX2_read : ByteArray := prog_4_method_2_code
def yX2_read : MethodName := ⟨RX2, "read", "(LEndedByOthers$Page;)I"⟩
abbrev cX2_hasWholeRoom : ByteArray := prog_4_method_3_code
def yX2_hasWholeRoom : MethodName := ⟨RX2, "hasWholeRoom", "()Z"⟩
abbrev cX2_takes : ByteArray := prog_4_method_4_code
def yX2_takes : MethodName := ⟨RX2, "takes", "(I)Z"⟩
abbrev cX2_takesInOpening : ByteArray := prog_4_method_5_code
def yX2_takesInOpening : MethodName := ⟨RX2, "takesInOpening", "(I)Z"⟩
abbrev cX2_takesInSpeaker : ByteArray := prog_4_method_6_code
def yX2_takesInSpeaker : MethodName := ⟨RX2, "takesInSpeaker", "(I)Z"⟩
abbrev cX2_takesKind : ByteArray := prog_4_method_7_code
def yX2_takesKind : MethodName := ⟨RX2, "takesKind", "(I)Z"⟩
abbrev cX2_takesWant : ByteArray := prog_4_method_8_code
def yX2_takesWant : MethodName := ⟨RX2, "takesWant", "(I)Z"⟩
abbrev cX2_takesNextSpeaker : ByteArray := prog_4_method_9_code
def yX2_takesNextSpeaker : MethodName := ⟨RX2, "takesNextSpeaker", "(I)Z"⟩
abbrev cX2_startPart : ByteArray := prog_4_method_10_code
def yX2_startPart : MethodName := ⟨RX2, "startPart", "()V"⟩
def RX3 : String := "EndedByOthers$Room"
def TX3 : u_T := fun k => match k with
  | 0 => ("EndedByOthers$Room", "fitting", "[I", true)
  | 1 => ("EndedByOthers$Room", "kinds", "[I", true)
  | 2 => ("EndedByOthers$Room", "wants", "[I", true)
  | _ => ("EndedByOthers$Room", "speakers", "I", false)
def tyX3 : Nat → FieldType := fun k => match k with
  | 0 => .array .int
  | 1 => .array .int
  | 2 => .array .int
  | _ => .int
abbrev wsX30 : List Cond := u_ws RX3 TX3 4
theorem nmX3 : ∀ a, a < 4 → ∀ b, b < 4 → a ≠ b → (TX3 a).2.1 ≠ (TX3 b).2.1 := by decide +kernel
theorem tyX3_ok : ∀ k, k < 4 → parseFieldDescriptor (TX3 k).2.2.1 = some (tyX3 k) := by decide +kernel
abbrev cX3_init : ByteArray := prog_5_method_1_code
def yX3_init : MethodName := ⟨RX3, "<init>", "()V"⟩
abbrev cX3_clear : ByteArray := prog_5_method_2_code
def yX3_clear : MethodName := ⟨RX3, "clear", "()V"⟩
abbrev cX3_copyFrom : ByteArray := prog_5_method_3_code
def yX3_copyFrom : MethodName := ⟨RX3, "copyFrom", "(LEndedByOthers$Room;)V"⟩
def RX4 : String := "EndedByOthers$Scene"
def TX4 : u_T := fun k => match k with
  | 0 => ("EndedByOthers$Scene", "wants", "[I", true)
  | 1 => ("EndedByOthers$Scene", "beginners", "[I", true)
  | 2 => ("EndedByOthers$Scene", "openings", "[I", true)
  | 3 => ("EndedByOthers$Scene", "enders", "[I", true)
  | 4 => ("EndedByOthers$Scene", "endings", "[I", true)
  | 5 => ("EndedByOthers$Scene", "sentences", "I", false)
  | 6 => ("EndedByOthers$Scene", "heardSpeakers", "[I", true)
  | 7 => ("EndedByOthers$Scene", "heardOpenings", "[I", true)
  | 8 => ("EndedByOthers$Scene", "heardEndings", "[I", true)
  | 9 => ("EndedByOthers$Scene", "heard", "I", false)
  | _ => ("EndedByOthers$Scene", "changes", "I", false)
def tyX4 : Nat → FieldType := fun k => match k with
  | 0 => .array .int
  | 1 => .array .int
  | 2 => .array .int
  | 3 => .array .int
  | 4 => .array .int
  | 5 => .int
  | 6 => .array .int
  | 7 => .array .int
  | 8 => .array .int
  | 9 => .int
  | _ => .int
abbrev wsX40 : List Cond := u_ws RX4 TX4 11
theorem nmX4 : ∀ a, a < 11 → ∀ b, b < 11 → a ≠ b → (TX4 a).2.1 ≠ (TX4 b).2.1 := by decide +kernel
theorem tyX4_ok : ∀ k, k < 11 → parseFieldDescriptor (TX4 k).2.2.1 = some (tyX4 k) := by decide +kernel
abbrev cX4_init : ByteArray := prog_6_method_1_code
def yX4_init : MethodName := ⟨RX4, "<init>", "()V"⟩
abbrev cX4_start : ByteArray := prog_6_method_2_code
def yX4_start : MethodName := ⟨RX4, "start", "([I)V"⟩
abbrev cX4_copyFrom : ByteArray := prog_6_method_3_code
def yX4_copyFrom : MethodName := ⟨RX4, "copyFrom", "(LEndedByOthers$Scene;)V"⟩
abbrev cX4_addSentence : ByteArray := prog_6_method_4_code
def yX4_addSentence : MethodName := ⟨RX4, "addSentence", "(II)I"⟩
abbrev cX4_addHeard : ByteArray := prog_6_method_5_code
def yX4_addHeard : MethodName := ⟨RX4, "addHeard", "(III)V"⟩
abbrev cX4_isOpen : ByteArray := prog_6_method_6_code
def yX4_isOpen : MethodName := ⟨RX4, "isOpen", "(I)Z"⟩
abbrev cX4_isAsWanted : ByteArray := prog_6_method_7_code
def yX4_isAsWanted : MethodName := ⟨RX4, "isAsWanted", "(I)Z"⟩
abbrev cX4_openOf : ByteArray := prog_6_method_8_code
def yX4_openOf : MethodName := ⟨RX4, "openOf", "(I)I"⟩
abbrev cX4_usedBy : ByteArray := prog_6_method_9_code
def yX4_usedBy : MethodName := ⟨RX4, "usedBy", "(I)I"⟩
abbrev cX4_howManyBegunBy : ByteArray := prog_6_method_10_code
def yX4_howManyBegunBy : MethodName := ⟨RX4, "howManyBegunBy", "(I)I"⟩
abbrev cX4_howManyEndedBy : ByteArray := prog_6_method_11_code
def yX4_howManyEndedBy : MethodName := ⟨RX4, "howManyEndedBy", "(I)I"⟩
abbrev cX4_howManyOpen : ByteArray := prog_6_method_12_code
def yX4_howManyOpen : MethodName := ⟨RX4, "howManyOpen", "()I"⟩
abbrev cX4_howManyAsWanted : ByteArray := prog_6_method_13_code
def yX4_howManyAsWanted : MethodName := ⟨RX4, "howManyAsWanted", "()I"⟩
abbrev cX4_howManyUnlikeEndings : ByteArray := prog_6_method_14_code
def yX4_howManyUnlikeEndings : MethodName := ⟨RX4, "howManyUnlikeEndings", "()I"⟩
def RX5 : String := "EndedByOthers$Trial"
def TX5 : u_T := fun k => match k with
  | 0 => ("EndedByOthers$Trial", "used", "[I", true)
  | 1 => ("EndedByOthers$Trial", "seed", "J", false)
  | 2 => ("EndedByOthers$Trial", "ended", "I", false)
  | _ => ("EndedByOthers$Trial", "asWanted", "I", false)
def tyX5 : Nat → FieldType := fun k => match k with
  | 0 => .array .int
  | 1 => .long
  | 2 => .int
  | _ => .int
abbrev wsX50 : List Cond := u_ws RX5 TX5 4
theorem nmX5 : ∀ a, a < 4 → ∀ b, b < 4 → a ≠ b → (TX5 a).2.1 ≠ (TX5 b).2.1 := by decide +kernel
theorem tyX5_ok : ∀ k, k < 4 → parseFieldDescriptor (TX5 k).2.2.1 = some (tyX5 k) := by decide +kernel
abbrev cX5_init : ByteArray := prog_7_method_1_code
def yX5_init : MethodName := ⟨RX5, "<init>", "()V"⟩
abbrev cX5_run : ByteArray := prog_7_method_2_code
def yX5_run : MethodName := ⟨RX5, "run", "(LEndedByOthers$Room;LEndedByOthers$Scene;II)V"⟩
abbrev cX5_talkOnce : ByteArray := prog_7_method_3_code
def yX5_talkOnce : MethodName := ⟨RX5, "talkOnce", "(LEndedByOthers$Room;LEndedByOthers$Scene;)V"⟩
abbrev cX5_draw : ByteArray := prog_7_method_4_code
def yX5_draw : MethodName := ⟨RX5, "draw", "(I)I"⟩
def RX6 : String := "EndedByOthers"
def TX6 : u_T := fun k => match k with
  | 0 => ("EndedByOthers", "page", "LEndedByOthers$Page;", true)
  | 1 => ("EndedByOthers", "reader", "LEndedByOthers$Reader;", true)
  | 2 => ("EndedByOthers", "room", "LEndedByOthers$Room;", true)
  | 3 => ("EndedByOthers", "scene", "LEndedByOthers$Scene;", true)
  | 4 => ("EndedByOthers", "image", "LEndedByOthers$Scene;", true)
  | 5 => ("EndedByOthers", "matching", "LEndedByOthers$Matching;", true)
  | 6 => ("EndedByOthers", "trial", "LEndedByOthers$Trial;", true)
  | 7 => ("EndedByOthers", "imageKept", "Z", false)
  | _ => ("EndedByOthers", "roomsRead", "I", false)
def tyX6 : Nat → FieldType := fun k => match k with
  | 0 => .object "EndedByOthers$Page"
  | 1 => .object "EndedByOthers$Reader"
  | 2 => .object "EndedByOthers$Room"
  | 3 => .object "EndedByOthers$Scene"
  | 4 => .object "EndedByOthers$Scene"
  | 5 => .object "EndedByOthers$Matching"
  | 6 => .object "EndedByOthers$Trial"
  | 7 => .boolean
  | _ => .int
abbrev wsX60 : List Cond := u_ws RX6 TX6 9
theorem nmX6 : ∀ a, a < 9 → ∀ b, b < 9 → a ≠ b → (TX6 a).2.1 ≠ (TX6 b).2.1 := by decide +kernel
theorem tyX6_ok : ∀ k, k < 9 → parseFieldDescriptor (TX6 k).2.2.1 = some (tyX6 k) := by decide +kernel
abbrev cX6_init : ByteArray := prog_1_method_1_code
def yX6_init : MethodName := ⟨RX6, "<init>", "()V"⟩
abbrev cX6_letter : ByteArray := prog_1_method_2_code
def yX6_letter : MethodName := ⟨RX6, "letter", "(I)I"⟩
abbrev cX6_blank : ByteArray := prog_1_method_3_code
def yX6_blank : MethodName := ⟨RX6, "blank", "()I"⟩
abbrev cX6_fault : ByteArray := prog_1_method_4_code
def yX6_fault : MethodName := ⟨RX6, "fault", "()I"⟩
abbrev cX6_room : ByteArray := prog_1_method_5_code
def yX6_room : MethodName := ⟨RX6, "room", "()I"⟩
abbrev cX6_fits : ByteArray := prog_1_method_6_code
def yX6_fits : MethodName := ⟨RX6, "fits", "(I)I"⟩
abbrev cX6_about : ByteArray := prog_1_method_7_code
def yX6_about : MethodName := ⟨RX6, "about", "(II)I"⟩
abbrev cX6_as : ByteArray := prog_1_method_8_code
def yX6_as : MethodName := ⟨RX6, "as", "(II)I"⟩
abbrev cX6_want : ByteArray := prog_1_method_9_code
def yX6_want : MethodName := ⟨RX6, "want", "(II)I"⟩
abbrev cX6_would : ByteArray := prog_1_method_10_code
def yX6_would : MethodName := ⟨RX6, "would", "(II)I"⟩
abbrev cX6_begin : ByteArray := prog_1_method_11_code
def yX6_begin : MethodName := ⟨RX6, "begin", "(II)I"⟩
abbrev cX6_end : ByteArray := prog_1_method_12_code
def yX6_end : MethodName := ⟨RX6, "end", "(II)I"⟩
abbrev cX6_sentence : ByteArray := prog_1_method_13_code
def yX6_sentence : MethodName := ⟨RX6, "sentence", "(II)I"⟩
abbrev cX6_match : ByteArray := prog_1_method_14_code
def yX6_match : MethodName := ⟨RX6, "match", "(I)I"⟩
abbrev cX6_hear : ByteArray := prog_1_method_15_code
def yX6_hear : MethodName := ⟨RX6, "hear", "(III)I"⟩
abbrev cX6_forget : ByteArray := prog_1_method_16_code
def yX6_forget : MethodName := ⟨RX6, "forget", "()I"⟩
abbrev cX6_talks : ByteArray := prog_1_method_17_code
def yX6_talks : MethodName := ⟨RX6, "talks", "(III)I"⟩
abbrev cX6_image : ByteArray := prog_1_method_18_code
def yX6_image : MethodName := ⟨RX6, "image", "()I"⟩
abbrev cX6_restore : ByteArray := prog_1_method_19_code
def yX6_restore : MethodName := ⟨RX6, "restore", "()I"⟩
abbrev cX6_count : ByteArray := prog_1_method_20_code
def yX6_count : MethodName := ⟨RX6, "count", "(I)I"⟩
abbrev cX6_digest : ByteArray := prog_1_method_21_code
def yX6_digest : MethodName := ⟨RX6, "digest", "()J"⟩
abbrev cX6_mixed : ByteArray := prog_1_method_22_code
def yX6_mixed : MethodName := ⟨RX6, "mixed", "(JJ)J"⟩
abbrev cX6_isSpeaker : ByteArray := prog_1_method_23_code
def yX6_isSpeaker : MethodName := ⟨RX6, "isSpeaker", "(I)Z"⟩
abbrev cX6_isSentence : ByteArray := prog_1_method_24_code
def yX6_isSentence : MethodName := ⟨RX6, "isSentence", "(I)Z"⟩
abbrev cX6_isOpening : ByteArray := prog_1_method_25_code
def yX6_isOpening : MethodName := ⟨RX6, "isOpening", "(I)Z"⟩
abbrev cX6_isEnding : ByteArray := prog_1_method_26_code
def yX6_isEnding : MethodName := ⟨RX6, "isEnding", "(I)Z"⟩
abbrev cX6_isOfKind : ByteArray := prog_1_method_27_code
def yX6_isOfKind : MethodName := ⟨RX6, "isOfKind", "(II)Z"⟩
abbrev cX6_endingBy : ByteArray := prog_1_method_28_code
def yX6_endingBy : MethodName := ⟨RX6, "endingBy", "(IIII)I"⟩
abbrev cX6_endingNow : ByteArray := prog_1_method_29_code
def yX6_endingNow : MethodName := ⟨RX6, "endingNow", "(II)I"⟩
abbrev cX6_has : ByteArray := prog_1_method_30_code
def yX6_has : MethodName := ⟨RX6, "has", "(II)Z"⟩
abbrev cX6_least : ByteArray := prog_1_method_31_code
def yX6_least : MethodName := ⟨RX6, "least", "(I)I"⟩
abbrev cX6_greatest : ByteArray := prog_1_method_32_code
def yX6_greatest : MethodName := ⟨RX6, "greatest", "(I)I"⟩
abbrev cX6_sureOpening : ByteArray := prog_1_method_33_code
def yX6_sureOpening : MethodName := ⟨RX6, "sureOpening", "(I)I"⟩
abbrev cX6_isSure : ByteArray := prog_1_method_34_code
def yX6_isSure : MethodName := ⟨RX6, "isSure", "(II)Z"⟩
abbrev cX6_possibleKinds : ByteArray := prog_1_method_35_code
def yX6_possibleKinds : MethodName := ⟨RX6, "possibleKinds", "(I)I"⟩
abbrev cX6_agreesWithHeard : ByteArray := prog_1_method_36_code
def yX6_agreesWithHeard : MethodName := ⟨RX6, "agreesWithHeard", "(II)Z"⟩
abbrev cX6_tellingOpening : ByteArray := prog_1_method_37_code
def yX6_tellingOpening : MethodName := ⟨RX6, "tellingOpening", "(II)I"⟩
abbrev cX6_mostKindsLeft : ByteArray := prog_1_method_38_code
def yX6_mostKindsLeft : MethodName := ⟨RX6, "mostKindsLeft", "(III)I"⟩
abbrev cX6_findPleasing : ByteArray := prog_1_method_39_code
def yX6_findPleasing : MethodName := ⟨RX6, "findPleasing", "()V"⟩
abbrev cX6_wouldPlease : ByteArray := prog_1_method_40_code
def yX6_wouldPlease : MethodName := ⟨RX6, "wouldPlease", "(II)Z"⟩
def RX7 : String := "EndedByOthersModel"
def TX7 : u_T := fun k => match k with
  | 0 => ("EndedByOthersModel", "page", "[I", true)
  | 1 => ("EndedByOthersModel", "pageMany", "I", false)
  | 2 => ("EndedByOthersModel", "part", "I", false)
  | 3 => ("EndedByOthersModel", "partMany", "I", false)
  | 4 => ("EndedByOthersModel", "lastOne", "I", false)
  | 5 => ("EndedByOthersModel", "readFits", "[I", true)
  | 6 => ("EndedByOthersModel", "readRows", "[I", true)
  | 7 => ("EndedByOthersModel", "readMany", "I", false)
  | 8 => ("EndedByOthersModel", "step", "I", false)
  | 9 => ("EndedByOthersModel", "speakers", "I", false)
  | 10 => ("EndedByOthersModel", "wants", "I", false)
  | 11 => ("EndedByOthersModel", "roomsRead", "I", false)
  | 12 => ("EndedByOthersModel", "fitting", "[I", true)
  | 13 => ("EndedByOthersModel", "rows", "[I", true)
  | 14 => ("EndedByOthersModel", "sentences", "I", false)
  | 15 => ("EndedByOthersModel", "said", "[I", true)
  | 16 => ("EndedByOthersModel", "row", "[I", true)
  | 17 => ("EndedByOthersModel", "bestRow", "[I", true)
  | 18 => ("EndedByOthersModel", "heardMany", "I", false)
  | 19 => ("EndedByOthersModel", "heards", "[I", true)
  | 20 => ("EndedByOthersModel", "parts", "[I", true)
  | 21 => ("EndedByOthersModel", "seedNow", "I", false)
  | 22 => ("EndedByOthersModel", "savedRows", "[I", true)
  | 23 => ("EndedByOthersModel", "keptRoom", "I", false)
  | 24 => ("EndedByOthersModel", "keptSentences", "I", false)
  | 25 => ("EndedByOthersModel", "keptWants", "I", false)
  | 26 => ("EndedByOthersModel", "keptHeard", "I", false)
  | 27 => ("EndedByOthersModel", "keptRows", "[I", true)
  | 28 => ("EndedByOthersModel", "keptSaid", "[I", true)
  | 29 => ("EndedByOthersModel", "keptHeards", "[I", true)
  | _ => ("EndedByOthersModel", "hash", "J", false)
def tyX7 : Nat → FieldType := fun k => match k with
  | 0 => .array .int
  | 1 => .int
  | 2 => .int
  | 3 => .int
  | 4 => .int
  | 5 => .array .int
  | 6 => .array .int
  | 7 => .int
  | 8 => .int
  | 9 => .int
  | 10 => .int
  | 11 => .int
  | 12 => .array .int
  | 13 => .array .int
  | 14 => .int
  | 15 => .array .int
  | 16 => .array .int
  | 17 => .array .int
  | 18 => .int
  | 19 => .array .int
  | 20 => .array .int
  | 21 => .int
  | 22 => .array .int
  | 23 => .int
  | 24 => .int
  | 25 => .int
  | 26 => .int
  | 27 => .array .int
  | 28 => .array .int
  | 29 => .array .int
  | _ => .long
abbrev wsX70 : List Cond := u_ws RX7 TX7 31
theorem nmX7 : ∀ a, a < 31 → ∀ b, b < 31 → a ≠ b → (TX7 a).2.1 ≠ (TX7 b).2.1 := by decide +kernel
theorem tyX7_ok : ∀ k, k < 31 → parseFieldDescriptor (TX7 k).2.2.1 = some (tyX7 k) := by decide +kernel
abbrev cX7_init : ByteArray := prog_9_method_1_code
def yX7_init : MethodName := ⟨RX7, "<init>", "()V"⟩
abbrev cX7_in : ByteArray := prog_9_method_2_code
def yX7_in : MethodName := ⟨RX7, "in", "(JJJ)Z"⟩
abbrev cX7_copy : ByteArray := prog_9_method_3_code
def yX7_copy : MethodName := ⟨RX7, "copy", "([I[I)V"⟩
abbrev cX7_letter : ByteArray := prog_9_method_4_code
def yX7_letter : MethodName := ⟨RX7, "letter", "(I)I"⟩
abbrev cX7_blank : ByteArray := prog_9_method_5_code
def yX7_blank : MethodName := ⟨RX7, "blank", "()I"⟩
abbrev cX7_kindBy : ByteArray := prog_9_method_6_code
def yX7_kindBy : MethodName := ⟨RX7, "kindBy", "(I)I"⟩
abbrev cX7_goOpening : ByteArray := prog_9_method_7_code
def yX7_goOpening : MethodName := ⟨RX7, "goOpening", "(I)Z"⟩
abbrev cX7_goSpeaker : ByteArray := prog_9_method_8_code
def yX7_goSpeaker : MethodName := ⟨RX7, "goSpeaker", "(I)Z"⟩
abbrev cX7_faultOf : ByteArray := prog_9_method_9_code
def yX7_faultOf : MethodName := ⟨RX7, "faultOf", "()I"⟩
abbrev cX7_fault : ByteArray := prog_9_method_10_code
def yX7_fault : MethodName := ⟨RX7, "fault", "()I"⟩
abbrev cX7_room : ByteArray := prog_9_method_11_code
def yX7_room : MethodName := ⟨RX7, "room", "()I"⟩
abbrev cX7_lacks : ByteArray := prog_9_method_12_code
def yX7_lacks : MethodName := ⟨RX7, "lacks", "()Z"⟩
abbrev cX7_isOpening : ByteArray := prog_9_method_13_code
def yX7_isOpening : MethodName := ⟨RX7, "isOpening", "(I)Z"⟩
abbrev cX7_isSpeaker : ByteArray := prog_9_method_14_code
def yX7_isSpeaker : MethodName := ⟨RX7, "isSpeaker", "(I)Z"⟩
abbrev cX7_fits : ByteArray := prog_9_method_15_code
def yX7_fits : MethodName := ⟨RX7, "fits", "(I)I"⟩
abbrev cX7_leastOf : ByteArray := prog_9_method_16_code
def yX7_leastOf : MethodName := ⟨RX7, "leastOf", "(I)I"⟩
abbrev cX7_greatestOf : ByteArray := prog_9_method_17_code
def yX7_greatestOf : MethodName := ⟨RX7, "greatestOf", "(I)I"⟩
abbrev cX7_ones : ByteArray := prog_9_method_18_code
def yX7_ones : MethodName := ⟨RX7, "ones", "(I)I"⟩
abbrev cX7_endsBy : ByteArray := prog_9_method_19_code
def yX7_endsBy : MethodName := ⟨RX7, "endsBy", "(IIII)I"⟩
abbrev cX7_wouldOf : ByteArray := prog_9_method_20_code
def yX7_wouldOf : MethodName := ⟨RX7, "wouldOf", "(II)I"⟩
abbrev cX7_openOf : ByteArray := prog_9_method_21_code
def yX7_openOf : MethodName := ⟨RX7, "openOf", "(I)I"⟩
abbrev cX7_saidBy : ByteArray := prog_9_method_22_code
def yX7_saidBy : MethodName := ⟨RX7, "saidBy", "(II)I"⟩
abbrev cX7_sureOf : ByteArray := prog_9_method_23_code
def yX7_sureOf : MethodName := ⟨RX7, "sureOf", "(I)I"⟩
abbrev cX7_tell : ByteArray := prog_9_method_24_code
def yX7_tell : MethodName := ⟨RX7, "tell", "(II)I"⟩
abbrev cX7_about : ByteArray := prog_9_method_25_code
def yX7_about : MethodName := ⟨RX7, "about", "(II)I"⟩
abbrev cX7_as : ByteArray := prog_9_method_26_code
def yX7_as : MethodName := ⟨RX7, "as", "(II)I"⟩
abbrev cX7_want : ByteArray := prog_9_method_27_code
def yX7_want : MethodName := ⟨RX7, "want", "(II)I"⟩
abbrev cX7_would : ByteArray := prog_9_method_28_code
def yX7_would : MethodName := ⟨RX7, "would", "(II)I"⟩
abbrev cX7_isSentence : ByteArray := prog_9_method_29_code
def yX7_isSentence : MethodName := ⟨RX7, "isSentence", "(I)Z"⟩
abbrev cX7_begin : ByteArray := prog_9_method_30_code
def yX7_begin : MethodName := ⟨RX7, "begin", "(II)I"⟩
abbrev cX7_end : ByteArray := prog_9_method_31_code
def yX7_end : MethodName := ⟨RX7, "end", "(II)I"⟩
abbrev cX7_isWanted : ByteArray := prog_9_method_32_code
def yX7_isWanted : MethodName := ⟨RX7, "isWanted", "(I)Z"⟩
abbrev cX7_tellSentence : ByteArray := prog_9_method_33_code
def yX7_tellSentence : MethodName := ⟨RX7, "tellSentence", "(II)I"⟩
abbrev cX7_sentence : ByteArray := prog_9_method_34_code
def yX7_sentence : MethodName := ⟨RX7, "sentence", "(II)I"⟩
abbrev cX7_endsAsWanted : ByteArray := prog_9_method_35_code
def yX7_endsAsWanted : MethodName := ⟨RX7, "endsAsWanted", "(II)Z"⟩
abbrev cX7_layRow : ByteArray := prog_9_method_36_code
def yX7_layRow : MethodName := ⟨RX7, "layRow", "(I)Z"⟩
abbrev cX7_matchOf : ByteArray := prog_9_method_37_code
def yX7_matchOf : MethodName := ⟨RX7, "matchOf", "(I)I"⟩
abbrev cX7_match : ByteArray := prog_9_method_38_code
def yX7_match : MethodName := ⟨RX7, "match", "(I)I"⟩
abbrev cX7_hear : ByteArray := prog_9_method_39_code
def yX7_hear : MethodName := ⟨RX7, "hear", "(III)I"⟩
abbrev cX7_forget : ByteArray := prog_9_method_40_code
def yX7_forget : MethodName := ⟨RX7, "forget", "()I"⟩
abbrev cX7_whichOf : ByteArray := prog_9_method_41_code
def yX7_whichOf : MethodName := ⟨RX7, "whichOf", "(I)I"⟩
abbrev cX7_beginOf : ByteArray := prog_9_method_42_code
def yX7_beginOf : MethodName := ⟨RX7, "beginOf", "(I)I"⟩
abbrev cX7_draw : ByteArray := prog_9_method_43_code
def yX7_draw : MethodName := ⟨RX7, "draw", "(I)I"⟩
abbrev cX7_talks : ByteArray := prog_9_method_44_code
def yX7_talks : MethodName := ⟨RX7, "talks", "(III)I"⟩
abbrev cX7_image : ByteArray := prog_9_method_45_code
def yX7_image : MethodName := ⟨RX7, "image", "()I"⟩
abbrev cX7_restore : ByteArray := prog_9_method_46_code
def yX7_restore : MethodName := ⟨RX7, "restore", "()I"⟩
abbrev cX7_wantedMany : ByteArray := prog_9_method_47_code
def yX7_wantedMany : MethodName := ⟨RX7, "wantedMany", "()I"⟩
abbrev cX7_unlike : ByteArray := prog_9_method_48_code
def yX7_unlike : MethodName := ⟨RX7, "unlike", "()I"⟩
abbrev cX7_countOf : ByteArray := prog_9_method_49_code
def yX7_countOf : MethodName := ⟨RX7, "countOf", "(I)I"⟩
abbrev cX7_count : ByteArray := prog_9_method_50_code
def yX7_count : MethodName := ⟨RX7, "count", "(I)I"⟩
abbrev cX7_say : ByteArray := prog_9_method_51_code
def yX7_say : MethodName := ⟨RX7, "say", "(J)V"⟩
abbrev cX7_saySpeaker : ByteArray := prog_9_method_52_code
def yX7_saySpeaker : MethodName := ⟨RX7, "saySpeaker", "(I)V"⟩
abbrev cX7_digest : ByteArray := prog_9_method_53_code
def yX7_digest : MethodName := ⟨RX7, "digest", "()J"⟩
def RJ11 : String := "java/lang/Character"
def TJ11 : u_T := fun k => match k with
  | _ => ("", "", "", false)
def tyJ11 : Nat → FieldType := fun k => match k with
  | _ => .int
abbrev wsJ110 : List Cond := u_ws RJ11 TJ11 0
theorem nmJ11 : ∀ a, a < 0 → ∀ b, b < 0 → a ≠ b → (TJ11 a).2.1 ≠ (TJ11 b).2.1 := by decide +kernel
theorem tyJ11_ok : ∀ k, k < 0 → parseFieldDescriptor (TJ11 k).2.2.1 = some (tyJ11 k) := by decide +kernel
abbrev cJ11_isValidCodePoint_9a6ad : ByteArray := prog_10_method_11_code
def yJ11_isValidCodePoint_9a6ad : MethodName := ⟨RJ11, "isValidCodePoint", "(I)Z"⟩
abbrev cJ11_highSurrogate_5068e : ByteArray := prog_10_method_28_code
def yJ11_highSurrogate_5068e : MethodName := ⟨RJ11, "highSurrogate", "(I)C"⟩
abbrev cJ11_lowSurrogate_5068e : ByteArray := prog_10_method_29_code
def yJ11_lowSurrogate_5068e : MethodName := ⟨RJ11, "lowSurrogate", "(I)C"⟩
def RJ6 : String := "java/lang/Integer"
def TJ6 : u_T := fun k => match k with
  | _ => ("", "", "", false)
def tyJ6 : Nat → FieldType := fun k => match k with
  | _ => .int
abbrev wsJ60 : List Cond := u_ws RJ6 TJ6 0
theorem nmJ6 : ∀ a, a < 0 → ∀ b, b < 0 → a ≠ b → (TJ6 a).2.1 ≠ (TJ6 b).2.1 := by decide +kernel
theorem tyJ6_ok : ∀ k, k < 0 → parseFieldDescriptor (TJ6 k).2.2.1 = some (tyJ6 k) := by decide +kernel
abbrev cJ6_bitCount_0f7a4 : ByteArray := prog_11_method_49_code
def yJ6_bitCount_0f7a4 : MethodName := ⟨RJ6, "bitCount", "(I)I"⟩
def RJ9 : String := "java/lang/Math"
def TJ9 : u_T := fun k => match k with
  | _ => ("", "", "", false)
def tyJ9 : Nat → FieldType := fun k => match k with
  | _ => .int
abbrev wsJ90 : List Cond := u_ws RJ9 TJ9 0
theorem nmJ9 : ∀ a, a < 0 → ∀ b, b < 0 → a ≠ b → (TJ9 a).2.1 ≠ (TJ9 b).2.1 := by decide +kernel
theorem tyJ9_ok : ∀ k, k < 0 → parseFieldDescriptor (TJ9 k).2.2.1 = some (tyJ9 k) := by decide +kernel
abbrev cJ9_max_7cf53 : ByteArray := prog_12_method_65_code
def yJ9_max_7cf53 : MethodName := ⟨RJ9, "max", "(II)I"⟩
abbrev cJ9_min_7cf53 : ByteArray := prog_12_method_69_code
def yJ9_min_7cf53 : MethodName := ⟨RJ9, "min", "(II)I"⟩
def RJ0 : String := "java/lang/String"
def TJ0 : u_T := fun k => match k with
  | _ => ("", "", "", false)
def tyJ0 : Nat → FieldType := fun k => match k with
  | _ => .int
abbrev wsJ00 : List Cond := u_ws RJ0 TJ0 0
theorem nmJ0 : ∀ a, a < 0 → ∀ b, b < 0 → a ≠ b → (TJ0 a).2.1 ≠ (TJ0 b).2.1 := by decide +kernel
theorem tyJ0_ok : ∀ k, k < 0 → parseFieldDescriptor (TJ0 k).2.2.1 = some (tyJ0 k) := by decide +kernel
abbrev cJ0_length_8abf5 : ByteArray := prog_13_method_54_code
def yJ0_length_8abf5 : MethodName := ⟨RJ0, "length", "()I"⟩
abbrev cJ0_indexOf_0f7a4 : ByteArray := prog_13_method_79_code
def yJ0_indexOf_0f7a4 : MethodName := ⟨RJ0, "indexOf", "(I)I"⟩
abbrev cJ0_indexOf_7cf53 : ByteArray := prog_13_method_80_code
def yJ0_indexOf_7cf53 : MethodName := ⟨RJ0, "indexOf", "(II)I"⟩
abbrev cJ0_coder_7d493 : ByteArray := prog_13_method_152_code
def yJ0_coder_7d493 : MethodName := ⟨RJ0, "coder", "()B"⟩
abbrev cJ0_isLatin1_aae02 : ByteArray := prog_13_method_154_code
def yJ0_isLatin1_aae02 : MethodName := ⟨RJ0, "isLatin1", "()Z"⟩
abbrev cJ0_checkBoundsBeginEnd_23922 : ByteArray := prog_13_method_158_code
def yJ0_checkBoundsBeginEnd_23922 : MethodName := ⟨RJ0, "checkBoundsBeginEnd", "(III)V"⟩
def RJ1 : String := "java/lang/StringLatin1"
def TJ1 : u_T := fun k => match k with
  | _ => ("", "", "", false)
def tyJ1 : Nat → FieldType := fun k => match k with
  | _ => .int
abbrev wsJ10 : List Cond := u_ws RJ1 TJ1 0
theorem nmJ1 : ∀ a, a < 0 → ∀ b, b < 0 → a ≠ b → (TJ1 a).2.1 ≠ (TJ1 b).2.1 := by decide +kernel
theorem tyJ1_ok : ∀ k, k < 0 → parseFieldDescriptor (TJ1 k).2.2.1 = some (tyJ1 k) := by decide +kernel
abbrev cJ1_canEncode_9a6ad : ByteArray := prog_14_method_4_code
def yJ1_canEncode_9a6ad : MethodName := ⟨RJ1, "canEncode", "(I)Z"⟩
abbrev cJ1_indexOf_4cfef : ByteArray := prog_14_method_22_code
def yJ1_indexOf_4cfef : MethodName := ⟨RJ1, "indexOf", "([BIII)I"⟩
abbrev cJ1_indexOfChar_4cfef : ByteArray := prog_14_method_23_code
def yJ1_indexOfChar_4cfef : MethodName := ⟨RJ1, "indexOfChar", "([BIII)I"⟩
def RJ2 : String := "java/lang/StringUTF16"
def TJ2 : u_T := fun k => match k with
  | _ => ("", "", "", false)
def tyJ2 : Nat → FieldType := fun k => match k with
  | _ => .int
abbrev wsJ20 : List Cond := u_ws RJ2 TJ2 0
theorem nmJ2 : ∀ a, a < 0 → ∀ b, b < 0 → a ≠ b → (TJ2 a).2.1 ≠ (TJ2 b).2.1 := by decide +kernel
theorem tyJ2_ok : ∀ k, k < 0 → parseFieldDescriptor (TJ2 k).2.2.1 = some (tyJ2 k) := by decide +kernel
abbrev cJ2_getChar_3b067 : ByteArray := prog_15_method_5_code
def yJ2_getChar_3b067 : MethodName := ⟨RJ2, "getChar", "([BI)C"⟩
abbrev cJ2_length_9d52b : ByteArray := prog_15_method_6_code
def yJ2_length_9d52b : MethodName := ⟨RJ2, "length", "([B)I"⟩
abbrev cJ2_indexOf_4cfef : ByteArray := prog_15_method_40_code
def yJ2_indexOf_4cfef : MethodName := ⟨RJ2, "indexOf", "([BIII)I"⟩
abbrev cJ2_indexOfChar_4cfef : ByteArray := prog_15_method_47_code
def yJ2_indexOfChar_4cfef : MethodName := ⟨RJ2, "indexOfChar", "([BIII)I"⟩
abbrev cJ2_indexOfCharUnsafe_4cfef : ByteArray := prog_15_method_48_code
def yJ2_indexOfCharUnsafe_4cfef : MethodName := ⟨RJ2, "indexOfCharUnsafe", "([BIII)I"⟩
abbrev cJ2_indexOfSupplementary_4cfef : ByteArray := prog_15_method_49_code
def yJ2_indexOfSupplementary_4cfef : MethodName := ⟨RJ2, "indexOfSupplementary", "([BIII)I"⟩
abbrev cJ2_checkBoundsBeginEnd_d044e : ByteArray := prog_15_method_93_code
def yJ2_checkBoundsBeginEnd_d044e : MethodName := ⟨RJ2, "checkBoundsBeginEnd", "(II[B)V"⟩
def RJ10 : String := "java/lang/System"
def TJ10 : u_T := fun k => match k with
  | _ => ("", "", "", false)
def tyJ10 : Nat → FieldType := fun k => match k with
  | _ => .int
abbrev wsJ100 : List Cond := u_ws RJ10 TJ10 0
theorem nmJ10 : ∀ a, a < 0 → ∀ b, b < 0 → a ≠ b → (TJ10 a).2.1 ≠ (TJ10 b).2.1 := by decide +kernel
theorem tyJ10_ok : ∀ k, k < 0 → parseFieldDescriptor (TJ10 k).2.2.1 = some (tyJ10 k) := by decide +kernel
def RJ3 : String := "jdk/internal/util/Preconditions"
def TJ3 : u_T := fun k => match k with
  | _ => ("", "", "", false)
def tyJ3 : Nat → FieldType := fun k => match k with
  | _ => .int
abbrev wsJ30 : List Cond := u_ws RJ3 TJ3 0
theorem nmJ3 : ∀ a, a < 0 → ∀ b, b < 0 → a ≠ b → (TJ3 a).2.1 ≠ (TJ3 b).2.1 := by decide +kernel
theorem tyJ3_ok : ∀ k, k < 0 → parseFieldDescriptor (TJ3 k).2.2.1 = some (tyJ3 k) := by decide +kernel
abbrev cJ3_checkFromToIndex_8c36e : ByteArray := prog_17_method_12_code
def yJ3_checkFromToIndex_8c36e : MethodName := ⟨RJ3, "checkFromToIndex", "(IIILjava/util/function/BiFunction;)I"⟩
def RL : String := "EndedByOthersLaw"
abbrev cL_law : ByteArray := code
def yL_law : MethodName := ⟨RL, "law", "([I)Z"⟩
def wsX0_init : List Cond := .code yX0_init cX0_init 1 none :: ([.methodLink RX0 3 objectInit, .instanceMethod objectInit, .code objectInit ⟨#[0xb1]⟩ 1 none, .arrayClass .int, .fieldLink RX0 9 "EndedByOthers$Matching" "pleasing" "[I", .fieldLink RX0 15 "EndedByOthers$Matching" "picks" "[I", .fieldLink RX0 18 "EndedByOthers$Matching" "ended" "I"] ++ wsX00)
def wsX6_has : List Cond := .code yX6_has cX6_has 2 (some .boolean) :: ([])
def wsX0_mostFrom : List Cond := .code yX0_mostFrom cX0_mostFrom 6 (some .int) :: ([.methodLink RX0 34 Lib.Math.max.name, .static Lib.Math.max.name, .initialized "java/lang/Math", .code Lib.Math.max.name Lib.Math.max.code 2 (some .int), .methodLink RX0 22 yX0_mostFrom, .static yX0_mostFrom, .initialized RX0, .static yX6_has, .initialized RX6, .code yX6_has cX6_has 2 (some .boolean)])
def wsX0_firstBestPick : List Cond := .code yX0_firstBestPick cX0_firstBestPick 6 (some .int) :: ([.fieldLink RX0 9 "EndedByOthers$Matching" "pleasing" "[I", .methodLink RX0 22 yX0_mostFrom, .static yX0_mostFrom, .initialized RX0, .code yX0_mostFrom cX0_mostFrom 6 (some .int), .methodLink RX0 34 Lib.Math.max.name, .static Lib.Math.max.name, .initialized "java/lang/Math", .code Lib.Math.max.name Lib.Math.max.code 2 (some .int), .static yX6_has, .initialized RX6, .code yX6_has cX6_has 2 (some .boolean)] ++ wsX00)
def wsX0_solve : List Cond := .code yX0_solve cX0_solve 3 none :: ([.fieldLink RX0 9 "EndedByOthers$Matching" "pleasing" "[I", .fieldLink RX0 18 "EndedByOthers$Matching" "ended" "I", .fieldLink RX0 15 "EndedByOthers$Matching" "picks" "[I", .methodLink RX0 22 yX0_mostFrom, .static yX0_mostFrom, .initialized RX0, .code yX0_mostFrom cX0_mostFrom 6 (some .int), .methodLink RX0 34 Lib.Math.max.name, .static Lib.Math.max.name, .initialized "java/lang/Math", .code Lib.Math.max.name Lib.Math.max.code 2 (some .int), .static yX6_has, .initialized RX6, .code yX6_has cX6_has 2 (some .boolean), .methodLink RX0 26 yX0_firstBestPick, .instanceMethod yX0_firstBestPick, .selects RX0 yX0_firstBestPick yX0_firstBestPick, .code yX0_firstBestPick cX0_firstBestPick 6 (some .int)] ++ wsX00)
def wsX1_init : List Cond := .code yX1_init cX1_init 1 none :: ([.methodLink RX1 3 objectInit, .instanceMethod objectInit, .code objectInit ⟨#[0xb1]⟩ 1 none, .arrayClass .int, .fieldLink RX1 9 "EndedByOthers$Page" "codes" "[I", .fieldLink RX1 15 "EndedByOthers$Page" "length" "I"] ++ wsX10)
def wsX1_add : List Cond := .code yX1_add cX1_add 2 none :: ([.fieldLink RX1 15 "EndedByOthers$Page" "length" "I", .fieldLink RX1 9 "EndedByOthers$Page" "codes" "[I"] ++ wsX10)
def wsX3_init : List Cond := .code yX3_init cX3_init 1 none :: ([.methodLink RX3 3 objectInit, .instanceMethod objectInit, .code objectInit ⟨#[0xb1]⟩ 1 none, .arrayClass .int, .fieldLink RX3 9 "EndedByOthers$Room" "fitting" "[I", .fieldLink RX3 15 "EndedByOthers$Room" "kinds" "[I", .fieldLink RX3 18 "EndedByOthers$Room" "wants" "[I", .fieldLink RX3 21 "EndedByOthers$Room" "speakers" "I"] ++ wsX30)
def wsX2_init : List Cond := .code yX2_init cX2_init 1 none :: ([.methodLink RX2 3 objectInit, .instanceMethod objectInit, .code objectInit ⟨#[0xb1]⟩ 1 none, .classLink RX2 9 RX3, .instantiable RX3 4, .initialized RX3, .fieldLink RX2 12 "EndedByOthers$Reader" "draft" "LEndedByOthers$Room;", .fieldLink RX2 18 "EndedByOthers$Reader" "opening" "I", .fieldLink RX2 22 "EndedByOthers$Reader" "lettersOfPart" "I", .fieldLink RX2 25 "EndedByOthers$Reader" "lastCode" "I", .instanceMethod yX3_init, .code yX3_init cX3_init 1 none, .methodLink RX3 3 objectInit, .arrayClass .int, .fieldLink RX3 9 "EndedByOthers$Room" "fitting" "[I", .fieldLink RX3 15 "EndedByOthers$Room" "kinds" "[I", .fieldLink RX3 18 "EndedByOthers$Room" "wants" "[I", .fieldLink RX3 21 "EndedByOthers$Room" "speakers" "I"] ++ wsX30 ++ wsX20)
def wsX3_clear : List Cond := .code yX3_clear cX3_clear 2 none :: ([.fieldLink RX3 9 "EndedByOthers$Room" "fitting" "[I", .fieldLink RX3 21 "EndedByOthers$Room" "speakers" "I"] ++ wsX30)
def wsX2_startPart : List Cond := .code yX2_startPart cX2_startPart 1 none :: ([.fieldLink RX2 22 "EndedByOthers$Reader" "lettersOfPart" "I", .fieldLink RX2 25 "EndedByOthers$Reader" "lastCode" "I"] ++ wsX20)
def wsX6_isEnding : List Cond := .code yX6_isEnding cX6_isEnding 1 (some .boolean) :: ([])
def wsX2_takesInOpening : List Cond := .code yX2_takesInOpening cX2_takesInOpening 3 (some .boolean) :: ([.fieldLink RX2 18 "EndedByOthers$Reader" "opening" "I", .fieldLink RX2 22 "EndedByOthers$Reader" "lettersOfPart" "I", .fieldLink RX2 25 "EndedByOthers$Reader" "lastCode" "I", .fieldLink RX2 12 "EndedByOthers$Reader" "draft" "LEndedByOthers$Room;", .fieldLink RX2 59 "EndedByOthers$Room" "fitting" "[I", .methodLink RX2 31 yX2_startPart, .instanceMethod yX2_startPart, .selects RX2 yX2_startPart yX2_startPart, .initialized RX2, .code yX2_startPart cX2_startPart 1 none, .static yX6_isEnding, .initialized RX6, .code yX6_isEnding cX6_isEnding 1 (some .boolean)] ++ wsX20 ++ wsX30)
def wsJ0_isLatin1_aae02 : List Cond := .code yJ0_isLatin1_aae02 cJ0_isLatin1_aae02 1 (some .boolean) :: ([.fieldLink RJ0 38 "java/lang/String" "COMPACT_STRINGS" "Z", .fieldLink RJ0 15 "java/lang/String" "coder" "B"])
def wsJ0_coder_7d493 : List Cond := .code yJ0_coder_7d493 cJ0_coder_7d493 1 (some .byte) :: ([.fieldLink RJ0 38 "java/lang/String" "COMPACT_STRINGS" "Z", .fieldLink RJ0 15 "java/lang/String" "coder" "B"])
def wsJ0_length_8abf5 : List Cond := .code yJ0_length_8abf5 cJ0_length_8abf5 1 (some .int) :: ([.fieldLink RJ0 9 "java/lang/String" "value" "[B", .methodLink RJ0 335 yJ0_coder_7d493, .instanceMethod yJ0_coder_7d493, .selects RJ0 yJ0_coder_7d493 yJ0_coder_7d493, .initialized RJ0, .code yJ0_coder_7d493 cJ0_coder_7d493 1 (some .byte), .fieldLink RJ0 38 "java/lang/String" "COMPACT_STRINGS" "Z", .fieldLink RJ0 15 "java/lang/String" "coder" "B"])
def wsJ1_canEncode_9a6ad : List Cond := .code yJ1_canEncode_9a6ad cJ1_canEncode_9a6ad 1 (some .boolean) :: ([])
def wsJ1_indexOfChar_4cfef : List Cond := .code yJ1_indexOfChar_4cfef cJ1_indexOfChar_4cfef 6 (some .int) :: ([])
def wsJ1_indexOf_4cfef : List Cond := .code yJ1_indexOf_4cfef cJ1_indexOf_4cfef 4 (some .int) :: ([.methodLink RJ1 92 Lib.Math.max.name, .static Lib.Math.max.name, .initialized "java/lang/Math", .code Lib.Math.max.name Lib.Math.max.code 2 (some .int), .methodLink RJ1 38 Lib.Math.min.name, .static Lib.Math.min.name, .code Lib.Math.min.name Lib.Math.min.code 2 (some .int), .methodLink RJ1 88 yJ1_canEncode_9a6ad, .static yJ1_canEncode_9a6ad, .initialized RJ1, .code yJ1_canEncode_9a6ad cJ1_canEncode_9a6ad 1 (some .boolean), .methodLink RJ1 95 yJ1_indexOfChar_4cfef, .static yJ1_indexOfChar_4cfef, .code yJ1_indexOfChar_4cfef cJ1_indexOfChar_4cfef 6 (some .int)])
def wsJ2_length_9d52b : List Cond := .code yJ2_length_9d52b cJ2_length_9d52b 1 (some .int) :: ([])
def wsJ3_checkFromToIndex_8c36e : List Cond := .code yJ3_checkFromToIndex_8c36e cJ3_checkFromToIndex_8c36e 4 (some .int) :: ([])
def wsJ0_checkBoundsBeginEnd_23922 : List Cond := .code yJ0_checkBoundsBeginEnd_23922 cJ0_checkBoundsBeginEnd_23922 3 none :: ([.fieldLink RJ0 1053 "jdk/internal/util/Preconditions" "SIOOBE_FORMATTER" "Ljava/util/function/BiFunction;", .methodLink RJ0 1062 yJ3_checkFromToIndex_8c36e, .static yJ3_checkFromToIndex_8c36e, .initialized RJ3, .code yJ3_checkFromToIndex_8c36e cJ3_checkFromToIndex_8c36e 4 (some .int)])
def wsJ2_checkBoundsBeginEnd_d044e : List Cond := .code yJ2_checkBoundsBeginEnd_d044e cJ2_checkBoundsBeginEnd_d044e 3 none :: ([.methodLink RJ2 48 yJ2_length_9d52b, .static yJ2_length_9d52b, .initialized RJ2, .code yJ2_length_9d52b cJ2_length_9d52b 1 (some .int), .methodLink RJ2 241 yJ0_checkBoundsBeginEnd_23922, .static yJ0_checkBoundsBeginEnd_23922, .initialized RJ0, .code yJ0_checkBoundsBeginEnd_23922 cJ0_checkBoundsBeginEnd_23922 3 none, .fieldLink RJ0 1053 "jdk/internal/util/Preconditions" "SIOOBE_FORMATTER" "Ljava/util/function/BiFunction;", .methodLink RJ0 1062 yJ3_checkFromToIndex_8c36e, .static yJ3_checkFromToIndex_8c36e, .initialized RJ3, .code yJ3_checkFromToIndex_8c36e cJ3_checkFromToIndex_8c36e 4 (some .int)])
def wsJ2_getChar_3b067 : List Cond := .code yJ2_getChar_3b067 cJ2_getChar_3b067 2 (some .char) :: ([.fieldLink RJ2 44 "java/lang/StringUTF16" "$assertionsDisabled" "Z", .fieldLink RJ2 59 "java/lang/StringUTF16" "HI_BYTE_SHIFT" "I", .fieldLink RJ2 63 "java/lang/StringUTF16" "LO_BYTE_SHIFT" "I", .methodLink RJ2 48 yJ2_length_9d52b, .static yJ2_length_9d52b, .initialized RJ2, .code yJ2_length_9d52b cJ2_length_9d52b 1 (some .int)])
def wsJ2_indexOfCharUnsafe_4cfef : List Cond := .code yJ2_indexOfCharUnsafe_4cfef cJ2_indexOfCharUnsafe_4cfef 5 (some .int) :: ([.methodLink RJ2 71 yJ2_getChar_3b067, .static yJ2_getChar_3b067, .initialized RJ2, .code yJ2_getChar_3b067 cJ2_getChar_3b067 2 (some .char), .fieldLink RJ2 44 "java/lang/StringUTF16" "$assertionsDisabled" "Z", .fieldLink RJ2 59 "java/lang/StringUTF16" "HI_BYTE_SHIFT" "I", .fieldLink RJ2 63 "java/lang/StringUTF16" "LO_BYTE_SHIFT" "I", .methodLink RJ2 48 yJ2_length_9d52b, .static yJ2_length_9d52b, .code yJ2_length_9d52b cJ2_length_9d52b 1 (some .int)])
def wsJ2_indexOfChar_4cfef_r1 : List Cond := [Cond.methodLink RJ2 96 yJ2_checkBoundsBeginEnd_d044e, Cond.static yJ2_checkBoundsBeginEnd_d044e, Cond.initialized RJ2, Cond.code yJ2_checkBoundsBeginEnd_d044e cJ2_checkBoundsBeginEnd_d044e 3 none, Cond.methodLink RJ2 48 yJ2_length_9d52b, Cond.static yJ2_length_9d52b, Cond.code yJ2_length_9d52b cJ2_length_9d52b 1 (some .int), Cond.methodLink RJ2 241 yJ0_checkBoundsBeginEnd_23922, Cond.static yJ0_checkBoundsBeginEnd_23922, Cond.initialized RJ0, Cond.code yJ0_checkBoundsBeginEnd_23922 cJ0_checkBoundsBeginEnd_23922 3 none, Cond.fieldLink RJ0 1053 "jdk/internal/util/Preconditions" "SIOOBE_FORMATTER" "Ljava/util/function/BiFunction;", Cond.methodLink RJ0 1062 yJ3_checkFromToIndex_8c36e, Cond.static yJ3_checkFromToIndex_8c36e, Cond.initialized RJ3, Cond.code yJ3_checkFromToIndex_8c36e cJ3_checkFromToIndex_8c36e 4 (some .int), Cond.methodLink RJ2 244 yJ2_indexOfCharUnsafe_4cfef, Cond.static yJ2_indexOfCharUnsafe_4cfef, Cond.code yJ2_indexOfCharUnsafe_4cfef cJ2_indexOfCharUnsafe_4cfef 5 (some .int), Cond.methodLink RJ2 71 yJ2_getChar_3b067, Cond.static yJ2_getChar_3b067, Cond.code yJ2_getChar_3b067 cJ2_getChar_3b067 2 (some .char), Cond.fieldLink RJ2 44 "java/lang/StringUTF16" "$assertionsDisabled" "Z", Cond.fieldLink RJ2 59 "java/lang/StringUTF16" "HI_BYTE_SHIFT" "I"]
def wsJ2_indexOfChar_4cfef_r2 : List Cond := [Cond.fieldLink RJ2 63 "java/lang/StringUTF16" "LO_BYTE_SHIFT" "I"]
def wsJ2_indexOfChar_4cfef : List Cond := .code yJ2_indexOfChar_4cfef cJ2_indexOfChar_4cfef 4 (some .int) :: ((wsJ2_indexOfChar_4cfef_r1 ++ wsJ2_indexOfChar_4cfef_r2))
def wsJ11_isValidCodePoint_9a6ad : List Cond := .code yJ11_isValidCodePoint_9a6ad cJ11_isValidCodePoint_9a6ad 2 (some .boolean) :: ([])
def wsJ11_highSurrogate_5068e : List Cond := .code yJ11_highSurrogate_5068e cJ11_highSurrogate_5068e 1 (some .char) :: ([.constant RJ11 110 (55232)])
def wsJ11_lowSurrogate_5068e : List Cond := .code yJ11_lowSurrogate_5068e cJ11_lowSurrogate_5068e 1 (some .char) :: ([.constant RJ11 76 (56320)])
def wsJ2_indexOfSupplementary_4cfef_r1 : List Cond := [Cond.methodLink RJ2 164 yJ11_isValidCodePoint_9a6ad, Cond.static yJ11_isValidCodePoint_9a6ad, Cond.initialized RJ11, Cond.code yJ11_isValidCodePoint_9a6ad cJ11_isValidCodePoint_9a6ad 2 (some .boolean), Cond.methodLink RJ2 157 yJ11_highSurrogate_5068e, Cond.static yJ11_highSurrogate_5068e, Cond.code yJ11_highSurrogate_5068e cJ11_highSurrogate_5068e 1 (some .char), Cond.constant RJ11 110 (55232), Cond.methodLink RJ2 161 yJ11_lowSurrogate_5068e, Cond.static yJ11_lowSurrogate_5068e, Cond.code yJ11_lowSurrogate_5068e cJ11_lowSurrogate_5068e 1 (some .char), Cond.constant RJ11 76 (56320), Cond.methodLink RJ2 96 yJ2_checkBoundsBeginEnd_d044e, Cond.static yJ2_checkBoundsBeginEnd_d044e, Cond.initialized RJ2, Cond.code yJ2_checkBoundsBeginEnd_d044e cJ2_checkBoundsBeginEnd_d044e 3 none, Cond.methodLink RJ2 48 yJ2_length_9d52b, Cond.static yJ2_length_9d52b, Cond.code yJ2_length_9d52b cJ2_length_9d52b 1 (some .int), Cond.methodLink RJ2 241 yJ0_checkBoundsBeginEnd_23922, Cond.static yJ0_checkBoundsBeginEnd_23922, Cond.initialized RJ0, Cond.code yJ0_checkBoundsBeginEnd_23922 cJ0_checkBoundsBeginEnd_23922 3 none, Cond.fieldLink RJ0 1053 "jdk/internal/util/Preconditions" "SIOOBE_FORMATTER" "Ljava/util/function/BiFunction;"]
def wsJ2_indexOfSupplementary_4cfef_r2 : List Cond := [Cond.methodLink RJ0 1062 yJ3_checkFromToIndex_8c36e, Cond.static yJ3_checkFromToIndex_8c36e, Cond.initialized RJ3, Cond.code yJ3_checkFromToIndex_8c36e cJ3_checkFromToIndex_8c36e 4 (some .int), Cond.methodLink RJ2 71 yJ2_getChar_3b067, Cond.static yJ2_getChar_3b067, Cond.code yJ2_getChar_3b067 cJ2_getChar_3b067 2 (some .char), Cond.fieldLink RJ2 44 "java/lang/StringUTF16" "$assertionsDisabled" "Z", Cond.fieldLink RJ2 59 "java/lang/StringUTF16" "HI_BYTE_SHIFT" "I", Cond.fieldLink RJ2 63 "java/lang/StringUTF16" "LO_BYTE_SHIFT" "I"]
def wsJ2_indexOfSupplementary_4cfef : List Cond := .code yJ2_indexOfSupplementary_4cfef cJ2_indexOfSupplementary_4cfef 7 (some .int) :: ((wsJ2_indexOfSupplementary_4cfef_r1 ++ wsJ2_indexOfSupplementary_4cfef_r2))
def wsJ2_indexOf_4cfef_r1 : List Cond := [Cond.methodLink RJ2 224 Lib.Math.max.name, Cond.static Lib.Math.max.name, Cond.initialized "java/lang/Math", Cond.code Lib.Math.max.name Lib.Math.max.code 2 (some .int), Cond.methodLink RJ2 183 Lib.Math.min.name, Cond.static Lib.Math.min.name, Cond.code Lib.Math.min.name Lib.Math.min.code 2 (some .int), Cond.constant RJ2 227 (65536), Cond.methodLink RJ2 228 yJ2_indexOfChar_4cfef, Cond.static yJ2_indexOfChar_4cfef, Cond.initialized RJ2, Cond.code yJ2_indexOfChar_4cfef cJ2_indexOfChar_4cfef 4 (some .int), Cond.methodLink RJ2 96 yJ2_checkBoundsBeginEnd_d044e, Cond.static yJ2_checkBoundsBeginEnd_d044e, Cond.code yJ2_checkBoundsBeginEnd_d044e cJ2_checkBoundsBeginEnd_d044e 3 none, Cond.methodLink RJ2 48 yJ2_length_9d52b, Cond.static yJ2_length_9d52b, Cond.code yJ2_length_9d52b cJ2_length_9d52b 1 (some .int), Cond.methodLink RJ2 241 yJ0_checkBoundsBeginEnd_23922, Cond.static yJ0_checkBoundsBeginEnd_23922, Cond.initialized RJ0, Cond.code yJ0_checkBoundsBeginEnd_23922 cJ0_checkBoundsBeginEnd_23922 3 none, Cond.fieldLink RJ0 1053 "jdk/internal/util/Preconditions" "SIOOBE_FORMATTER" "Ljava/util/function/BiFunction;", Cond.methodLink RJ0 1062 yJ3_checkFromToIndex_8c36e]
def wsJ2_indexOf_4cfef_r2 : List Cond := [Cond.static yJ3_checkFromToIndex_8c36e, Cond.initialized RJ3, Cond.code yJ3_checkFromToIndex_8c36e cJ3_checkFromToIndex_8c36e 4 (some .int), Cond.methodLink RJ2 244 yJ2_indexOfCharUnsafe_4cfef, Cond.static yJ2_indexOfCharUnsafe_4cfef, Cond.code yJ2_indexOfCharUnsafe_4cfef cJ2_indexOfCharUnsafe_4cfef 5 (some .int), Cond.methodLink RJ2 71 yJ2_getChar_3b067, Cond.static yJ2_getChar_3b067, Cond.code yJ2_getChar_3b067 cJ2_getChar_3b067 2 (some .char), Cond.fieldLink RJ2 44 "java/lang/StringUTF16" "$assertionsDisabled" "Z", Cond.fieldLink RJ2 59 "java/lang/StringUTF16" "HI_BYTE_SHIFT" "I", Cond.fieldLink RJ2 63 "java/lang/StringUTF16" "LO_BYTE_SHIFT" "I", Cond.methodLink RJ2 232 yJ2_indexOfSupplementary_4cfef, Cond.static yJ2_indexOfSupplementary_4cfef, Cond.code yJ2_indexOfSupplementary_4cfef cJ2_indexOfSupplementary_4cfef 7 (some .int), Cond.methodLink RJ2 164 yJ11_isValidCodePoint_9a6ad, Cond.static yJ11_isValidCodePoint_9a6ad, Cond.initialized RJ11, Cond.code yJ11_isValidCodePoint_9a6ad cJ11_isValidCodePoint_9a6ad 2 (some .boolean), Cond.methodLink RJ2 157 yJ11_highSurrogate_5068e, Cond.static yJ11_highSurrogate_5068e, Cond.code yJ11_highSurrogate_5068e cJ11_highSurrogate_5068e 1 (some .char), Cond.constant RJ11 110 (55232), Cond.methodLink RJ2 161 yJ11_lowSurrogate_5068e]
def wsJ2_indexOf_4cfef_r3 : List Cond := [Cond.static yJ11_lowSurrogate_5068e, Cond.code yJ11_lowSurrogate_5068e cJ11_lowSurrogate_5068e 1 (some .char), Cond.constant RJ11 76 (56320)]
def wsJ2_indexOf_4cfef : List Cond := .code yJ2_indexOf_4cfef cJ2_indexOf_4cfef 4 (some .int) :: ((wsJ2_indexOf_4cfef_r1 ++ (wsJ2_indexOf_4cfef_r2 ++ wsJ2_indexOf_4cfef_r3)))
def wsJ0_indexOf_7cf53_r1 : List Cond := [Cond.fieldLink RJ0 9 "java/lang/String" "value" "[B", Cond.methodLink RJ0 492 yJ0_isLatin1_aae02, Cond.instanceMethod yJ0_isLatin1_aae02, Cond.selects RJ0 yJ0_isLatin1_aae02 yJ0_isLatin1_aae02, Cond.initialized RJ0, Cond.code yJ0_isLatin1_aae02 cJ0_isLatin1_aae02 1 (some .boolean), Cond.fieldLink RJ0 38 "java/lang/String" "COMPACT_STRINGS" "Z", Cond.fieldLink RJ0 15 "java/lang/String" "coder" "B", Cond.methodLink RJ0 505 yJ0_length_8abf5, Cond.instanceMethod yJ0_length_8abf5, Cond.selects RJ0 yJ0_length_8abf5 yJ0_length_8abf5, Cond.code yJ0_length_8abf5 cJ0_length_8abf5 1 (some .int), Cond.methodLink RJ0 335 yJ0_coder_7d493, Cond.instanceMethod yJ0_coder_7d493, Cond.selects RJ0 yJ0_coder_7d493 yJ0_coder_7d493, Cond.code yJ0_coder_7d493 cJ0_coder_7d493 1 (some .byte), Cond.methodLink RJ0 637 yJ1_indexOf_4cfef, Cond.static yJ1_indexOf_4cfef, Cond.initialized RJ1, Cond.code yJ1_indexOf_4cfef cJ1_indexOf_4cfef 4 (some .int), Cond.methodLink RJ1 92 Lib.Math.max.name, Cond.static Lib.Math.max.name, Cond.initialized "java/lang/Math", Cond.code Lib.Math.max.name Lib.Math.max.code 2 (some .int)]
def wsJ0_indexOf_7cf53_r2 : List Cond := [Cond.methodLink RJ1 38 Lib.Math.min.name, Cond.static Lib.Math.min.name, Cond.code Lib.Math.min.name Lib.Math.min.code 2 (some .int), Cond.methodLink RJ1 88 yJ1_canEncode_9a6ad, Cond.static yJ1_canEncode_9a6ad, Cond.code yJ1_canEncode_9a6ad cJ1_canEncode_9a6ad 1 (some .boolean), Cond.methodLink RJ1 95 yJ1_indexOfChar_4cfef, Cond.static yJ1_indexOfChar_4cfef, Cond.code yJ1_indexOfChar_4cfef cJ1_indexOfChar_4cfef 6 (some .int), Cond.methodLink RJ0 640 yJ2_indexOf_4cfef, Cond.static yJ2_indexOf_4cfef, Cond.initialized RJ2, Cond.code yJ2_indexOf_4cfef cJ2_indexOf_4cfef 4 (some .int), Cond.methodLink RJ2 224 Lib.Math.max.name, Cond.methodLink RJ2 183 Lib.Math.min.name, Cond.constant RJ2 227 (65536), Cond.methodLink RJ2 228 yJ2_indexOfChar_4cfef, Cond.static yJ2_indexOfChar_4cfef, Cond.code yJ2_indexOfChar_4cfef cJ2_indexOfChar_4cfef 4 (some .int), Cond.methodLink RJ2 96 yJ2_checkBoundsBeginEnd_d044e, Cond.static yJ2_checkBoundsBeginEnd_d044e, Cond.code yJ2_checkBoundsBeginEnd_d044e cJ2_checkBoundsBeginEnd_d044e 3 none, Cond.methodLink RJ2 48 yJ2_length_9d52b, Cond.static yJ2_length_9d52b]
def wsJ0_indexOf_7cf53_r3 : List Cond := [Cond.code yJ2_length_9d52b cJ2_length_9d52b 1 (some .int), Cond.methodLink RJ2 241 yJ0_checkBoundsBeginEnd_23922, Cond.static yJ0_checkBoundsBeginEnd_23922, Cond.code yJ0_checkBoundsBeginEnd_23922 cJ0_checkBoundsBeginEnd_23922 3 none, Cond.fieldLink RJ0 1053 "jdk/internal/util/Preconditions" "SIOOBE_FORMATTER" "Ljava/util/function/BiFunction;", Cond.methodLink RJ0 1062 yJ3_checkFromToIndex_8c36e, Cond.static yJ3_checkFromToIndex_8c36e, Cond.initialized RJ3, Cond.code yJ3_checkFromToIndex_8c36e cJ3_checkFromToIndex_8c36e 4 (some .int), Cond.methodLink RJ2 244 yJ2_indexOfCharUnsafe_4cfef, Cond.static yJ2_indexOfCharUnsafe_4cfef, Cond.code yJ2_indexOfCharUnsafe_4cfef cJ2_indexOfCharUnsafe_4cfef 5 (some .int), Cond.methodLink RJ2 71 yJ2_getChar_3b067, Cond.static yJ2_getChar_3b067, Cond.code yJ2_getChar_3b067 cJ2_getChar_3b067 2 (some .char), Cond.fieldLink RJ2 44 "java/lang/StringUTF16" "$assertionsDisabled" "Z", Cond.fieldLink RJ2 59 "java/lang/StringUTF16" "HI_BYTE_SHIFT" "I", Cond.fieldLink RJ2 63 "java/lang/StringUTF16" "LO_BYTE_SHIFT" "I", Cond.methodLink RJ2 232 yJ2_indexOfSupplementary_4cfef, Cond.static yJ2_indexOfSupplementary_4cfef, Cond.code yJ2_indexOfSupplementary_4cfef cJ2_indexOfSupplementary_4cfef 7 (some .int), Cond.methodLink RJ2 164 yJ11_isValidCodePoint_9a6ad, Cond.static yJ11_isValidCodePoint_9a6ad, Cond.initialized RJ11]
def wsJ0_indexOf_7cf53_r4 : List Cond := [Cond.code yJ11_isValidCodePoint_9a6ad cJ11_isValidCodePoint_9a6ad 2 (some .boolean), Cond.methodLink RJ2 157 yJ11_highSurrogate_5068e, Cond.static yJ11_highSurrogate_5068e, Cond.code yJ11_highSurrogate_5068e cJ11_highSurrogate_5068e 1 (some .char), Cond.constant RJ11 110 (55232), Cond.methodLink RJ2 161 yJ11_lowSurrogate_5068e, Cond.static yJ11_lowSurrogate_5068e, Cond.code yJ11_lowSurrogate_5068e cJ11_lowSurrogate_5068e 1 (some .char), Cond.constant RJ11 76 (56320)]
def wsJ0_indexOf_7cf53 : List Cond := .code yJ0_indexOf_7cf53 cJ0_indexOf_7cf53 3 (some .int) :: ((wsJ0_indexOf_7cf53_r1 ++ (wsJ0_indexOf_7cf53_r2 ++ (wsJ0_indexOf_7cf53_r3 ++ wsJ0_indexOf_7cf53_r4))))
def wsJ0_indexOf_0f7a4_r1 : List Cond := [Cond.methodLink RJ0 633 yJ0_indexOf_7cf53, Cond.instanceMethod yJ0_indexOf_7cf53, Cond.selects RJ0 yJ0_indexOf_7cf53 yJ0_indexOf_7cf53, Cond.initialized RJ0, Cond.code yJ0_indexOf_7cf53 cJ0_indexOf_7cf53 3 (some .int), Cond.fieldLink RJ0 9 "java/lang/String" "value" "[B", Cond.methodLink RJ0 492 yJ0_isLatin1_aae02, Cond.instanceMethod yJ0_isLatin1_aae02, Cond.selects RJ0 yJ0_isLatin1_aae02 yJ0_isLatin1_aae02, Cond.code yJ0_isLatin1_aae02 cJ0_isLatin1_aae02 1 (some .boolean), Cond.fieldLink RJ0 38 "java/lang/String" "COMPACT_STRINGS" "Z", Cond.fieldLink RJ0 15 "java/lang/String" "coder" "B", Cond.methodLink RJ0 505 yJ0_length_8abf5, Cond.instanceMethod yJ0_length_8abf5, Cond.selects RJ0 yJ0_length_8abf5 yJ0_length_8abf5, Cond.code yJ0_length_8abf5 cJ0_length_8abf5 1 (some .int), Cond.methodLink RJ0 335 yJ0_coder_7d493, Cond.instanceMethod yJ0_coder_7d493, Cond.selects RJ0 yJ0_coder_7d493 yJ0_coder_7d493, Cond.code yJ0_coder_7d493 cJ0_coder_7d493 1 (some .byte), Cond.methodLink RJ0 637 yJ1_indexOf_4cfef, Cond.static yJ1_indexOf_4cfef, Cond.initialized RJ1, Cond.code yJ1_indexOf_4cfef cJ1_indexOf_4cfef 4 (some .int)]
def wsJ0_indexOf_0f7a4_r2 : List Cond := [Cond.methodLink RJ1 92 Lib.Math.max.name, Cond.static Lib.Math.max.name, Cond.initialized "java/lang/Math", Cond.code Lib.Math.max.name Lib.Math.max.code 2 (some .int), Cond.methodLink RJ1 38 Lib.Math.min.name, Cond.static Lib.Math.min.name, Cond.code Lib.Math.min.name Lib.Math.min.code 2 (some .int), Cond.methodLink RJ1 88 yJ1_canEncode_9a6ad, Cond.static yJ1_canEncode_9a6ad, Cond.code yJ1_canEncode_9a6ad cJ1_canEncode_9a6ad 1 (some .boolean), Cond.methodLink RJ1 95 yJ1_indexOfChar_4cfef, Cond.static yJ1_indexOfChar_4cfef, Cond.code yJ1_indexOfChar_4cfef cJ1_indexOfChar_4cfef 6 (some .int), Cond.methodLink RJ0 640 yJ2_indexOf_4cfef, Cond.static yJ2_indexOf_4cfef, Cond.initialized RJ2, Cond.code yJ2_indexOf_4cfef cJ2_indexOf_4cfef 4 (some .int), Cond.methodLink RJ2 224 Lib.Math.max.name, Cond.methodLink RJ2 183 Lib.Math.min.name, Cond.constant RJ2 227 (65536), Cond.methodLink RJ2 228 yJ2_indexOfChar_4cfef, Cond.static yJ2_indexOfChar_4cfef, Cond.code yJ2_indexOfChar_4cfef cJ2_indexOfChar_4cfef 4 (some .int), Cond.methodLink RJ2 96 yJ2_checkBoundsBeginEnd_d044e]
def wsJ0_indexOf_0f7a4_r3 : List Cond := [Cond.static yJ2_checkBoundsBeginEnd_d044e, Cond.code yJ2_checkBoundsBeginEnd_d044e cJ2_checkBoundsBeginEnd_d044e 3 none, Cond.methodLink RJ2 48 yJ2_length_9d52b, Cond.static yJ2_length_9d52b, Cond.code yJ2_length_9d52b cJ2_length_9d52b 1 (some .int), Cond.methodLink RJ2 241 yJ0_checkBoundsBeginEnd_23922, Cond.static yJ0_checkBoundsBeginEnd_23922, Cond.code yJ0_checkBoundsBeginEnd_23922 cJ0_checkBoundsBeginEnd_23922 3 none, Cond.fieldLink RJ0 1053 "jdk/internal/util/Preconditions" "SIOOBE_FORMATTER" "Ljava/util/function/BiFunction;", Cond.methodLink RJ0 1062 yJ3_checkFromToIndex_8c36e, Cond.static yJ3_checkFromToIndex_8c36e, Cond.initialized RJ3, Cond.code yJ3_checkFromToIndex_8c36e cJ3_checkFromToIndex_8c36e 4 (some .int), Cond.methodLink RJ2 244 yJ2_indexOfCharUnsafe_4cfef, Cond.static yJ2_indexOfCharUnsafe_4cfef, Cond.code yJ2_indexOfCharUnsafe_4cfef cJ2_indexOfCharUnsafe_4cfef 5 (some .int), Cond.methodLink RJ2 71 yJ2_getChar_3b067, Cond.static yJ2_getChar_3b067, Cond.code yJ2_getChar_3b067 cJ2_getChar_3b067 2 (some .char), Cond.fieldLink RJ2 44 "java/lang/StringUTF16" "$assertionsDisabled" "Z", Cond.fieldLink RJ2 59 "java/lang/StringUTF16" "HI_BYTE_SHIFT" "I", Cond.fieldLink RJ2 63 "java/lang/StringUTF16" "LO_BYTE_SHIFT" "I", Cond.methodLink RJ2 232 yJ2_indexOfSupplementary_4cfef, Cond.static yJ2_indexOfSupplementary_4cfef]
def wsJ0_indexOf_0f7a4_r4 : List Cond := [Cond.code yJ2_indexOfSupplementary_4cfef cJ2_indexOfSupplementary_4cfef 7 (some .int), Cond.methodLink RJ2 164 yJ11_isValidCodePoint_9a6ad, Cond.static yJ11_isValidCodePoint_9a6ad, Cond.initialized RJ11, Cond.code yJ11_isValidCodePoint_9a6ad cJ11_isValidCodePoint_9a6ad 2 (some .boolean), Cond.methodLink RJ2 157 yJ11_highSurrogate_5068e, Cond.static yJ11_highSurrogate_5068e, Cond.code yJ11_highSurrogate_5068e cJ11_highSurrogate_5068e 1 (some .char), Cond.constant RJ11 110 (55232), Cond.methodLink RJ2 161 yJ11_lowSurrogate_5068e, Cond.static yJ11_lowSurrogate_5068e, Cond.code yJ11_lowSurrogate_5068e cJ11_lowSurrogate_5068e 1 (some .char), Cond.constant RJ11 76 (56320)]
def wsJ0_indexOf_0f7a4 : List Cond := .code yJ0_indexOf_0f7a4 cJ0_indexOf_0f7a4 2 (some .int) :: ((wsJ0_indexOf_0f7a4_r1 ++ (wsJ0_indexOf_0f7a4_r2 ++ (wsJ0_indexOf_0f7a4_r3 ++ wsJ0_indexOf_0f7a4_r4))))
def wsX2_takesKind : List Cond := .code yX2_takesKind cX2_takesKind 2 (some .boolean) :: ([.fieldLink RX2 12 "EndedByOthers$Reader" "draft" "LEndedByOthers$Room;", .fieldLink RX2 47 "EndedByOthers$Room" "speakers" "I", .fieldLink RX2 79 "EndedByOthers$Room" "kinds" "[I", .fieldLink RX2 22 "EndedByOthers$Reader" "lettersOfPart" "I"] ++ wsX20 ++ wsX30)
def wsX2_takesWant : List Cond := .code yX2_takesWant cX2_takesWant 2 (some .boolean) :: ([.fieldLink RX2 12 "EndedByOthers$Reader" "draft" "LEndedByOthers$Room;", .fieldLink RX2 47 "EndedByOthers$Room" "speakers" "I", .fieldLink RX2 82 "EndedByOthers$Room" "wants" "[I", .fieldLink RX2 22 "EndedByOthers$Reader" "lettersOfPart" "I", .static yX6_isEnding, .initialized RX6, .code yX6_isEnding cX6_isEnding 1 (some .boolean)] ++ wsX20 ++ wsX30)
def wsX2_takesNextSpeaker : List Cond := .code yX2_takesNextSpeaker cX2_takesNextSpeaker 2 (some .boolean) :: ([.fieldLink RX2 12 "EndedByOthers$Reader" "draft" "LEndedByOthers$Room;", .fieldLink RX2 47 "EndedByOthers$Room" "speakers" "I", .methodLink RX2 31 yX2_startPart, .instanceMethod yX2_startPart, .selects RX2 yX2_startPart yX2_startPart, .initialized RX2, .code yX2_startPart cX2_startPart 1 none, .fieldLink RX2 22 "EndedByOthers$Reader" "lettersOfPart" "I", .fieldLink RX2 25 "EndedByOthers$Reader" "lastCode" "I"] ++ wsX20 ++ wsX30)
def wsX2_takesInSpeaker_r1 : List Cond := [Cond.fieldLink RX2 22 "EndedByOthers$Reader" "lettersOfPart" "I", Cond.methodLink RX2 64 yJ0_indexOf_0f7a4, Cond.instanceMethod yJ0_indexOf_0f7a4, Cond.selects RJ0 yJ0_indexOf_0f7a4 yJ0_indexOf_0f7a4, Cond.initialized RJ0, Cond.code yJ0_indexOf_0f7a4 cJ0_indexOf_0f7a4 2 (some .int), Cond.methodLink RJ0 633 yJ0_indexOf_7cf53, Cond.instanceMethod yJ0_indexOf_7cf53, Cond.selects RJ0 yJ0_indexOf_7cf53 yJ0_indexOf_7cf53, Cond.code yJ0_indexOf_7cf53 cJ0_indexOf_7cf53 3 (some .int), Cond.fieldLink RJ0 9 "java/lang/String" "value" "[B", Cond.methodLink RJ0 492 yJ0_isLatin1_aae02, Cond.instanceMethod yJ0_isLatin1_aae02, Cond.selects RJ0 yJ0_isLatin1_aae02 yJ0_isLatin1_aae02, Cond.code yJ0_isLatin1_aae02 cJ0_isLatin1_aae02 1 (some .boolean), Cond.fieldLink RJ0 38 "java/lang/String" "COMPACT_STRINGS" "Z", Cond.fieldLink RJ0 15 "java/lang/String" "coder" "B", Cond.methodLink RJ0 505 yJ0_length_8abf5, Cond.instanceMethod yJ0_length_8abf5, Cond.selects RJ0 yJ0_length_8abf5 yJ0_length_8abf5, Cond.code yJ0_length_8abf5 cJ0_length_8abf5 1 (some .int), Cond.methodLink RJ0 335 yJ0_coder_7d493, Cond.instanceMethod yJ0_coder_7d493, Cond.selects RJ0 yJ0_coder_7d493 yJ0_coder_7d493]
def wsX2_takesInSpeaker_r2 : List Cond := [Cond.code yJ0_coder_7d493 cJ0_coder_7d493 1 (some .byte), Cond.methodLink RJ0 637 yJ1_indexOf_4cfef, Cond.static yJ1_indexOf_4cfef, Cond.initialized RJ1, Cond.code yJ1_indexOf_4cfef cJ1_indexOf_4cfef 4 (some .int), Cond.methodLink RJ1 92 Lib.Math.max.name, Cond.static Lib.Math.max.name, Cond.initialized "java/lang/Math", Cond.code Lib.Math.max.name Lib.Math.max.code 2 (some .int), Cond.methodLink RJ1 38 Lib.Math.min.name, Cond.static Lib.Math.min.name, Cond.code Lib.Math.min.name Lib.Math.min.code 2 (some .int), Cond.methodLink RJ1 88 yJ1_canEncode_9a6ad, Cond.static yJ1_canEncode_9a6ad, Cond.code yJ1_canEncode_9a6ad cJ1_canEncode_9a6ad 1 (some .boolean), Cond.methodLink RJ1 95 yJ1_indexOfChar_4cfef, Cond.static yJ1_indexOfChar_4cfef, Cond.code yJ1_indexOfChar_4cfef cJ1_indexOfChar_4cfef 6 (some .int), Cond.methodLink RJ0 640 yJ2_indexOf_4cfef, Cond.static yJ2_indexOf_4cfef, Cond.initialized RJ2, Cond.code yJ2_indexOf_4cfef cJ2_indexOf_4cfef 4 (some .int), Cond.methodLink RJ2 224 Lib.Math.max.name, Cond.methodLink RJ2 183 Lib.Math.min.name]
def wsX2_takesInSpeaker_r3 : List Cond := [Cond.constant RJ2 227 (65536), Cond.methodLink RJ2 228 yJ2_indexOfChar_4cfef, Cond.static yJ2_indexOfChar_4cfef, Cond.code yJ2_indexOfChar_4cfef cJ2_indexOfChar_4cfef 4 (some .int), Cond.methodLink RJ2 96 yJ2_checkBoundsBeginEnd_d044e, Cond.static yJ2_checkBoundsBeginEnd_d044e, Cond.code yJ2_checkBoundsBeginEnd_d044e cJ2_checkBoundsBeginEnd_d044e 3 none, Cond.methodLink RJ2 48 yJ2_length_9d52b, Cond.static yJ2_length_9d52b, Cond.code yJ2_length_9d52b cJ2_length_9d52b 1 (some .int), Cond.methodLink RJ2 241 yJ0_checkBoundsBeginEnd_23922, Cond.static yJ0_checkBoundsBeginEnd_23922, Cond.code yJ0_checkBoundsBeginEnd_23922 cJ0_checkBoundsBeginEnd_23922 3 none, Cond.fieldLink RJ0 1053 "jdk/internal/util/Preconditions" "SIOOBE_FORMATTER" "Ljava/util/function/BiFunction;", Cond.methodLink RJ0 1062 yJ3_checkFromToIndex_8c36e, Cond.static yJ3_checkFromToIndex_8c36e, Cond.initialized RJ3, Cond.code yJ3_checkFromToIndex_8c36e cJ3_checkFromToIndex_8c36e 4 (some .int), Cond.methodLink RJ2 244 yJ2_indexOfCharUnsafe_4cfef, Cond.static yJ2_indexOfCharUnsafe_4cfef, Cond.code yJ2_indexOfCharUnsafe_4cfef cJ2_indexOfCharUnsafe_4cfef 5 (some .int), Cond.methodLink RJ2 71 yJ2_getChar_3b067, Cond.static yJ2_getChar_3b067, Cond.code yJ2_getChar_3b067 cJ2_getChar_3b067 2 (some .char)]
def wsX2_takesInSpeaker_r4 : List Cond := [Cond.fieldLink RJ2 44 "java/lang/StringUTF16" "$assertionsDisabled" "Z", Cond.fieldLink RJ2 59 "java/lang/StringUTF16" "HI_BYTE_SHIFT" "I", Cond.fieldLink RJ2 63 "java/lang/StringUTF16" "LO_BYTE_SHIFT" "I", Cond.methodLink RJ2 232 yJ2_indexOfSupplementary_4cfef, Cond.static yJ2_indexOfSupplementary_4cfef, Cond.code yJ2_indexOfSupplementary_4cfef cJ2_indexOfSupplementary_4cfef 7 (some .int), Cond.methodLink RJ2 164 yJ11_isValidCodePoint_9a6ad, Cond.static yJ11_isValidCodePoint_9a6ad, Cond.initialized RJ11, Cond.code yJ11_isValidCodePoint_9a6ad cJ11_isValidCodePoint_9a6ad 2 (some .boolean), Cond.methodLink RJ2 157 yJ11_highSurrogate_5068e, Cond.static yJ11_highSurrogate_5068e, Cond.code yJ11_highSurrogate_5068e cJ11_highSurrogate_5068e 1 (some .char), Cond.constant RJ11 110 (55232), Cond.methodLink RJ2 161 yJ11_lowSurrogate_5068e, Cond.static yJ11_lowSurrogate_5068e, Cond.code yJ11_lowSurrogate_5068e cJ11_lowSurrogate_5068e 1 (some .char), Cond.constant RJ11 76 (56320), Cond.methodLink RX2 70 yX2_takesKind, Cond.instanceMethod yX2_takesKind, Cond.selects RX2 yX2_takesKind yX2_takesKind, Cond.initialized RX2, Cond.code yX2_takesKind cX2_takesKind 2 (some .boolean), Cond.fieldLink RX2 12 "EndedByOthers$Reader" "draft" "LEndedByOthers$Room;"]
def wsX2_takesInSpeaker_r5 : List Cond := [Cond.fieldLink RX2 47 "EndedByOthers$Room" "speakers" "I", Cond.fieldLink RX2 79 "EndedByOthers$Room" "kinds" "[I", Cond.methodLink RX2 73 yX2_takesWant, Cond.instanceMethod yX2_takesWant, Cond.selects RX2 yX2_takesWant yX2_takesWant, Cond.code yX2_takesWant cX2_takesWant 2 (some .boolean), Cond.fieldLink RX2 82 "EndedByOthers$Room" "wants" "[I", Cond.static yX6_isEnding, Cond.initialized RX6, Cond.code yX6_isEnding cX6_isEnding 1 (some .boolean), Cond.methodLink RX2 76 yX2_takesNextSpeaker, Cond.instanceMethod yX2_takesNextSpeaker, Cond.selects RX2 yX2_takesNextSpeaker yX2_takesNextSpeaker, Cond.code yX2_takesNextSpeaker cX2_takesNextSpeaker 2 (some .boolean), Cond.methodLink RX2 31 yX2_startPart, Cond.instanceMethod yX2_startPart, Cond.selects RX2 yX2_startPart yX2_startPart, Cond.code yX2_startPart cX2_startPart 1 none, Cond.fieldLink RX2 25 "EndedByOthers$Reader" "lastCode" "I"]
def wsX2_takesInSpeaker : List Cond := .code yX2_takesInSpeaker cX2_takesInSpeaker 2 (some .boolean) :: ((wsX2_takesInSpeaker_r1 ++ (wsX2_takesInSpeaker_r2 ++ (wsX2_takesInSpeaker_r3 ++ (wsX2_takesInSpeaker_r4 ++ wsX2_takesInSpeaker_r5)))) ++ wsX20 ++ wsX30)
def wsX2_takes_r1 : List Cond := [Cond.fieldLink RX2 18 "EndedByOthers$Reader" "opening" "I", Cond.methodLink RX2 50 yX2_takesInOpening, Cond.instanceMethod yX2_takesInOpening, Cond.selects RX2 yX2_takesInOpening yX2_takesInOpening, Cond.initialized RX2, Cond.code yX2_takesInOpening cX2_takesInOpening 3 (some .boolean), Cond.fieldLink RX2 22 "EndedByOthers$Reader" "lettersOfPart" "I", Cond.fieldLink RX2 25 "EndedByOthers$Reader" "lastCode" "I", Cond.fieldLink RX2 12 "EndedByOthers$Reader" "draft" "LEndedByOthers$Room;", Cond.fieldLink RX2 59 "EndedByOthers$Room" "fitting" "[I", Cond.methodLink RX2 31 yX2_startPart, Cond.instanceMethod yX2_startPart, Cond.selects RX2 yX2_startPart yX2_startPart, Cond.code yX2_startPart cX2_startPart 1 none, Cond.static yX6_isEnding, Cond.initialized RX6, Cond.code yX6_isEnding cX6_isEnding 1 (some .boolean), Cond.methodLink RX2 53 yX2_takesInSpeaker, Cond.instanceMethod yX2_takesInSpeaker, Cond.selects RX2 yX2_takesInSpeaker yX2_takesInSpeaker, Cond.code yX2_takesInSpeaker cX2_takesInSpeaker 2 (some .boolean), Cond.methodLink RX2 64 yJ0_indexOf_0f7a4, Cond.instanceMethod yJ0_indexOf_0f7a4, Cond.selects RJ0 yJ0_indexOf_0f7a4 yJ0_indexOf_0f7a4]
def wsX2_takes_r2 : List Cond := [Cond.initialized RJ0, Cond.code yJ0_indexOf_0f7a4 cJ0_indexOf_0f7a4 2 (some .int), Cond.methodLink RJ0 633 yJ0_indexOf_7cf53, Cond.instanceMethod yJ0_indexOf_7cf53, Cond.selects RJ0 yJ0_indexOf_7cf53 yJ0_indexOf_7cf53, Cond.code yJ0_indexOf_7cf53 cJ0_indexOf_7cf53 3 (some .int), Cond.fieldLink RJ0 9 "java/lang/String" "value" "[B", Cond.methodLink RJ0 492 yJ0_isLatin1_aae02, Cond.instanceMethod yJ0_isLatin1_aae02, Cond.selects RJ0 yJ0_isLatin1_aae02 yJ0_isLatin1_aae02, Cond.code yJ0_isLatin1_aae02 cJ0_isLatin1_aae02 1 (some .boolean), Cond.fieldLink RJ0 38 "java/lang/String" "COMPACT_STRINGS" "Z", Cond.fieldLink RJ0 15 "java/lang/String" "coder" "B", Cond.methodLink RJ0 505 yJ0_length_8abf5, Cond.instanceMethod yJ0_length_8abf5, Cond.selects RJ0 yJ0_length_8abf5 yJ0_length_8abf5, Cond.code yJ0_length_8abf5 cJ0_length_8abf5 1 (some .int), Cond.methodLink RJ0 335 yJ0_coder_7d493, Cond.instanceMethod yJ0_coder_7d493, Cond.selects RJ0 yJ0_coder_7d493 yJ0_coder_7d493, Cond.code yJ0_coder_7d493 cJ0_coder_7d493 1 (some .byte), Cond.methodLink RJ0 637 yJ1_indexOf_4cfef, Cond.static yJ1_indexOf_4cfef, Cond.initialized RJ1]
def wsX2_takes_r3 : List Cond := [Cond.code yJ1_indexOf_4cfef cJ1_indexOf_4cfef 4 (some .int), Cond.methodLink RJ1 92 Lib.Math.max.name, Cond.static Lib.Math.max.name, Cond.initialized "java/lang/Math", Cond.code Lib.Math.max.name Lib.Math.max.code 2 (some .int), Cond.methodLink RJ1 38 Lib.Math.min.name, Cond.static Lib.Math.min.name, Cond.code Lib.Math.min.name Lib.Math.min.code 2 (some .int), Cond.methodLink RJ1 88 yJ1_canEncode_9a6ad, Cond.static yJ1_canEncode_9a6ad, Cond.code yJ1_canEncode_9a6ad cJ1_canEncode_9a6ad 1 (some .boolean), Cond.methodLink RJ1 95 yJ1_indexOfChar_4cfef, Cond.static yJ1_indexOfChar_4cfef, Cond.code yJ1_indexOfChar_4cfef cJ1_indexOfChar_4cfef 6 (some .int), Cond.methodLink RJ0 640 yJ2_indexOf_4cfef, Cond.static yJ2_indexOf_4cfef, Cond.initialized RJ2, Cond.code yJ2_indexOf_4cfef cJ2_indexOf_4cfef 4 (some .int), Cond.methodLink RJ2 224 Lib.Math.max.name, Cond.methodLink RJ2 183 Lib.Math.min.name, Cond.constant RJ2 227 (65536), Cond.methodLink RJ2 228 yJ2_indexOfChar_4cfef, Cond.static yJ2_indexOfChar_4cfef, Cond.code yJ2_indexOfChar_4cfef cJ2_indexOfChar_4cfef 4 (some .int)]
def wsX2_takes_r4 : List Cond := [Cond.methodLink RJ2 96 yJ2_checkBoundsBeginEnd_d044e, Cond.static yJ2_checkBoundsBeginEnd_d044e, Cond.code yJ2_checkBoundsBeginEnd_d044e cJ2_checkBoundsBeginEnd_d044e 3 none, Cond.methodLink RJ2 48 yJ2_length_9d52b, Cond.static yJ2_length_9d52b, Cond.code yJ2_length_9d52b cJ2_length_9d52b 1 (some .int), Cond.methodLink RJ2 241 yJ0_checkBoundsBeginEnd_23922, Cond.static yJ0_checkBoundsBeginEnd_23922, Cond.code yJ0_checkBoundsBeginEnd_23922 cJ0_checkBoundsBeginEnd_23922 3 none, Cond.fieldLink RJ0 1053 "jdk/internal/util/Preconditions" "SIOOBE_FORMATTER" "Ljava/util/function/BiFunction;", Cond.methodLink RJ0 1062 yJ3_checkFromToIndex_8c36e, Cond.static yJ3_checkFromToIndex_8c36e, Cond.initialized RJ3, Cond.code yJ3_checkFromToIndex_8c36e cJ3_checkFromToIndex_8c36e 4 (some .int), Cond.methodLink RJ2 244 yJ2_indexOfCharUnsafe_4cfef, Cond.static yJ2_indexOfCharUnsafe_4cfef, Cond.code yJ2_indexOfCharUnsafe_4cfef cJ2_indexOfCharUnsafe_4cfef 5 (some .int), Cond.methodLink RJ2 71 yJ2_getChar_3b067, Cond.static yJ2_getChar_3b067, Cond.code yJ2_getChar_3b067 cJ2_getChar_3b067 2 (some .char), Cond.fieldLink RJ2 44 "java/lang/StringUTF16" "$assertionsDisabled" "Z", Cond.fieldLink RJ2 59 "java/lang/StringUTF16" "HI_BYTE_SHIFT" "I", Cond.fieldLink RJ2 63 "java/lang/StringUTF16" "LO_BYTE_SHIFT" "I", Cond.methodLink RJ2 232 yJ2_indexOfSupplementary_4cfef]
def wsX2_takes_r5 : List Cond := [Cond.static yJ2_indexOfSupplementary_4cfef, Cond.code yJ2_indexOfSupplementary_4cfef cJ2_indexOfSupplementary_4cfef 7 (some .int), Cond.methodLink RJ2 164 yJ11_isValidCodePoint_9a6ad, Cond.static yJ11_isValidCodePoint_9a6ad, Cond.initialized RJ11, Cond.code yJ11_isValidCodePoint_9a6ad cJ11_isValidCodePoint_9a6ad 2 (some .boolean), Cond.methodLink RJ2 157 yJ11_highSurrogate_5068e, Cond.static yJ11_highSurrogate_5068e, Cond.code yJ11_highSurrogate_5068e cJ11_highSurrogate_5068e 1 (some .char), Cond.constant RJ11 110 (55232), Cond.methodLink RJ2 161 yJ11_lowSurrogate_5068e, Cond.static yJ11_lowSurrogate_5068e, Cond.code yJ11_lowSurrogate_5068e cJ11_lowSurrogate_5068e 1 (some .char), Cond.constant RJ11 76 (56320), Cond.methodLink RX2 70 yX2_takesKind, Cond.instanceMethod yX2_takesKind, Cond.selects RX2 yX2_takesKind yX2_takesKind, Cond.code yX2_takesKind cX2_takesKind 2 (some .boolean), Cond.fieldLink RX2 47 "EndedByOthers$Room" "speakers" "I", Cond.fieldLink RX2 79 "EndedByOthers$Room" "kinds" "[I", Cond.methodLink RX2 73 yX2_takesWant, Cond.instanceMethod yX2_takesWant, Cond.selects RX2 yX2_takesWant yX2_takesWant, Cond.code yX2_takesWant cX2_takesWant 2 (some .boolean)]
def wsX2_takes_r6 : List Cond := [Cond.fieldLink RX2 82 "EndedByOthers$Room" "wants" "[I", Cond.methodLink RX2 76 yX2_takesNextSpeaker, Cond.instanceMethod yX2_takesNextSpeaker, Cond.selects RX2 yX2_takesNextSpeaker yX2_takesNextSpeaker, Cond.code yX2_takesNextSpeaker cX2_takesNextSpeaker 2 (some .boolean)]
def wsX2_takes : List Cond := .code yX2_takes cX2_takes 2 (some .boolean) :: ((wsX2_takes_r1 ++ (wsX2_takes_r2 ++ (wsX2_takes_r3 ++ (wsX2_takes_r4 ++ (wsX2_takes_r5 ++ wsX2_takes_r6))))) ++ wsX20 ++ wsX30)
def wsX2_read_r1 : List Cond := [Cond.fieldLink RX2 12 "EndedByOthers$Reader" "draft" "LEndedByOthers$Room;", Cond.fieldLink RX2 18 "EndedByOthers$Reader" "opening" "I", Cond.fieldLink RX2 34 "EndedByOthers$Page" "length" "I", Cond.fieldLink RX2 39 "EndedByOthers$Page" "codes" "[I", Cond.methodLink RX2 28 yX3_clear, Cond.instanceMethod yX3_clear, Cond.selects RX3 yX3_clear yX3_clear, Cond.initialized RX3, Cond.code yX3_clear cX3_clear 2 none, Cond.fieldLink RX3 9 "EndedByOthers$Room" "fitting" "[I", Cond.fieldLink RX3 21 "EndedByOthers$Room" "speakers" "I", Cond.methodLink RX2 31 yX2_startPart, Cond.instanceMethod yX2_startPart, Cond.selects RX2 yX2_startPart yX2_startPart, Cond.initialized RX2, Cond.code yX2_startPart cX2_startPart 1 none, Cond.fieldLink RX2 22 "EndedByOthers$Reader" "lettersOfPart" "I", Cond.fieldLink RX2 25 "EndedByOthers$Reader" "lastCode" "I", Cond.methodLink RX2 43 yX2_takes, Cond.instanceMethod yX2_takes, Cond.selects RX2 yX2_takes yX2_takes, Cond.code yX2_takes cX2_takes 2 (some .boolean), Cond.methodLink RX2 50 yX2_takesInOpening, Cond.instanceMethod yX2_takesInOpening]
def wsX2_read_r2 : List Cond := [Cond.selects RX2 yX2_takesInOpening yX2_takesInOpening, Cond.code yX2_takesInOpening cX2_takesInOpening 3 (some .boolean), Cond.fieldLink RX2 59 "EndedByOthers$Room" "fitting" "[I", Cond.static yX6_isEnding, Cond.initialized RX6, Cond.code yX6_isEnding cX6_isEnding 1 (some .boolean), Cond.methodLink RX2 53 yX2_takesInSpeaker, Cond.instanceMethod yX2_takesInSpeaker, Cond.selects RX2 yX2_takesInSpeaker yX2_takesInSpeaker, Cond.code yX2_takesInSpeaker cX2_takesInSpeaker 2 (some .boolean), Cond.methodLink RX2 64 yJ0_indexOf_0f7a4, Cond.instanceMethod yJ0_indexOf_0f7a4, Cond.selects RJ0 yJ0_indexOf_0f7a4 yJ0_indexOf_0f7a4, Cond.initialized RJ0, Cond.code yJ0_indexOf_0f7a4 cJ0_indexOf_0f7a4 2 (some .int), Cond.methodLink RJ0 633 yJ0_indexOf_7cf53, Cond.instanceMethod yJ0_indexOf_7cf53, Cond.selects RJ0 yJ0_indexOf_7cf53 yJ0_indexOf_7cf53, Cond.code yJ0_indexOf_7cf53 cJ0_indexOf_7cf53 3 (some .int), Cond.fieldLink RJ0 9 "java/lang/String" "value" "[B", Cond.methodLink RJ0 492 yJ0_isLatin1_aae02, Cond.instanceMethod yJ0_isLatin1_aae02, Cond.selects RJ0 yJ0_isLatin1_aae02 yJ0_isLatin1_aae02, Cond.code yJ0_isLatin1_aae02 cJ0_isLatin1_aae02 1 (some .boolean)]
def wsX2_read_r3 : List Cond := [Cond.fieldLink RJ0 38 "java/lang/String" "COMPACT_STRINGS" "Z", Cond.fieldLink RJ0 15 "java/lang/String" "coder" "B", Cond.methodLink RJ0 505 yJ0_length_8abf5, Cond.instanceMethod yJ0_length_8abf5, Cond.selects RJ0 yJ0_length_8abf5 yJ0_length_8abf5, Cond.code yJ0_length_8abf5 cJ0_length_8abf5 1 (some .int), Cond.methodLink RJ0 335 yJ0_coder_7d493, Cond.instanceMethod yJ0_coder_7d493, Cond.selects RJ0 yJ0_coder_7d493 yJ0_coder_7d493, Cond.code yJ0_coder_7d493 cJ0_coder_7d493 1 (some .byte), Cond.methodLink RJ0 637 yJ1_indexOf_4cfef, Cond.static yJ1_indexOf_4cfef, Cond.initialized RJ1, Cond.code yJ1_indexOf_4cfef cJ1_indexOf_4cfef 4 (some .int), Cond.methodLink RJ1 92 Lib.Math.max.name, Cond.static Lib.Math.max.name, Cond.initialized "java/lang/Math", Cond.code Lib.Math.max.name Lib.Math.max.code 2 (some .int), Cond.methodLink RJ1 38 Lib.Math.min.name, Cond.static Lib.Math.min.name, Cond.code Lib.Math.min.name Lib.Math.min.code 2 (some .int), Cond.methodLink RJ1 88 yJ1_canEncode_9a6ad, Cond.static yJ1_canEncode_9a6ad, Cond.code yJ1_canEncode_9a6ad cJ1_canEncode_9a6ad 1 (some .boolean)]
def wsX2_read_r4 : List Cond := [Cond.methodLink RJ1 95 yJ1_indexOfChar_4cfef, Cond.static yJ1_indexOfChar_4cfef, Cond.code yJ1_indexOfChar_4cfef cJ1_indexOfChar_4cfef 6 (some .int), Cond.methodLink RJ0 640 yJ2_indexOf_4cfef, Cond.static yJ2_indexOf_4cfef, Cond.initialized RJ2, Cond.code yJ2_indexOf_4cfef cJ2_indexOf_4cfef 4 (some .int), Cond.methodLink RJ2 224 Lib.Math.max.name, Cond.methodLink RJ2 183 Lib.Math.min.name, Cond.constant RJ2 227 (65536), Cond.methodLink RJ2 228 yJ2_indexOfChar_4cfef, Cond.static yJ2_indexOfChar_4cfef, Cond.code yJ2_indexOfChar_4cfef cJ2_indexOfChar_4cfef 4 (some .int), Cond.methodLink RJ2 96 yJ2_checkBoundsBeginEnd_d044e, Cond.static yJ2_checkBoundsBeginEnd_d044e, Cond.code yJ2_checkBoundsBeginEnd_d044e cJ2_checkBoundsBeginEnd_d044e 3 none, Cond.methodLink RJ2 48 yJ2_length_9d52b, Cond.static yJ2_length_9d52b, Cond.code yJ2_length_9d52b cJ2_length_9d52b 1 (some .int), Cond.methodLink RJ2 241 yJ0_checkBoundsBeginEnd_23922, Cond.static yJ0_checkBoundsBeginEnd_23922, Cond.code yJ0_checkBoundsBeginEnd_23922 cJ0_checkBoundsBeginEnd_23922 3 none, Cond.fieldLink RJ0 1053 "jdk/internal/util/Preconditions" "SIOOBE_FORMATTER" "Ljava/util/function/BiFunction;", Cond.methodLink RJ0 1062 yJ3_checkFromToIndex_8c36e]
def wsX2_read_r5 : List Cond := [Cond.static yJ3_checkFromToIndex_8c36e, Cond.initialized RJ3, Cond.code yJ3_checkFromToIndex_8c36e cJ3_checkFromToIndex_8c36e 4 (some .int), Cond.methodLink RJ2 244 yJ2_indexOfCharUnsafe_4cfef, Cond.static yJ2_indexOfCharUnsafe_4cfef, Cond.code yJ2_indexOfCharUnsafe_4cfef cJ2_indexOfCharUnsafe_4cfef 5 (some .int), Cond.methodLink RJ2 71 yJ2_getChar_3b067, Cond.static yJ2_getChar_3b067, Cond.code yJ2_getChar_3b067 cJ2_getChar_3b067 2 (some .char), Cond.fieldLink RJ2 44 "java/lang/StringUTF16" "$assertionsDisabled" "Z", Cond.fieldLink RJ2 59 "java/lang/StringUTF16" "HI_BYTE_SHIFT" "I", Cond.fieldLink RJ2 63 "java/lang/StringUTF16" "LO_BYTE_SHIFT" "I", Cond.methodLink RJ2 232 yJ2_indexOfSupplementary_4cfef, Cond.static yJ2_indexOfSupplementary_4cfef, Cond.code yJ2_indexOfSupplementary_4cfef cJ2_indexOfSupplementary_4cfef 7 (some .int), Cond.methodLink RJ2 164 yJ11_isValidCodePoint_9a6ad, Cond.static yJ11_isValidCodePoint_9a6ad, Cond.initialized RJ11, Cond.code yJ11_isValidCodePoint_9a6ad cJ11_isValidCodePoint_9a6ad 2 (some .boolean), Cond.methodLink RJ2 157 yJ11_highSurrogate_5068e, Cond.static yJ11_highSurrogate_5068e, Cond.code yJ11_highSurrogate_5068e cJ11_highSurrogate_5068e 1 (some .char), Cond.constant RJ11 110 (55232), Cond.methodLink RJ2 161 yJ11_lowSurrogate_5068e]
def wsX2_read_r6 : List Cond := [Cond.static yJ11_lowSurrogate_5068e, Cond.code yJ11_lowSurrogate_5068e cJ11_lowSurrogate_5068e 1 (some .char), Cond.constant RJ11 76 (56320), Cond.methodLink RX2 70 yX2_takesKind, Cond.instanceMethod yX2_takesKind, Cond.selects RX2 yX2_takesKind yX2_takesKind, Cond.code yX2_takesKind cX2_takesKind 2 (some .boolean), Cond.fieldLink RX2 47 "EndedByOthers$Room" "speakers" "I", Cond.fieldLink RX2 79 "EndedByOthers$Room" "kinds" "[I", Cond.methodLink RX2 73 yX2_takesWant, Cond.instanceMethod yX2_takesWant, Cond.selects RX2 yX2_takesWant yX2_takesWant, Cond.code yX2_takesWant cX2_takesWant 2 (some .boolean), Cond.fieldLink RX2 82 "EndedByOthers$Room" "wants" "[I", Cond.methodLink RX2 76 yX2_takesNextSpeaker, Cond.instanceMethod yX2_takesNextSpeaker, Cond.selects RX2 yX2_takesNextSpeaker yX2_takesNextSpeaker, Cond.code yX2_takesNextSpeaker cX2_takesNextSpeaker 2 (some .boolean)]
def wsX2_read : List Cond := .code yX2_read cX2_read 3 (some .int) :: ((wsX2_read_r1 ++ (wsX2_read_r2 ++ (wsX2_read_r3 ++ (wsX2_read_r4 ++ (wsX2_read_r5 ++ wsX2_read_r6))))) ++ wsX20 ++ wsX10 ++ wsX30)
def wsX2_hasWholeRoom : List Cond := .code yX2_hasWholeRoom cX2_hasWholeRoom 1 (some .boolean) :: ([.fieldLink RX2 12 "EndedByOthers$Reader" "draft" "LEndedByOthers$Room;", .fieldLink RX2 47 "EndedByOthers$Room" "speakers" "I", .fieldLink RX2 22 "EndedByOthers$Reader" "lettersOfPart" "I"] ++ wsX20 ++ wsX30)
def wsX3_copyFrom : List Cond := .code yX3_copyFrom cX3_copyFrom 2 none :: ([.fieldLink RX3 9 "EndedByOthers$Room" "fitting" "[I", .methodLink RX3 25 arraycopyName, .native arraycopyName, .static arraycopyName, .initialized "java/lang/System", .fieldLink RX3 15 "EndedByOthers$Room" "kinds" "[I", .fieldLink RX3 18 "EndedByOthers$Room" "wants" "[I", .fieldLink RX3 21 "EndedByOthers$Room" "speakers" "I"] ++ wsX30)
def wsX4_init : List Cond := .code yX4_init cX4_init 1 none :: ([.methodLink RX4 3 objectInit, .instanceMethod objectInit, .code objectInit ⟨#[0xb1]⟩ 1 none, .arrayClass .int, .fieldLink RX4 9 "EndedByOthers$Scene" "wants" "[I", .fieldLink RX4 15 "EndedByOthers$Scene" "beginners" "[I", .fieldLink RX4 18 "EndedByOthers$Scene" "openings" "[I", .fieldLink RX4 21 "EndedByOthers$Scene" "enders" "[I", .fieldLink RX4 24 "EndedByOthers$Scene" "endings" "[I", .fieldLink RX4 27 "EndedByOthers$Scene" "sentences" "I", .fieldLink RX4 31 "EndedByOthers$Scene" "heardSpeakers" "[I", .fieldLink RX4 34 "EndedByOthers$Scene" "heardOpenings" "[I", .fieldLink RX4 37 "EndedByOthers$Scene" "heardEndings" "[I", .fieldLink RX4 40 "EndedByOthers$Scene" "heard" "I", .fieldLink RX4 43 "EndedByOthers$Scene" "changes" "I"] ++ wsX40)
def wsX4_start : List Cond := .code yX4_start cX4_start 2 none :: ([.fieldLink RX4 9 "EndedByOthers$Scene" "wants" "[I", .methodLink RX4 46 arraycopyName, .native arraycopyName, .static arraycopyName, .initialized "java/lang/System", .fieldLink RX4 27 "EndedByOthers$Scene" "sentences" "I", .fieldLink RX4 40 "EndedByOthers$Scene" "heard" "I", .fieldLink RX4 43 "EndedByOthers$Scene" "changes" "I"] ++ wsX40)
def wsX4_copyFrom : List Cond := .code yX4_copyFrom cX4_copyFrom 2 none :: ([.fieldLink RX4 9 "EndedByOthers$Scene" "wants" "[I", .methodLink RX4 46 arraycopyName, .native arraycopyName, .static arraycopyName, .initialized "java/lang/System", .fieldLink RX4 15 "EndedByOthers$Scene" "beginners" "[I", .fieldLink RX4 18 "EndedByOthers$Scene" "openings" "[I", .fieldLink RX4 21 "EndedByOthers$Scene" "enders" "[I", .fieldLink RX4 24 "EndedByOthers$Scene" "endings" "[I", .fieldLink RX4 31 "EndedByOthers$Scene" "heardSpeakers" "[I", .fieldLink RX4 34 "EndedByOthers$Scene" "heardOpenings" "[I", .fieldLink RX4 37 "EndedByOthers$Scene" "heardEndings" "[I", .fieldLink RX4 27 "EndedByOthers$Scene" "sentences" "I", .fieldLink RX4 40 "EndedByOthers$Scene" "heard" "I", .fieldLink RX4 43 "EndedByOthers$Scene" "changes" "I"] ++ wsX40)
def wsX4_addSentence : List Cond := .code yX4_addSentence cX4_addSentence 4 (some .int) :: ([.fieldLink RX4 27 "EndedByOthers$Scene" "sentences" "I", .fieldLink RX4 15 "EndedByOthers$Scene" "beginners" "[I", .fieldLink RX4 18 "EndedByOthers$Scene" "openings" "[I", .fieldLink RX4 21 "EndedByOthers$Scene" "enders" "[I", .fieldLink RX4 24 "EndedByOthers$Scene" "endings" "[I"] ++ wsX40)
def wsX4_addHeard : List Cond := .code yX4_addHeard cX4_addHeard 4 none :: ([.fieldLink RX4 40 "EndedByOthers$Scene" "heard" "I", .fieldLink RX4 31 "EndedByOthers$Scene" "heardSpeakers" "[I", .fieldLink RX4 34 "EndedByOthers$Scene" "heardOpenings" "[I", .fieldLink RX4 37 "EndedByOthers$Scene" "heardEndings" "[I"] ++ wsX40)
def wsX4_isOpen : List Cond := .code yX4_isOpen cX4_isOpen 2 (some .boolean) :: ([.fieldLink RX4 21 "EndedByOthers$Scene" "enders" "[I"] ++ wsX40)
def wsX4_isAsWanted : List Cond := .code yX4_isAsWanted cX4_isAsWanted 2 (some .boolean) :: ([.fieldLink RX4 24 "EndedByOthers$Scene" "endings" "[I", .fieldLink RX4 9 "EndedByOthers$Scene" "wants" "[I", .fieldLink RX4 15 "EndedByOthers$Scene" "beginners" "[I", .methodLink RX4 52 yX4_isOpen, .instanceMethod yX4_isOpen, .selects RX4 yX4_isOpen yX4_isOpen, .initialized RX4, .code yX4_isOpen cX4_isOpen 2 (some .boolean), .fieldLink RX4 21 "EndedByOthers$Scene" "enders" "[I"] ++ wsX40)
def wsX4_openOf : List Cond := .code yX4_openOf cX4_openOf 3 (some .int) :: ([.fieldLink RX4 27 "EndedByOthers$Scene" "sentences" "I", .fieldLink RX4 15 "EndedByOthers$Scene" "beginners" "[I", .methodLink RX4 52 yX4_isOpen, .instanceMethod yX4_isOpen, .selects RX4 yX4_isOpen yX4_isOpen, .initialized RX4, .code yX4_isOpen cX4_isOpen 2 (some .boolean), .fieldLink RX4 21 "EndedByOthers$Scene" "enders" "[I"] ++ wsX40)
def wsX4_usedBy : List Cond := .code yX4_usedBy cX4_usedBy 4 (some .int) :: ([.fieldLink RX4 27 "EndedByOthers$Scene" "sentences" "I", .fieldLink RX4 21 "EndedByOthers$Scene" "enders" "[I", .fieldLink RX4 24 "EndedByOthers$Scene" "endings" "[I"] ++ wsX40)
def wsX4_howManyBegunBy : List Cond := .code yX4_howManyBegunBy cX4_howManyBegunBy 4 (some .int) :: ([.fieldLink RX4 27 "EndedByOthers$Scene" "sentences" "I", .fieldLink RX4 15 "EndedByOthers$Scene" "beginners" "[I"] ++ wsX40)
def wsX4_howManyEndedBy : List Cond := .code yX4_howManyEndedBy cX4_howManyEndedBy 4 (some .int) :: ([.fieldLink RX4 27 "EndedByOthers$Scene" "sentences" "I", .fieldLink RX4 21 "EndedByOthers$Scene" "enders" "[I"] ++ wsX40)
def wsX4_howManyOpen : List Cond := .code yX4_howManyOpen cX4_howManyOpen 1 (some .int) :: ([.methodLink RX4 56 yX4_howManyEndedBy, .instanceMethod yX4_howManyEndedBy, .selects RX4 yX4_howManyEndedBy yX4_howManyEndedBy, .initialized RX4, .code yX4_howManyEndedBy cX4_howManyEndedBy 4 (some .int), .fieldLink RX4 27 "EndedByOthers$Scene" "sentences" "I", .fieldLink RX4 21 "EndedByOthers$Scene" "enders" "[I"] ++ wsX40)
def wsX4_howManyAsWanted : List Cond := .code yX4_howManyAsWanted cX4_howManyAsWanted 3 (some .int) :: ([.fieldLink RX4 27 "EndedByOthers$Scene" "sentences" "I", .methodLink RX4 60 yX4_isAsWanted, .instanceMethod yX4_isAsWanted, .selects RX4 yX4_isAsWanted yX4_isAsWanted, .initialized RX4, .code yX4_isAsWanted cX4_isAsWanted 2 (some .boolean), .fieldLink RX4 24 "EndedByOthers$Scene" "endings" "[I", .fieldLink RX4 9 "EndedByOthers$Scene" "wants" "[I", .fieldLink RX4 15 "EndedByOthers$Scene" "beginners" "[I", .methodLink RX4 52 yX4_isOpen, .instanceMethod yX4_isOpen, .selects RX4 yX4_isOpen yX4_isOpen, .code yX4_isOpen cX4_isOpen 2 (some .boolean), .fieldLink RX4 21 "EndedByOthers$Scene" "enders" "[I"] ++ wsX40)
def wsJ6_bitCount_0f7a4 : List Cond := .code yJ6_bitCount_0f7a4 cJ6_bitCount_0f7a4 1 (some .int) :: ([.constant RJ6 265 (1431655765), .constant RJ6 266 (858993459), .constant RJ6 267 (252645135)])
def wsX4_howManyUnlikeEndings : List Cond := .code yX4_howManyUnlikeEndings cX4_howManyUnlikeEndings 3 (some .int) :: ([.methodLink RX4 63 yX4_usedBy, .instanceMethod yX4_usedBy, .selects RX4 yX4_usedBy yX4_usedBy, .initialized RX4, .code yX4_usedBy cX4_usedBy 4 (some .int), .fieldLink RX4 27 "EndedByOthers$Scene" "sentences" "I", .fieldLink RX4 21 "EndedByOthers$Scene" "enders" "[I", .fieldLink RX4 24 "EndedByOthers$Scene" "endings" "[I", .methodLink RX4 66 yJ6_bitCount_0f7a4, .static yJ6_bitCount_0f7a4, .initialized RJ6, .code yJ6_bitCount_0f7a4 cJ6_bitCount_0f7a4 1 (some .int), .constant RJ6 265 (1431655765), .constant RJ6 266 (858993459), .constant RJ6 267 (252645135)] ++ wsX40)
def wsX5_init : List Cond := .code yX5_init cX5_init 1 none :: ([.methodLink RX5 3 objectInit, .instanceMethod objectInit, .code objectInit ⟨#[0xb1]⟩ 1 none, .arrayClass .int, .fieldLink RX5 9 "EndedByOthers$Trial" "used" "[I", .fieldLink RX5 15 "EndedByOthers$Trial" "seed" "J", .fieldLink RX5 19 "EndedByOthers$Trial" "ended" "I", .fieldLink RX5 23 "EndedByOthers$Trial" "asWanted" "I"] ++ wsX50)
def wsX5_draw : List Cond := .code yX5_draw cX5_draw 2 (some .int) :: ([.constantLong RX5 57 (1103515245), .fieldLink RX5 15 "EndedByOthers$Trial" "seed" "J", .constantLong RX5 59 (12345), .constantLong RX5 61 (2147483648), .constantLong RX5 63 (65536)] ++ wsX50)
def wsX6_greatest : List Cond := .code yX6_greatest cX6_greatest 2 (some .int) :: ([])
def wsX6_least : List Cond := .code yX6_least cX6_least 2 (some .int) :: ([])
def wsX6_endingBy : List Cond := .code yX6_endingBy cX6_endingBy 5 (some .int) :: ([.methodLink RX6 239 yX6_has, .static yX6_has, .initialized RX6, .code yX6_has cX6_has 2 (some .boolean), .methodLink RX6 242 yX6_greatest, .static yX6_greatest, .code yX6_greatest cX6_greatest 2 (some .int), .methodLink RX6 245 yX6_least, .static yX6_least, .code yX6_least cX6_least 2 (some .int)])
def wsX5_talkOnce_r1 : List Cond := [Cond.fieldLink RX5 36 "EndedByOthers$Room" "speakers" "I", Cond.fieldLink RX5 44 "EndedByOthers$Room" "kinds" "[I", Cond.fieldLink RX5 47 "EndedByOthers$Room" "fitting" "[I", Cond.fieldLink RX5 50 "EndedByOthers$Scene" "wants" "[I", Cond.fieldLink RX5 9 "EndedByOthers$Trial" "used" "[I", Cond.fieldLink RX5 19 "EndedByOthers$Trial" "ended" "I", Cond.fieldLink RX5 23 "EndedByOthers$Trial" "asWanted" "I", Cond.methodLink RX5 41 yX5_draw, Cond.instanceMethod yX5_draw, Cond.selects RX5 yX5_draw yX5_draw, Cond.initialized RX5, Cond.code yX5_draw cX5_draw 2 (some .int), Cond.constantLong RX5 57 (1103515245), Cond.fieldLink RX5 15 "EndedByOthers$Trial" "seed" "J", Cond.constantLong RX5 59 (12345), Cond.constantLong RX5 61 (2147483648), Cond.constantLong RX5 63 (65536), Cond.static yX6_endingBy, Cond.initialized RX6, Cond.code yX6_endingBy cX6_endingBy 5 (some .int), Cond.methodLink RX6 239 yX6_has, Cond.static yX6_has, Cond.code yX6_has cX6_has 2 (some .boolean), Cond.methodLink RX6 242 yX6_greatest]
def wsX5_talkOnce_r2 : List Cond := [Cond.static yX6_greatest, Cond.code yX6_greatest cX6_greatest 2 (some .int), Cond.methodLink RX6 245 yX6_least, Cond.static yX6_least, Cond.code yX6_least cX6_least 2 (some .int)]
def wsX5_talkOnce : List Cond := .code yX5_talkOnce cX5_talkOnce 7 none :: ((wsX5_talkOnce_r1 ++ wsX5_talkOnce_r2) ++ wsX30 ++ wsX40 ++ wsX50)
def wsX5_run_r1 : List Cond := [Cond.fieldLink RX5 15 "EndedByOthers$Trial" "seed" "J", Cond.fieldLink RX5 19 "EndedByOthers$Trial" "ended" "I", Cond.fieldLink RX5 23 "EndedByOthers$Trial" "asWanted" "I", Cond.fieldLink RX5 9 "EndedByOthers$Trial" "used" "[I", Cond.methodLink RX5 26 yX4_usedBy, Cond.instanceMethod yX4_usedBy, Cond.selects RX4 yX4_usedBy yX4_usedBy, Cond.initialized RX4, Cond.code yX4_usedBy cX4_usedBy 4 (some .int), Cond.fieldLink RX4 27 "EndedByOthers$Scene" "sentences" "I", Cond.fieldLink RX4 21 "EndedByOthers$Scene" "enders" "[I", Cond.fieldLink RX4 24 "EndedByOthers$Scene" "endings" "[I", Cond.methodLink RX5 32 yX5_talkOnce, Cond.instanceMethod yX5_talkOnce, Cond.selects RX5 yX5_talkOnce yX5_talkOnce, Cond.initialized RX5, Cond.code yX5_talkOnce cX5_talkOnce 7 none, Cond.fieldLink RX5 36 "EndedByOthers$Room" "speakers" "I", Cond.fieldLink RX5 44 "EndedByOthers$Room" "kinds" "[I", Cond.fieldLink RX5 47 "EndedByOthers$Room" "fitting" "[I", Cond.fieldLink RX5 50 "EndedByOthers$Scene" "wants" "[I", Cond.methodLink RX5 41 yX5_draw, Cond.instanceMethod yX5_draw, Cond.selects RX5 yX5_draw yX5_draw]
def wsX5_run_r2 : List Cond := [Cond.code yX5_draw cX5_draw 2 (some .int), Cond.constantLong RX5 57 (1103515245), Cond.constantLong RX5 59 (12345), Cond.constantLong RX5 61 (2147483648), Cond.constantLong RX5 63 (65536), Cond.static yX6_endingBy, Cond.initialized RX6, Cond.code yX6_endingBy cX6_endingBy 5 (some .int), Cond.methodLink RX6 239 yX6_has, Cond.static yX6_has, Cond.code yX6_has cX6_has 2 (some .boolean), Cond.methodLink RX6 242 yX6_greatest, Cond.static yX6_greatest, Cond.code yX6_greatest cX6_greatest 2 (some .int), Cond.methodLink RX6 245 yX6_least, Cond.static yX6_least, Cond.code yX6_least cX6_least 2 (some .int)]
def wsX5_run : List Cond := .code yX5_run cX5_run 6 none :: ((wsX5_run_r1 ++ wsX5_run_r2) ++ wsX50 ++ wsX40 ++ wsX30)
def wsX6_init_r1 : List Cond := [Cond.methodLink RX6 1 objectInit, Cond.instanceMethod objectInit, Cond.code objectInit ⟨#[0xb1]⟩ 1 none, Cond.classLink RX6 7 RX1, Cond.instantiable RX1 2, Cond.initialized RX1, Cond.fieldLink RX6 10 "EndedByOthers" "page" "LEndedByOthers$Page;", Cond.classLink RX6 16 RX2, Cond.instantiable RX2 4, Cond.initialized RX2, Cond.fieldLink RX6 19 "EndedByOthers" "reader" "LEndedByOthers$Reader;", Cond.classLink RX6 23 RX3, Cond.instantiable RX3 4, Cond.initialized RX3, Cond.fieldLink RX6 26 "EndedByOthers" "room" "LEndedByOthers$Room;", Cond.classLink RX6 30 RX4, Cond.instantiable RX4 11, Cond.initialized RX4, Cond.fieldLink RX6 33 "EndedByOthers" "scene" "LEndedByOthers$Scene;", Cond.fieldLink RX6 37 "EndedByOthers" "image" "LEndedByOthers$Scene;", Cond.classLink RX6 40 RX0, Cond.instantiable RX0 3, Cond.initialized RX0, Cond.fieldLink RX6 43 "EndedByOthers" "matching" "LEndedByOthers$Matching;"]
def wsX6_init_r2 : List Cond := [Cond.classLink RX6 47 RX5, Cond.instantiable RX5 4, Cond.initialized RX5, Cond.fieldLink RX6 50 "EndedByOthers" "trial" "LEndedByOthers$Trial;", Cond.fieldLink RX6 54 "EndedByOthers" "imageKept" "Z", Cond.fieldLink RX6 58 "EndedByOthers" "roomsRead" "I", Cond.instanceMethod yX1_init, Cond.code yX1_init cX1_init 1 none, Cond.methodLink RX1 3 objectInit, Cond.arrayClass .int, Cond.fieldLink RX1 9 "EndedByOthers$Page" "codes" "[I", Cond.fieldLink RX1 15 "EndedByOthers$Page" "length" "I", Cond.instanceMethod yX2_init, Cond.code yX2_init cX2_init 1 none, Cond.methodLink RX2 3 objectInit, Cond.classLink RX2 9 RX3, Cond.fieldLink RX2 12 "EndedByOthers$Reader" "draft" "LEndedByOthers$Room;", Cond.fieldLink RX2 18 "EndedByOthers$Reader" "opening" "I", Cond.fieldLink RX2 22 "EndedByOthers$Reader" "lettersOfPart" "I", Cond.fieldLink RX2 25 "EndedByOthers$Reader" "lastCode" "I", Cond.instanceMethod yX3_init, Cond.code yX3_init cX3_init 1 none, Cond.methodLink RX3 3 objectInit, Cond.fieldLink RX3 9 "EndedByOthers$Room" "fitting" "[I"]
def wsX6_init_r3 : List Cond := [Cond.fieldLink RX3 15 "EndedByOthers$Room" "kinds" "[I", Cond.fieldLink RX3 18 "EndedByOthers$Room" "wants" "[I", Cond.fieldLink RX3 21 "EndedByOthers$Room" "speakers" "I", Cond.instanceMethod yX4_init, Cond.code yX4_init cX4_init 1 none, Cond.methodLink RX4 3 objectInit, Cond.fieldLink RX4 9 "EndedByOthers$Scene" "wants" "[I", Cond.fieldLink RX4 15 "EndedByOthers$Scene" "beginners" "[I", Cond.fieldLink RX4 18 "EndedByOthers$Scene" "openings" "[I", Cond.fieldLink RX4 21 "EndedByOthers$Scene" "enders" "[I", Cond.fieldLink RX4 24 "EndedByOthers$Scene" "endings" "[I", Cond.fieldLink RX4 27 "EndedByOthers$Scene" "sentences" "I", Cond.fieldLink RX4 31 "EndedByOthers$Scene" "heardSpeakers" "[I", Cond.fieldLink RX4 34 "EndedByOthers$Scene" "heardOpenings" "[I", Cond.fieldLink RX4 37 "EndedByOthers$Scene" "heardEndings" "[I", Cond.fieldLink RX4 40 "EndedByOthers$Scene" "heard" "I", Cond.fieldLink RX4 43 "EndedByOthers$Scene" "changes" "I", Cond.instanceMethod yX0_init, Cond.code yX0_init cX0_init 1 none, Cond.methodLink RX0 3 objectInit, Cond.fieldLink RX0 9 "EndedByOthers$Matching" "pleasing" "[I", Cond.fieldLink RX0 15 "EndedByOthers$Matching" "picks" "[I", Cond.fieldLink RX0 18 "EndedByOthers$Matching" "ended" "I", Cond.instanceMethod yX5_init]
def wsX6_init_r4 : List Cond := [Cond.code yX5_init cX5_init 1 none, Cond.methodLink RX5 3 objectInit, Cond.fieldLink RX5 9 "EndedByOthers$Trial" "used" "[I", Cond.fieldLink RX5 15 "EndedByOthers$Trial" "seed" "J", Cond.fieldLink RX5 19 "EndedByOthers$Trial" "ended" "I", Cond.fieldLink RX5 23 "EndedByOthers$Trial" "asWanted" "I"]
def wsX6_init : List Cond := .code yX6_init cX6_init 1 none :: ((wsX6_init_r1 ++ (wsX6_init_r2 ++ (wsX6_init_r3 ++ wsX6_init_r4))) ++ wsX10 ++ wsX60 ++ wsX20 ++ wsX30 ++ wsX40 ++ wsX00 ++ wsX50)
def wsX6_letter : List Cond := .code yX6_letter cX6_letter 2 (some .int) :: ([.fieldLink RX6 10 "EndedByOthers" "page" "LEndedByOthers$Page;", .fieldLink RX6 62 "EndedByOthers$Page" "length" "I", .methodLink RX6 65 yX1_add, .instanceMethod yX1_add, .selects RX1 yX1_add yX1_add, .initialized RX1, .code yX1_add cX1_add 2 none, .fieldLink RX1 15 "EndedByOthers$Page" "length" "I", .fieldLink RX1 9 "EndedByOthers$Page" "codes" "[I"] ++ wsX60 ++ wsX10)
def wsX6_blank : List Cond := .code yX6_blank cX6_blank 2 (some .int) :: ([.fieldLink RX6 10 "EndedByOthers" "page" "LEndedByOthers$Page;", .fieldLink RX6 62 "EndedByOthers$Page" "length" "I"] ++ wsX60 ++ wsX10)
def wsX6_fault_r1 : List Cond := [Cond.fieldLink RX6 19 "EndedByOthers" "reader" "LEndedByOthers$Reader;", Cond.fieldLink RX6 10 "EndedByOthers" "page" "LEndedByOthers$Page;", Cond.methodLink RX6 69 yX2_read, Cond.instanceMethod yX2_read, Cond.selects RX2 yX2_read yX2_read, Cond.initialized RX2, Cond.code yX2_read cX2_read 3 (some .int), Cond.fieldLink RX2 12 "EndedByOthers$Reader" "draft" "LEndedByOthers$Room;", Cond.fieldLink RX2 18 "EndedByOthers$Reader" "opening" "I", Cond.fieldLink RX2 34 "EndedByOthers$Page" "length" "I", Cond.fieldLink RX2 39 "EndedByOthers$Page" "codes" "[I", Cond.methodLink RX2 28 yX3_clear, Cond.instanceMethod yX3_clear, Cond.selects RX3 yX3_clear yX3_clear, Cond.initialized RX3, Cond.code yX3_clear cX3_clear 2 none, Cond.fieldLink RX3 9 "EndedByOthers$Room" "fitting" "[I", Cond.fieldLink RX3 21 "EndedByOthers$Room" "speakers" "I", Cond.methodLink RX2 31 yX2_startPart, Cond.instanceMethod yX2_startPart, Cond.selects RX2 yX2_startPart yX2_startPart, Cond.code yX2_startPart cX2_startPart 1 none, Cond.fieldLink RX2 22 "EndedByOthers$Reader" "lettersOfPart" "I", Cond.fieldLink RX2 25 "EndedByOthers$Reader" "lastCode" "I"]
def wsX6_fault_r2 : List Cond := [Cond.methodLink RX2 43 yX2_takes, Cond.instanceMethod yX2_takes, Cond.selects RX2 yX2_takes yX2_takes, Cond.code yX2_takes cX2_takes 2 (some .boolean), Cond.methodLink RX2 50 yX2_takesInOpening, Cond.instanceMethod yX2_takesInOpening, Cond.selects RX2 yX2_takesInOpening yX2_takesInOpening, Cond.code yX2_takesInOpening cX2_takesInOpening 3 (some .boolean), Cond.fieldLink RX2 59 "EndedByOthers$Room" "fitting" "[I", Cond.static yX6_isEnding, Cond.initialized RX6, Cond.code yX6_isEnding cX6_isEnding 1 (some .boolean), Cond.methodLink RX2 53 yX2_takesInSpeaker, Cond.instanceMethod yX2_takesInSpeaker, Cond.selects RX2 yX2_takesInSpeaker yX2_takesInSpeaker, Cond.code yX2_takesInSpeaker cX2_takesInSpeaker 2 (some .boolean), Cond.methodLink RX2 64 yJ0_indexOf_0f7a4, Cond.instanceMethod yJ0_indexOf_0f7a4, Cond.selects RJ0 yJ0_indexOf_0f7a4 yJ0_indexOf_0f7a4, Cond.initialized RJ0, Cond.code yJ0_indexOf_0f7a4 cJ0_indexOf_0f7a4 2 (some .int), Cond.methodLink RJ0 633 yJ0_indexOf_7cf53, Cond.instanceMethod yJ0_indexOf_7cf53, Cond.selects RJ0 yJ0_indexOf_7cf53 yJ0_indexOf_7cf53]
def wsX6_fault_r3 : List Cond := [Cond.code yJ0_indexOf_7cf53 cJ0_indexOf_7cf53 3 (some .int), Cond.fieldLink RJ0 9 "java/lang/String" "value" "[B", Cond.methodLink RJ0 492 yJ0_isLatin1_aae02, Cond.instanceMethod yJ0_isLatin1_aae02, Cond.selects RJ0 yJ0_isLatin1_aae02 yJ0_isLatin1_aae02, Cond.code yJ0_isLatin1_aae02 cJ0_isLatin1_aae02 1 (some .boolean), Cond.fieldLink RJ0 38 "java/lang/String" "COMPACT_STRINGS" "Z", Cond.fieldLink RJ0 15 "java/lang/String" "coder" "B", Cond.methodLink RJ0 505 yJ0_length_8abf5, Cond.instanceMethod yJ0_length_8abf5, Cond.selects RJ0 yJ0_length_8abf5 yJ0_length_8abf5, Cond.code yJ0_length_8abf5 cJ0_length_8abf5 1 (some .int), Cond.methodLink RJ0 335 yJ0_coder_7d493, Cond.instanceMethod yJ0_coder_7d493, Cond.selects RJ0 yJ0_coder_7d493 yJ0_coder_7d493, Cond.code yJ0_coder_7d493 cJ0_coder_7d493 1 (some .byte), Cond.methodLink RJ0 637 yJ1_indexOf_4cfef, Cond.static yJ1_indexOf_4cfef, Cond.initialized RJ1, Cond.code yJ1_indexOf_4cfef cJ1_indexOf_4cfef 4 (some .int), Cond.methodLink RJ1 92 Lib.Math.max.name, Cond.static Lib.Math.max.name, Cond.initialized "java/lang/Math", Cond.code Lib.Math.max.name Lib.Math.max.code 2 (some .int)]
def wsX6_fault_r4 : List Cond := [Cond.methodLink RJ1 38 Lib.Math.min.name, Cond.static Lib.Math.min.name, Cond.code Lib.Math.min.name Lib.Math.min.code 2 (some .int), Cond.methodLink RJ1 88 yJ1_canEncode_9a6ad, Cond.static yJ1_canEncode_9a6ad, Cond.code yJ1_canEncode_9a6ad cJ1_canEncode_9a6ad 1 (some .boolean), Cond.methodLink RJ1 95 yJ1_indexOfChar_4cfef, Cond.static yJ1_indexOfChar_4cfef, Cond.code yJ1_indexOfChar_4cfef cJ1_indexOfChar_4cfef 6 (some .int), Cond.methodLink RJ0 640 yJ2_indexOf_4cfef, Cond.static yJ2_indexOf_4cfef, Cond.initialized RJ2, Cond.code yJ2_indexOf_4cfef cJ2_indexOf_4cfef 4 (some .int), Cond.methodLink RJ2 224 Lib.Math.max.name, Cond.methodLink RJ2 183 Lib.Math.min.name, Cond.constant RJ2 227 (65536), Cond.methodLink RJ2 228 yJ2_indexOfChar_4cfef, Cond.static yJ2_indexOfChar_4cfef, Cond.code yJ2_indexOfChar_4cfef cJ2_indexOfChar_4cfef 4 (some .int), Cond.methodLink RJ2 96 yJ2_checkBoundsBeginEnd_d044e, Cond.static yJ2_checkBoundsBeginEnd_d044e, Cond.code yJ2_checkBoundsBeginEnd_d044e cJ2_checkBoundsBeginEnd_d044e 3 none, Cond.methodLink RJ2 48 yJ2_length_9d52b, Cond.static yJ2_length_9d52b]
def wsX6_fault_r5 : List Cond := [Cond.code yJ2_length_9d52b cJ2_length_9d52b 1 (some .int), Cond.methodLink RJ2 241 yJ0_checkBoundsBeginEnd_23922, Cond.static yJ0_checkBoundsBeginEnd_23922, Cond.code yJ0_checkBoundsBeginEnd_23922 cJ0_checkBoundsBeginEnd_23922 3 none, Cond.fieldLink RJ0 1053 "jdk/internal/util/Preconditions" "SIOOBE_FORMATTER" "Ljava/util/function/BiFunction;", Cond.methodLink RJ0 1062 yJ3_checkFromToIndex_8c36e, Cond.static yJ3_checkFromToIndex_8c36e, Cond.initialized RJ3, Cond.code yJ3_checkFromToIndex_8c36e cJ3_checkFromToIndex_8c36e 4 (some .int), Cond.methodLink RJ2 244 yJ2_indexOfCharUnsafe_4cfef, Cond.static yJ2_indexOfCharUnsafe_4cfef, Cond.code yJ2_indexOfCharUnsafe_4cfef cJ2_indexOfCharUnsafe_4cfef 5 (some .int), Cond.methodLink RJ2 71 yJ2_getChar_3b067, Cond.static yJ2_getChar_3b067, Cond.code yJ2_getChar_3b067 cJ2_getChar_3b067 2 (some .char), Cond.fieldLink RJ2 44 "java/lang/StringUTF16" "$assertionsDisabled" "Z", Cond.fieldLink RJ2 59 "java/lang/StringUTF16" "HI_BYTE_SHIFT" "I", Cond.fieldLink RJ2 63 "java/lang/StringUTF16" "LO_BYTE_SHIFT" "I", Cond.methodLink RJ2 232 yJ2_indexOfSupplementary_4cfef, Cond.static yJ2_indexOfSupplementary_4cfef, Cond.code yJ2_indexOfSupplementary_4cfef cJ2_indexOfSupplementary_4cfef 7 (some .int), Cond.methodLink RJ2 164 yJ11_isValidCodePoint_9a6ad, Cond.static yJ11_isValidCodePoint_9a6ad, Cond.initialized RJ11]
def wsX6_fault_r6 : List Cond := [Cond.code yJ11_isValidCodePoint_9a6ad cJ11_isValidCodePoint_9a6ad 2 (some .boolean), Cond.methodLink RJ2 157 yJ11_highSurrogate_5068e, Cond.static yJ11_highSurrogate_5068e, Cond.code yJ11_highSurrogate_5068e cJ11_highSurrogate_5068e 1 (some .char), Cond.constant RJ11 110 (55232), Cond.methodLink RJ2 161 yJ11_lowSurrogate_5068e, Cond.static yJ11_lowSurrogate_5068e, Cond.code yJ11_lowSurrogate_5068e cJ11_lowSurrogate_5068e 1 (some .char), Cond.constant RJ11 76 (56320), Cond.methodLink RX2 70 yX2_takesKind, Cond.instanceMethod yX2_takesKind, Cond.selects RX2 yX2_takesKind yX2_takesKind, Cond.code yX2_takesKind cX2_takesKind 2 (some .boolean), Cond.fieldLink RX2 47 "EndedByOthers$Room" "speakers" "I", Cond.fieldLink RX2 79 "EndedByOthers$Room" "kinds" "[I", Cond.methodLink RX2 73 yX2_takesWant, Cond.instanceMethod yX2_takesWant, Cond.selects RX2 yX2_takesWant yX2_takesWant, Cond.code yX2_takesWant cX2_takesWant 2 (some .boolean), Cond.fieldLink RX2 82 "EndedByOthers$Room" "wants" "[I", Cond.methodLink RX2 76 yX2_takesNextSpeaker, Cond.instanceMethod yX2_takesNextSpeaker, Cond.selects RX2 yX2_takesNextSpeaker yX2_takesNextSpeaker, Cond.code yX2_takesNextSpeaker cX2_takesNextSpeaker 2 (some .boolean)]
def wsX6_fault : List Cond := .code yX6_fault cX6_fault 1 (some .int) :: ((wsX6_fault_r1 ++ (wsX6_fault_r2 ++ (wsX6_fault_r3 ++ (wsX6_fault_r4 ++ (wsX6_fault_r5 ++ wsX6_fault_r6))))) ++ wsX60 ++ wsX20 ++ wsX10 ++ wsX30)
def wsX6_room_r1 : List Cond := [Cond.fieldLink RX6 19 "EndedByOthers" "reader" "LEndedByOthers$Reader;", Cond.fieldLink RX6 10 "EndedByOthers" "page" "LEndedByOthers$Page;", Cond.fieldLink RX6 62 "EndedByOthers$Page" "length" "I", Cond.fieldLink RX6 26 "EndedByOthers" "room" "LEndedByOthers$Room;", Cond.fieldLink RX6 77 "EndedByOthers$Reader" "draft" "LEndedByOthers$Room;", Cond.fieldLink RX6 33 "EndedByOthers" "scene" "LEndedByOthers$Scene;", Cond.fieldLink RX6 84 "EndedByOthers$Room" "wants" "[I", Cond.fieldLink RX6 54 "EndedByOthers" "imageKept" "Z", Cond.fieldLink RX6 58 "EndedByOthers" "roomsRead" "I", Cond.fieldLink RX6 92 "EndedByOthers$Room" "speakers" "I", Cond.methodLink RX6 69 yX2_read, Cond.instanceMethod yX2_read, Cond.selects RX2 yX2_read yX2_read, Cond.initialized RX2, Cond.code yX2_read cX2_read 3 (some .int), Cond.fieldLink RX2 12 "EndedByOthers$Reader" "draft" "LEndedByOthers$Room;", Cond.fieldLink RX2 18 "EndedByOthers$Reader" "opening" "I", Cond.fieldLink RX2 34 "EndedByOthers$Page" "length" "I", Cond.fieldLink RX2 39 "EndedByOthers$Page" "codes" "[I", Cond.methodLink RX2 28 yX3_clear, Cond.instanceMethod yX3_clear, Cond.selects RX3 yX3_clear yX3_clear, Cond.initialized RX3, Cond.code yX3_clear cX3_clear 2 none]
def wsX6_room_r2 : List Cond := [Cond.fieldLink RX3 9 "EndedByOthers$Room" "fitting" "[I", Cond.fieldLink RX3 21 "EndedByOthers$Room" "speakers" "I", Cond.methodLink RX2 31 yX2_startPart, Cond.instanceMethod yX2_startPart, Cond.selects RX2 yX2_startPart yX2_startPart, Cond.code yX2_startPart cX2_startPart 1 none, Cond.fieldLink RX2 22 "EndedByOthers$Reader" "lettersOfPart" "I", Cond.fieldLink RX2 25 "EndedByOthers$Reader" "lastCode" "I", Cond.methodLink RX2 43 yX2_takes, Cond.instanceMethod yX2_takes, Cond.selects RX2 yX2_takes yX2_takes, Cond.code yX2_takes cX2_takes 2 (some .boolean), Cond.methodLink RX2 50 yX2_takesInOpening, Cond.instanceMethod yX2_takesInOpening, Cond.selects RX2 yX2_takesInOpening yX2_takesInOpening, Cond.code yX2_takesInOpening cX2_takesInOpening 3 (some .boolean), Cond.fieldLink RX2 59 "EndedByOthers$Room" "fitting" "[I", Cond.static yX6_isEnding, Cond.initialized RX6, Cond.code yX6_isEnding cX6_isEnding 1 (some .boolean), Cond.methodLink RX2 53 yX2_takesInSpeaker, Cond.instanceMethod yX2_takesInSpeaker, Cond.selects RX2 yX2_takesInSpeaker yX2_takesInSpeaker, Cond.code yX2_takesInSpeaker cX2_takesInSpeaker 2 (some .boolean)]
def wsX6_room_r3 : List Cond := [Cond.methodLink RX2 64 yJ0_indexOf_0f7a4, Cond.instanceMethod yJ0_indexOf_0f7a4, Cond.selects RJ0 yJ0_indexOf_0f7a4 yJ0_indexOf_0f7a4, Cond.initialized RJ0, Cond.code yJ0_indexOf_0f7a4 cJ0_indexOf_0f7a4 2 (some .int), Cond.methodLink RJ0 633 yJ0_indexOf_7cf53, Cond.instanceMethod yJ0_indexOf_7cf53, Cond.selects RJ0 yJ0_indexOf_7cf53 yJ0_indexOf_7cf53, Cond.code yJ0_indexOf_7cf53 cJ0_indexOf_7cf53 3 (some .int), Cond.fieldLink RJ0 9 "java/lang/String" "value" "[B", Cond.methodLink RJ0 492 yJ0_isLatin1_aae02, Cond.instanceMethod yJ0_isLatin1_aae02, Cond.selects RJ0 yJ0_isLatin1_aae02 yJ0_isLatin1_aae02, Cond.code yJ0_isLatin1_aae02 cJ0_isLatin1_aae02 1 (some .boolean), Cond.fieldLink RJ0 38 "java/lang/String" "COMPACT_STRINGS" "Z", Cond.fieldLink RJ0 15 "java/lang/String" "coder" "B", Cond.methodLink RJ0 505 yJ0_length_8abf5, Cond.instanceMethod yJ0_length_8abf5, Cond.selects RJ0 yJ0_length_8abf5 yJ0_length_8abf5, Cond.code yJ0_length_8abf5 cJ0_length_8abf5 1 (some .int), Cond.methodLink RJ0 335 yJ0_coder_7d493, Cond.instanceMethod yJ0_coder_7d493, Cond.selects RJ0 yJ0_coder_7d493 yJ0_coder_7d493, Cond.code yJ0_coder_7d493 cJ0_coder_7d493 1 (some .byte)]
def wsX6_room_r4 : List Cond := [Cond.methodLink RJ0 637 yJ1_indexOf_4cfef, Cond.static yJ1_indexOf_4cfef, Cond.initialized RJ1, Cond.code yJ1_indexOf_4cfef cJ1_indexOf_4cfef 4 (some .int), Cond.methodLink RJ1 92 Lib.Math.max.name, Cond.static Lib.Math.max.name, Cond.initialized "java/lang/Math", Cond.code Lib.Math.max.name Lib.Math.max.code 2 (some .int), Cond.methodLink RJ1 38 Lib.Math.min.name, Cond.static Lib.Math.min.name, Cond.code Lib.Math.min.name Lib.Math.min.code 2 (some .int), Cond.methodLink RJ1 88 yJ1_canEncode_9a6ad, Cond.static yJ1_canEncode_9a6ad, Cond.code yJ1_canEncode_9a6ad cJ1_canEncode_9a6ad 1 (some .boolean), Cond.methodLink RJ1 95 yJ1_indexOfChar_4cfef, Cond.static yJ1_indexOfChar_4cfef, Cond.code yJ1_indexOfChar_4cfef cJ1_indexOfChar_4cfef 6 (some .int), Cond.methodLink RJ0 640 yJ2_indexOf_4cfef, Cond.static yJ2_indexOf_4cfef, Cond.initialized RJ2, Cond.code yJ2_indexOf_4cfef cJ2_indexOf_4cfef 4 (some .int), Cond.methodLink RJ2 224 Lib.Math.max.name, Cond.methodLink RJ2 183 Lib.Math.min.name, Cond.constant RJ2 227 (65536)]
def wsX6_room_r5 : List Cond := [Cond.methodLink RJ2 228 yJ2_indexOfChar_4cfef, Cond.static yJ2_indexOfChar_4cfef, Cond.code yJ2_indexOfChar_4cfef cJ2_indexOfChar_4cfef 4 (some .int), Cond.methodLink RJ2 96 yJ2_checkBoundsBeginEnd_d044e, Cond.static yJ2_checkBoundsBeginEnd_d044e, Cond.code yJ2_checkBoundsBeginEnd_d044e cJ2_checkBoundsBeginEnd_d044e 3 none, Cond.methodLink RJ2 48 yJ2_length_9d52b, Cond.static yJ2_length_9d52b, Cond.code yJ2_length_9d52b cJ2_length_9d52b 1 (some .int), Cond.methodLink RJ2 241 yJ0_checkBoundsBeginEnd_23922, Cond.static yJ0_checkBoundsBeginEnd_23922, Cond.code yJ0_checkBoundsBeginEnd_23922 cJ0_checkBoundsBeginEnd_23922 3 none, Cond.fieldLink RJ0 1053 "jdk/internal/util/Preconditions" "SIOOBE_FORMATTER" "Ljava/util/function/BiFunction;", Cond.methodLink RJ0 1062 yJ3_checkFromToIndex_8c36e, Cond.static yJ3_checkFromToIndex_8c36e, Cond.initialized RJ3, Cond.code yJ3_checkFromToIndex_8c36e cJ3_checkFromToIndex_8c36e 4 (some .int), Cond.methodLink RJ2 244 yJ2_indexOfCharUnsafe_4cfef, Cond.static yJ2_indexOfCharUnsafe_4cfef, Cond.code yJ2_indexOfCharUnsafe_4cfef cJ2_indexOfCharUnsafe_4cfef 5 (some .int), Cond.methodLink RJ2 71 yJ2_getChar_3b067, Cond.static yJ2_getChar_3b067, Cond.code yJ2_getChar_3b067 cJ2_getChar_3b067 2 (some .char), Cond.fieldLink RJ2 44 "java/lang/StringUTF16" "$assertionsDisabled" "Z"]
def wsX6_room_r6 : List Cond := [Cond.fieldLink RJ2 59 "java/lang/StringUTF16" "HI_BYTE_SHIFT" "I", Cond.fieldLink RJ2 63 "java/lang/StringUTF16" "LO_BYTE_SHIFT" "I", Cond.methodLink RJ2 232 yJ2_indexOfSupplementary_4cfef, Cond.static yJ2_indexOfSupplementary_4cfef, Cond.code yJ2_indexOfSupplementary_4cfef cJ2_indexOfSupplementary_4cfef 7 (some .int), Cond.methodLink RJ2 164 yJ11_isValidCodePoint_9a6ad, Cond.static yJ11_isValidCodePoint_9a6ad, Cond.initialized RJ11, Cond.code yJ11_isValidCodePoint_9a6ad cJ11_isValidCodePoint_9a6ad 2 (some .boolean), Cond.methodLink RJ2 157 yJ11_highSurrogate_5068e, Cond.static yJ11_highSurrogate_5068e, Cond.code yJ11_highSurrogate_5068e cJ11_highSurrogate_5068e 1 (some .char), Cond.constant RJ11 110 (55232), Cond.methodLink RJ2 161 yJ11_lowSurrogate_5068e, Cond.static yJ11_lowSurrogate_5068e, Cond.code yJ11_lowSurrogate_5068e cJ11_lowSurrogate_5068e 1 (some .char), Cond.constant RJ11 76 (56320), Cond.methodLink RX2 70 yX2_takesKind, Cond.instanceMethod yX2_takesKind, Cond.selects RX2 yX2_takesKind yX2_takesKind, Cond.code yX2_takesKind cX2_takesKind 2 (some .boolean), Cond.fieldLink RX2 47 "EndedByOthers$Room" "speakers" "I", Cond.fieldLink RX2 79 "EndedByOthers$Room" "kinds" "[I", Cond.methodLink RX2 73 yX2_takesWant]
def wsX6_room_r7 : List Cond := [Cond.instanceMethod yX2_takesWant, Cond.selects RX2 yX2_takesWant yX2_takesWant, Cond.code yX2_takesWant cX2_takesWant 2 (some .boolean), Cond.fieldLink RX2 82 "EndedByOthers$Room" "wants" "[I", Cond.methodLink RX2 76 yX2_takesNextSpeaker, Cond.instanceMethod yX2_takesNextSpeaker, Cond.selects RX2 yX2_takesNextSpeaker yX2_takesNextSpeaker, Cond.code yX2_takesNextSpeaker cX2_takesNextSpeaker 2 (some .boolean), Cond.methodLink RX6 73 yX2_hasWholeRoom, Cond.instanceMethod yX2_hasWholeRoom, Cond.selects RX2 yX2_hasWholeRoom yX2_hasWholeRoom, Cond.code yX2_hasWholeRoom cX2_hasWholeRoom 1 (some .boolean), Cond.methodLink RX6 80 yX3_copyFrom, Cond.instanceMethod yX3_copyFrom, Cond.selects RX3 yX3_copyFrom yX3_copyFrom, Cond.code yX3_copyFrom cX3_copyFrom 2 none, Cond.methodLink RX3 25 arraycopyName, Cond.native arraycopyName, Cond.static arraycopyName, Cond.initialized "java/lang/System", Cond.fieldLink RX3 15 "EndedByOthers$Room" "kinds" "[I", Cond.fieldLink RX3 18 "EndedByOthers$Room" "wants" "[I", Cond.methodLink RX6 88 yX4_start, Cond.instanceMethod yX4_start]
def wsX6_room_r8 : List Cond := [Cond.selects RX4 yX4_start yX4_start, Cond.initialized RX4, Cond.code yX4_start cX4_start 2 none, Cond.fieldLink RX4 9 "EndedByOthers$Scene" "wants" "[I", Cond.methodLink RX4 46 arraycopyName, Cond.fieldLink RX4 27 "EndedByOthers$Scene" "sentences" "I", Cond.fieldLink RX4 40 "EndedByOthers$Scene" "heard" "I", Cond.fieldLink RX4 43 "EndedByOthers$Scene" "changes" "I"]
def wsX6_room : List Cond := .code yX6_room cX6_room 1 (some .int) :: ((wsX6_room_r1 ++ (wsX6_room_r2 ++ (wsX6_room_r3 ++ (wsX6_room_r4 ++ (wsX6_room_r5 ++ (wsX6_room_r6 ++ (wsX6_room_r7 ++ wsX6_room_r8))))))) ++ wsX60 ++ wsX10 ++ wsX20 ++ wsX30 ++ wsX40)
def wsX6_isOpening : List Cond := .code yX6_isOpening cX6_isOpening 1 (some .boolean) :: ([])
def wsX6_fits : List Cond := .code yX6_fits cX6_fits 2 (some .int) :: ([.fieldLink RX6 26 "EndedByOthers" "room" "LEndedByOthers$Room;", .fieldLink RX6 92 "EndedByOthers$Room" "speakers" "I", .fieldLink RX6 99 "EndedByOthers$Room" "fitting" "[I", .methodLink RX6 95 yX6_isOpening, .static yX6_isOpening, .initialized RX6, .code yX6_isOpening cX6_isOpening 1 (some .boolean)] ++ wsX60 ++ wsX30)
def wsX6_isSpeaker : List Cond := .code yX6_isSpeaker cX6_isSpeaker 2 (some .boolean) :: ([.fieldLink RX6 26 "EndedByOthers" "room" "LEndedByOthers$Room;", .fieldLink RX6 92 "EndedByOthers$Room" "speakers" "I"] ++ wsX60 ++ wsX30)
def wsX6_endingNow_r1 : List Cond := [Cond.fieldLink RX6 26 "EndedByOthers" "room" "LEndedByOthers$Room;", Cond.fieldLink RX6 105 "EndedByOthers$Room" "kinds" "[I", Cond.fieldLink RX6 99 "EndedByOthers$Room" "fitting" "[I", Cond.fieldLink RX6 33 "EndedByOthers" "scene" "LEndedByOthers$Scene;", Cond.fieldLink RX6 108 "EndedByOthers$Scene" "wants" "[I", Cond.methodLink RX6 109 yX4_usedBy, Cond.instanceMethod yX4_usedBy, Cond.selects RX4 yX4_usedBy yX4_usedBy, Cond.initialized RX4, Cond.code yX4_usedBy cX4_usedBy 4 (some .int), Cond.fieldLink RX4 27 "EndedByOthers$Scene" "sentences" "I", Cond.fieldLink RX4 21 "EndedByOthers$Scene" "enders" "[I", Cond.fieldLink RX4 24 "EndedByOthers$Scene" "endings" "[I", Cond.methodLink RX6 248 yX6_endingBy, Cond.static yX6_endingBy, Cond.initialized RX6, Cond.code yX6_endingBy cX6_endingBy 5 (some .int), Cond.methodLink RX6 239 yX6_has, Cond.static yX6_has, Cond.code yX6_has cX6_has 2 (some .boolean), Cond.methodLink RX6 242 yX6_greatest, Cond.static yX6_greatest, Cond.code yX6_greatest cX6_greatest 2 (some .int), Cond.methodLink RX6 245 yX6_least]
def wsX6_endingNow_r2 : List Cond := [Cond.static yX6_least, Cond.code yX6_least cX6_least 2 (some .int)]
def wsX6_endingNow : List Cond := .code yX6_endingNow cX6_endingNow 3 (some .int) :: ((wsX6_endingNow_r1 ++ wsX6_endingNow_r2) ++ wsX60 ++ wsX30 ++ wsX40)
def wsX6_isSure_r1 : List Cond := [Cond.fieldLink RX6 26 "EndedByOthers" "room" "LEndedByOthers$Room;", Cond.fieldLink RX6 92 "EndedByOthers$Room" "speakers" "I", Cond.fieldLink RX6 33 "EndedByOthers" "scene" "LEndedByOthers$Scene;", Cond.fieldLink RX6 108 "EndedByOthers$Scene" "wants" "[I", Cond.methodLink RX6 142 yX6_endingNow, Cond.instanceMethod yX6_endingNow, Cond.selects RX6 yX6_endingNow yX6_endingNow, Cond.initialized RX6, Cond.code yX6_endingNow cX6_endingNow 3 (some .int), Cond.fieldLink RX6 105 "EndedByOthers$Room" "kinds" "[I", Cond.fieldLink RX6 99 "EndedByOthers$Room" "fitting" "[I", Cond.methodLink RX6 109 yX4_usedBy, Cond.instanceMethod yX4_usedBy, Cond.selects RX4 yX4_usedBy yX4_usedBy, Cond.initialized RX4, Cond.code yX4_usedBy cX4_usedBy 4 (some .int), Cond.fieldLink RX4 27 "EndedByOthers$Scene" "sentences" "I", Cond.fieldLink RX4 21 "EndedByOthers$Scene" "enders" "[I", Cond.fieldLink RX4 24 "EndedByOthers$Scene" "endings" "[I", Cond.methodLink RX6 248 yX6_endingBy, Cond.static yX6_endingBy, Cond.code yX6_endingBy cX6_endingBy 5 (some .int), Cond.methodLink RX6 239 yX6_has, Cond.static yX6_has]
def wsX6_isSure_r2 : List Cond := [Cond.code yX6_has cX6_has 2 (some .boolean), Cond.methodLink RX6 242 yX6_greatest, Cond.static yX6_greatest, Cond.code yX6_greatest cX6_greatest 2 (some .int), Cond.methodLink RX6 245 yX6_least, Cond.static yX6_least, Cond.code yX6_least cX6_least 2 (some .int)]
def wsX6_isSure : List Cond := .code yX6_isSure cX6_isSure 6 (some .boolean) :: ((wsX6_isSure_r1 ++ wsX6_isSure_r2) ++ wsX60 ++ wsX30 ++ wsX40)
def wsX6_sureOpening_r1 : List Cond := [Cond.methodLink RX6 252 yX6_isSure, Cond.instanceMethod yX6_isSure, Cond.selects RX6 yX6_isSure yX6_isSure, Cond.initialized RX6, Cond.code yX6_isSure cX6_isSure 6 (some .boolean), Cond.fieldLink RX6 26 "EndedByOthers" "room" "LEndedByOthers$Room;", Cond.fieldLink RX6 92 "EndedByOthers$Room" "speakers" "I", Cond.fieldLink RX6 33 "EndedByOthers" "scene" "LEndedByOthers$Scene;", Cond.fieldLink RX6 108 "EndedByOthers$Scene" "wants" "[I", Cond.methodLink RX6 142 yX6_endingNow, Cond.instanceMethod yX6_endingNow, Cond.selects RX6 yX6_endingNow yX6_endingNow, Cond.code yX6_endingNow cX6_endingNow 3 (some .int), Cond.fieldLink RX6 105 "EndedByOthers$Room" "kinds" "[I", Cond.fieldLink RX6 99 "EndedByOthers$Room" "fitting" "[I", Cond.methodLink RX6 109 yX4_usedBy, Cond.instanceMethod yX4_usedBy, Cond.selects RX4 yX4_usedBy yX4_usedBy, Cond.initialized RX4, Cond.code yX4_usedBy cX4_usedBy 4 (some .int), Cond.fieldLink RX4 27 "EndedByOthers$Scene" "sentences" "I", Cond.fieldLink RX4 21 "EndedByOthers$Scene" "enders" "[I", Cond.fieldLink RX4 24 "EndedByOthers$Scene" "endings" "[I", Cond.methodLink RX6 248 yX6_endingBy]
def wsX6_sureOpening_r2 : List Cond := [Cond.static yX6_endingBy, Cond.code yX6_endingBy cX6_endingBy 5 (some .int), Cond.methodLink RX6 239 yX6_has, Cond.static yX6_has, Cond.code yX6_has cX6_has 2 (some .boolean), Cond.methodLink RX6 242 yX6_greatest, Cond.static yX6_greatest, Cond.code yX6_greatest cX6_greatest 2 (some .int), Cond.methodLink RX6 245 yX6_least, Cond.static yX6_least, Cond.code yX6_least cX6_least 2 (some .int)]
def wsX6_sureOpening : List Cond := .code yX6_sureOpening cX6_sureOpening 3 (some .int) :: ((wsX6_sureOpening_r1 ++ wsX6_sureOpening_r2) ++ wsX60 ++ wsX30 ++ wsX40)
def wsX6_agreesWithHeard : List Cond := .code yX6_agreesWithHeard cX6_agreesWithHeard 5 (some .boolean) :: ([.fieldLink RX6 33 "EndedByOthers" "scene" "LEndedByOthers$Scene;", .fieldLink RX6 184 "EndedByOthers$Scene" "heard" "I", .fieldLink RX6 258 "EndedByOthers$Scene" "heardSpeakers" "[I", .fieldLink RX6 26 "EndedByOthers" "room" "LEndedByOthers$Room;", .fieldLink RX6 99 "EndedByOthers$Room" "fitting" "[I", .fieldLink RX6 261 "EndedByOthers$Scene" "heardOpenings" "[I", .fieldLink RX6 108 "EndedByOthers$Scene" "wants" "[I", .fieldLink RX6 264 "EndedByOthers$Scene" "heardEndings" "[I", .methodLink RX6 248 yX6_endingBy, .static yX6_endingBy, .initialized RX6, .code yX6_endingBy cX6_endingBy 5 (some .int), .methodLink RX6 239 yX6_has, .static yX6_has, .code yX6_has cX6_has 2 (some .boolean), .methodLink RX6 242 yX6_greatest, .static yX6_greatest, .code yX6_greatest cX6_greatest 2 (some .int), .methodLink RX6 245 yX6_least, .static yX6_least, .code yX6_least cX6_least 2 (some .int)] ++ wsX60 ++ wsX40 ++ wsX30)
def wsX6_possibleKinds_r1 : List Cond := [Cond.methodLink RX6 255 yX6_agreesWithHeard, Cond.instanceMethod yX6_agreesWithHeard, Cond.selects RX6 yX6_agreesWithHeard yX6_agreesWithHeard, Cond.initialized RX6, Cond.code yX6_agreesWithHeard cX6_agreesWithHeard 5 (some .boolean), Cond.fieldLink RX6 33 "EndedByOthers" "scene" "LEndedByOthers$Scene;", Cond.fieldLink RX6 184 "EndedByOthers$Scene" "heard" "I", Cond.fieldLink RX6 258 "EndedByOthers$Scene" "heardSpeakers" "[I", Cond.fieldLink RX6 26 "EndedByOthers" "room" "LEndedByOthers$Room;", Cond.fieldLink RX6 99 "EndedByOthers$Room" "fitting" "[I", Cond.fieldLink RX6 261 "EndedByOthers$Scene" "heardOpenings" "[I", Cond.fieldLink RX6 108 "EndedByOthers$Scene" "wants" "[I", Cond.fieldLink RX6 264 "EndedByOthers$Scene" "heardEndings" "[I", Cond.methodLink RX6 248 yX6_endingBy, Cond.static yX6_endingBy, Cond.code yX6_endingBy cX6_endingBy 5 (some .int), Cond.methodLink RX6 239 yX6_has, Cond.static yX6_has, Cond.code yX6_has cX6_has 2 (some .boolean), Cond.methodLink RX6 242 yX6_greatest, Cond.static yX6_greatest, Cond.code yX6_greatest cX6_greatest 2 (some .int), Cond.methodLink RX6 245 yX6_least, Cond.static yX6_least]
def wsX6_possibleKinds_r2 : List Cond := [Cond.code yX6_least cX6_least 2 (some .int)]
def wsX6_possibleKinds : List Cond := .code yX6_possibleKinds cX6_possibleKinds 4 (some .int) :: ((wsX6_possibleKinds_r1 ++ wsX6_possibleKinds_r2) ++ wsX60 ++ wsX40 ++ wsX30)
def wsX6_mostKindsLeft : List Cond := .code yX6_mostKindsLeft cX6_mostKindsLeft 10 (some .int) :: ([.fieldLink RX6 26 "EndedByOthers" "room" "LEndedByOthers$Room;", .fieldLink RX6 99 "EndedByOthers$Room" "fitting" "[I", .fieldLink RX6 33 "EndedByOthers" "scene" "LEndedByOthers$Scene;", .fieldLink RX6 108 "EndedByOthers$Scene" "wants" "[I", .methodLink RX6 271 Lib.Math.max.name, .static Lib.Math.max.name, .initialized "java/lang/Math", .code Lib.Math.max.name Lib.Math.max.code 2 (some .int), .methodLink RX6 239 yX6_has, .static yX6_has, .initialized RX6, .code yX6_has cX6_has 2 (some .boolean), .methodLink RX6 248 yX6_endingBy, .static yX6_endingBy, .code yX6_endingBy cX6_endingBy 5 (some .int), .methodLink RX6 242 yX6_greatest, .static yX6_greatest, .code yX6_greatest cX6_greatest 2 (some .int), .methodLink RX6 245 yX6_least, .static yX6_least, .code yX6_least cX6_least 2 (some .int)] ++ wsX60 ++ wsX30 ++ wsX40)
def wsX6_tellingOpening_r1 : List Cond := [Cond.methodLink RX6 267 yX6_mostKindsLeft, Cond.instanceMethod yX6_mostKindsLeft, Cond.selects RX6 yX6_mostKindsLeft yX6_mostKindsLeft, Cond.initialized RX6, Cond.code yX6_mostKindsLeft cX6_mostKindsLeft 10 (some .int), Cond.fieldLink RX6 26 "EndedByOthers" "room" "LEndedByOthers$Room;", Cond.fieldLink RX6 99 "EndedByOthers$Room" "fitting" "[I", Cond.fieldLink RX6 33 "EndedByOthers" "scene" "LEndedByOthers$Scene;", Cond.fieldLink RX6 108 "EndedByOthers$Scene" "wants" "[I", Cond.methodLink RX6 271 Lib.Math.max.name, Cond.static Lib.Math.max.name, Cond.initialized "java/lang/Math", Cond.code Lib.Math.max.name Lib.Math.max.code 2 (some .int), Cond.methodLink RX6 239 yX6_has, Cond.static yX6_has, Cond.code yX6_has cX6_has 2 (some .boolean), Cond.methodLink RX6 248 yX6_endingBy, Cond.static yX6_endingBy, Cond.code yX6_endingBy cX6_endingBy 5 (some .int), Cond.methodLink RX6 242 yX6_greatest, Cond.static yX6_greatest, Cond.code yX6_greatest cX6_greatest 2 (some .int), Cond.methodLink RX6 245 yX6_least, Cond.static yX6_least]
def wsX6_tellingOpening_r2 : List Cond := [Cond.code yX6_least cX6_least 2 (some .int)]
def wsX6_tellingOpening : List Cond := .code yX6_tellingOpening cX6_tellingOpening 7 (some .int) :: ((wsX6_tellingOpening_r1 ++ wsX6_tellingOpening_r2) ++ wsX60 ++ wsX30 ++ wsX40)
def wsX6_about_r1 : List Cond := [Cond.fieldLink RX6 26 "EndedByOthers" "room" "LEndedByOthers$Room;", Cond.fieldLink RX6 105 "EndedByOthers$Room" "kinds" "[I", Cond.fieldLink RX6 33 "EndedByOthers" "scene" "LEndedByOthers$Scene;", Cond.fieldLink RX6 108 "EndedByOthers$Scene" "wants" "[I", Cond.methodLink RX6 102 yX6_isSpeaker, Cond.instanceMethod yX6_isSpeaker, Cond.selects RX6 yX6_isSpeaker yX6_isSpeaker, Cond.initialized RX6, Cond.code yX6_isSpeaker cX6_isSpeaker 2 (some .boolean), Cond.fieldLink RX6 92 "EndedByOthers$Room" "speakers" "I", Cond.methodLink RX6 109 yX4_usedBy, Cond.instanceMethod yX4_usedBy, Cond.selects RX4 yX4_usedBy yX4_usedBy, Cond.initialized RX4, Cond.code yX4_usedBy cX4_usedBy 4 (some .int), Cond.fieldLink RX4 27 "EndedByOthers$Scene" "sentences" "I", Cond.fieldLink RX4 21 "EndedByOthers$Scene" "enders" "[I", Cond.fieldLink RX4 24 "EndedByOthers$Scene" "endings" "[I", Cond.methodLink RX6 113 yX4_openOf, Cond.instanceMethod yX4_openOf, Cond.selects RX4 yX4_openOf yX4_openOf, Cond.code yX4_openOf cX4_openOf 3 (some .int), Cond.fieldLink RX4 15 "EndedByOthers$Scene" "beginners" "[I", Cond.methodLink RX4 52 yX4_isOpen]
def wsX6_about_r2 : List Cond := [Cond.instanceMethod yX4_isOpen, Cond.selects RX4 yX4_isOpen yX4_isOpen, Cond.code yX4_isOpen cX4_isOpen 2 (some .boolean), Cond.methodLink RX6 116 yX4_howManyBegunBy, Cond.instanceMethod yX4_howManyBegunBy, Cond.selects RX4 yX4_howManyBegunBy yX4_howManyBegunBy, Cond.code yX4_howManyBegunBy cX4_howManyBegunBy 4 (some .int), Cond.methodLink RX6 119 yX4_howManyEndedBy, Cond.instanceMethod yX4_howManyEndedBy, Cond.selects RX4 yX4_howManyEndedBy yX4_howManyEndedBy, Cond.code yX4_howManyEndedBy cX4_howManyEndedBy 4 (some .int), Cond.methodLink RX6 122 yX6_sureOpening, Cond.instanceMethod yX6_sureOpening, Cond.selects RX6 yX6_sureOpening yX6_sureOpening, Cond.code yX6_sureOpening cX6_sureOpening 3 (some .int), Cond.methodLink RX6 252 yX6_isSure, Cond.instanceMethod yX6_isSure, Cond.selects RX6 yX6_isSure yX6_isSure, Cond.code yX6_isSure cX6_isSure 6 (some .boolean), Cond.methodLink RX6 142 yX6_endingNow, Cond.instanceMethod yX6_endingNow, Cond.selects RX6 yX6_endingNow yX6_endingNow, Cond.code yX6_endingNow cX6_endingNow 3 (some .int), Cond.fieldLink RX6 99 "EndedByOthers$Room" "fitting" "[I"]
def wsX6_about_r3 : List Cond := [Cond.methodLink RX6 248 yX6_endingBy, Cond.static yX6_endingBy, Cond.code yX6_endingBy cX6_endingBy 5 (some .int), Cond.methodLink RX6 239 yX6_has, Cond.static yX6_has, Cond.code yX6_has cX6_has 2 (some .boolean), Cond.methodLink RX6 242 yX6_greatest, Cond.static yX6_greatest, Cond.code yX6_greatest cX6_greatest 2 (some .int), Cond.methodLink RX6 245 yX6_least, Cond.static yX6_least, Cond.code yX6_least cX6_least 2 (some .int), Cond.methodLink RX6 125 yX6_possibleKinds, Cond.instanceMethod yX6_possibleKinds, Cond.selects RX6 yX6_possibleKinds yX6_possibleKinds, Cond.code yX6_possibleKinds cX6_possibleKinds 4 (some .int), Cond.methodLink RX6 255 yX6_agreesWithHeard, Cond.instanceMethod yX6_agreesWithHeard, Cond.selects RX6 yX6_agreesWithHeard yX6_agreesWithHeard, Cond.code yX6_agreesWithHeard cX6_agreesWithHeard 5 (some .boolean), Cond.fieldLink RX6 184 "EndedByOthers$Scene" "heard" "I", Cond.fieldLink RX6 258 "EndedByOthers$Scene" "heardSpeakers" "[I", Cond.fieldLink RX6 261 "EndedByOthers$Scene" "heardOpenings" "[I", Cond.fieldLink RX6 264 "EndedByOthers$Scene" "heardEndings" "[I"]
def wsX6_about_r4 : List Cond := [Cond.methodLink RX6 128 yX6_tellingOpening, Cond.instanceMethod yX6_tellingOpening, Cond.selects RX6 yX6_tellingOpening yX6_tellingOpening, Cond.code yX6_tellingOpening cX6_tellingOpening 7 (some .int), Cond.methodLink RX6 267 yX6_mostKindsLeft, Cond.instanceMethod yX6_mostKindsLeft, Cond.selects RX6 yX6_mostKindsLeft yX6_mostKindsLeft, Cond.code yX6_mostKindsLeft cX6_mostKindsLeft 10 (some .int), Cond.methodLink RX6 271 Lib.Math.max.name, Cond.static Lib.Math.max.name, Cond.initialized "java/lang/Math", Cond.code Lib.Math.max.name Lib.Math.max.code 2 (some .int)]
def wsX6_about : List Cond := .code yX6_about cX6_about 3 (some .int) :: ((wsX6_about_r1 ++ (wsX6_about_r2 ++ (wsX6_about_r3 ++ wsX6_about_r4))) ++ wsX60 ++ wsX30 ++ wsX40)
def wsX6_isOfKind : List Cond := .code yX6_isOfKind cX6_isOfKind 2 (some .boolean) :: ([])
def wsX6_as : List Cond := .code yX6_as cX6_as 3 (some .int) :: ([.fieldLink RX6 26 "EndedByOthers" "room" "LEndedByOthers$Room;", .fieldLink RX6 105 "EndedByOthers$Room" "kinds" "[I", .methodLink RX6 102 yX6_isSpeaker, .instanceMethod yX6_isSpeaker, .selects RX6 yX6_isSpeaker yX6_isSpeaker, .initialized RX6, .code yX6_isSpeaker cX6_isSpeaker 2 (some .boolean), .fieldLink RX6 92 "EndedByOthers$Room" "speakers" "I", .methodLink RX6 132 yX6_isOfKind, .static yX6_isOfKind, .code yX6_isOfKind cX6_isOfKind 2 (some .boolean)] ++ wsX60 ++ wsX30)
def wsX6_want : List Cond := .code yX6_want cX6_want 4 (some .int) :: ([.fieldLink RX6 33 "EndedByOthers" "scene" "LEndedByOthers$Scene;", .fieldLink RX6 108 "EndedByOthers$Scene" "wants" "[I", .fieldLink RX6 139 "EndedByOthers$Scene" "changes" "I", .methodLink RX6 102 yX6_isSpeaker, .instanceMethod yX6_isSpeaker, .selects RX6 yX6_isSpeaker yX6_isSpeaker, .initialized RX6, .code yX6_isSpeaker cX6_isSpeaker 2 (some .boolean), .fieldLink RX6 26 "EndedByOthers" "room" "LEndedByOthers$Room;", .fieldLink RX6 92 "EndedByOthers$Room" "speakers" "I", .methodLink RX6 136 yX6_isEnding, .static yX6_isEnding, .code yX6_isEnding cX6_isEnding 1 (some .boolean)] ++ wsX60 ++ wsX40 ++ wsX30)
def wsX6_would_r1 : List Cond := [Cond.methodLink RX6 102 yX6_isSpeaker, Cond.instanceMethod yX6_isSpeaker, Cond.selects RX6 yX6_isSpeaker yX6_isSpeaker, Cond.initialized RX6, Cond.code yX6_isSpeaker cX6_isSpeaker 2 (some .boolean), Cond.fieldLink RX6 26 "EndedByOthers" "room" "LEndedByOthers$Room;", Cond.fieldLink RX6 92 "EndedByOthers$Room" "speakers" "I", Cond.methodLink RX6 95 yX6_isOpening, Cond.static yX6_isOpening, Cond.code yX6_isOpening cX6_isOpening 1 (some .boolean), Cond.methodLink RX6 142 yX6_endingNow, Cond.instanceMethod yX6_endingNow, Cond.selects RX6 yX6_endingNow yX6_endingNow, Cond.code yX6_endingNow cX6_endingNow 3 (some .int), Cond.fieldLink RX6 105 "EndedByOthers$Room" "kinds" "[I", Cond.fieldLink RX6 99 "EndedByOthers$Room" "fitting" "[I", Cond.fieldLink RX6 33 "EndedByOthers" "scene" "LEndedByOthers$Scene;", Cond.fieldLink RX6 108 "EndedByOthers$Scene" "wants" "[I", Cond.methodLink RX6 109 yX4_usedBy, Cond.instanceMethod yX4_usedBy, Cond.selects RX4 yX4_usedBy yX4_usedBy, Cond.initialized RX4, Cond.code yX4_usedBy cX4_usedBy 4 (some .int), Cond.fieldLink RX4 27 "EndedByOthers$Scene" "sentences" "I"]
def wsX6_would_r2 : List Cond := [Cond.fieldLink RX4 21 "EndedByOthers$Scene" "enders" "[I", Cond.fieldLink RX4 24 "EndedByOthers$Scene" "endings" "[I", Cond.methodLink RX6 248 yX6_endingBy, Cond.static yX6_endingBy, Cond.code yX6_endingBy cX6_endingBy 5 (some .int), Cond.methodLink RX6 239 yX6_has, Cond.static yX6_has, Cond.code yX6_has cX6_has 2 (some .boolean), Cond.methodLink RX6 242 yX6_greatest, Cond.static yX6_greatest, Cond.code yX6_greatest cX6_greatest 2 (some .int), Cond.methodLink RX6 245 yX6_least, Cond.static yX6_least, Cond.code yX6_least cX6_least 2 (some .int)]
def wsX6_would : List Cond := .code yX6_would cX6_would 3 (some .int) :: ((wsX6_would_r1 ++ wsX6_would_r2) ++ wsX60 ++ wsX30 ++ wsX40)
def wsX6_begin_r1 : List Cond := [Cond.fieldLink RX6 33 "EndedByOthers" "scene" "LEndedByOthers$Scene;", Cond.fieldLink RX6 145 "EndedByOthers$Scene" "sentences" "I", Cond.methodLink RX6 102 yX6_isSpeaker, Cond.instanceMethod yX6_isSpeaker, Cond.selects RX6 yX6_isSpeaker yX6_isSpeaker, Cond.initialized RX6, Cond.code yX6_isSpeaker cX6_isSpeaker 2 (some .boolean), Cond.fieldLink RX6 26 "EndedByOthers" "room" "LEndedByOthers$Room;", Cond.fieldLink RX6 92 "EndedByOthers$Room" "speakers" "I", Cond.methodLink RX6 95 yX6_isOpening, Cond.static yX6_isOpening, Cond.code yX6_isOpening cX6_isOpening 1 (some .boolean), Cond.methodLink RX6 113 yX4_openOf, Cond.instanceMethod yX4_openOf, Cond.selects RX4 yX4_openOf yX4_openOf, Cond.initialized RX4, Cond.code yX4_openOf cX4_openOf 3 (some .int), Cond.fieldLink RX4 27 "EndedByOthers$Scene" "sentences" "I", Cond.fieldLink RX4 15 "EndedByOthers$Scene" "beginners" "[I", Cond.methodLink RX4 52 yX4_isOpen, Cond.instanceMethod yX4_isOpen, Cond.selects RX4 yX4_isOpen yX4_isOpen, Cond.code yX4_isOpen cX4_isOpen 2 (some .boolean), Cond.fieldLink RX4 21 "EndedByOthers$Scene" "enders" "[I"]
def wsX6_begin_r2 : List Cond := [Cond.methodLink RX6 148 yX4_addSentence, Cond.instanceMethod yX4_addSentence, Cond.selects RX4 yX4_addSentence yX4_addSentence, Cond.code yX4_addSentence cX4_addSentence 4 (some .int), Cond.fieldLink RX4 18 "EndedByOthers$Scene" "openings" "[I", Cond.fieldLink RX4 24 "EndedByOthers$Scene" "endings" "[I"]
def wsX6_begin : List Cond := .code yX6_begin cX6_begin 3 (some .int) :: ((wsX6_begin_r1 ++ wsX6_begin_r2) ++ wsX60 ++ wsX40 ++ wsX30)
def wsX6_isSentence : List Cond := .code yX6_isSentence cX6_isSentence 2 (some .boolean) :: ([.fieldLink RX6 33 "EndedByOthers" "scene" "LEndedByOthers$Scene;", .fieldLink RX6 145 "EndedByOthers$Scene" "sentences" "I"] ++ wsX60 ++ wsX40)
def wsX6_end_r1 : List Cond := [Cond.fieldLink RX6 33 "EndedByOthers" "scene" "LEndedByOthers$Scene;", Cond.fieldLink RX6 157 "EndedByOthers$Scene" "beginners" "[I", Cond.fieldLink RX6 160 "EndedByOthers$Scene" "openings" "[I", Cond.fieldLink RX6 163 "EndedByOthers$Scene" "enders" "[I", Cond.fieldLink RX6 166 "EndedByOthers$Scene" "endings" "[I", Cond.methodLink RX6 151 yX6_isSentence, Cond.instanceMethod yX6_isSentence, Cond.selects RX6 yX6_isSentence yX6_isSentence, Cond.initialized RX6, Cond.code yX6_isSentence cX6_isSentence 2 (some .boolean), Cond.fieldLink RX6 145 "EndedByOthers$Scene" "sentences" "I", Cond.methodLink RX6 102 yX6_isSpeaker, Cond.instanceMethod yX6_isSpeaker, Cond.selects RX6 yX6_isSpeaker yX6_isSpeaker, Cond.code yX6_isSpeaker cX6_isSpeaker 2 (some .boolean), Cond.fieldLink RX6 26 "EndedByOthers" "room" "LEndedByOthers$Room;", Cond.fieldLink RX6 92 "EndedByOthers$Room" "speakers" "I", Cond.methodLink RX6 154 yX4_isOpen, Cond.instanceMethod yX4_isOpen, Cond.selects RX4 yX4_isOpen yX4_isOpen, Cond.initialized RX4, Cond.code yX4_isOpen cX4_isOpen 2 (some .boolean), Cond.fieldLink RX4 21 "EndedByOthers$Scene" "enders" "[I", Cond.methodLink RX6 142 yX6_endingNow]
def wsX6_end_r2 : List Cond := [Cond.instanceMethod yX6_endingNow, Cond.selects RX6 yX6_endingNow yX6_endingNow, Cond.code yX6_endingNow cX6_endingNow 3 (some .int), Cond.fieldLink RX6 105 "EndedByOthers$Room" "kinds" "[I", Cond.fieldLink RX6 99 "EndedByOthers$Room" "fitting" "[I", Cond.fieldLink RX6 108 "EndedByOthers$Scene" "wants" "[I", Cond.methodLink RX6 109 yX4_usedBy, Cond.instanceMethod yX4_usedBy, Cond.selects RX4 yX4_usedBy yX4_usedBy, Cond.code yX4_usedBy cX4_usedBy 4 (some .int), Cond.fieldLink RX4 27 "EndedByOthers$Scene" "sentences" "I", Cond.fieldLink RX4 24 "EndedByOthers$Scene" "endings" "[I", Cond.methodLink RX6 248 yX6_endingBy, Cond.static yX6_endingBy, Cond.code yX6_endingBy cX6_endingBy 5 (some .int), Cond.methodLink RX6 239 yX6_has, Cond.static yX6_has, Cond.code yX6_has cX6_has 2 (some .boolean), Cond.methodLink RX6 242 yX6_greatest, Cond.static yX6_greatest, Cond.code yX6_greatest cX6_greatest 2 (some .int), Cond.methodLink RX6 245 yX6_least, Cond.static yX6_least, Cond.code yX6_least cX6_least 2 (some .int)]
def wsX6_end : List Cond := .code yX6_end cX6_end 4 (some .int) :: ((wsX6_end_r1 ++ wsX6_end_r2) ++ wsX60 ++ wsX40 ++ wsX30)
def wsX6_sentence : List Cond := .code yX6_sentence cX6_sentence 3 (some .int) :: ([.fieldLink RX6 33 "EndedByOthers" "scene" "LEndedByOthers$Scene;", .fieldLink RX6 157 "EndedByOthers$Scene" "beginners" "[I", .fieldLink RX6 160 "EndedByOthers$Scene" "openings" "[I", .fieldLink RX6 163 "EndedByOthers$Scene" "enders" "[I", .fieldLink RX6 166 "EndedByOthers$Scene" "endings" "[I", .methodLink RX6 151 yX6_isSentence, .instanceMethod yX6_isSentence, .selects RX6 yX6_isSentence yX6_isSentence, .initialized RX6, .code yX6_isSentence cX6_isSentence 2 (some .boolean), .fieldLink RX6 145 "EndedByOthers$Scene" "sentences" "I", .methodLink RX6 169 yX4_isAsWanted, .instanceMethod yX4_isAsWanted, .selects RX4 yX4_isAsWanted yX4_isAsWanted, .initialized RX4, .code yX4_isAsWanted cX4_isAsWanted 2 (some .boolean), .fieldLink RX4 24 "EndedByOthers$Scene" "endings" "[I", .fieldLink RX4 9 "EndedByOthers$Scene" "wants" "[I", .fieldLink RX4 15 "EndedByOthers$Scene" "beginners" "[I", .methodLink RX4 52 yX4_isOpen, .instanceMethod yX4_isOpen, .selects RX4 yX4_isOpen yX4_isOpen, .code yX4_isOpen cX4_isOpen 2 (some .boolean), .fieldLink RX4 21 "EndedByOthers$Scene" "enders" "[I"] ++ wsX60 ++ wsX40)
def wsX6_wouldPlease_r1 : List Cond := [Cond.fieldLink RX6 33 "EndedByOthers" "scene" "LEndedByOthers$Scene;", Cond.fieldLink RX6 157 "EndedByOthers$Scene" "beginners" "[I", Cond.fieldLink RX6 160 "EndedByOthers$Scene" "openings" "[I", Cond.fieldLink RX6 108 "EndedByOthers$Scene" "wants" "[I", Cond.methodLink RX6 154 yX4_isOpen, Cond.instanceMethod yX4_isOpen, Cond.selects RX4 yX4_isOpen yX4_isOpen, Cond.initialized RX4, Cond.code yX4_isOpen cX4_isOpen 2 (some .boolean), Cond.fieldLink RX4 21 "EndedByOthers$Scene" "enders" "[I", Cond.methodLink RX6 142 yX6_endingNow, Cond.instanceMethod yX6_endingNow, Cond.selects RX6 yX6_endingNow yX6_endingNow, Cond.initialized RX6, Cond.code yX6_endingNow cX6_endingNow 3 (some .int), Cond.fieldLink RX6 26 "EndedByOthers" "room" "LEndedByOthers$Room;", Cond.fieldLink RX6 105 "EndedByOthers$Room" "kinds" "[I", Cond.fieldLink RX6 99 "EndedByOthers$Room" "fitting" "[I", Cond.methodLink RX6 109 yX4_usedBy, Cond.instanceMethod yX4_usedBy, Cond.selects RX4 yX4_usedBy yX4_usedBy, Cond.code yX4_usedBy cX4_usedBy 4 (some .int), Cond.fieldLink RX4 27 "EndedByOthers$Scene" "sentences" "I", Cond.fieldLink RX4 24 "EndedByOthers$Scene" "endings" "[I"]
def wsX6_wouldPlease_r2 : List Cond := [Cond.methodLink RX6 248 yX6_endingBy, Cond.static yX6_endingBy, Cond.code yX6_endingBy cX6_endingBy 5 (some .int), Cond.methodLink RX6 239 yX6_has, Cond.static yX6_has, Cond.code yX6_has cX6_has 2 (some .boolean), Cond.methodLink RX6 242 yX6_greatest, Cond.static yX6_greatest, Cond.code yX6_greatest cX6_greatest 2 (some .int), Cond.methodLink RX6 245 yX6_least, Cond.static yX6_least, Cond.code yX6_least cX6_least 2 (some .int)]
def wsX6_wouldPlease : List Cond := .code yX6_wouldPlease cX6_wouldPlease 4 (some .boolean) :: ((wsX6_wouldPlease_r1 ++ wsX6_wouldPlease_r2) ++ wsX60 ++ wsX40 ++ wsX30)
def wsX6_findPleasing_r1 : List Cond := [Cond.fieldLink RX6 43 "EndedByOthers" "matching" "LEndedByOthers$Matching;", Cond.fieldLink RX6 276 "EndedByOthers$Matching" "pleasing" "[I", Cond.fieldLink RX6 33 "EndedByOthers" "scene" "LEndedByOthers$Scene;", Cond.fieldLink RX6 145 "EndedByOthers$Scene" "sentences" "I", Cond.methodLink RX6 102 yX6_isSpeaker, Cond.instanceMethod yX6_isSpeaker, Cond.selects RX6 yX6_isSpeaker yX6_isSpeaker, Cond.initialized RX6, Cond.code yX6_isSpeaker cX6_isSpeaker 2 (some .boolean), Cond.fieldLink RX6 26 "EndedByOthers" "room" "LEndedByOthers$Room;", Cond.fieldLink RX6 92 "EndedByOthers$Room" "speakers" "I", Cond.methodLink RX6 279 yX6_wouldPlease, Cond.instanceMethod yX6_wouldPlease, Cond.selects RX6 yX6_wouldPlease yX6_wouldPlease, Cond.code yX6_wouldPlease cX6_wouldPlease 4 (some .boolean), Cond.fieldLink RX6 157 "EndedByOthers$Scene" "beginners" "[I", Cond.fieldLink RX6 160 "EndedByOthers$Scene" "openings" "[I", Cond.fieldLink RX6 108 "EndedByOthers$Scene" "wants" "[I", Cond.methodLink RX6 154 yX4_isOpen, Cond.instanceMethod yX4_isOpen, Cond.selects RX4 yX4_isOpen yX4_isOpen, Cond.initialized RX4, Cond.code yX4_isOpen cX4_isOpen 2 (some .boolean), Cond.fieldLink RX4 21 "EndedByOthers$Scene" "enders" "[I"]
def wsX6_findPleasing_r2 : List Cond := [Cond.methodLink RX6 142 yX6_endingNow, Cond.instanceMethod yX6_endingNow, Cond.selects RX6 yX6_endingNow yX6_endingNow, Cond.code yX6_endingNow cX6_endingNow 3 (some .int), Cond.fieldLink RX6 105 "EndedByOthers$Room" "kinds" "[I", Cond.fieldLink RX6 99 "EndedByOthers$Room" "fitting" "[I", Cond.methodLink RX6 109 yX4_usedBy, Cond.instanceMethod yX4_usedBy, Cond.selects RX4 yX4_usedBy yX4_usedBy, Cond.code yX4_usedBy cX4_usedBy 4 (some .int), Cond.fieldLink RX4 27 "EndedByOthers$Scene" "sentences" "I", Cond.fieldLink RX4 24 "EndedByOthers$Scene" "endings" "[I", Cond.methodLink RX6 248 yX6_endingBy, Cond.static yX6_endingBy, Cond.code yX6_endingBy cX6_endingBy 5 (some .int), Cond.methodLink RX6 239 yX6_has, Cond.static yX6_has, Cond.code yX6_has cX6_has 2 (some .boolean), Cond.methodLink RX6 242 yX6_greatest, Cond.static yX6_greatest, Cond.code yX6_greatest cX6_greatest 2 (some .int), Cond.methodLink RX6 245 yX6_least, Cond.static yX6_least, Cond.code yX6_least cX6_least 2 (some .int)]
def wsX6_findPleasing : List Cond := .code yX6_findPleasing cX6_findPleasing 3 none :: ((wsX6_findPleasing_r1 ++ wsX6_findPleasing_r2) ++ wsX60 ++ wsX00 ++ wsX40 ++ wsX30)
def wsX6_match_r1 : List Cond := [Cond.fieldLink RX6 26 "EndedByOthers" "room" "LEndedByOthers$Room;", Cond.fieldLink RX6 92 "EndedByOthers$Room" "speakers" "I", Cond.fieldLink RX6 43 "EndedByOthers" "matching" "LEndedByOthers$Matching;", Cond.fieldLink RX6 178 "EndedByOthers$Matching" "ended" "I", Cond.fieldLink RX6 181 "EndedByOthers$Matching" "picks" "[I", Cond.methodLink RX6 172 yX6_findPleasing, Cond.instanceMethod yX6_findPleasing, Cond.selects RX6 yX6_findPleasing yX6_findPleasing, Cond.initialized RX6, Cond.code yX6_findPleasing cX6_findPleasing 3 none, Cond.fieldLink RX6 276 "EndedByOthers$Matching" "pleasing" "[I", Cond.fieldLink RX6 33 "EndedByOthers" "scene" "LEndedByOthers$Scene;", Cond.fieldLink RX6 145 "EndedByOthers$Scene" "sentences" "I", Cond.methodLink RX6 102 yX6_isSpeaker, Cond.instanceMethod yX6_isSpeaker, Cond.selects RX6 yX6_isSpeaker yX6_isSpeaker, Cond.code yX6_isSpeaker cX6_isSpeaker 2 (some .boolean), Cond.methodLink RX6 279 yX6_wouldPlease, Cond.instanceMethod yX6_wouldPlease, Cond.selects RX6 yX6_wouldPlease yX6_wouldPlease, Cond.code yX6_wouldPlease cX6_wouldPlease 4 (some .boolean), Cond.fieldLink RX6 157 "EndedByOthers$Scene" "beginners" "[I", Cond.fieldLink RX6 160 "EndedByOthers$Scene" "openings" "[I", Cond.fieldLink RX6 108 "EndedByOthers$Scene" "wants" "[I"]
def wsX6_match_r2 : List Cond := [Cond.methodLink RX6 154 yX4_isOpen, Cond.instanceMethod yX4_isOpen, Cond.selects RX4 yX4_isOpen yX4_isOpen, Cond.initialized RX4, Cond.code yX4_isOpen cX4_isOpen 2 (some .boolean), Cond.fieldLink RX4 21 "EndedByOthers$Scene" "enders" "[I", Cond.methodLink RX6 142 yX6_endingNow, Cond.instanceMethod yX6_endingNow, Cond.selects RX6 yX6_endingNow yX6_endingNow, Cond.code yX6_endingNow cX6_endingNow 3 (some .int), Cond.fieldLink RX6 105 "EndedByOthers$Room" "kinds" "[I", Cond.fieldLink RX6 99 "EndedByOthers$Room" "fitting" "[I", Cond.methodLink RX6 109 yX4_usedBy, Cond.instanceMethod yX4_usedBy, Cond.selects RX4 yX4_usedBy yX4_usedBy, Cond.code yX4_usedBy cX4_usedBy 4 (some .int), Cond.fieldLink RX4 27 "EndedByOthers$Scene" "sentences" "I", Cond.fieldLink RX4 24 "EndedByOthers$Scene" "endings" "[I", Cond.methodLink RX6 248 yX6_endingBy, Cond.static yX6_endingBy, Cond.code yX6_endingBy cX6_endingBy 5 (some .int), Cond.methodLink RX6 239 yX6_has, Cond.static yX6_has, Cond.code yX6_has cX6_has 2 (some .boolean)]
def wsX6_match_r3 : List Cond := [Cond.methodLink RX6 242 yX6_greatest, Cond.static yX6_greatest, Cond.code yX6_greatest cX6_greatest 2 (some .int), Cond.methodLink RX6 245 yX6_least, Cond.static yX6_least, Cond.code yX6_least cX6_least 2 (some .int), Cond.methodLink RX6 175 yX0_solve, Cond.instanceMethod yX0_solve, Cond.selects RX0 yX0_solve yX0_solve, Cond.initialized RX0, Cond.code yX0_solve cX0_solve 3 none, Cond.fieldLink RX0 9 "EndedByOthers$Matching" "pleasing" "[I", Cond.fieldLink RX0 18 "EndedByOthers$Matching" "ended" "I", Cond.fieldLink RX0 15 "EndedByOthers$Matching" "picks" "[I", Cond.methodLink RX0 22 yX0_mostFrom, Cond.static yX0_mostFrom, Cond.code yX0_mostFrom cX0_mostFrom 6 (some .int), Cond.methodLink RX0 34 Lib.Math.max.name, Cond.static Lib.Math.max.name, Cond.initialized "java/lang/Math", Cond.code Lib.Math.max.name Lib.Math.max.code 2 (some .int), Cond.methodLink RX0 26 yX0_firstBestPick, Cond.instanceMethod yX0_firstBestPick, Cond.selects RX0 yX0_firstBestPick yX0_firstBestPick]
def wsX6_match_r4 : List Cond := [Cond.code yX0_firstBestPick cX0_firstBestPick 6 (some .int)]
def wsX6_match : List Cond := .code yX6_match cX6_match 4 (some .int) :: ((wsX6_match_r1 ++ (wsX6_match_r2 ++ (wsX6_match_r3 ++ wsX6_match_r4))) ++ wsX60 ++ wsX30 ++ wsX00 ++ wsX40)
def wsX6_hear : List Cond := .code yX6_hear cX6_hear 4 (some .int) :: ([.fieldLink RX6 33 "EndedByOthers" "scene" "LEndedByOthers$Scene;", .fieldLink RX6 184 "EndedByOthers$Scene" "heard" "I", .methodLink RX6 102 yX6_isSpeaker, .instanceMethod yX6_isSpeaker, .selects RX6 yX6_isSpeaker yX6_isSpeaker, .initialized RX6, .code yX6_isSpeaker cX6_isSpeaker 2 (some .boolean), .fieldLink RX6 26 "EndedByOthers" "room" "LEndedByOthers$Room;", .fieldLink RX6 92 "EndedByOthers$Room" "speakers" "I", .methodLink RX6 95 yX6_isOpening, .static yX6_isOpening, .code yX6_isOpening cX6_isOpening 1 (some .boolean), .methodLink RX6 136 yX6_isEnding, .static yX6_isEnding, .code yX6_isEnding cX6_isEnding 1 (some .boolean), .methodLink RX6 187 yX4_addHeard, .instanceMethod yX4_addHeard, .selects RX4 yX4_addHeard yX4_addHeard, .initialized RX4, .code yX4_addHeard cX4_addHeard 4 none, .fieldLink RX4 40 "EndedByOthers$Scene" "heard" "I", .fieldLink RX4 31 "EndedByOthers$Scene" "heardSpeakers" "[I", .fieldLink RX4 34 "EndedByOthers$Scene" "heardOpenings" "[I", .fieldLink RX4 37 "EndedByOthers$Scene" "heardEndings" "[I"] ++ wsX60 ++ wsX40 ++ wsX30)
def wsX6_forget : List Cond := .code yX6_forget cX6_forget 2 (some .int) :: ([.fieldLink RX6 33 "EndedByOthers" "scene" "LEndedByOthers$Scene;", .fieldLink RX6 184 "EndedByOthers$Scene" "heard" "I"] ++ wsX60 ++ wsX40)
def wsX6_talks_r1 : List Cond := [Cond.fieldLink RX6 26 "EndedByOthers" "room" "LEndedByOthers$Room;", Cond.fieldLink RX6 92 "EndedByOthers$Room" "speakers" "I", Cond.fieldLink RX6 50 "EndedByOthers" "trial" "LEndedByOthers$Trial;", Cond.fieldLink RX6 33 "EndedByOthers" "scene" "LEndedByOthers$Scene;", Cond.fieldLink RX6 195 "EndedByOthers$Trial" "ended" "I", Cond.fieldLink RX6 196 "EndedByOthers$Trial" "asWanted" "I", Cond.fieldLink RX6 199 "EndedByOthers$Trial" "seed" "J", Cond.methodLink RX6 191 yX5_run, Cond.instanceMethod yX5_run, Cond.selects RX5 yX5_run yX5_run, Cond.initialized RX5, Cond.code yX5_run cX5_run 6 none, Cond.fieldLink RX5 15 "EndedByOthers$Trial" "seed" "J", Cond.fieldLink RX5 19 "EndedByOthers$Trial" "ended" "I", Cond.fieldLink RX5 23 "EndedByOthers$Trial" "asWanted" "I", Cond.fieldLink RX5 9 "EndedByOthers$Trial" "used" "[I", Cond.methodLink RX5 26 yX4_usedBy, Cond.instanceMethod yX4_usedBy, Cond.selects RX4 yX4_usedBy yX4_usedBy, Cond.initialized RX4, Cond.code yX4_usedBy cX4_usedBy 4 (some .int), Cond.fieldLink RX4 27 "EndedByOthers$Scene" "sentences" "I", Cond.fieldLink RX4 21 "EndedByOthers$Scene" "enders" "[I", Cond.fieldLink RX4 24 "EndedByOthers$Scene" "endings" "[I"]
def wsX6_talks_r2 : List Cond := [Cond.methodLink RX5 32 yX5_talkOnce, Cond.instanceMethod yX5_talkOnce, Cond.selects RX5 yX5_talkOnce yX5_talkOnce, Cond.code yX5_talkOnce cX5_talkOnce 7 none, Cond.fieldLink RX5 36 "EndedByOthers$Room" "speakers" "I", Cond.fieldLink RX5 44 "EndedByOthers$Room" "kinds" "[I", Cond.fieldLink RX5 47 "EndedByOthers$Room" "fitting" "[I", Cond.fieldLink RX5 50 "EndedByOthers$Scene" "wants" "[I", Cond.methodLink RX5 41 yX5_draw, Cond.instanceMethod yX5_draw, Cond.selects RX5 yX5_draw yX5_draw, Cond.code yX5_draw cX5_draw 2 (some .int), Cond.constantLong RX5 57 (1103515245), Cond.constantLong RX5 59 (12345), Cond.constantLong RX5 61 (2147483648), Cond.constantLong RX5 63 (65536), Cond.static yX6_endingBy, Cond.initialized RX6, Cond.code yX6_endingBy cX6_endingBy 5 (some .int), Cond.methodLink RX6 239 yX6_has, Cond.static yX6_has, Cond.code yX6_has cX6_has 2 (some .boolean), Cond.methodLink RX6 242 yX6_greatest, Cond.static yX6_greatest]
def wsX6_talks_r3 : List Cond := [Cond.code yX6_greatest cX6_greatest 2 (some .int), Cond.methodLink RX6 245 yX6_least, Cond.static yX6_least, Cond.code yX6_least cX6_least 2 (some .int)]
def wsX6_talks : List Cond := .code yX6_talks cX6_talks 4 (some .int) :: ((wsX6_talks_r1 ++ (wsX6_talks_r2 ++ wsX6_talks_r3)) ++ wsX60 ++ wsX30 ++ wsX50 ++ wsX40)
def wsX6_image_r1 : List Cond := [Cond.fieldLink RX6 26 "EndedByOthers" "room" "LEndedByOthers$Room;", Cond.fieldLink RX6 92 "EndedByOthers$Room" "speakers" "I", Cond.fieldLink RX6 37 "EndedByOthers" "image" "LEndedByOthers$Scene;", Cond.fieldLink RX6 33 "EndedByOthers" "scene" "LEndedByOthers$Scene;", Cond.fieldLink RX6 54 "EndedByOthers" "imageKept" "Z", Cond.fieldLink RX6 145 "EndedByOthers$Scene" "sentences" "I", Cond.methodLink RX6 203 yX4_copyFrom, Cond.instanceMethod yX4_copyFrom, Cond.selects RX4 yX4_copyFrom yX4_copyFrom, Cond.initialized RX4, Cond.code yX4_copyFrom cX4_copyFrom 2 none, Cond.fieldLink RX4 9 "EndedByOthers$Scene" "wants" "[I", Cond.methodLink RX4 46 arraycopyName, Cond.native arraycopyName, Cond.static arraycopyName, Cond.initialized "java/lang/System", Cond.fieldLink RX4 15 "EndedByOthers$Scene" "beginners" "[I", Cond.fieldLink RX4 18 "EndedByOthers$Scene" "openings" "[I", Cond.fieldLink RX4 21 "EndedByOthers$Scene" "enders" "[I", Cond.fieldLink RX4 24 "EndedByOthers$Scene" "endings" "[I", Cond.fieldLink RX4 31 "EndedByOthers$Scene" "heardSpeakers" "[I", Cond.fieldLink RX4 34 "EndedByOthers$Scene" "heardOpenings" "[I", Cond.fieldLink RX4 37 "EndedByOthers$Scene" "heardEndings" "[I", Cond.fieldLink RX4 27 "EndedByOthers$Scene" "sentences" "I"]
def wsX6_image_r2 : List Cond := [Cond.fieldLink RX4 40 "EndedByOthers$Scene" "heard" "I", Cond.fieldLink RX4 43 "EndedByOthers$Scene" "changes" "I"]
def wsX6_image : List Cond := .code yX6_image cX6_image 1 (some .int) :: ((wsX6_image_r1 ++ wsX6_image_r2) ++ wsX60 ++ wsX30 ++ wsX40)
def wsX6_restore : List Cond := .code yX6_restore cX6_restore 1 (some .int) :: ([.fieldLink RX6 54 "EndedByOthers" "imageKept" "Z", .fieldLink RX6 33 "EndedByOthers" "scene" "LEndedByOthers$Scene;", .fieldLink RX6 37 "EndedByOthers" "image" "LEndedByOthers$Scene;", .fieldLink RX6 145 "EndedByOthers$Scene" "sentences" "I", .methodLink RX6 203 yX4_copyFrom, .instanceMethod yX4_copyFrom, .selects RX4 yX4_copyFrom yX4_copyFrom, .initialized RX4, .code yX4_copyFrom cX4_copyFrom 2 none, .fieldLink RX4 9 "EndedByOthers$Scene" "wants" "[I", .methodLink RX4 46 arraycopyName, .native arraycopyName, .static arraycopyName, .initialized "java/lang/System", .fieldLink RX4 15 "EndedByOthers$Scene" "beginners" "[I", .fieldLink RX4 18 "EndedByOthers$Scene" "openings" "[I", .fieldLink RX4 21 "EndedByOthers$Scene" "enders" "[I", .fieldLink RX4 24 "EndedByOthers$Scene" "endings" "[I", .fieldLink RX4 31 "EndedByOthers$Scene" "heardSpeakers" "[I", .fieldLink RX4 34 "EndedByOthers$Scene" "heardOpenings" "[I", .fieldLink RX4 37 "EndedByOthers$Scene" "heardEndings" "[I", .fieldLink RX4 27 "EndedByOthers$Scene" "sentences" "I", .fieldLink RX4 40 "EndedByOthers$Scene" "heard" "I", .fieldLink RX4 43 "EndedByOthers$Scene" "changes" "I"] ++ wsX60 ++ wsX40)
def wsX6_count_r1 : List Cond := [Cond.fieldLink RX6 26 "EndedByOthers" "room" "LEndedByOthers$Room;", Cond.fieldLink RX6 92 "EndedByOthers$Room" "speakers" "I", Cond.fieldLink RX6 33 "EndedByOthers" "scene" "LEndedByOthers$Scene;", Cond.fieldLink RX6 145 "EndedByOthers$Scene" "sentences" "I", Cond.fieldLink RX6 139 "EndedByOthers$Scene" "changes" "I", Cond.fieldLink RX6 184 "EndedByOthers$Scene" "heard" "I", Cond.fieldLink RX6 10 "EndedByOthers" "page" "LEndedByOthers$Page;", Cond.fieldLink RX6 62 "EndedByOthers$Page" "length" "I", Cond.fieldLink RX6 58 "EndedByOthers" "roomsRead" "I", Cond.methodLink RX6 206 yX4_howManyOpen, Cond.instanceMethod yX4_howManyOpen, Cond.selects RX4 yX4_howManyOpen yX4_howManyOpen, Cond.initialized RX4, Cond.code yX4_howManyOpen cX4_howManyOpen 1 (some .int), Cond.methodLink RX4 56 yX4_howManyEndedBy, Cond.instanceMethod yX4_howManyEndedBy, Cond.selects RX4 yX4_howManyEndedBy yX4_howManyEndedBy, Cond.code yX4_howManyEndedBy cX4_howManyEndedBy 4 (some .int), Cond.fieldLink RX4 27 "EndedByOthers$Scene" "sentences" "I", Cond.fieldLink RX4 21 "EndedByOthers$Scene" "enders" "[I", Cond.methodLink RX6 210 yX4_howManyAsWanted, Cond.instanceMethod yX4_howManyAsWanted, Cond.selects RX4 yX4_howManyAsWanted yX4_howManyAsWanted, Cond.code yX4_howManyAsWanted cX4_howManyAsWanted 3 (some .int)]
def wsX6_count_r2 : List Cond := [Cond.methodLink RX4 60 yX4_isAsWanted, Cond.instanceMethod yX4_isAsWanted, Cond.selects RX4 yX4_isAsWanted yX4_isAsWanted, Cond.code yX4_isAsWanted cX4_isAsWanted 2 (some .boolean), Cond.fieldLink RX4 24 "EndedByOthers$Scene" "endings" "[I", Cond.fieldLink RX4 9 "EndedByOthers$Scene" "wants" "[I", Cond.fieldLink RX4 15 "EndedByOthers$Scene" "beginners" "[I", Cond.methodLink RX4 52 yX4_isOpen, Cond.instanceMethod yX4_isOpen, Cond.selects RX4 yX4_isOpen yX4_isOpen, Cond.code yX4_isOpen cX4_isOpen 2 (some .boolean), Cond.methodLink RX6 213 yX4_howManyUnlikeEndings, Cond.instanceMethod yX4_howManyUnlikeEndings, Cond.selects RX4 yX4_howManyUnlikeEndings yX4_howManyUnlikeEndings, Cond.code yX4_howManyUnlikeEndings cX4_howManyUnlikeEndings 3 (some .int), Cond.methodLink RX4 63 yX4_usedBy, Cond.instanceMethod yX4_usedBy, Cond.selects RX4 yX4_usedBy yX4_usedBy, Cond.code yX4_usedBy cX4_usedBy 4 (some .int), Cond.methodLink RX4 66 yJ6_bitCount_0f7a4, Cond.static yJ6_bitCount_0f7a4, Cond.initialized RJ6, Cond.code yJ6_bitCount_0f7a4 cJ6_bitCount_0f7a4 1 (some .int), Cond.constant RJ6 265 (1431655765)]
def wsX6_count_r3 : List Cond := [Cond.constant RJ6 266 (858993459), Cond.constant RJ6 267 (252645135)]
def wsX6_count : List Cond := .code yX6_count cX6_count 2 (some .int) :: ((wsX6_count_r1 ++ (wsX6_count_r2 ++ wsX6_count_r3)) ++ wsX60 ++ wsX30 ++ wsX40 ++ wsX10)
def wsX6_mixed : List Cond := .code yX6_mixed cX6_mixed 4 (some .long) :: ([.constantLong RX6 237 (31)])
def wsX6_digest_r1 : List Cond := [Cond.constantLong RX6 216 (1021), Cond.fieldLink RX6 26 "EndedByOthers" "room" "LEndedByOthers$Room;", Cond.fieldLink RX6 92 "EndedByOthers$Room" "speakers" "I", Cond.fieldLink RX6 99 "EndedByOthers$Room" "fitting" "[I", Cond.fieldLink RX6 33 "EndedByOthers" "scene" "LEndedByOthers$Scene;", Cond.fieldLink RX6 145 "EndedByOthers$Scene" "sentences" "I", Cond.fieldLink RX6 10 "EndedByOthers" "page" "LEndedByOthers$Page;", Cond.fieldLink RX6 62 "EndedByOthers$Page" "length" "I", Cond.fieldLink RX6 231 "EndedByOthers$Page" "codes" "[I", Cond.methodLink RX6 218 yX6_mixed, Cond.static yX6_mixed, Cond.initialized RX6, Cond.code yX6_mixed cX6_mixed 4 (some .long), Cond.constantLong RX6 237 (31), Cond.methodLink RX6 222 yX6_about, Cond.instanceMethod yX6_about, Cond.selects RX6 yX6_about yX6_about, Cond.code yX6_about cX6_about 3 (some .int), Cond.fieldLink RX6 105 "EndedByOthers$Room" "kinds" "[I", Cond.fieldLink RX6 108 "EndedByOthers$Scene" "wants" "[I", Cond.methodLink RX6 102 yX6_isSpeaker, Cond.instanceMethod yX6_isSpeaker, Cond.selects RX6 yX6_isSpeaker yX6_isSpeaker, Cond.code yX6_isSpeaker cX6_isSpeaker 2 (some .boolean)]
def wsX6_digest_r2 : List Cond := [Cond.methodLink RX6 109 yX4_usedBy, Cond.instanceMethod yX4_usedBy, Cond.selects RX4 yX4_usedBy yX4_usedBy, Cond.initialized RX4, Cond.code yX4_usedBy cX4_usedBy 4 (some .int), Cond.fieldLink RX4 27 "EndedByOthers$Scene" "sentences" "I", Cond.fieldLink RX4 21 "EndedByOthers$Scene" "enders" "[I", Cond.fieldLink RX4 24 "EndedByOthers$Scene" "endings" "[I", Cond.methodLink RX6 113 yX4_openOf, Cond.instanceMethod yX4_openOf, Cond.selects RX4 yX4_openOf yX4_openOf, Cond.code yX4_openOf cX4_openOf 3 (some .int), Cond.fieldLink RX4 15 "EndedByOthers$Scene" "beginners" "[I", Cond.methodLink RX4 52 yX4_isOpen, Cond.instanceMethod yX4_isOpen, Cond.selects RX4 yX4_isOpen yX4_isOpen, Cond.code yX4_isOpen cX4_isOpen 2 (some .boolean), Cond.methodLink RX6 116 yX4_howManyBegunBy, Cond.instanceMethod yX4_howManyBegunBy, Cond.selects RX4 yX4_howManyBegunBy yX4_howManyBegunBy, Cond.code yX4_howManyBegunBy cX4_howManyBegunBy 4 (some .int), Cond.methodLink RX6 119 yX4_howManyEndedBy, Cond.instanceMethod yX4_howManyEndedBy, Cond.selects RX4 yX4_howManyEndedBy yX4_howManyEndedBy]
def wsX6_digest_r3 : List Cond := [Cond.code yX4_howManyEndedBy cX4_howManyEndedBy 4 (some .int), Cond.methodLink RX6 122 yX6_sureOpening, Cond.instanceMethod yX6_sureOpening, Cond.selects RX6 yX6_sureOpening yX6_sureOpening, Cond.code yX6_sureOpening cX6_sureOpening 3 (some .int), Cond.methodLink RX6 252 yX6_isSure, Cond.instanceMethod yX6_isSure, Cond.selects RX6 yX6_isSure yX6_isSure, Cond.code yX6_isSure cX6_isSure 6 (some .boolean), Cond.methodLink RX6 142 yX6_endingNow, Cond.instanceMethod yX6_endingNow, Cond.selects RX6 yX6_endingNow yX6_endingNow, Cond.code yX6_endingNow cX6_endingNow 3 (some .int), Cond.methodLink RX6 248 yX6_endingBy, Cond.static yX6_endingBy, Cond.code yX6_endingBy cX6_endingBy 5 (some .int), Cond.methodLink RX6 239 yX6_has, Cond.static yX6_has, Cond.code yX6_has cX6_has 2 (some .boolean), Cond.methodLink RX6 242 yX6_greatest, Cond.static yX6_greatest, Cond.code yX6_greatest cX6_greatest 2 (some .int), Cond.methodLink RX6 245 yX6_least, Cond.static yX6_least]
def wsX6_digest_r4 : List Cond := [Cond.code yX6_least cX6_least 2 (some .int), Cond.methodLink RX6 125 yX6_possibleKinds, Cond.instanceMethod yX6_possibleKinds, Cond.selects RX6 yX6_possibleKinds yX6_possibleKinds, Cond.code yX6_possibleKinds cX6_possibleKinds 4 (some .int), Cond.methodLink RX6 255 yX6_agreesWithHeard, Cond.instanceMethod yX6_agreesWithHeard, Cond.selects RX6 yX6_agreesWithHeard yX6_agreesWithHeard, Cond.code yX6_agreesWithHeard cX6_agreesWithHeard 5 (some .boolean), Cond.fieldLink RX6 184 "EndedByOthers$Scene" "heard" "I", Cond.fieldLink RX6 258 "EndedByOthers$Scene" "heardSpeakers" "[I", Cond.fieldLink RX6 261 "EndedByOthers$Scene" "heardOpenings" "[I", Cond.fieldLink RX6 264 "EndedByOthers$Scene" "heardEndings" "[I", Cond.methodLink RX6 128 yX6_tellingOpening, Cond.instanceMethod yX6_tellingOpening, Cond.selects RX6 yX6_tellingOpening yX6_tellingOpening, Cond.code yX6_tellingOpening cX6_tellingOpening 7 (some .int), Cond.methodLink RX6 267 yX6_mostKindsLeft, Cond.instanceMethod yX6_mostKindsLeft, Cond.selects RX6 yX6_mostKindsLeft yX6_mostKindsLeft, Cond.code yX6_mostKindsLeft cX6_mostKindsLeft 10 (some .int), Cond.methodLink RX6 271 Lib.Math.max.name, Cond.static Lib.Math.max.name, Cond.initialized "java/lang/Math"]
def wsX6_digest_r5 : List Cond := [Cond.code Lib.Math.max.name Lib.Math.max.code 2 (some .int), Cond.methodLink RX6 225 yX6_sentence, Cond.instanceMethod yX6_sentence, Cond.selects RX6 yX6_sentence yX6_sentence, Cond.code yX6_sentence cX6_sentence 3 (some .int), Cond.fieldLink RX6 157 "EndedByOthers$Scene" "beginners" "[I", Cond.fieldLink RX6 160 "EndedByOthers$Scene" "openings" "[I", Cond.fieldLink RX6 163 "EndedByOthers$Scene" "enders" "[I", Cond.fieldLink RX6 166 "EndedByOthers$Scene" "endings" "[I", Cond.methodLink RX6 151 yX6_isSentence, Cond.instanceMethod yX6_isSentence, Cond.selects RX6 yX6_isSentence yX6_isSentence, Cond.code yX6_isSentence cX6_isSentence 2 (some .boolean), Cond.methodLink RX6 169 yX4_isAsWanted, Cond.instanceMethod yX4_isAsWanted, Cond.selects RX4 yX4_isAsWanted yX4_isAsWanted, Cond.code yX4_isAsWanted cX4_isAsWanted 2 (some .boolean), Cond.fieldLink RX4 9 "EndedByOthers$Scene" "wants" "[I", Cond.methodLink RX6 228 yX6_match, Cond.instanceMethod yX6_match, Cond.selects RX6 yX6_match yX6_match, Cond.code yX6_match cX6_match 4 (some .int), Cond.fieldLink RX6 43 "EndedByOthers" "matching" "LEndedByOthers$Matching;", Cond.fieldLink RX6 178 "EndedByOthers$Matching" "ended" "I"]
def wsX6_digest_r6 : List Cond := [Cond.fieldLink RX6 181 "EndedByOthers$Matching" "picks" "[I", Cond.methodLink RX6 172 yX6_findPleasing, Cond.instanceMethod yX6_findPleasing, Cond.selects RX6 yX6_findPleasing yX6_findPleasing, Cond.code yX6_findPleasing cX6_findPleasing 3 none, Cond.fieldLink RX6 276 "EndedByOthers$Matching" "pleasing" "[I", Cond.methodLink RX6 279 yX6_wouldPlease, Cond.instanceMethod yX6_wouldPlease, Cond.selects RX6 yX6_wouldPlease yX6_wouldPlease, Cond.code yX6_wouldPlease cX6_wouldPlease 4 (some .boolean), Cond.methodLink RX6 154 yX4_isOpen, Cond.methodLink RX6 175 yX0_solve, Cond.instanceMethod yX0_solve, Cond.selects RX0 yX0_solve yX0_solve, Cond.initialized RX0, Cond.code yX0_solve cX0_solve 3 none, Cond.fieldLink RX0 9 "EndedByOthers$Matching" "pleasing" "[I", Cond.fieldLink RX0 18 "EndedByOthers$Matching" "ended" "I", Cond.fieldLink RX0 15 "EndedByOthers$Matching" "picks" "[I", Cond.methodLink RX0 22 yX0_mostFrom, Cond.static yX0_mostFrom, Cond.code yX0_mostFrom cX0_mostFrom 6 (some .int), Cond.methodLink RX0 34 Lib.Math.max.name, Cond.methodLink RX0 26 yX0_firstBestPick]
def wsX6_digest_r7 : List Cond := [Cond.instanceMethod yX0_firstBestPick, Cond.selects RX0 yX0_firstBestPick yX0_firstBestPick, Cond.code yX0_firstBestPick cX0_firstBestPick 6 (some .int), Cond.methodLink RX6 234 yX6_count, Cond.instanceMethod yX6_count, Cond.selects RX6 yX6_count yX6_count, Cond.code yX6_count cX6_count 2 (some .int), Cond.fieldLink RX6 139 "EndedByOthers$Scene" "changes" "I", Cond.fieldLink RX6 58 "EndedByOthers" "roomsRead" "I", Cond.methodLink RX6 206 yX4_howManyOpen, Cond.instanceMethod yX4_howManyOpen, Cond.selects RX4 yX4_howManyOpen yX4_howManyOpen, Cond.code yX4_howManyOpen cX4_howManyOpen 1 (some .int), Cond.methodLink RX4 56 yX4_howManyEndedBy, Cond.methodLink RX6 210 yX4_howManyAsWanted, Cond.instanceMethod yX4_howManyAsWanted, Cond.selects RX4 yX4_howManyAsWanted yX4_howManyAsWanted, Cond.code yX4_howManyAsWanted cX4_howManyAsWanted 3 (some .int), Cond.methodLink RX4 60 yX4_isAsWanted, Cond.methodLink RX6 213 yX4_howManyUnlikeEndings, Cond.instanceMethod yX4_howManyUnlikeEndings, Cond.selects RX4 yX4_howManyUnlikeEndings yX4_howManyUnlikeEndings, Cond.code yX4_howManyUnlikeEndings cX4_howManyUnlikeEndings 3 (some .int), Cond.methodLink RX4 63 yX4_usedBy]
def wsX6_digest_r8 : List Cond := [Cond.methodLink RX4 66 yJ6_bitCount_0f7a4, Cond.static yJ6_bitCount_0f7a4, Cond.initialized RJ6, Cond.code yJ6_bitCount_0f7a4 cJ6_bitCount_0f7a4 1 (some .int), Cond.constant RJ6 265 (1431655765), Cond.constant RJ6 266 (858993459), Cond.constant RJ6 267 (252645135)]
def wsX6_digest : List Cond := .code yX6_digest cX6_digest 5 (some .long) :: ((wsX6_digest_r1 ++ (wsX6_digest_r2 ++ (wsX6_digest_r3 ++ (wsX6_digest_r4 ++ (wsX6_digest_r5 ++ (wsX6_digest_r6 ++ (wsX6_digest_r7 ++ wsX6_digest_r8))))))) ++ wsX60 ++ wsX30 ++ wsX40 ++ wsX10 ++ wsX00)
def wsX7_init : List Cond := .code yX7_init cX7_init 1 none :: ([.methodLink RX7 1 objectInit, .instanceMethod objectInit, .code objectInit ⟨#[0xb1]⟩ 1 none, .arrayClass .int, .fieldLink RX7 7 "EndedByOthersModel" "page" "[I", .fieldLink RX7 13 "EndedByOthersModel" "readFits" "[I", .fieldLink RX7 16 "EndedByOthersModel" "readRows" "[I", .fieldLink RX7 19 "EndedByOthersModel" "fitting" "[I", .fieldLink RX7 22 "EndedByOthersModel" "rows" "[I", .fieldLink RX7 25 "EndedByOthersModel" "said" "[I", .fieldLink RX7 28 "EndedByOthersModel" "row" "[I", .fieldLink RX7 31 "EndedByOthersModel" "bestRow" "[I", .fieldLink RX7 34 "EndedByOthersModel" "heards" "[I", .fieldLink RX7 37 "EndedByOthersModel" "parts" "[I", .fieldLink RX7 40 "EndedByOthersModel" "savedRows" "[I", .fieldLink RX7 43 "EndedByOthersModel" "keptRows" "[I", .fieldLink RX7 46 "EndedByOthersModel" "keptSaid" "[I", .fieldLink RX7 49 "EndedByOthersModel" "keptHeards" "[I", .fieldLink RX7 52 "EndedByOthersModel" "keptRoom" "I"] ++ wsX70)
def wsX7_in : List Cond := .code yX7_in cX7_in 6 (some .boolean) :: ([])
def wsX7_copy : List Cond := .code yX7_copy cX7_copy 3 none :: ([])
def wsX7_letter : List Cond := .code yX7_letter cX7_letter 2 (some .int) :: ([.constantLong RX7 56 (126), .fieldLink RX7 62 "EndedByOthersModel" "pageMany" "I", .fieldLink RX7 7 "EndedByOthersModel" "page" "[I", .methodLink RX7 58 yX7_in, .static yX7_in, .initialized RX7, .code yX7_in cX7_in 6 (some .boolean)] ++ wsX70)
def wsX7_blank : List Cond := .code yX7_blank cX7_blank 2 (some .int) :: ([.fieldLink RX7 62 "EndedByOthersModel" "pageMany" "I"] ++ wsX70)
def wsX7_kindBy : List Cond := .code yX7_kindBy cX7_kindBy 1 (some .int) :: ([])
def wsX7_goOpening : List Cond := .code yX7_goOpening cX7_goOpening 4 (some .boolean) :: ([.fieldLink RX7 65 "EndedByOthersModel" "partMany" "I", .fieldLink RX7 68 "EndedByOthersModel" "part" "I", .fieldLink RX7 71 "EndedByOthersModel" "lastOne" "I", .constantLong RX7 74 (5), .fieldLink RX7 13 "EndedByOthersModel" "readFits" "[I", .methodLink RX7 58 yX7_in, .static yX7_in, .initialized RX7, .code yX7_in cX7_in 6 (some .boolean)] ++ wsX70)
def wsX7_goSpeaker : List Cond := .code yX7_goSpeaker cX7_goSpeaker 3 (some .boolean) :: ([.fieldLink RX7 76 "EndedByOthersModel" "step" "I", .fieldLink RX7 16 "EndedByOthersModel" "readRows" "[I", .fieldLink RX7 79 "EndedByOthersModel" "readMany" "I", .constantLong RX7 86 (97), .constantLong RX7 88 (102), .methodLink RX7 82 yX7_kindBy, .static yX7_kindBy, .initialized RX7, .code yX7_kindBy cX7_kindBy 1 (some .int), .methodLink RX7 58 yX7_in, .static yX7_in, .code yX7_in cX7_in 6 (some .boolean)] ++ wsX70)
def wsX7_faultOf_r1 : List Cond := [Cond.fieldLink RX7 68 "EndedByOthersModel" "part" "I", Cond.fieldLink RX7 65 "EndedByOthersModel" "partMany" "I", Cond.fieldLink RX7 71 "EndedByOthersModel" "lastOne" "I", Cond.fieldLink RX7 79 "EndedByOthersModel" "readMany" "I", Cond.fieldLink RX7 76 "EndedByOthersModel" "step" "I", Cond.fieldLink RX7 62 "EndedByOthersModel" "pageMany" "I", Cond.fieldLink RX7 7 "EndedByOthersModel" "page" "[I", Cond.methodLink RX7 90 yX7_goOpening, Cond.instanceMethod yX7_goOpening, Cond.selects RX7 yX7_goOpening yX7_goOpening, Cond.initialized RX7, Cond.code yX7_goOpening cX7_goOpening 4 (some .boolean), Cond.constantLong RX7 74 (5), Cond.fieldLink RX7 13 "EndedByOthersModel" "readFits" "[I", Cond.methodLink RX7 58 yX7_in, Cond.static yX7_in, Cond.code yX7_in cX7_in 6 (some .boolean), Cond.methodLink RX7 94 yX7_goSpeaker, Cond.instanceMethod yX7_goSpeaker, Cond.selects RX7 yX7_goSpeaker yX7_goSpeaker, Cond.code yX7_goSpeaker cX7_goSpeaker 3 (some .boolean), Cond.fieldLink RX7 16 "EndedByOthersModel" "readRows" "[I", Cond.constantLong RX7 86 (97), Cond.constantLong RX7 88 (102)]
def wsX7_faultOf_r2 : List Cond := [Cond.methodLink RX7 82 yX7_kindBy, Cond.static yX7_kindBy, Cond.code yX7_kindBy cX7_kindBy 1 (some .int)]
def wsX7_faultOf : List Cond := .code yX7_faultOf cX7_faultOf 2 (some .int) :: ((wsX7_faultOf_r1 ++ wsX7_faultOf_r2) ++ wsX70)
def wsX7_fault_r1 : List Cond := [Cond.methodLink RX7 97 yX7_faultOf, Cond.instanceMethod yX7_faultOf, Cond.selects RX7 yX7_faultOf yX7_faultOf, Cond.initialized RX7, Cond.code yX7_faultOf cX7_faultOf 2 (some .int), Cond.fieldLink RX7 68 "EndedByOthersModel" "part" "I", Cond.fieldLink RX7 65 "EndedByOthersModel" "partMany" "I", Cond.fieldLink RX7 71 "EndedByOthersModel" "lastOne" "I", Cond.fieldLink RX7 79 "EndedByOthersModel" "readMany" "I", Cond.fieldLink RX7 76 "EndedByOthersModel" "step" "I", Cond.fieldLink RX7 62 "EndedByOthersModel" "pageMany" "I", Cond.fieldLink RX7 7 "EndedByOthersModel" "page" "[I", Cond.methodLink RX7 90 yX7_goOpening, Cond.instanceMethod yX7_goOpening, Cond.selects RX7 yX7_goOpening yX7_goOpening, Cond.code yX7_goOpening cX7_goOpening 4 (some .boolean), Cond.constantLong RX7 74 (5), Cond.fieldLink RX7 13 "EndedByOthersModel" "readFits" "[I", Cond.methodLink RX7 58 yX7_in, Cond.static yX7_in, Cond.code yX7_in cX7_in 6 (some .boolean), Cond.methodLink RX7 94 yX7_goSpeaker, Cond.instanceMethod yX7_goSpeaker, Cond.selects RX7 yX7_goSpeaker yX7_goSpeaker]
def wsX7_fault_r2 : List Cond := [Cond.code yX7_goSpeaker cX7_goSpeaker 3 (some .boolean), Cond.fieldLink RX7 16 "EndedByOthersModel" "readRows" "[I", Cond.constantLong RX7 86 (97), Cond.constantLong RX7 88 (102), Cond.methodLink RX7 82 yX7_kindBy, Cond.static yX7_kindBy, Cond.code yX7_kindBy cX7_kindBy 1 (some .int)]
def wsX7_fault : List Cond := .code yX7_fault cX7_fault 1 (some .int) :: ((wsX7_fault_r1 ++ wsX7_fault_r2) ++ wsX70)
def wsX7_room_r1 : List Cond := [Cond.fieldLink RX7 62 "EndedByOthersModel" "pageMany" "I", Cond.fieldLink RX7 76 "EndedByOthersModel" "step" "I", Cond.fieldLink RX7 79 "EndedByOthersModel" "readMany" "I", Cond.fieldLink RX7 101 "EndedByOthersModel" "speakers" "I", Cond.fieldLink RX7 13 "EndedByOthersModel" "readFits" "[I", Cond.fieldLink RX7 19 "EndedByOthersModel" "fitting" "[I", Cond.fieldLink RX7 22 "EndedByOthersModel" "rows" "[I", Cond.fieldLink RX7 16 "EndedByOthersModel" "readRows" "[I", Cond.fieldLink RX7 108 "EndedByOthersModel" "wants" "I", Cond.fieldLink RX7 111 "EndedByOthersModel" "sentences" "I", Cond.fieldLink RX7 114 "EndedByOthersModel" "heardMany" "I", Cond.fieldLink RX7 117 "EndedByOthersModel" "roomsRead" "I", Cond.methodLink RX7 97 yX7_faultOf, Cond.instanceMethod yX7_faultOf, Cond.selects RX7 yX7_faultOf yX7_faultOf, Cond.initialized RX7, Cond.code yX7_faultOf cX7_faultOf 2 (some .int), Cond.fieldLink RX7 68 "EndedByOthersModel" "part" "I", Cond.fieldLink RX7 65 "EndedByOthersModel" "partMany" "I", Cond.fieldLink RX7 71 "EndedByOthersModel" "lastOne" "I", Cond.fieldLink RX7 7 "EndedByOthersModel" "page" "[I", Cond.methodLink RX7 90 yX7_goOpening, Cond.instanceMethod yX7_goOpening, Cond.selects RX7 yX7_goOpening yX7_goOpening]
def wsX7_room_r2 : List Cond := [Cond.code yX7_goOpening cX7_goOpening 4 (some .boolean), Cond.constantLong RX7 74 (5), Cond.methodLink RX7 58 yX7_in, Cond.static yX7_in, Cond.code yX7_in cX7_in 6 (some .boolean), Cond.methodLink RX7 94 yX7_goSpeaker, Cond.instanceMethod yX7_goSpeaker, Cond.selects RX7 yX7_goSpeaker yX7_goSpeaker, Cond.code yX7_goSpeaker cX7_goSpeaker 3 (some .boolean), Cond.constantLong RX7 86 (97), Cond.constantLong RX7 88 (102), Cond.methodLink RX7 82 yX7_kindBy, Cond.static yX7_kindBy, Cond.code yX7_kindBy cX7_kindBy 1 (some .int), Cond.methodLink RX7 104 yX7_copy, Cond.static yX7_copy, Cond.code yX7_copy cX7_copy 3 none]
def wsX7_room : List Cond := .code yX7_room cX7_room 2 (some .int) :: ((wsX7_room_r1 ++ wsX7_room_r2) ++ wsX70)
def wsX7_lacks : List Cond := .code yX7_lacks cX7_lacks 1 (some .boolean) :: ([.fieldLink RX7 101 "EndedByOthersModel" "speakers" "I"] ++ wsX70)
def wsX7_isOpening : List Cond := .code yX7_isOpening cX7_isOpening 2 (some .boolean) :: ([.constantLong RX7 124 (3), .methodLink RX7 120 yX7_lacks, .instanceMethod yX7_lacks, .selects RX7 yX7_lacks yX7_lacks, .initialized RX7, .code yX7_lacks cX7_lacks 1 (some .boolean), .fieldLink RX7 101 "EndedByOthersModel" "speakers" "I", .methodLink RX7 58 yX7_in, .static yX7_in, .code yX7_in cX7_in 6 (some .boolean)] ++ wsX70)
def wsX7_isSpeaker : List Cond := .code yX7_isSpeaker cX7_isSpeaker 2 (some .boolean) :: ([.fieldLink RX7 101 "EndedByOthersModel" "speakers" "I", .methodLink RX7 58 yX7_in, .static yX7_in, .initialized RX7, .code yX7_in cX7_in 6 (some .boolean)] ++ wsX70)
def wsX7_fits : List Cond := .code yX7_fits cX7_fits 2 (some .int) :: ([.fieldLink RX7 19 "EndedByOthersModel" "fitting" "[I", .methodLink RX7 126 yX7_isOpening, .instanceMethod yX7_isOpening, .selects RX7 yX7_isOpening yX7_isOpening, .initialized RX7, .code yX7_isOpening cX7_isOpening 2 (some .boolean), .constantLong RX7 124 (3), .methodLink RX7 120 yX7_lacks, .instanceMethod yX7_lacks, .selects RX7 yX7_lacks yX7_lacks, .code yX7_lacks cX7_lacks 1 (some .boolean), .fieldLink RX7 101 "EndedByOthersModel" "speakers" "I", .methodLink RX7 58 yX7_in, .static yX7_in, .code yX7_in cX7_in 6 (some .boolean)] ++ wsX70)
def wsX7_leastOf : List Cond := .code yX7_leastOf cX7_leastOf 3 (some .int) :: ([])
def wsX7_greatestOf : List Cond := .code yX7_greatestOf cX7_greatestOf 3 (some .int) :: ([])
def wsX7_ones : List Cond := .code yX7_ones cX7_ones 3 (some .int) :: ([])
def wsX7_endsBy : List Cond := .code yX7_endsBy cX7_endsBy 8 (some .int) :: ([.fieldLink RX7 19 "EndedByOthersModel" "fitting" "[I", .methodLink RX7 129 yX7_greatestOf, .static yX7_greatestOf, .initialized RX7, .code yX7_greatestOf cX7_greatestOf 3 (some .int), .methodLink RX7 132 yX7_leastOf, .static yX7_leastOf, .code yX7_leastOf cX7_leastOf 3 (some .int)] ++ wsX70)
def wsX7_wouldOf : List Cond := .code yX7_wouldOf cX7_wouldOf 3 (some .int) :: ([.fieldLink RX7 22 "EndedByOthersModel" "rows" "[I", .methodLink RX7 135 yX7_endsBy, .instanceMethod yX7_endsBy, .selects RX7 yX7_endsBy yX7_endsBy, .initialized RX7, .code yX7_endsBy cX7_endsBy 8 (some .int), .fieldLink RX7 19 "EndedByOthersModel" "fitting" "[I", .methodLink RX7 129 yX7_greatestOf, .static yX7_greatestOf, .code yX7_greatestOf cX7_greatestOf 3 (some .int), .methodLink RX7 132 yX7_leastOf, .static yX7_leastOf, .code yX7_leastOf cX7_leastOf 3 (some .int)] ++ wsX70)
def wsX7_openOf : List Cond := .code yX7_openOf cX7_openOf 4 (some .int) :: ([.fieldLink RX7 111 "EndedByOthersModel" "sentences" "I", .fieldLink RX7 25 "EndedByOthersModel" "said" "[I"] ++ wsX70)
def wsX7_saidBy : List Cond := .code yX7_saidBy cX7_saidBy 5 (some .int) :: ([.fieldLink RX7 111 "EndedByOthersModel" "sentences" "I", .fieldLink RX7 25 "EndedByOthersModel" "said" "[I"] ++ wsX70)
def wsX7_sureOf : List Cond := .code yX7_sureOf cX7_sureOf 8 (some .int) :: ([.fieldLink RX7 101 "EndedByOthersModel" "speakers" "I", .fieldLink RX7 22 "EndedByOthersModel" "rows" "[I", .methodLink RX7 139 yX7_wouldOf, .instanceMethod yX7_wouldOf, .selects RX7 yX7_wouldOf yX7_wouldOf, .initialized RX7, .code yX7_wouldOf cX7_wouldOf 3 (some .int), .methodLink RX7 135 yX7_endsBy, .instanceMethod yX7_endsBy, .selects RX7 yX7_endsBy yX7_endsBy, .code yX7_endsBy cX7_endsBy 8 (some .int), .fieldLink RX7 19 "EndedByOthersModel" "fitting" "[I", .methodLink RX7 129 yX7_greatestOf, .static yX7_greatestOf, .code yX7_greatestOf cX7_greatestOf 3 (some .int), .methodLink RX7 132 yX7_leastOf, .static yX7_leastOf, .code yX7_leastOf cX7_leastOf 3 (some .int)] ++ wsX70)
def wsX7_whichOf : List Cond := .code yX7_whichOf cX7_whichOf 7 (some .int) :: ([.fieldLink RX7 114 "EndedByOthersModel" "heardMany" "I", .fieldLink RX7 22 "EndedByOthersModel" "rows" "[I", .fieldLink RX7 34 "EndedByOthersModel" "heards" "[I", .methodLink RX7 135 yX7_endsBy, .instanceMethod yX7_endsBy, .selects RX7 yX7_endsBy yX7_endsBy, .initialized RX7, .code yX7_endsBy cX7_endsBy 8 (some .int), .fieldLink RX7 19 "EndedByOthersModel" "fitting" "[I", .methodLink RX7 129 yX7_greatestOf, .static yX7_greatestOf, .code yX7_greatestOf cX7_greatestOf 3 (some .int), .methodLink RX7 132 yX7_leastOf, .static yX7_leastOf, .code yX7_leastOf cX7_leastOf 3 (some .int)] ++ wsX70)
def wsX7_beginOf : List Cond := .code yX7_beginOf cX7_beginOf 9 (some .int) :: ([.fieldLink RX7 37 "EndedByOthersModel" "parts" "[I", .fieldLink RX7 22 "EndedByOthersModel" "rows" "[I", .methodLink RX7 152 yX7_whichOf, .instanceMethod yX7_whichOf, .selects RX7 yX7_whichOf yX7_whichOf, .initialized RX7, .code yX7_whichOf cX7_whichOf 7 (some .int), .fieldLink RX7 114 "EndedByOthersModel" "heardMany" "I", .fieldLink RX7 34 "EndedByOthersModel" "heards" "[I", .methodLink RX7 135 yX7_endsBy, .instanceMethod yX7_endsBy, .selects RX7 yX7_endsBy yX7_endsBy, .code yX7_endsBy cX7_endsBy 8 (some .int), .fieldLink RX7 19 "EndedByOthersModel" "fitting" "[I", .methodLink RX7 129 yX7_greatestOf, .static yX7_greatestOf, .code yX7_greatestOf cX7_greatestOf 3 (some .int), .methodLink RX7 132 yX7_leastOf, .static yX7_leastOf, .code yX7_leastOf cX7_leastOf 3 (some .int)] ++ wsX70)
def wsX7_tell_r1 : List Cond := [Cond.fieldLink RX7 22 "EndedByOthersModel" "rows" "[I", Cond.methodLink RX7 143 yX7_openOf, Cond.instanceMethod yX7_openOf, Cond.selects RX7 yX7_openOf yX7_openOf, Cond.initialized RX7, Cond.code yX7_openOf cX7_openOf 4 (some .int), Cond.fieldLink RX7 111 "EndedByOthersModel" "sentences" "I", Cond.fieldLink RX7 25 "EndedByOthersModel" "said" "[I", Cond.methodLink RX7 146 yX7_saidBy, Cond.instanceMethod yX7_saidBy, Cond.selects RX7 yX7_saidBy yX7_saidBy, Cond.code yX7_saidBy cX7_saidBy 5 (some .int), Cond.methodLink RX7 149 yX7_sureOf, Cond.instanceMethod yX7_sureOf, Cond.selects RX7 yX7_sureOf yX7_sureOf, Cond.code yX7_sureOf cX7_sureOf 8 (some .int), Cond.fieldLink RX7 101 "EndedByOthersModel" "speakers" "I", Cond.methodLink RX7 139 yX7_wouldOf, Cond.instanceMethod yX7_wouldOf, Cond.selects RX7 yX7_wouldOf yX7_wouldOf, Cond.code yX7_wouldOf cX7_wouldOf 3 (some .int), Cond.methodLink RX7 135 yX7_endsBy, Cond.instanceMethod yX7_endsBy, Cond.selects RX7 yX7_endsBy yX7_endsBy]
def wsX7_tell_r2 : List Cond := [Cond.code yX7_endsBy cX7_endsBy 8 (some .int), Cond.fieldLink RX7 19 "EndedByOthersModel" "fitting" "[I", Cond.methodLink RX7 129 yX7_greatestOf, Cond.static yX7_greatestOf, Cond.code yX7_greatestOf cX7_greatestOf 3 (some .int), Cond.methodLink RX7 132 yX7_leastOf, Cond.static yX7_leastOf, Cond.code yX7_leastOf cX7_leastOf 3 (some .int), Cond.methodLink RX7 152 yX7_whichOf, Cond.instanceMethod yX7_whichOf, Cond.selects RX7 yX7_whichOf yX7_whichOf, Cond.code yX7_whichOf cX7_whichOf 7 (some .int), Cond.fieldLink RX7 114 "EndedByOthersModel" "heardMany" "I", Cond.fieldLink RX7 34 "EndedByOthersModel" "heards" "[I", Cond.methodLink RX7 155 yX7_beginOf, Cond.instanceMethod yX7_beginOf, Cond.selects RX7 yX7_beginOf yX7_beginOf, Cond.code yX7_beginOf cX7_beginOf 9 (some .int), Cond.fieldLink RX7 37 "EndedByOthersModel" "parts" "[I"]
def wsX7_tell : List Cond := .code yX7_tell cX7_tell 3 (some .int) :: ((wsX7_tell_r1 ++ wsX7_tell_r2) ++ wsX70)
def wsX7_about_r1 : List Cond := [Cond.methodLink RX7 158 yX7_isSpeaker, Cond.instanceMethod yX7_isSpeaker, Cond.selects RX7 yX7_isSpeaker yX7_isSpeaker, Cond.initialized RX7, Cond.code yX7_isSpeaker cX7_isSpeaker 2 (some .boolean), Cond.fieldLink RX7 101 "EndedByOthersModel" "speakers" "I", Cond.methodLink RX7 58 yX7_in, Cond.static yX7_in, Cond.code yX7_in cX7_in 6 (some .boolean), Cond.methodLink RX7 161 yX7_tell, Cond.instanceMethod yX7_tell, Cond.selects RX7 yX7_tell yX7_tell, Cond.code yX7_tell cX7_tell 3 (some .int), Cond.fieldLink RX7 22 "EndedByOthersModel" "rows" "[I", Cond.methodLink RX7 143 yX7_openOf, Cond.instanceMethod yX7_openOf, Cond.selects RX7 yX7_openOf yX7_openOf, Cond.code yX7_openOf cX7_openOf 4 (some .int), Cond.fieldLink RX7 111 "EndedByOthersModel" "sentences" "I", Cond.fieldLink RX7 25 "EndedByOthersModel" "said" "[I", Cond.methodLink RX7 146 yX7_saidBy, Cond.instanceMethod yX7_saidBy, Cond.selects RX7 yX7_saidBy yX7_saidBy, Cond.code yX7_saidBy cX7_saidBy 5 (some .int)]
def wsX7_about_r2 : List Cond := [Cond.methodLink RX7 149 yX7_sureOf, Cond.instanceMethod yX7_sureOf, Cond.selects RX7 yX7_sureOf yX7_sureOf, Cond.code yX7_sureOf cX7_sureOf 8 (some .int), Cond.methodLink RX7 139 yX7_wouldOf, Cond.instanceMethod yX7_wouldOf, Cond.selects RX7 yX7_wouldOf yX7_wouldOf, Cond.code yX7_wouldOf cX7_wouldOf 3 (some .int), Cond.methodLink RX7 135 yX7_endsBy, Cond.instanceMethod yX7_endsBy, Cond.selects RX7 yX7_endsBy yX7_endsBy, Cond.code yX7_endsBy cX7_endsBy 8 (some .int), Cond.fieldLink RX7 19 "EndedByOthersModel" "fitting" "[I", Cond.methodLink RX7 129 yX7_greatestOf, Cond.static yX7_greatestOf, Cond.code yX7_greatestOf cX7_greatestOf 3 (some .int), Cond.methodLink RX7 132 yX7_leastOf, Cond.static yX7_leastOf, Cond.code yX7_leastOf cX7_leastOf 3 (some .int), Cond.methodLink RX7 152 yX7_whichOf, Cond.instanceMethod yX7_whichOf, Cond.selects RX7 yX7_whichOf yX7_whichOf, Cond.code yX7_whichOf cX7_whichOf 7 (some .int), Cond.fieldLink RX7 114 "EndedByOthersModel" "heardMany" "I"]
def wsX7_about_r3 : List Cond := [Cond.fieldLink RX7 34 "EndedByOthersModel" "heards" "[I", Cond.methodLink RX7 155 yX7_beginOf, Cond.instanceMethod yX7_beginOf, Cond.selects RX7 yX7_beginOf yX7_beginOf, Cond.code yX7_beginOf cX7_beginOf 9 (some .int), Cond.fieldLink RX7 37 "EndedByOthersModel" "parts" "[I"]
def wsX7_about : List Cond := .code yX7_about cX7_about 3 (some .int) :: ((wsX7_about_r1 ++ (wsX7_about_r2 ++ wsX7_about_r3)) ++ wsX70)
def wsX7_as : List Cond := .code yX7_as cX7_as 5 (some .int) :: ([.constantLong RX7 164 (4), .fieldLink RX7 22 "EndedByOthersModel" "rows" "[I", .methodLink RX7 158 yX7_isSpeaker, .instanceMethod yX7_isSpeaker, .selects RX7 yX7_isSpeaker yX7_isSpeaker, .initialized RX7, .code yX7_isSpeaker cX7_isSpeaker 2 (some .boolean), .fieldLink RX7 101 "EndedByOthersModel" "speakers" "I", .methodLink RX7 58 yX7_in, .static yX7_in, .code yX7_in cX7_in 6 (some .boolean)] ++ wsX70)
def wsX7_want : List Cond := .code yX7_want cX7_want 4 (some .int) :: ([.constantLong RX7 74 (5), .fieldLink RX7 22 "EndedByOthersModel" "rows" "[I", .fieldLink RX7 108 "EndedByOthersModel" "wants" "I", .methodLink RX7 158 yX7_isSpeaker, .instanceMethod yX7_isSpeaker, .selects RX7 yX7_isSpeaker yX7_isSpeaker, .initialized RX7, .code yX7_isSpeaker cX7_isSpeaker 2 (some .boolean), .fieldLink RX7 101 "EndedByOthersModel" "speakers" "I", .methodLink RX7 58 yX7_in, .static yX7_in, .code yX7_in cX7_in 6 (some .boolean)] ++ wsX70)
def wsX7_would_r1 : List Cond := [Cond.methodLink RX7 158 yX7_isSpeaker, Cond.instanceMethod yX7_isSpeaker, Cond.selects RX7 yX7_isSpeaker yX7_isSpeaker, Cond.initialized RX7, Cond.code yX7_isSpeaker cX7_isSpeaker 2 (some .boolean), Cond.fieldLink RX7 101 "EndedByOthersModel" "speakers" "I", Cond.methodLink RX7 58 yX7_in, Cond.static yX7_in, Cond.code yX7_in cX7_in 6 (some .boolean), Cond.methodLink RX7 126 yX7_isOpening, Cond.instanceMethod yX7_isOpening, Cond.selects RX7 yX7_isOpening yX7_isOpening, Cond.code yX7_isOpening cX7_isOpening 2 (some .boolean), Cond.constantLong RX7 124 (3), Cond.methodLink RX7 120 yX7_lacks, Cond.instanceMethod yX7_lacks, Cond.selects RX7 yX7_lacks yX7_lacks, Cond.code yX7_lacks cX7_lacks 1 (some .boolean), Cond.methodLink RX7 139 yX7_wouldOf, Cond.instanceMethod yX7_wouldOf, Cond.selects RX7 yX7_wouldOf yX7_wouldOf, Cond.code yX7_wouldOf cX7_wouldOf 3 (some .int), Cond.fieldLink RX7 22 "EndedByOthersModel" "rows" "[I", Cond.methodLink RX7 135 yX7_endsBy]
def wsX7_would_r2 : List Cond := [Cond.instanceMethod yX7_endsBy, Cond.selects RX7 yX7_endsBy yX7_endsBy, Cond.code yX7_endsBy cX7_endsBy 8 (some .int), Cond.fieldLink RX7 19 "EndedByOthersModel" "fitting" "[I", Cond.methodLink RX7 129 yX7_greatestOf, Cond.static yX7_greatestOf, Cond.code yX7_greatestOf cX7_greatestOf 3 (some .int), Cond.methodLink RX7 132 yX7_leastOf, Cond.static yX7_leastOf, Cond.code yX7_leastOf cX7_leastOf 3 (some .int)]
def wsX7_would : List Cond := .code yX7_would cX7_would 3 (some .int) :: ((wsX7_would_r1 ++ wsX7_would_r2) ++ wsX70)
def wsX7_isSentence : List Cond := .code yX7_isSentence cX7_isSentence 2 (some .boolean) :: ([.fieldLink RX7 111 "EndedByOthersModel" "sentences" "I", .methodLink RX7 58 yX7_in, .static yX7_in, .initialized RX7, .code yX7_in cX7_in 6 (some .boolean)] ++ wsX70)
def wsX7_begin : List Cond := .code yX7_begin cX7_begin 3 (some .int) :: ([.fieldLink RX7 111 "EndedByOthersModel" "sentences" "I", .fieldLink RX7 25 "EndedByOthersModel" "said" "[I", .methodLink RX7 158 yX7_isSpeaker, .instanceMethod yX7_isSpeaker, .selects RX7 yX7_isSpeaker yX7_isSpeaker, .initialized RX7, .code yX7_isSpeaker cX7_isSpeaker 2 (some .boolean), .fieldLink RX7 101 "EndedByOthersModel" "speakers" "I", .methodLink RX7 58 yX7_in, .static yX7_in, .code yX7_in cX7_in 6 (some .boolean), .methodLink RX7 126 yX7_isOpening, .instanceMethod yX7_isOpening, .selects RX7 yX7_isOpening yX7_isOpening, .code yX7_isOpening cX7_isOpening 2 (some .boolean), .constantLong RX7 124 (3), .methodLink RX7 120 yX7_lacks, .instanceMethod yX7_lacks, .selects RX7 yX7_lacks yX7_lacks, .code yX7_lacks cX7_lacks 1 (some .boolean), .methodLink RX7 143 yX7_openOf, .instanceMethod yX7_openOf, .selects RX7 yX7_openOf yX7_openOf, .code yX7_openOf cX7_openOf 4 (some .int)] ++ wsX70)
def wsX7_end_r1 : List Cond := [Cond.fieldLink RX7 25 "EndedByOthersModel" "said" "[I", Cond.fieldLink RX7 22 "EndedByOthersModel" "rows" "[I", Cond.methodLink RX7 166 yX7_isSentence, Cond.instanceMethod yX7_isSentence, Cond.selects RX7 yX7_isSentence yX7_isSentence, Cond.initialized RX7, Cond.code yX7_isSentence cX7_isSentence 2 (some .boolean), Cond.fieldLink RX7 111 "EndedByOthersModel" "sentences" "I", Cond.methodLink RX7 58 yX7_in, Cond.static yX7_in, Cond.code yX7_in cX7_in 6 (some .boolean), Cond.methodLink RX7 158 yX7_isSpeaker, Cond.instanceMethod yX7_isSpeaker, Cond.selects RX7 yX7_isSpeaker yX7_isSpeaker, Cond.code yX7_isSpeaker cX7_isSpeaker 2 (some .boolean), Cond.fieldLink RX7 101 "EndedByOthersModel" "speakers" "I", Cond.methodLink RX7 139 yX7_wouldOf, Cond.instanceMethod yX7_wouldOf, Cond.selects RX7 yX7_wouldOf yX7_wouldOf, Cond.code yX7_wouldOf cX7_wouldOf 3 (some .int), Cond.methodLink RX7 135 yX7_endsBy, Cond.instanceMethod yX7_endsBy, Cond.selects RX7 yX7_endsBy yX7_endsBy, Cond.code yX7_endsBy cX7_endsBy 8 (some .int)]
def wsX7_end_r2 : List Cond := [Cond.fieldLink RX7 19 "EndedByOthersModel" "fitting" "[I", Cond.methodLink RX7 129 yX7_greatestOf, Cond.static yX7_greatestOf, Cond.code yX7_greatestOf cX7_greatestOf 3 (some .int), Cond.methodLink RX7 132 yX7_leastOf, Cond.static yX7_leastOf, Cond.code yX7_leastOf cX7_leastOf 3 (some .int)]
def wsX7_end : List Cond := .code yX7_end cX7_end 4 (some .int) :: ((wsX7_end_r1 ++ wsX7_end_r2) ++ wsX70)
def wsX7_isWanted : List Cond := .code yX7_isWanted cX7_isWanted 2 (some .boolean) :: ([.fieldLink RX7 25 "EndedByOthersModel" "said" "[I", .fieldLink RX7 22 "EndedByOthersModel" "rows" "[I"] ++ wsX70)
def wsX7_tellSentence : List Cond := .code yX7_tellSentence cX7_tellSentence 3 (some .int) :: ([.constantLong RX7 124 (3), .fieldLink RX7 25 "EndedByOthersModel" "said" "[I", .methodLink RX7 58 yX7_in, .static yX7_in, .initialized RX7, .code yX7_in cX7_in 6 (some .boolean), .methodLink RX7 169 yX7_isWanted, .instanceMethod yX7_isWanted, .selects RX7 yX7_isWanted yX7_isWanted, .code yX7_isWanted cX7_isWanted 2 (some .boolean), .fieldLink RX7 22 "EndedByOthersModel" "rows" "[I"] ++ wsX70)
def wsX7_sentence : List Cond := .code yX7_sentence cX7_sentence 3 (some .int) :: ([.methodLink RX7 166 yX7_isSentence, .instanceMethod yX7_isSentence, .selects RX7 yX7_isSentence yX7_isSentence, .initialized RX7, .code yX7_isSentence cX7_isSentence 2 (some .boolean), .fieldLink RX7 111 "EndedByOthersModel" "sentences" "I", .methodLink RX7 58 yX7_in, .static yX7_in, .code yX7_in cX7_in 6 (some .boolean), .methodLink RX7 172 yX7_tellSentence, .instanceMethod yX7_tellSentence, .selects RX7 yX7_tellSentence yX7_tellSentence, .code yX7_tellSentence cX7_tellSentence 3 (some .int), .constantLong RX7 124 (3), .fieldLink RX7 25 "EndedByOthersModel" "said" "[I", .methodLink RX7 169 yX7_isWanted, .instanceMethod yX7_isWanted, .selects RX7 yX7_isWanted yX7_isWanted, .code yX7_isWanted cX7_isWanted 2 (some .boolean), .fieldLink RX7 22 "EndedByOthersModel" "rows" "[I"] ++ wsX70)
def wsX7_endsAsWanted : List Cond := .code yX7_endsAsWanted cX7_endsAsWanted 4 (some .boolean) :: ([.fieldLink RX7 25 "EndedByOthersModel" "said" "[I", .fieldLink RX7 22 "EndedByOthersModel" "rows" "[I", .methodLink RX7 139 yX7_wouldOf, .instanceMethod yX7_wouldOf, .selects RX7 yX7_wouldOf yX7_wouldOf, .initialized RX7, .code yX7_wouldOf cX7_wouldOf 3 (some .int), .methodLink RX7 135 yX7_endsBy, .instanceMethod yX7_endsBy, .selects RX7 yX7_endsBy yX7_endsBy, .code yX7_endsBy cX7_endsBy 8 (some .int), .fieldLink RX7 19 "EndedByOthersModel" "fitting" "[I", .methodLink RX7 129 yX7_greatestOf, .static yX7_greatestOf, .code yX7_greatestOf cX7_greatestOf 3 (some .int), .methodLink RX7 132 yX7_leastOf, .static yX7_leastOf, .code yX7_leastOf cX7_leastOf 3 (some .int)] ++ wsX70)
def wsX7_layRow_r1 : List Cond := [Cond.fieldLink RX7 101 "EndedByOthersModel" "speakers" "I", Cond.fieldLink RX7 28 "EndedByOthersModel" "row" "[I", Cond.fieldLink RX7 111 "EndedByOthersModel" "sentences" "I", Cond.methodLink RX7 175 yX7_endsAsWanted, Cond.instanceMethod yX7_endsAsWanted, Cond.selects RX7 yX7_endsAsWanted yX7_endsAsWanted, Cond.initialized RX7, Cond.code yX7_endsAsWanted cX7_endsAsWanted 4 (some .boolean), Cond.fieldLink RX7 25 "EndedByOthersModel" "said" "[I", Cond.fieldLink RX7 22 "EndedByOthersModel" "rows" "[I", Cond.methodLink RX7 139 yX7_wouldOf, Cond.instanceMethod yX7_wouldOf, Cond.selects RX7 yX7_wouldOf yX7_wouldOf, Cond.code yX7_wouldOf cX7_wouldOf 3 (some .int), Cond.methodLink RX7 135 yX7_endsBy, Cond.instanceMethod yX7_endsBy, Cond.selects RX7 yX7_endsBy yX7_endsBy, Cond.code yX7_endsBy cX7_endsBy 8 (some .int), Cond.fieldLink RX7 19 "EndedByOthersModel" "fitting" "[I", Cond.methodLink RX7 129 yX7_greatestOf, Cond.static yX7_greatestOf, Cond.code yX7_greatestOf cX7_greatestOf 3 (some .int), Cond.methodLink RX7 132 yX7_leastOf, Cond.static yX7_leastOf]
def wsX7_layRow_r2 : List Cond := [Cond.code yX7_leastOf cX7_leastOf 3 (some .int)]
def wsX7_layRow : List Cond := .code yX7_layRow cX7_layRow 6 (some .boolean) :: ((wsX7_layRow_r1 ++ wsX7_layRow_r2) ++ wsX70)
def wsX7_matchOf_r1 : List Cond := [Cond.fieldLink RX7 101 "EndedByOthersModel" "speakers" "I", Cond.fieldLink RX7 111 "EndedByOthersModel" "sentences" "I", Cond.fieldLink RX7 28 "EndedByOthersModel" "row" "[I", Cond.fieldLink RX7 31 "EndedByOthersModel" "bestRow" "[I", Cond.methodLink RX7 179 yX7_layRow, Cond.instanceMethod yX7_layRow, Cond.selects RX7 yX7_layRow yX7_layRow, Cond.initialized RX7, Cond.code yX7_layRow cX7_layRow 6 (some .boolean), Cond.methodLink RX7 175 yX7_endsAsWanted, Cond.instanceMethod yX7_endsAsWanted, Cond.selects RX7 yX7_endsAsWanted yX7_endsAsWanted, Cond.code yX7_endsAsWanted cX7_endsAsWanted 4 (some .boolean), Cond.fieldLink RX7 25 "EndedByOthersModel" "said" "[I", Cond.fieldLink RX7 22 "EndedByOthersModel" "rows" "[I", Cond.methodLink RX7 139 yX7_wouldOf, Cond.instanceMethod yX7_wouldOf, Cond.selects RX7 yX7_wouldOf yX7_wouldOf, Cond.code yX7_wouldOf cX7_wouldOf 3 (some .int), Cond.methodLink RX7 135 yX7_endsBy, Cond.instanceMethod yX7_endsBy, Cond.selects RX7 yX7_endsBy yX7_endsBy, Cond.code yX7_endsBy cX7_endsBy 8 (some .int), Cond.fieldLink RX7 19 "EndedByOthersModel" "fitting" "[I"]
def wsX7_matchOf_r2 : List Cond := [Cond.methodLink RX7 129 yX7_greatestOf, Cond.static yX7_greatestOf, Cond.code yX7_greatestOf cX7_greatestOf 3 (some .int), Cond.methodLink RX7 132 yX7_leastOf, Cond.static yX7_leastOf, Cond.code yX7_leastOf cX7_leastOf 3 (some .int), Cond.methodLink RX7 104 yX7_copy, Cond.static yX7_copy, Cond.code yX7_copy cX7_copy 3 none]
def wsX7_matchOf : List Cond := .code yX7_matchOf cX7_matchOf 7 (some .int) :: ((wsX7_matchOf_r1 ++ wsX7_matchOf_r2) ++ wsX70)
def wsX7_match_r1 : List Cond := [Cond.constantLong RX7 182 (10), Cond.constantLong RX7 184 (13), Cond.methodLink RX7 58 yX7_in, Cond.static yX7_in, Cond.initialized RX7, Cond.code yX7_in cX7_in 6 (some .boolean), Cond.methodLink RX7 120 yX7_lacks, Cond.instanceMethod yX7_lacks, Cond.selects RX7 yX7_lacks yX7_lacks, Cond.code yX7_lacks cX7_lacks 1 (some .boolean), Cond.fieldLink RX7 101 "EndedByOthersModel" "speakers" "I", Cond.methodLink RX7 186 yX7_matchOf, Cond.instanceMethod yX7_matchOf, Cond.selects RX7 yX7_matchOf yX7_matchOf, Cond.code yX7_matchOf cX7_matchOf 7 (some .int), Cond.fieldLink RX7 111 "EndedByOthersModel" "sentences" "I", Cond.fieldLink RX7 28 "EndedByOthersModel" "row" "[I", Cond.fieldLink RX7 31 "EndedByOthersModel" "bestRow" "[I", Cond.methodLink RX7 179 yX7_layRow, Cond.instanceMethod yX7_layRow, Cond.selects RX7 yX7_layRow yX7_layRow, Cond.code yX7_layRow cX7_layRow 6 (some .boolean), Cond.methodLink RX7 175 yX7_endsAsWanted, Cond.instanceMethod yX7_endsAsWanted]
def wsX7_match_r2 : List Cond := [Cond.selects RX7 yX7_endsAsWanted yX7_endsAsWanted, Cond.code yX7_endsAsWanted cX7_endsAsWanted 4 (some .boolean), Cond.fieldLink RX7 25 "EndedByOthersModel" "said" "[I", Cond.fieldLink RX7 22 "EndedByOthersModel" "rows" "[I", Cond.methodLink RX7 139 yX7_wouldOf, Cond.instanceMethod yX7_wouldOf, Cond.selects RX7 yX7_wouldOf yX7_wouldOf, Cond.code yX7_wouldOf cX7_wouldOf 3 (some .int), Cond.methodLink RX7 135 yX7_endsBy, Cond.instanceMethod yX7_endsBy, Cond.selects RX7 yX7_endsBy yX7_endsBy, Cond.code yX7_endsBy cX7_endsBy 8 (some .int), Cond.fieldLink RX7 19 "EndedByOthersModel" "fitting" "[I", Cond.methodLink RX7 129 yX7_greatestOf, Cond.static yX7_greatestOf, Cond.code yX7_greatestOf cX7_greatestOf 3 (some .int), Cond.methodLink RX7 132 yX7_leastOf, Cond.static yX7_leastOf, Cond.code yX7_leastOf cX7_leastOf 3 (some .int), Cond.methodLink RX7 104 yX7_copy, Cond.static yX7_copy, Cond.code yX7_copy cX7_copy 3 none]
def wsX7_match : List Cond := .code yX7_match cX7_match 2 (some .int) :: ((wsX7_match_r1 ++ wsX7_match_r2) ++ wsX70)
def wsX7_hear : List Cond := .code yX7_hear cX7_hear 4 (some .int) :: ([.constantLong RX7 189 (-1), .constantLong RX7 74 (5), .fieldLink RX7 114 "EndedByOthersModel" "heardMany" "I", .fieldLink RX7 34 "EndedByOthersModel" "heards" "[I", .methodLink RX7 158 yX7_isSpeaker, .instanceMethod yX7_isSpeaker, .selects RX7 yX7_isSpeaker yX7_isSpeaker, .initialized RX7, .code yX7_isSpeaker cX7_isSpeaker 2 (some .boolean), .fieldLink RX7 101 "EndedByOthersModel" "speakers" "I", .methodLink RX7 58 yX7_in, .static yX7_in, .code yX7_in cX7_in 6 (some .boolean), .methodLink RX7 126 yX7_isOpening, .instanceMethod yX7_isOpening, .selects RX7 yX7_isOpening yX7_isOpening, .code yX7_isOpening cX7_isOpening 2 (some .boolean), .constantLong RX7 124 (3), .methodLink RX7 120 yX7_lacks, .instanceMethod yX7_lacks, .selects RX7 yX7_lacks yX7_lacks, .code yX7_lacks cX7_lacks 1 (some .boolean)] ++ wsX70)
def wsX7_forget : List Cond := .code yX7_forget cX7_forget 2 (some .int) :: ([.fieldLink RX7 114 "EndedByOthersModel" "heardMany" "I"] ++ wsX70)
def wsX7_draw : List Cond := .code yX7_draw cX7_draw 2 (some .int) :: ([.constantLong RX7 191 (1103515245), .fieldLink RX7 193 "EndedByOthersModel" "seedNow" "I", .constantLong RX7 196 (12345), .constantLong RX7 198 (2147483647), .constant RX7 200 (65536)] ++ wsX70)
def wsX7_talks_r1 : List Cond := [Cond.constantLong RX7 201 (60), Cond.constantLong RX7 203 (2), Cond.fieldLink RX7 22 "EndedByOthersModel" "rows" "[I", Cond.fieldLink RX7 40 "EndedByOthersModel" "savedRows" "[I", Cond.fieldLink RX7 193 "EndedByOthersModel" "seedNow" "I", Cond.fieldLink RX7 101 "EndedByOthersModel" "speakers" "I", Cond.methodLink RX7 58 yX7_in, Cond.static yX7_in, Cond.initialized RX7, Cond.code yX7_in cX7_in 6 (some .boolean), Cond.methodLink RX7 120 yX7_lacks, Cond.instanceMethod yX7_lacks, Cond.selects RX7 yX7_lacks yX7_lacks, Cond.code yX7_lacks cX7_lacks 1 (some .boolean), Cond.methodLink RX7 104 yX7_copy, Cond.static yX7_copy, Cond.code yX7_copy cX7_copy 3 none, Cond.methodLink RX7 205 yX7_draw, Cond.instanceMethod yX7_draw, Cond.selects RX7 yX7_draw yX7_draw, Cond.code yX7_draw cX7_draw 2 (some .int), Cond.constantLong RX7 191 (1103515245), Cond.constantLong RX7 196 (12345), Cond.constantLong RX7 198 (2147483647)]
def wsX7_talks_r2 : List Cond := [Cond.constant RX7 200 (65536), Cond.methodLink RX7 139 yX7_wouldOf, Cond.instanceMethod yX7_wouldOf, Cond.selects RX7 yX7_wouldOf yX7_wouldOf, Cond.code yX7_wouldOf cX7_wouldOf 3 (some .int), Cond.methodLink RX7 135 yX7_endsBy, Cond.instanceMethod yX7_endsBy, Cond.selects RX7 yX7_endsBy yX7_endsBy, Cond.code yX7_endsBy cX7_endsBy 8 (some .int), Cond.fieldLink RX7 19 "EndedByOthersModel" "fitting" "[I", Cond.methodLink RX7 129 yX7_greatestOf, Cond.static yX7_greatestOf, Cond.code yX7_greatestOf cX7_greatestOf 3 (some .int), Cond.methodLink RX7 132 yX7_leastOf, Cond.static yX7_leastOf, Cond.code yX7_leastOf cX7_leastOf 3 (some .int)]
def wsX7_talks : List Cond := .code yX7_talks cX7_talks 11 (some .int) :: ((wsX7_talks_r1 ++ wsX7_talks_r2) ++ wsX70)
def wsX7_image : List Cond := .code yX7_image cX7_image 1 (some .int) :: ([.fieldLink RX7 22 "EndedByOthersModel" "rows" "[I", .fieldLink RX7 43 "EndedByOthersModel" "keptRows" "[I", .fieldLink RX7 25 "EndedByOthersModel" "said" "[I", .fieldLink RX7 46 "EndedByOthersModel" "keptSaid" "[I", .fieldLink RX7 34 "EndedByOthersModel" "heards" "[I", .fieldLink RX7 49 "EndedByOthersModel" "keptHeards" "[I", .fieldLink RX7 111 "EndedByOthersModel" "sentences" "I", .fieldLink RX7 208 "EndedByOthersModel" "keptSentences" "I", .fieldLink RX7 108 "EndedByOthersModel" "wants" "I", .fieldLink RX7 211 "EndedByOthersModel" "keptWants" "I", .fieldLink RX7 114 "EndedByOthersModel" "heardMany" "I", .fieldLink RX7 214 "EndedByOthersModel" "keptHeard" "I", .fieldLink RX7 117 "EndedByOthersModel" "roomsRead" "I", .fieldLink RX7 52 "EndedByOthersModel" "keptRoom" "I", .methodLink RX7 120 yX7_lacks, .instanceMethod yX7_lacks, .selects RX7 yX7_lacks yX7_lacks, .initialized RX7, .code yX7_lacks cX7_lacks 1 (some .boolean), .fieldLink RX7 101 "EndedByOthersModel" "speakers" "I", .methodLink RX7 104 yX7_copy, .static yX7_copy, .code yX7_copy cX7_copy 3 none] ++ wsX70)
def wsX7_restore : List Cond := .code yX7_restore cX7_restore 1 (some .int) :: ([.fieldLink RX7 52 "EndedByOthersModel" "keptRoom" "I", .fieldLink RX7 117 "EndedByOthersModel" "roomsRead" "I", .fieldLink RX7 43 "EndedByOthersModel" "keptRows" "[I", .fieldLink RX7 22 "EndedByOthersModel" "rows" "[I", .fieldLink RX7 46 "EndedByOthersModel" "keptSaid" "[I", .fieldLink RX7 25 "EndedByOthersModel" "said" "[I", .fieldLink RX7 49 "EndedByOthersModel" "keptHeards" "[I", .fieldLink RX7 34 "EndedByOthersModel" "heards" "[I", .fieldLink RX7 208 "EndedByOthersModel" "keptSentences" "I", .fieldLink RX7 111 "EndedByOthersModel" "sentences" "I", .fieldLink RX7 211 "EndedByOthersModel" "keptWants" "I", .fieldLink RX7 108 "EndedByOthersModel" "wants" "I", .fieldLink RX7 214 "EndedByOthersModel" "keptHeard" "I", .fieldLink RX7 114 "EndedByOthersModel" "heardMany" "I", .methodLink RX7 104 yX7_copy, .static yX7_copy, .initialized RX7, .code yX7_copy cX7_copy 3 none] ++ wsX70)
def wsX7_wantedMany : List Cond := .code yX7_wantedMany cX7_wantedMany 3 (some .int) :: ([.fieldLink RX7 111 "EndedByOthersModel" "sentences" "I", .methodLink RX7 169 yX7_isWanted, .instanceMethod yX7_isWanted, .selects RX7 yX7_isWanted yX7_isWanted, .initialized RX7, .code yX7_isWanted cX7_isWanted 2 (some .boolean), .fieldLink RX7 25 "EndedByOthersModel" "said" "[I", .fieldLink RX7 22 "EndedByOthersModel" "rows" "[I"] ++ wsX70)
def wsX7_unlike : List Cond := .code yX7_unlike cX7_unlike 3 (some .int) :: ([.fieldLink RX7 111 "EndedByOthersModel" "sentences" "I", .fieldLink RX7 25 "EndedByOthersModel" "said" "[I", .methodLink RX7 217 yX7_ones, .static yX7_ones, .initialized RX7, .code yX7_ones cX7_ones 3 (some .int)] ++ wsX70)
def wsX7_countOf_r1 : List Cond := [Cond.fieldLink RX7 101 "EndedByOthersModel" "speakers" "I", Cond.fieldLink RX7 111 "EndedByOthersModel" "sentences" "I", Cond.fieldLink RX7 108 "EndedByOthersModel" "wants" "I", Cond.fieldLink RX7 114 "EndedByOthersModel" "heardMany" "I", Cond.fieldLink RX7 62 "EndedByOthersModel" "pageMany" "I", Cond.fieldLink RX7 117 "EndedByOthersModel" "roomsRead" "I", Cond.methodLink RX7 146 yX7_saidBy, Cond.instanceMethod yX7_saidBy, Cond.selects RX7 yX7_saidBy yX7_saidBy, Cond.initialized RX7, Cond.code yX7_saidBy cX7_saidBy 5 (some .int), Cond.fieldLink RX7 25 "EndedByOthersModel" "said" "[I", Cond.methodLink RX7 220 yX7_wantedMany, Cond.instanceMethod yX7_wantedMany, Cond.selects RX7 yX7_wantedMany yX7_wantedMany, Cond.code yX7_wantedMany cX7_wantedMany 3 (some .int), Cond.methodLink RX7 169 yX7_isWanted, Cond.instanceMethod yX7_isWanted, Cond.selects RX7 yX7_isWanted yX7_isWanted, Cond.code yX7_isWanted cX7_isWanted 2 (some .boolean), Cond.fieldLink RX7 22 "EndedByOthersModel" "rows" "[I", Cond.methodLink RX7 223 yX7_unlike, Cond.instanceMethod yX7_unlike, Cond.selects RX7 yX7_unlike yX7_unlike]
def wsX7_countOf_r2 : List Cond := [Cond.code yX7_unlike cX7_unlike 3 (some .int), Cond.methodLink RX7 217 yX7_ones, Cond.static yX7_ones, Cond.code yX7_ones cX7_ones 3 (some .int)]
def wsX7_countOf : List Cond := .code yX7_countOf cX7_countOf 2 (some .int) :: ((wsX7_countOf_r1 ++ wsX7_countOf_r2) ++ wsX70)
def wsX7_count_r1 : List Cond := [Cond.methodLink RX7 226 yX7_countOf, Cond.instanceMethod yX7_countOf, Cond.selects RX7 yX7_countOf yX7_countOf, Cond.initialized RX7, Cond.code yX7_countOf cX7_countOf 2 (some .int), Cond.fieldLink RX7 101 "EndedByOthersModel" "speakers" "I", Cond.fieldLink RX7 111 "EndedByOthersModel" "sentences" "I", Cond.fieldLink RX7 108 "EndedByOthersModel" "wants" "I", Cond.fieldLink RX7 114 "EndedByOthersModel" "heardMany" "I", Cond.fieldLink RX7 62 "EndedByOthersModel" "pageMany" "I", Cond.fieldLink RX7 117 "EndedByOthersModel" "roomsRead" "I", Cond.methodLink RX7 146 yX7_saidBy, Cond.instanceMethod yX7_saidBy, Cond.selects RX7 yX7_saidBy yX7_saidBy, Cond.code yX7_saidBy cX7_saidBy 5 (some .int), Cond.fieldLink RX7 25 "EndedByOthersModel" "said" "[I", Cond.methodLink RX7 220 yX7_wantedMany, Cond.instanceMethod yX7_wantedMany, Cond.selects RX7 yX7_wantedMany yX7_wantedMany, Cond.code yX7_wantedMany cX7_wantedMany 3 (some .int), Cond.methodLink RX7 169 yX7_isWanted, Cond.instanceMethod yX7_isWanted, Cond.selects RX7 yX7_isWanted yX7_isWanted, Cond.code yX7_isWanted cX7_isWanted 2 (some .boolean)]
def wsX7_count_r2 : List Cond := [Cond.fieldLink RX7 22 "EndedByOthersModel" "rows" "[I", Cond.methodLink RX7 223 yX7_unlike, Cond.instanceMethod yX7_unlike, Cond.selects RX7 yX7_unlike yX7_unlike, Cond.code yX7_unlike cX7_unlike 3 (some .int), Cond.methodLink RX7 217 yX7_ones, Cond.static yX7_ones, Cond.code yX7_ones cX7_ones 3 (some .int)]
def wsX7_count : List Cond := .code yX7_count cX7_count 2 (some .int) :: ((wsX7_count_r1 ++ wsX7_count_r2) ++ wsX70)
def wsX7_say : List Cond := .code yX7_say cX7_say 3 none :: ([.constantLong RX7 229 (31), .fieldLink RX7 231 "EndedByOthersModel" "hash" "J"] ++ wsX70)
def wsX7_saySpeaker_r1 : List Cond := [Cond.methodLink RX7 161 yX7_tell, Cond.instanceMethod yX7_tell, Cond.selects RX7 yX7_tell yX7_tell, Cond.initialized RX7, Cond.code yX7_tell cX7_tell 3 (some .int), Cond.fieldLink RX7 22 "EndedByOthersModel" "rows" "[I", Cond.methodLink RX7 143 yX7_openOf, Cond.instanceMethod yX7_openOf, Cond.selects RX7 yX7_openOf yX7_openOf, Cond.code yX7_openOf cX7_openOf 4 (some .int), Cond.fieldLink RX7 111 "EndedByOthersModel" "sentences" "I", Cond.fieldLink RX7 25 "EndedByOthersModel" "said" "[I", Cond.methodLink RX7 146 yX7_saidBy, Cond.instanceMethod yX7_saidBy, Cond.selects RX7 yX7_saidBy yX7_saidBy, Cond.code yX7_saidBy cX7_saidBy 5 (some .int), Cond.methodLink RX7 149 yX7_sureOf, Cond.instanceMethod yX7_sureOf, Cond.selects RX7 yX7_sureOf yX7_sureOf, Cond.code yX7_sureOf cX7_sureOf 8 (some .int), Cond.fieldLink RX7 101 "EndedByOthersModel" "speakers" "I", Cond.methodLink RX7 139 yX7_wouldOf, Cond.instanceMethod yX7_wouldOf, Cond.selects RX7 yX7_wouldOf yX7_wouldOf]
def wsX7_saySpeaker_r2 : List Cond := [Cond.code yX7_wouldOf cX7_wouldOf 3 (some .int), Cond.methodLink RX7 135 yX7_endsBy, Cond.instanceMethod yX7_endsBy, Cond.selects RX7 yX7_endsBy yX7_endsBy, Cond.code yX7_endsBy cX7_endsBy 8 (some .int), Cond.fieldLink RX7 19 "EndedByOthersModel" "fitting" "[I", Cond.methodLink RX7 129 yX7_greatestOf, Cond.static yX7_greatestOf, Cond.code yX7_greatestOf cX7_greatestOf 3 (some .int), Cond.methodLink RX7 132 yX7_leastOf, Cond.static yX7_leastOf, Cond.code yX7_leastOf cX7_leastOf 3 (some .int), Cond.methodLink RX7 152 yX7_whichOf, Cond.instanceMethod yX7_whichOf, Cond.selects RX7 yX7_whichOf yX7_whichOf, Cond.code yX7_whichOf cX7_whichOf 7 (some .int), Cond.fieldLink RX7 114 "EndedByOthersModel" "heardMany" "I", Cond.fieldLink RX7 34 "EndedByOthersModel" "heards" "[I", Cond.methodLink RX7 155 yX7_beginOf, Cond.instanceMethod yX7_beginOf, Cond.selects RX7 yX7_beginOf yX7_beginOf, Cond.code yX7_beginOf cX7_beginOf 9 (some .int), Cond.fieldLink RX7 37 "EndedByOthersModel" "parts" "[I", Cond.methodLink RX7 235 yX7_say]
def wsX7_saySpeaker_r3 : List Cond := [Cond.instanceMethod yX7_say, Cond.selects RX7 yX7_say yX7_say, Cond.code yX7_say cX7_say 3 none, Cond.constantLong RX7 229 (31), Cond.fieldLink RX7 231 "EndedByOthersModel" "hash" "J"]
def wsX7_saySpeaker : List Cond := .code yX7_saySpeaker cX7_saySpeaker 3 none :: ((wsX7_saySpeaker_r1 ++ (wsX7_saySpeaker_r2 ++ wsX7_saySpeaker_r3)) ++ wsX70)
def wsX7_digest_r1 : List Cond := [Cond.constantLong RX7 239 (1021), Cond.fieldLink RX7 231 "EndedByOthersModel" "hash" "J", Cond.fieldLink RX7 19 "EndedByOthersModel" "fitting" "[I", Cond.fieldLink RX7 101 "EndedByOthersModel" "speakers" "I", Cond.fieldLink RX7 111 "EndedByOthersModel" "sentences" "I", Cond.fieldLink RX7 62 "EndedByOthersModel" "pageMany" "I", Cond.fieldLink RX7 7 "EndedByOthersModel" "page" "[I", Cond.methodLink RX7 120 yX7_lacks, Cond.instanceMethod yX7_lacks, Cond.selects RX7 yX7_lacks yX7_lacks, Cond.initialized RX7, Cond.code yX7_lacks cX7_lacks 1 (some .boolean), Cond.methodLink RX7 235 yX7_say, Cond.instanceMethod yX7_say, Cond.selects RX7 yX7_say yX7_say, Cond.code yX7_say cX7_say 3 none, Cond.constantLong RX7 229 (31), Cond.methodLink RX7 241 yX7_saySpeaker, Cond.instanceMethod yX7_saySpeaker, Cond.selects RX7 yX7_saySpeaker yX7_saySpeaker, Cond.code yX7_saySpeaker cX7_saySpeaker 3 none, Cond.methodLink RX7 161 yX7_tell, Cond.instanceMethod yX7_tell, Cond.selects RX7 yX7_tell yX7_tell]
def wsX7_digest_r2 : List Cond := [Cond.code yX7_tell cX7_tell 3 (some .int), Cond.fieldLink RX7 22 "EndedByOthersModel" "rows" "[I", Cond.methodLink RX7 143 yX7_openOf, Cond.instanceMethod yX7_openOf, Cond.selects RX7 yX7_openOf yX7_openOf, Cond.code yX7_openOf cX7_openOf 4 (some .int), Cond.fieldLink RX7 25 "EndedByOthersModel" "said" "[I", Cond.methodLink RX7 146 yX7_saidBy, Cond.instanceMethod yX7_saidBy, Cond.selects RX7 yX7_saidBy yX7_saidBy, Cond.code yX7_saidBy cX7_saidBy 5 (some .int), Cond.methodLink RX7 149 yX7_sureOf, Cond.instanceMethod yX7_sureOf, Cond.selects RX7 yX7_sureOf yX7_sureOf, Cond.code yX7_sureOf cX7_sureOf 8 (some .int), Cond.methodLink RX7 139 yX7_wouldOf, Cond.instanceMethod yX7_wouldOf, Cond.selects RX7 yX7_wouldOf yX7_wouldOf, Cond.code yX7_wouldOf cX7_wouldOf 3 (some .int), Cond.methodLink RX7 135 yX7_endsBy, Cond.instanceMethod yX7_endsBy, Cond.selects RX7 yX7_endsBy yX7_endsBy, Cond.code yX7_endsBy cX7_endsBy 8 (some .int), Cond.methodLink RX7 129 yX7_greatestOf]
def wsX7_digest_r3 : List Cond := [Cond.static yX7_greatestOf, Cond.code yX7_greatestOf cX7_greatestOf 3 (some .int), Cond.methodLink RX7 132 yX7_leastOf, Cond.static yX7_leastOf, Cond.code yX7_leastOf cX7_leastOf 3 (some .int), Cond.methodLink RX7 152 yX7_whichOf, Cond.instanceMethod yX7_whichOf, Cond.selects RX7 yX7_whichOf yX7_whichOf, Cond.code yX7_whichOf cX7_whichOf 7 (some .int), Cond.fieldLink RX7 114 "EndedByOthersModel" "heardMany" "I", Cond.fieldLink RX7 34 "EndedByOthersModel" "heards" "[I", Cond.methodLink RX7 155 yX7_beginOf, Cond.instanceMethod yX7_beginOf, Cond.selects RX7 yX7_beginOf yX7_beginOf, Cond.code yX7_beginOf cX7_beginOf 9 (some .int), Cond.fieldLink RX7 37 "EndedByOthersModel" "parts" "[I", Cond.methodLink RX7 172 yX7_tellSentence, Cond.instanceMethod yX7_tellSentence, Cond.selects RX7 yX7_tellSentence yX7_tellSentence, Cond.code yX7_tellSentence cX7_tellSentence 3 (some .int), Cond.constantLong RX7 124 (3), Cond.methodLink RX7 58 yX7_in, Cond.static yX7_in, Cond.code yX7_in cX7_in 6 (some .boolean)]
def wsX7_digest_r4 : List Cond := [Cond.methodLink RX7 169 yX7_isWanted, Cond.instanceMethod yX7_isWanted, Cond.selects RX7 yX7_isWanted yX7_isWanted, Cond.code yX7_isWanted cX7_isWanted 2 (some .boolean), Cond.methodLink RX7 186 yX7_matchOf, Cond.instanceMethod yX7_matchOf, Cond.selects RX7 yX7_matchOf yX7_matchOf, Cond.code yX7_matchOf cX7_matchOf 7 (some .int), Cond.fieldLink RX7 28 "EndedByOthersModel" "row" "[I", Cond.fieldLink RX7 31 "EndedByOthersModel" "bestRow" "[I", Cond.methodLink RX7 179 yX7_layRow, Cond.instanceMethod yX7_layRow, Cond.selects RX7 yX7_layRow yX7_layRow, Cond.code yX7_layRow cX7_layRow 6 (some .boolean), Cond.methodLink RX7 175 yX7_endsAsWanted, Cond.instanceMethod yX7_endsAsWanted, Cond.selects RX7 yX7_endsAsWanted yX7_endsAsWanted, Cond.code yX7_endsAsWanted cX7_endsAsWanted 4 (some .boolean), Cond.methodLink RX7 104 yX7_copy, Cond.static yX7_copy, Cond.code yX7_copy cX7_copy 3 none, Cond.methodLink RX7 226 yX7_countOf, Cond.instanceMethod yX7_countOf, Cond.selects RX7 yX7_countOf yX7_countOf]
def wsX7_digest_r5 : List Cond := [Cond.code yX7_countOf cX7_countOf 2 (some .int), Cond.fieldLink RX7 108 "EndedByOthersModel" "wants" "I", Cond.fieldLink RX7 117 "EndedByOthersModel" "roomsRead" "I", Cond.methodLink RX7 220 yX7_wantedMany, Cond.instanceMethod yX7_wantedMany, Cond.selects RX7 yX7_wantedMany yX7_wantedMany, Cond.code yX7_wantedMany cX7_wantedMany 3 (some .int), Cond.methodLink RX7 223 yX7_unlike, Cond.instanceMethod yX7_unlike, Cond.selects RX7 yX7_unlike yX7_unlike, Cond.code yX7_unlike cX7_unlike 3 (some .int), Cond.methodLink RX7 217 yX7_ones, Cond.static yX7_ones, Cond.code yX7_ones cX7_ones 3 (some .int)]
def wsX7_digest : List Cond := .code yX7_digest cX7_digest 3 (some .long) :: ((wsX7_digest_r1 ++ (wsX7_digest_r2 ++ (wsX7_digest_r3 ++ (wsX7_digest_r4 ++ wsX7_digest_r5)))) ++ wsX70)
def wsJ9_max_7cf53 : List Cond := .code yJ9_max_7cf53 cJ9_max_7cf53 2 (some .int) :: ([])
def wsJ9_min_7cf53 : List Cond := .code yJ9_min_7cf53 cJ9_min_7cf53 2 (some .int) :: ([])
def wsL_law_r1 : List Cond := [Cond.classLink RL 7 RX6, Cond.instantiable RX6 9, Cond.initialized RX6, Cond.classLink RL 10 RX7, Cond.instantiable RX7 31, Cond.initialized RX7, Cond.methodLink RL 9 yX6_init, Cond.instanceMethod yX6_init, Cond.code yX6_init cX6_init 1 none, Cond.methodLink RX6 1 objectInit, Cond.instanceMethod objectInit, Cond.code objectInit ⟨#[0xb1]⟩ 1 none, Cond.classLink RX6 7 RX1, Cond.instantiable RX1 2, Cond.initialized RX1, Cond.fieldLink RX6 10 "EndedByOthers" "page" "LEndedByOthers$Page;", Cond.classLink RX6 16 RX2, Cond.instantiable RX2 4, Cond.initialized RX2, Cond.fieldLink RX6 19 "EndedByOthers" "reader" "LEndedByOthers$Reader;", Cond.classLink RX6 23 RX3, Cond.instantiable RX3 4, Cond.initialized RX3, Cond.fieldLink RX6 26 "EndedByOthers" "room" "LEndedByOthers$Room;"]
def wsL_law_r2 : List Cond := [Cond.classLink RX6 30 RX4, Cond.instantiable RX4 11, Cond.initialized RX4, Cond.fieldLink RX6 33 "EndedByOthers" "scene" "LEndedByOthers$Scene;", Cond.fieldLink RX6 37 "EndedByOthers" "image" "LEndedByOthers$Scene;", Cond.classLink RX6 40 RX0, Cond.instantiable RX0 3, Cond.initialized RX0, Cond.fieldLink RX6 43 "EndedByOthers" "matching" "LEndedByOthers$Matching;", Cond.classLink RX6 47 RX5, Cond.instantiable RX5 4, Cond.initialized RX5, Cond.fieldLink RX6 50 "EndedByOthers" "trial" "LEndedByOthers$Trial;", Cond.fieldLink RX6 54 "EndedByOthers" "imageKept" "Z", Cond.fieldLink RX6 58 "EndedByOthers" "roomsRead" "I", Cond.instanceMethod yX1_init, Cond.code yX1_init cX1_init 1 none, Cond.methodLink RX1 3 objectInit, Cond.arrayClass .int, Cond.fieldLink RX1 9 "EndedByOthers$Page" "codes" "[I", Cond.fieldLink RX1 15 "EndedByOthers$Page" "length" "I", Cond.instanceMethod yX2_init, Cond.code yX2_init cX2_init 1 none, Cond.methodLink RX2 3 objectInit]
def wsL_law_r3 : List Cond := [Cond.classLink RX2 9 RX3, Cond.fieldLink RX2 12 "EndedByOthers$Reader" "draft" "LEndedByOthers$Room;", Cond.fieldLink RX2 18 "EndedByOthers$Reader" "opening" "I", Cond.fieldLink RX2 22 "EndedByOthers$Reader" "lettersOfPart" "I", Cond.fieldLink RX2 25 "EndedByOthers$Reader" "lastCode" "I", Cond.instanceMethod yX3_init, Cond.code yX3_init cX3_init 1 none, Cond.methodLink RX3 3 objectInit, Cond.fieldLink RX3 9 "EndedByOthers$Room" "fitting" "[I", Cond.fieldLink RX3 15 "EndedByOthers$Room" "kinds" "[I", Cond.fieldLink RX3 18 "EndedByOthers$Room" "wants" "[I", Cond.fieldLink RX3 21 "EndedByOthers$Room" "speakers" "I", Cond.instanceMethod yX4_init, Cond.code yX4_init cX4_init 1 none, Cond.methodLink RX4 3 objectInit, Cond.fieldLink RX4 9 "EndedByOthers$Scene" "wants" "[I", Cond.fieldLink RX4 15 "EndedByOthers$Scene" "beginners" "[I", Cond.fieldLink RX4 18 "EndedByOthers$Scene" "openings" "[I", Cond.fieldLink RX4 21 "EndedByOthers$Scene" "enders" "[I", Cond.fieldLink RX4 24 "EndedByOthers$Scene" "endings" "[I", Cond.fieldLink RX4 27 "EndedByOthers$Scene" "sentences" "I", Cond.fieldLink RX4 31 "EndedByOthers$Scene" "heardSpeakers" "[I", Cond.fieldLink RX4 34 "EndedByOthers$Scene" "heardOpenings" "[I", Cond.fieldLink RX4 37 "EndedByOthers$Scene" "heardEndings" "[I"]
def wsL_law_r4 : List Cond := [Cond.fieldLink RX4 40 "EndedByOthers$Scene" "heard" "I", Cond.fieldLink RX4 43 "EndedByOthers$Scene" "changes" "I", Cond.instanceMethod yX0_init, Cond.code yX0_init cX0_init 1 none, Cond.methodLink RX0 3 objectInit, Cond.fieldLink RX0 9 "EndedByOthers$Matching" "pleasing" "[I", Cond.fieldLink RX0 15 "EndedByOthers$Matching" "picks" "[I", Cond.fieldLink RX0 18 "EndedByOthers$Matching" "ended" "I", Cond.instanceMethod yX5_init, Cond.code yX5_init cX5_init 1 none, Cond.methodLink RX5 3 objectInit, Cond.fieldLink RX5 9 "EndedByOthers$Trial" "used" "[I", Cond.fieldLink RX5 15 "EndedByOthers$Trial" "seed" "J", Cond.fieldLink RX5 19 "EndedByOthers$Trial" "ended" "I", Cond.fieldLink RX5 23 "EndedByOthers$Trial" "asWanted" "I", Cond.methodLink RL 12 yX7_init, Cond.instanceMethod yX7_init, Cond.code yX7_init cX7_init 1 none, Cond.methodLink RX7 1 objectInit, Cond.fieldLink RX7 7 "EndedByOthersModel" "page" "[I", Cond.fieldLink RX7 13 "EndedByOthersModel" "readFits" "[I", Cond.fieldLink RX7 16 "EndedByOthersModel" "readRows" "[I", Cond.fieldLink RX7 19 "EndedByOthersModel" "fitting" "[I", Cond.fieldLink RX7 22 "EndedByOthersModel" "rows" "[I"]
def wsL_law_r5 : List Cond := [Cond.fieldLink RX7 25 "EndedByOthersModel" "said" "[I", Cond.fieldLink RX7 28 "EndedByOthersModel" "row" "[I", Cond.fieldLink RX7 31 "EndedByOthersModel" "bestRow" "[I", Cond.fieldLink RX7 34 "EndedByOthersModel" "heards" "[I", Cond.fieldLink RX7 37 "EndedByOthersModel" "parts" "[I", Cond.fieldLink RX7 40 "EndedByOthersModel" "savedRows" "[I", Cond.fieldLink RX7 43 "EndedByOthersModel" "keptRows" "[I", Cond.fieldLink RX7 46 "EndedByOthersModel" "keptSaid" "[I", Cond.fieldLink RX7 49 "EndedByOthersModel" "keptHeards" "[I", Cond.fieldLink RX7 52 "EndedByOthersModel" "keptRoom" "I", Cond.methodLink RL 13 yX6_letter, Cond.instanceMethod yX6_letter, Cond.selects RX6 yX6_letter yX6_letter, Cond.code yX6_letter cX6_letter 2 (some .int), Cond.fieldLink RX6 62 "EndedByOthers$Page" "length" "I", Cond.methodLink RX6 65 yX1_add, Cond.instanceMethod yX1_add, Cond.selects RX1 yX1_add yX1_add, Cond.code yX1_add cX1_add 2 none, Cond.methodLink RL 17 yX7_letter, Cond.instanceMethod yX7_letter, Cond.selects RX7 yX7_letter yX7_letter, Cond.code yX7_letter cX7_letter 2 (some .int), Cond.constantLong RX7 56 (126)]
def wsL_law_r6 : List Cond := [Cond.fieldLink RX7 62 "EndedByOthersModel" "pageMany" "I", Cond.methodLink RX7 58 yX7_in, Cond.static yX7_in, Cond.code yX7_in cX7_in 6 (some .boolean), Cond.methodLink RL 18 yX6_blank, Cond.instanceMethod yX6_blank, Cond.selects RX6 yX6_blank yX6_blank, Cond.code yX6_blank cX6_blank 2 (some .int), Cond.methodLink RL 22 yX7_blank, Cond.instanceMethod yX7_blank, Cond.selects RX7 yX7_blank yX7_blank, Cond.code yX7_blank cX7_blank 2 (some .int), Cond.methodLink RL 23 yX6_fault, Cond.instanceMethod yX6_fault, Cond.selects RX6 yX6_fault yX6_fault, Cond.code yX6_fault cX6_fault 1 (some .int), Cond.methodLink RX6 69 yX2_read, Cond.instanceMethod yX2_read, Cond.selects RX2 yX2_read yX2_read, Cond.code yX2_read cX2_read 3 (some .int), Cond.fieldLink RX2 34 "EndedByOthers$Page" "length" "I", Cond.fieldLink RX2 39 "EndedByOthers$Page" "codes" "[I", Cond.methodLink RX2 28 yX3_clear, Cond.instanceMethod yX3_clear]
def wsL_law_r7 : List Cond := [Cond.selects RX3 yX3_clear yX3_clear, Cond.code yX3_clear cX3_clear 2 none, Cond.methodLink RX2 31 yX2_startPart, Cond.instanceMethod yX2_startPart, Cond.selects RX2 yX2_startPart yX2_startPart, Cond.code yX2_startPart cX2_startPart 1 none, Cond.methodLink RX2 43 yX2_takes, Cond.instanceMethod yX2_takes, Cond.selects RX2 yX2_takes yX2_takes, Cond.code yX2_takes cX2_takes 2 (some .boolean), Cond.methodLink RX2 50 yX2_takesInOpening, Cond.instanceMethod yX2_takesInOpening, Cond.selects RX2 yX2_takesInOpening yX2_takesInOpening, Cond.code yX2_takesInOpening cX2_takesInOpening 3 (some .boolean), Cond.fieldLink RX2 59 "EndedByOthers$Room" "fitting" "[I", Cond.static yX6_isEnding, Cond.code yX6_isEnding cX6_isEnding 1 (some .boolean), Cond.methodLink RX2 53 yX2_takesInSpeaker, Cond.instanceMethod yX2_takesInSpeaker, Cond.selects RX2 yX2_takesInSpeaker yX2_takesInSpeaker, Cond.code yX2_takesInSpeaker cX2_takesInSpeaker 2 (some .boolean), Cond.methodLink RX2 64 yJ0_indexOf_0f7a4, Cond.instanceMethod yJ0_indexOf_0f7a4, Cond.selects RJ0 yJ0_indexOf_0f7a4 yJ0_indexOf_0f7a4]
def wsL_law_r8 : List Cond := [Cond.initialized RJ0, Cond.code yJ0_indexOf_0f7a4 cJ0_indexOf_0f7a4 2 (some .int), Cond.methodLink RJ0 633 yJ0_indexOf_7cf53, Cond.instanceMethod yJ0_indexOf_7cf53, Cond.selects RJ0 yJ0_indexOf_7cf53 yJ0_indexOf_7cf53, Cond.code yJ0_indexOf_7cf53 cJ0_indexOf_7cf53 3 (some .int), Cond.fieldLink RJ0 9 "java/lang/String" "value" "[B", Cond.methodLink RJ0 492 yJ0_isLatin1_aae02, Cond.instanceMethod yJ0_isLatin1_aae02, Cond.selects RJ0 yJ0_isLatin1_aae02 yJ0_isLatin1_aae02, Cond.code yJ0_isLatin1_aae02 cJ0_isLatin1_aae02 1 (some .boolean), Cond.fieldLink RJ0 38 "java/lang/String" "COMPACT_STRINGS" "Z", Cond.fieldLink RJ0 15 "java/lang/String" "coder" "B", Cond.methodLink RJ0 505 yJ0_length_8abf5, Cond.instanceMethod yJ0_length_8abf5, Cond.selects RJ0 yJ0_length_8abf5 yJ0_length_8abf5, Cond.code yJ0_length_8abf5 cJ0_length_8abf5 1 (some .int), Cond.methodLink RJ0 335 yJ0_coder_7d493, Cond.instanceMethod yJ0_coder_7d493, Cond.selects RJ0 yJ0_coder_7d493 yJ0_coder_7d493, Cond.code yJ0_coder_7d493 cJ0_coder_7d493 1 (some .byte), Cond.methodLink RJ0 637 yJ1_indexOf_4cfef, Cond.static yJ1_indexOf_4cfef, Cond.initialized RJ1]
def wsL_law_r9 : List Cond := [Cond.code yJ1_indexOf_4cfef cJ1_indexOf_4cfef 4 (some .int), Cond.methodLink RJ1 92 Lib.Math.max.name, Cond.static Lib.Math.max.name, Cond.initialized "java/lang/Math", Cond.code Lib.Math.max.name Lib.Math.max.code 2 (some .int), Cond.methodLink RJ1 38 Lib.Math.min.name, Cond.static Lib.Math.min.name, Cond.code Lib.Math.min.name Lib.Math.min.code 2 (some .int), Cond.methodLink RJ1 88 yJ1_canEncode_9a6ad, Cond.static yJ1_canEncode_9a6ad, Cond.code yJ1_canEncode_9a6ad cJ1_canEncode_9a6ad 1 (some .boolean), Cond.methodLink RJ1 95 yJ1_indexOfChar_4cfef, Cond.static yJ1_indexOfChar_4cfef, Cond.code yJ1_indexOfChar_4cfef cJ1_indexOfChar_4cfef 6 (some .int), Cond.methodLink RJ0 640 yJ2_indexOf_4cfef, Cond.static yJ2_indexOf_4cfef, Cond.initialized RJ2, Cond.code yJ2_indexOf_4cfef cJ2_indexOf_4cfef 4 (some .int), Cond.methodLink RJ2 224 Lib.Math.max.name, Cond.methodLink RJ2 183 Lib.Math.min.name, Cond.constant RJ2 227 (65536), Cond.methodLink RJ2 228 yJ2_indexOfChar_4cfef, Cond.static yJ2_indexOfChar_4cfef, Cond.code yJ2_indexOfChar_4cfef cJ2_indexOfChar_4cfef 4 (some .int)]
def wsL_law_r10 : List Cond := [Cond.methodLink RJ2 96 yJ2_checkBoundsBeginEnd_d044e, Cond.static yJ2_checkBoundsBeginEnd_d044e, Cond.code yJ2_checkBoundsBeginEnd_d044e cJ2_checkBoundsBeginEnd_d044e 3 none, Cond.methodLink RJ2 48 yJ2_length_9d52b, Cond.static yJ2_length_9d52b, Cond.code yJ2_length_9d52b cJ2_length_9d52b 1 (some .int), Cond.methodLink RJ2 241 yJ0_checkBoundsBeginEnd_23922, Cond.static yJ0_checkBoundsBeginEnd_23922, Cond.code yJ0_checkBoundsBeginEnd_23922 cJ0_checkBoundsBeginEnd_23922 3 none, Cond.fieldLink RJ0 1053 "jdk/internal/util/Preconditions" "SIOOBE_FORMATTER" "Ljava/util/function/BiFunction;", Cond.methodLink RJ0 1062 yJ3_checkFromToIndex_8c36e, Cond.static yJ3_checkFromToIndex_8c36e, Cond.initialized RJ3, Cond.code yJ3_checkFromToIndex_8c36e cJ3_checkFromToIndex_8c36e 4 (some .int), Cond.methodLink RJ2 244 yJ2_indexOfCharUnsafe_4cfef, Cond.static yJ2_indexOfCharUnsafe_4cfef, Cond.code yJ2_indexOfCharUnsafe_4cfef cJ2_indexOfCharUnsafe_4cfef 5 (some .int), Cond.methodLink RJ2 71 yJ2_getChar_3b067, Cond.static yJ2_getChar_3b067, Cond.code yJ2_getChar_3b067 cJ2_getChar_3b067 2 (some .char), Cond.fieldLink RJ2 44 "java/lang/StringUTF16" "$assertionsDisabled" "Z", Cond.fieldLink RJ2 59 "java/lang/StringUTF16" "HI_BYTE_SHIFT" "I", Cond.fieldLink RJ2 63 "java/lang/StringUTF16" "LO_BYTE_SHIFT" "I", Cond.methodLink RJ2 232 yJ2_indexOfSupplementary_4cfef]
def wsL_law_r11 : List Cond := [Cond.static yJ2_indexOfSupplementary_4cfef, Cond.code yJ2_indexOfSupplementary_4cfef cJ2_indexOfSupplementary_4cfef 7 (some .int), Cond.methodLink RJ2 164 yJ11_isValidCodePoint_9a6ad, Cond.static yJ11_isValidCodePoint_9a6ad, Cond.initialized RJ11, Cond.code yJ11_isValidCodePoint_9a6ad cJ11_isValidCodePoint_9a6ad 2 (some .boolean), Cond.methodLink RJ2 157 yJ11_highSurrogate_5068e, Cond.static yJ11_highSurrogate_5068e, Cond.code yJ11_highSurrogate_5068e cJ11_highSurrogate_5068e 1 (some .char), Cond.constant RJ11 110 (55232), Cond.methodLink RJ2 161 yJ11_lowSurrogate_5068e, Cond.static yJ11_lowSurrogate_5068e, Cond.code yJ11_lowSurrogate_5068e cJ11_lowSurrogate_5068e 1 (some .char), Cond.constant RJ11 76 (56320), Cond.methodLink RX2 70 yX2_takesKind, Cond.instanceMethod yX2_takesKind, Cond.selects RX2 yX2_takesKind yX2_takesKind, Cond.code yX2_takesKind cX2_takesKind 2 (some .boolean), Cond.fieldLink RX2 47 "EndedByOthers$Room" "speakers" "I", Cond.fieldLink RX2 79 "EndedByOthers$Room" "kinds" "[I", Cond.methodLink RX2 73 yX2_takesWant, Cond.instanceMethod yX2_takesWant, Cond.selects RX2 yX2_takesWant yX2_takesWant, Cond.code yX2_takesWant cX2_takesWant 2 (some .boolean)]
def wsL_law_r12 : List Cond := [Cond.fieldLink RX2 82 "EndedByOthers$Room" "wants" "[I", Cond.methodLink RX2 76 yX2_takesNextSpeaker, Cond.instanceMethod yX2_takesNextSpeaker, Cond.selects RX2 yX2_takesNextSpeaker yX2_takesNextSpeaker, Cond.code yX2_takesNextSpeaker cX2_takesNextSpeaker 2 (some .boolean), Cond.methodLink RL 26 yX7_fault, Cond.instanceMethod yX7_fault, Cond.selects RX7 yX7_fault yX7_fault, Cond.code yX7_fault cX7_fault 1 (some .int), Cond.methodLink RX7 97 yX7_faultOf, Cond.instanceMethod yX7_faultOf, Cond.selects RX7 yX7_faultOf yX7_faultOf, Cond.code yX7_faultOf cX7_faultOf 2 (some .int), Cond.fieldLink RX7 68 "EndedByOthersModel" "part" "I", Cond.fieldLink RX7 65 "EndedByOthersModel" "partMany" "I", Cond.fieldLink RX7 71 "EndedByOthersModel" "lastOne" "I", Cond.fieldLink RX7 79 "EndedByOthersModel" "readMany" "I", Cond.fieldLink RX7 76 "EndedByOthersModel" "step" "I", Cond.methodLink RX7 90 yX7_goOpening, Cond.instanceMethod yX7_goOpening, Cond.selects RX7 yX7_goOpening yX7_goOpening, Cond.code yX7_goOpening cX7_goOpening 4 (some .boolean), Cond.constantLong RX7 74 (5), Cond.methodLink RX7 94 yX7_goSpeaker]
def wsL_law_r13 : List Cond := [Cond.instanceMethod yX7_goSpeaker, Cond.selects RX7 yX7_goSpeaker yX7_goSpeaker, Cond.code yX7_goSpeaker cX7_goSpeaker 3 (some .boolean), Cond.constantLong RX7 86 (97), Cond.constantLong RX7 88 (102), Cond.methodLink RX7 82 yX7_kindBy, Cond.static yX7_kindBy, Cond.code yX7_kindBy cX7_kindBy 1 (some .int), Cond.methodLink RL 27 yX6_room, Cond.instanceMethod yX6_room, Cond.selects RX6 yX6_room yX6_room, Cond.code yX6_room cX6_room 1 (some .int), Cond.fieldLink RX6 77 "EndedByOthers$Reader" "draft" "LEndedByOthers$Room;", Cond.fieldLink RX6 84 "EndedByOthers$Room" "wants" "[I", Cond.fieldLink RX6 92 "EndedByOthers$Room" "speakers" "I", Cond.methodLink RX6 73 yX2_hasWholeRoom, Cond.instanceMethod yX2_hasWholeRoom, Cond.selects RX2 yX2_hasWholeRoom yX2_hasWholeRoom, Cond.code yX2_hasWholeRoom cX2_hasWholeRoom 1 (some .boolean), Cond.methodLink RX6 80 yX3_copyFrom, Cond.instanceMethod yX3_copyFrom, Cond.selects RX3 yX3_copyFrom yX3_copyFrom, Cond.code yX3_copyFrom cX3_copyFrom 2 none, Cond.methodLink RX3 25 arraycopyName]
def wsL_law_r14 : List Cond := [Cond.native arraycopyName, Cond.static arraycopyName, Cond.initialized "java/lang/System", Cond.methodLink RX6 88 yX4_start, Cond.instanceMethod yX4_start, Cond.selects RX4 yX4_start yX4_start, Cond.code yX4_start cX4_start 2 none, Cond.methodLink RX4 46 arraycopyName, Cond.methodLink RL 30 yX7_room, Cond.instanceMethod yX7_room, Cond.selects RX7 yX7_room yX7_room, Cond.code yX7_room cX7_room 2 (some .int), Cond.fieldLink RX7 101 "EndedByOthersModel" "speakers" "I", Cond.fieldLink RX7 108 "EndedByOthersModel" "wants" "I", Cond.fieldLink RX7 111 "EndedByOthersModel" "sentences" "I", Cond.fieldLink RX7 114 "EndedByOthersModel" "heardMany" "I", Cond.fieldLink RX7 117 "EndedByOthersModel" "roomsRead" "I", Cond.methodLink RX7 104 yX7_copy, Cond.static yX7_copy, Cond.code yX7_copy cX7_copy 3 none, Cond.methodLink RL 31 yX6_fits, Cond.instanceMethod yX6_fits, Cond.selects RX6 yX6_fits yX6_fits, Cond.code yX6_fits cX6_fits 2 (some .int)]
def wsL_law_r15 : List Cond := [Cond.fieldLink RX6 99 "EndedByOthers$Room" "fitting" "[I", Cond.methodLink RX6 95 yX6_isOpening, Cond.static yX6_isOpening, Cond.code yX6_isOpening cX6_isOpening 1 (some .boolean), Cond.methodLink RL 34 yX7_fits, Cond.instanceMethod yX7_fits, Cond.selects RX7 yX7_fits yX7_fits, Cond.code yX7_fits cX7_fits 2 (some .int), Cond.methodLink RX7 126 yX7_isOpening, Cond.instanceMethod yX7_isOpening, Cond.selects RX7 yX7_isOpening yX7_isOpening, Cond.code yX7_isOpening cX7_isOpening 2 (some .boolean), Cond.constantLong RX7 124 (3), Cond.methodLink RX7 120 yX7_lacks, Cond.instanceMethod yX7_lacks, Cond.selects RX7 yX7_lacks yX7_lacks, Cond.code yX7_lacks cX7_lacks 1 (some .boolean), Cond.methodLink RL 35 yX6_about, Cond.instanceMethod yX6_about, Cond.selects RX6 yX6_about yX6_about, Cond.code yX6_about cX6_about 3 (some .int), Cond.fieldLink RX6 105 "EndedByOthers$Room" "kinds" "[I", Cond.fieldLink RX6 108 "EndedByOthers$Scene" "wants" "[I", Cond.methodLink RX6 102 yX6_isSpeaker]
def wsL_law_r16 : List Cond := [Cond.instanceMethod yX6_isSpeaker, Cond.selects RX6 yX6_isSpeaker yX6_isSpeaker, Cond.code yX6_isSpeaker cX6_isSpeaker 2 (some .boolean), Cond.methodLink RX6 109 yX4_usedBy, Cond.instanceMethod yX4_usedBy, Cond.selects RX4 yX4_usedBy yX4_usedBy, Cond.code yX4_usedBy cX4_usedBy 4 (some .int), Cond.methodLink RX6 113 yX4_openOf, Cond.instanceMethod yX4_openOf, Cond.selects RX4 yX4_openOf yX4_openOf, Cond.code yX4_openOf cX4_openOf 3 (some .int), Cond.methodLink RX4 52 yX4_isOpen, Cond.instanceMethod yX4_isOpen, Cond.selects RX4 yX4_isOpen yX4_isOpen, Cond.code yX4_isOpen cX4_isOpen 2 (some .boolean), Cond.methodLink RX6 116 yX4_howManyBegunBy, Cond.instanceMethod yX4_howManyBegunBy, Cond.selects RX4 yX4_howManyBegunBy yX4_howManyBegunBy, Cond.code yX4_howManyBegunBy cX4_howManyBegunBy 4 (some .int), Cond.methodLink RX6 119 yX4_howManyEndedBy, Cond.instanceMethod yX4_howManyEndedBy, Cond.selects RX4 yX4_howManyEndedBy yX4_howManyEndedBy, Cond.code yX4_howManyEndedBy cX4_howManyEndedBy 4 (some .int), Cond.methodLink RX6 122 yX6_sureOpening]
def wsL_law_r17 : List Cond := [Cond.instanceMethod yX6_sureOpening, Cond.selects RX6 yX6_sureOpening yX6_sureOpening, Cond.code yX6_sureOpening cX6_sureOpening 3 (some .int), Cond.methodLink RX6 252 yX6_isSure, Cond.instanceMethod yX6_isSure, Cond.selects RX6 yX6_isSure yX6_isSure, Cond.code yX6_isSure cX6_isSure 6 (some .boolean), Cond.methodLink RX6 142 yX6_endingNow, Cond.instanceMethod yX6_endingNow, Cond.selects RX6 yX6_endingNow yX6_endingNow, Cond.code yX6_endingNow cX6_endingNow 3 (some .int), Cond.methodLink RX6 248 yX6_endingBy, Cond.static yX6_endingBy, Cond.code yX6_endingBy cX6_endingBy 5 (some .int), Cond.methodLink RX6 239 yX6_has, Cond.static yX6_has, Cond.code yX6_has cX6_has 2 (some .boolean), Cond.methodLink RX6 242 yX6_greatest, Cond.static yX6_greatest, Cond.code yX6_greatest cX6_greatest 2 (some .int), Cond.methodLink RX6 245 yX6_least, Cond.static yX6_least, Cond.code yX6_least cX6_least 2 (some .int), Cond.methodLink RX6 125 yX6_possibleKinds]
def wsL_law_r18 : List Cond := [Cond.instanceMethod yX6_possibleKinds, Cond.selects RX6 yX6_possibleKinds yX6_possibleKinds, Cond.code yX6_possibleKinds cX6_possibleKinds 4 (some .int), Cond.methodLink RX6 255 yX6_agreesWithHeard, Cond.instanceMethod yX6_agreesWithHeard, Cond.selects RX6 yX6_agreesWithHeard yX6_agreesWithHeard, Cond.code yX6_agreesWithHeard cX6_agreesWithHeard 5 (some .boolean), Cond.fieldLink RX6 184 "EndedByOthers$Scene" "heard" "I", Cond.fieldLink RX6 258 "EndedByOthers$Scene" "heardSpeakers" "[I", Cond.fieldLink RX6 261 "EndedByOthers$Scene" "heardOpenings" "[I", Cond.fieldLink RX6 264 "EndedByOthers$Scene" "heardEndings" "[I", Cond.methodLink RX6 128 yX6_tellingOpening, Cond.instanceMethod yX6_tellingOpening, Cond.selects RX6 yX6_tellingOpening yX6_tellingOpening, Cond.code yX6_tellingOpening cX6_tellingOpening 7 (some .int), Cond.methodLink RX6 267 yX6_mostKindsLeft, Cond.instanceMethod yX6_mostKindsLeft, Cond.selects RX6 yX6_mostKindsLeft yX6_mostKindsLeft, Cond.code yX6_mostKindsLeft cX6_mostKindsLeft 10 (some .int), Cond.methodLink RX6 271 Lib.Math.max.name, Cond.methodLink RL 39 yX7_about, Cond.instanceMethod yX7_about, Cond.selects RX7 yX7_about yX7_about, Cond.code yX7_about cX7_about 3 (some .int)]
def wsL_law_r19 : List Cond := [Cond.methodLink RX7 158 yX7_isSpeaker, Cond.instanceMethod yX7_isSpeaker, Cond.selects RX7 yX7_isSpeaker yX7_isSpeaker, Cond.code yX7_isSpeaker cX7_isSpeaker 2 (some .boolean), Cond.methodLink RX7 161 yX7_tell, Cond.instanceMethod yX7_tell, Cond.selects RX7 yX7_tell yX7_tell, Cond.code yX7_tell cX7_tell 3 (some .int), Cond.methodLink RX7 143 yX7_openOf, Cond.instanceMethod yX7_openOf, Cond.selects RX7 yX7_openOf yX7_openOf, Cond.code yX7_openOf cX7_openOf 4 (some .int), Cond.methodLink RX7 146 yX7_saidBy, Cond.instanceMethod yX7_saidBy, Cond.selects RX7 yX7_saidBy yX7_saidBy, Cond.code yX7_saidBy cX7_saidBy 5 (some .int), Cond.methodLink RX7 149 yX7_sureOf, Cond.instanceMethod yX7_sureOf, Cond.selects RX7 yX7_sureOf yX7_sureOf, Cond.code yX7_sureOf cX7_sureOf 8 (some .int), Cond.methodLink RX7 139 yX7_wouldOf, Cond.instanceMethod yX7_wouldOf, Cond.selects RX7 yX7_wouldOf yX7_wouldOf, Cond.code yX7_wouldOf cX7_wouldOf 3 (some .int)]
def wsL_law_r20 : List Cond := [Cond.methodLink RX7 135 yX7_endsBy, Cond.instanceMethod yX7_endsBy, Cond.selects RX7 yX7_endsBy yX7_endsBy, Cond.code yX7_endsBy cX7_endsBy 8 (some .int), Cond.methodLink RX7 129 yX7_greatestOf, Cond.static yX7_greatestOf, Cond.code yX7_greatestOf cX7_greatestOf 3 (some .int), Cond.methodLink RX7 132 yX7_leastOf, Cond.static yX7_leastOf, Cond.code yX7_leastOf cX7_leastOf 3 (some .int), Cond.methodLink RX7 152 yX7_whichOf, Cond.instanceMethod yX7_whichOf, Cond.selects RX7 yX7_whichOf yX7_whichOf, Cond.code yX7_whichOf cX7_whichOf 7 (some .int), Cond.methodLink RX7 155 yX7_beginOf, Cond.instanceMethod yX7_beginOf, Cond.selects RX7 yX7_beginOf yX7_beginOf, Cond.code yX7_beginOf cX7_beginOf 9 (some .int), Cond.methodLink RL 40 yX6_as, Cond.instanceMethod yX6_as, Cond.selects RX6 yX6_as yX6_as, Cond.code yX6_as cX6_as 3 (some .int), Cond.methodLink RX6 132 yX6_isOfKind, Cond.static yX6_isOfKind]
def wsL_law_r21 : List Cond := [Cond.code yX6_isOfKind cX6_isOfKind 2 (some .boolean), Cond.methodLink RL 43 yX7_as, Cond.instanceMethod yX7_as, Cond.selects RX7 yX7_as yX7_as, Cond.code yX7_as cX7_as 5 (some .int), Cond.constantLong RX7 164 (4), Cond.methodLink RL 44 yX6_want, Cond.instanceMethod yX6_want, Cond.selects RX6 yX6_want yX6_want, Cond.code yX6_want cX6_want 4 (some .int), Cond.fieldLink RX6 139 "EndedByOthers$Scene" "changes" "I", Cond.methodLink RX6 136 yX6_isEnding, Cond.methodLink RL 47 yX7_want, Cond.instanceMethod yX7_want, Cond.selects RX7 yX7_want yX7_want, Cond.code yX7_want cX7_want 4 (some .int), Cond.methodLink RL 48 yX6_would, Cond.instanceMethod yX6_would, Cond.selects RX6 yX6_would yX6_would, Cond.code yX6_would cX6_would 3 (some .int), Cond.methodLink RL 51 yX7_would, Cond.instanceMethod yX7_would, Cond.selects RX7 yX7_would yX7_would, Cond.code yX7_would cX7_would 3 (some .int)]
def wsL_law_r22 : List Cond := [Cond.methodLink RL 52 yX6_begin, Cond.instanceMethod yX6_begin, Cond.selects RX6 yX6_begin yX6_begin, Cond.code yX6_begin cX6_begin 3 (some .int), Cond.fieldLink RX6 145 "EndedByOthers$Scene" "sentences" "I", Cond.methodLink RX6 148 yX4_addSentence, Cond.instanceMethod yX4_addSentence, Cond.selects RX4 yX4_addSentence yX4_addSentence, Cond.code yX4_addSentence cX4_addSentence 4 (some .int), Cond.methodLink RL 55 yX7_begin, Cond.instanceMethod yX7_begin, Cond.selects RX7 yX7_begin yX7_begin, Cond.code yX7_begin cX7_begin 3 (some .int), Cond.methodLink RL 56 yX6_end, Cond.instanceMethod yX6_end, Cond.selects RX6 yX6_end yX6_end, Cond.code yX6_end cX6_end 4 (some .int), Cond.fieldLink RX6 157 "EndedByOthers$Scene" "beginners" "[I", Cond.fieldLink RX6 160 "EndedByOthers$Scene" "openings" "[I", Cond.fieldLink RX6 163 "EndedByOthers$Scene" "enders" "[I", Cond.fieldLink RX6 166 "EndedByOthers$Scene" "endings" "[I", Cond.methodLink RX6 151 yX6_isSentence, Cond.instanceMethod yX6_isSentence, Cond.selects RX6 yX6_isSentence yX6_isSentence]
def wsL_law_r23 : List Cond := [Cond.code yX6_isSentence cX6_isSentence 2 (some .boolean), Cond.methodLink RX6 154 yX4_isOpen, Cond.methodLink RL 59 yX7_end, Cond.instanceMethod yX7_end, Cond.selects RX7 yX7_end yX7_end, Cond.code yX7_end cX7_end 4 (some .int), Cond.methodLink RX7 166 yX7_isSentence, Cond.instanceMethod yX7_isSentence, Cond.selects RX7 yX7_isSentence yX7_isSentence, Cond.code yX7_isSentence cX7_isSentence 2 (some .boolean), Cond.methodLink RL 60 yX6_sentence, Cond.instanceMethod yX6_sentence, Cond.selects RX6 yX6_sentence yX6_sentence, Cond.code yX6_sentence cX6_sentence 3 (some .int), Cond.methodLink RX6 169 yX4_isAsWanted, Cond.instanceMethod yX4_isAsWanted, Cond.selects RX4 yX4_isAsWanted yX4_isAsWanted, Cond.code yX4_isAsWanted cX4_isAsWanted 2 (some .boolean), Cond.methodLink RL 63 yX7_sentence, Cond.instanceMethod yX7_sentence, Cond.selects RX7 yX7_sentence yX7_sentence, Cond.code yX7_sentence cX7_sentence 3 (some .int), Cond.methodLink RX7 172 yX7_tellSentence, Cond.instanceMethod yX7_tellSentence]
def wsL_law_r24 : List Cond := [Cond.selects RX7 yX7_tellSentence yX7_tellSentence, Cond.code yX7_tellSentence cX7_tellSentence 3 (some .int), Cond.methodLink RX7 169 yX7_isWanted, Cond.instanceMethod yX7_isWanted, Cond.selects RX7 yX7_isWanted yX7_isWanted, Cond.code yX7_isWanted cX7_isWanted 2 (some .boolean), Cond.methodLink RL 64 yX6_match, Cond.instanceMethod yX6_match, Cond.selects RX6 yX6_match yX6_match, Cond.code yX6_match cX6_match 4 (some .int), Cond.fieldLink RX6 178 "EndedByOthers$Matching" "ended" "I", Cond.fieldLink RX6 181 "EndedByOthers$Matching" "picks" "[I", Cond.methodLink RX6 172 yX6_findPleasing, Cond.instanceMethod yX6_findPleasing, Cond.selects RX6 yX6_findPleasing yX6_findPleasing, Cond.code yX6_findPleasing cX6_findPleasing 3 none, Cond.fieldLink RX6 276 "EndedByOthers$Matching" "pleasing" "[I", Cond.methodLink RX6 279 yX6_wouldPlease, Cond.instanceMethod yX6_wouldPlease, Cond.selects RX6 yX6_wouldPlease yX6_wouldPlease, Cond.code yX6_wouldPlease cX6_wouldPlease 4 (some .boolean), Cond.methodLink RX6 175 yX0_solve, Cond.instanceMethod yX0_solve, Cond.selects RX0 yX0_solve yX0_solve]
def wsL_law_r25 : List Cond := [Cond.code yX0_solve cX0_solve 3 none, Cond.methodLink RX0 22 yX0_mostFrom, Cond.static yX0_mostFrom, Cond.code yX0_mostFrom cX0_mostFrom 6 (some .int), Cond.methodLink RX0 34 Lib.Math.max.name, Cond.methodLink RX0 26 yX0_firstBestPick, Cond.instanceMethod yX0_firstBestPick, Cond.selects RX0 yX0_firstBestPick yX0_firstBestPick, Cond.code yX0_firstBestPick cX0_firstBestPick 6 (some .int), Cond.methodLink RL 67 yX7_match, Cond.instanceMethod yX7_match, Cond.selects RX7 yX7_match yX7_match, Cond.code yX7_match cX7_match 2 (some .int), Cond.constantLong RX7 182 (10), Cond.constantLong RX7 184 (13), Cond.methodLink RX7 186 yX7_matchOf, Cond.instanceMethod yX7_matchOf, Cond.selects RX7 yX7_matchOf yX7_matchOf, Cond.code yX7_matchOf cX7_matchOf 7 (some .int), Cond.methodLink RX7 179 yX7_layRow, Cond.instanceMethod yX7_layRow, Cond.selects RX7 yX7_layRow yX7_layRow, Cond.code yX7_layRow cX7_layRow 6 (some .boolean), Cond.methodLink RX7 175 yX7_endsAsWanted]
def wsL_law_r26 : List Cond := [Cond.instanceMethod yX7_endsAsWanted, Cond.selects RX7 yX7_endsAsWanted yX7_endsAsWanted, Cond.code yX7_endsAsWanted cX7_endsAsWanted 4 (some .boolean), Cond.methodLink RL 68 yX6_hear, Cond.instanceMethod yX6_hear, Cond.selects RX6 yX6_hear yX6_hear, Cond.code yX6_hear cX6_hear 4 (some .int), Cond.methodLink RX6 187 yX4_addHeard, Cond.instanceMethod yX4_addHeard, Cond.selects RX4 yX4_addHeard yX4_addHeard, Cond.code yX4_addHeard cX4_addHeard 4 none, Cond.methodLink RL 72 yX7_hear, Cond.instanceMethod yX7_hear, Cond.selects RX7 yX7_hear yX7_hear, Cond.code yX7_hear cX7_hear 4 (some .int), Cond.constantLong RX7 189 (-1), Cond.methodLink RL 73 yX6_forget, Cond.instanceMethod yX6_forget, Cond.selects RX6 yX6_forget yX6_forget, Cond.code yX6_forget cX6_forget 2 (some .int), Cond.methodLink RL 76 yX7_forget, Cond.instanceMethod yX7_forget, Cond.selects RX7 yX7_forget yX7_forget, Cond.code yX7_forget cX7_forget 2 (some .int)]
def wsL_law_r27 : List Cond := [Cond.methodLink RL 77 yX6_talks, Cond.instanceMethod yX6_talks, Cond.selects RX6 yX6_talks yX6_talks, Cond.code yX6_talks cX6_talks 4 (some .int), Cond.fieldLink RX6 195 "EndedByOthers$Trial" "ended" "I", Cond.fieldLink RX6 196 "EndedByOthers$Trial" "asWanted" "I", Cond.fieldLink RX6 199 "EndedByOthers$Trial" "seed" "J", Cond.methodLink RX6 191 yX5_run, Cond.instanceMethod yX5_run, Cond.selects RX5 yX5_run yX5_run, Cond.code yX5_run cX5_run 6 none, Cond.methodLink RX5 26 yX4_usedBy, Cond.methodLink RX5 32 yX5_talkOnce, Cond.instanceMethod yX5_talkOnce, Cond.selects RX5 yX5_talkOnce yX5_talkOnce, Cond.code yX5_talkOnce cX5_talkOnce 7 none, Cond.fieldLink RX5 36 "EndedByOthers$Room" "speakers" "I", Cond.fieldLink RX5 44 "EndedByOthers$Room" "kinds" "[I", Cond.fieldLink RX5 47 "EndedByOthers$Room" "fitting" "[I", Cond.fieldLink RX5 50 "EndedByOthers$Scene" "wants" "[I", Cond.methodLink RX5 41 yX5_draw, Cond.instanceMethod yX5_draw, Cond.selects RX5 yX5_draw yX5_draw, Cond.code yX5_draw cX5_draw 2 (some .int)]
def wsL_law_r28 : List Cond := [Cond.constantLong RX5 57 (1103515245), Cond.constantLong RX5 59 (12345), Cond.constantLong RX5 61 (2147483648), Cond.constantLong RX5 63 (65536), Cond.methodLink RL 80 yX7_talks, Cond.instanceMethod yX7_talks, Cond.selects RX7 yX7_talks yX7_talks, Cond.code yX7_talks cX7_talks 11 (some .int), Cond.constantLong RX7 201 (60), Cond.constantLong RX7 203 (2), Cond.fieldLink RX7 193 "EndedByOthersModel" "seedNow" "I", Cond.methodLink RX7 205 yX7_draw, Cond.instanceMethod yX7_draw, Cond.selects RX7 yX7_draw yX7_draw, Cond.code yX7_draw cX7_draw 2 (some .int), Cond.constantLong RX7 191 (1103515245), Cond.constantLong RX7 196 (12345), Cond.constantLong RX7 198 (2147483647), Cond.constant RX7 200 (65536), Cond.methodLink RL 81 yX6_image, Cond.instanceMethod yX6_image, Cond.selects RX6 yX6_image yX6_image, Cond.code yX6_image cX6_image 1 (some .int), Cond.methodLink RX6 203 yX4_copyFrom]
def wsL_law_r29 : List Cond := [Cond.instanceMethod yX4_copyFrom, Cond.selects RX4 yX4_copyFrom yX4_copyFrom, Cond.code yX4_copyFrom cX4_copyFrom 2 none, Cond.methodLink RL 84 yX7_image, Cond.instanceMethod yX7_image, Cond.selects RX7 yX7_image yX7_image, Cond.code yX7_image cX7_image 1 (some .int), Cond.fieldLink RX7 208 "EndedByOthersModel" "keptSentences" "I", Cond.fieldLink RX7 211 "EndedByOthersModel" "keptWants" "I", Cond.fieldLink RX7 214 "EndedByOthersModel" "keptHeard" "I", Cond.methodLink RL 85 yX6_restore, Cond.instanceMethod yX6_restore, Cond.selects RX6 yX6_restore yX6_restore, Cond.code yX6_restore cX6_restore 1 (some .int), Cond.methodLink RL 88 yX7_restore, Cond.instanceMethod yX7_restore, Cond.selects RX7 yX7_restore yX7_restore, Cond.code yX7_restore cX7_restore 1 (some .int), Cond.methodLink RL 89 yX6_count, Cond.instanceMethod yX6_count, Cond.selects RX6 yX6_count yX6_count, Cond.code yX6_count cX6_count 2 (some .int), Cond.methodLink RX6 206 yX4_howManyOpen, Cond.instanceMethod yX4_howManyOpen]
def wsL_law_r30 : List Cond := [Cond.selects RX4 yX4_howManyOpen yX4_howManyOpen, Cond.code yX4_howManyOpen cX4_howManyOpen 1 (some .int), Cond.methodLink RX4 56 yX4_howManyEndedBy, Cond.methodLink RX6 210 yX4_howManyAsWanted, Cond.instanceMethod yX4_howManyAsWanted, Cond.selects RX4 yX4_howManyAsWanted yX4_howManyAsWanted, Cond.code yX4_howManyAsWanted cX4_howManyAsWanted 3 (some .int), Cond.methodLink RX4 60 yX4_isAsWanted, Cond.methodLink RX6 213 yX4_howManyUnlikeEndings, Cond.instanceMethod yX4_howManyUnlikeEndings, Cond.selects RX4 yX4_howManyUnlikeEndings yX4_howManyUnlikeEndings, Cond.code yX4_howManyUnlikeEndings cX4_howManyUnlikeEndings 3 (some .int), Cond.methodLink RX4 63 yX4_usedBy, Cond.methodLink RX4 66 yJ6_bitCount_0f7a4, Cond.static yJ6_bitCount_0f7a4, Cond.initialized RJ6, Cond.code yJ6_bitCount_0f7a4 cJ6_bitCount_0f7a4 1 (some .int), Cond.constant RJ6 265 (1431655765), Cond.constant RJ6 266 (858993459), Cond.constant RJ6 267 (252645135), Cond.methodLink RL 92 yX7_count, Cond.instanceMethod yX7_count, Cond.selects RX7 yX7_count yX7_count, Cond.code yX7_count cX7_count 2 (some .int)]
def wsL_law_r31 : List Cond := [Cond.methodLink RX7 226 yX7_countOf, Cond.instanceMethod yX7_countOf, Cond.selects RX7 yX7_countOf yX7_countOf, Cond.code yX7_countOf cX7_countOf 2 (some .int), Cond.methodLink RX7 220 yX7_wantedMany, Cond.instanceMethod yX7_wantedMany, Cond.selects RX7 yX7_wantedMany yX7_wantedMany, Cond.code yX7_wantedMany cX7_wantedMany 3 (some .int), Cond.methodLink RX7 223 yX7_unlike, Cond.instanceMethod yX7_unlike, Cond.selects RX7 yX7_unlike yX7_unlike, Cond.code yX7_unlike cX7_unlike 3 (some .int), Cond.methodLink RX7 217 yX7_ones, Cond.static yX7_ones, Cond.code yX7_ones cX7_ones 3 (some .int), Cond.methodLink RL 93 yX6_digest, Cond.instanceMethod yX6_digest, Cond.selects RX6 yX6_digest yX6_digest, Cond.code yX6_digest cX6_digest 5 (some .long), Cond.constantLong RX6 216 (1021), Cond.fieldLink RX6 231 "EndedByOthers$Page" "codes" "[I", Cond.methodLink RX6 218 yX6_mixed, Cond.static yX6_mixed, Cond.code yX6_mixed cX6_mixed 4 (some .long)]
def wsL_law_r32 : List Cond := [Cond.constantLong RX6 237 (31), Cond.methodLink RX6 222 yX6_about, Cond.methodLink RX6 225 yX6_sentence, Cond.methodLink RX6 228 yX6_match, Cond.methodLink RX6 234 yX6_count, Cond.methodLink RL 97 yX7_digest, Cond.instanceMethod yX7_digest, Cond.selects RX7 yX7_digest yX7_digest, Cond.code yX7_digest cX7_digest 3 (some .long), Cond.constantLong RX7 239 (1021), Cond.fieldLink RX7 231 "EndedByOthersModel" "hash" "J", Cond.methodLink RX7 235 yX7_say, Cond.instanceMethod yX7_say, Cond.selects RX7 yX7_say yX7_say, Cond.code yX7_say cX7_say 3 none, Cond.constantLong RX7 229 (31), Cond.methodLink RX7 241 yX7_saySpeaker, Cond.instanceMethod yX7_saySpeaker, Cond.selects RX7 yX7_saySpeaker yX7_saySpeaker, Cond.code yX7_saySpeaker cX7_saySpeaker 3 none]
def wsL_law : List Cond := (wsL_law_r1 ++ (wsL_law_r2 ++ (wsL_law_r3 ++ (wsL_law_r4 ++ (wsL_law_r5 ++ (wsL_law_r6 ++ (wsL_law_r7 ++ (wsL_law_r8 ++ (wsL_law_r9 ++ (wsL_law_r10 ++ (wsL_law_r11 ++ (wsL_law_r12 ++ (wsL_law_r13 ++ (wsL_law_r14 ++ (wsL_law_r15 ++ (wsL_law_r16 ++ (wsL_law_r17 ++ (wsL_law_r18 ++ (wsL_law_r19 ++ (wsL_law_r20 ++ (wsL_law_r21 ++ (wsL_law_r22 ++ (wsL_law_r23 ++ (wsL_law_r24 ++ (wsL_law_r25 ++ (wsL_law_r26 ++ (wsL_law_r27 ++ (wsL_law_r28 ++ (wsL_law_r29 ++ (wsL_law_r30 ++ (wsL_law_r31 ++ wsL_law_r32))))))))))))))))))))))))))))))) ++ wsX60 ++ wsX70 ++ wsX10 ++ wsX20 ++ wsX30 ++ wsX40 ++ wsX00 ++ wsX50 ++ ([] : List Cond)
abbrev vwCl : List vw_C := [(RX0, TX0, 3), (RX1, TX1, 2), (RX2, TX2, 4), (RX3, TX3, 4), (RX4, TX4, 11), (RX5, TX5, 4), (RX6, TX6, 9), (RX7, TX7, 31)]
end
section
set_option maxRecDepth 20000 in
theorem ggX0_solve_X0_mostFrom : GoodIn wsX0_solve wsX0_mostFrom := goodIn_r _ [7, 8, 9, 10, 11, 4, 5, 6, 12, 13, 14] (by decide +kernel) (by decide +kernel)
set_option maxRecDepth 20000 in
theorem gX0_solve_X0_mostFrom : GoodIn wsX0_solve (va_wsS RX0 22 yX0_mostFrom wsX0_mostFrom) := goodIn_app (goodIn_of _ (by decide +kernel)) ggX0_solve_X0_mostFrom
set_option maxRecDepth 20000 in
theorem ggX0_solve_X0_firstBestPick : GoodIn wsX0_solve wsX0_firstBestPick := goodIn_r _ [18, 1, 4, 5, 6, 7, 8, 9, 10, 11, 12, 13, 14, 19, 20, 21] (by decide +kernel) (by decide +kernel)
set_option maxRecDepth 20000 in
theorem gX0_solve_X0_firstBestPick : GoodIn wsX0_solve (wsV RX0 26 RX0 yX0_firstBestPick wsX0_firstBestPick) := goodIn_app (goodIn_of _ (by decide +kernel)) ggX0_solve_X0_firstBestPick
set_option maxRecDepth 20000 in
theorem ggX0_firstBestPick_X0_mostFrom : GoodIn wsX0_firstBestPick wsX0_mostFrom := goodIn_r _ [5, 6, 7, 8, 9, 2, 3, 4, 10, 11, 12] (by decide +kernel) (by decide +kernel)
set_option maxRecDepth 20000 in
theorem gX0_firstBestPick_X0_mostFrom : GoodIn wsX0_firstBestPick (va_wsS RX0 22 yX0_mostFrom wsX0_mostFrom) := goodIn_app (goodIn_of _ (by decide +kernel)) ggX0_firstBestPick_X0_mostFrom
set_option maxRecDepth 20000 in
theorem ggX0_firstBestPick_X6_has : GoodIn wsX0_firstBestPick wsX6_has := goodIn_r _ [12] (by decide +kernel) (by decide +kernel)
set_option maxRecDepth 20000 in
theorem gX0_firstBestPick_X6_has_n30 : GoodIn wsX0_firstBestPick (wsX6_has) := ggX0_firstBestPick_X6_has
set_option maxRecDepth 20000 in
theorem ggX0_mostFrom_X0_mostFrom : GoodIn wsX0_mostFrom wsX0_mostFrom := goodIn_r _ [0, 1, 2, 3, 4, 5, 6, 7, 8, 9, 10] (by decide +kernel) (by decide +kernel)
set_option maxRecDepth 20000 in
theorem gX0_mostFrom_X0_mostFrom : GoodIn wsX0_mostFrom (va_wsS RX0 22 yX0_mostFrom wsX0_mostFrom) := goodIn_app (goodIn_of _ (by decide +kernel)) ggX0_mostFrom_X0_mostFrom
set_option maxRecDepth 20000 in
theorem ggX0_mostFrom_X6_has : GoodIn wsX0_mostFrom wsX6_has := goodIn_r _ [10] (by decide +kernel) (by decide +kernel)
set_option maxRecDepth 20000 in
theorem gX0_mostFrom_X6_has_n30 : GoodIn wsX0_mostFrom (wsX6_has) := ggX0_mostFrom_X6_has
set_option maxRecDepth 20000 in
theorem ggX2_init_X3_init : GoodIn wsX2_init wsX3_init := goodIn_r _ [12, 13, 2, 3, 14, 15, 16, 17, 18, 19, 20, 21, 22] (by decide +kernel) (by decide +kernel)
set_option maxRecDepth 20000 in
theorem gX2_init_X3_init_n11 : GoodIn wsX2_init (wsX3_init) := ggX2_init_X3_init
set_option maxRecDepth 20000 in
theorem ggX2_read_X3_clear : GoodIn wsX2_read wsX3_clear := goodIn_r _ [9, 10, 11, 145, 146, 147, 148] (by decide +kernel) (by decide +kernel)
set_option maxRecDepth 20000 in
theorem gX2_read_X3_clear : GoodIn wsX2_read (wsV RX2 28 RX3 yX3_clear wsX3_clear) := goodIn_app (goodIn_of _ (by decide +kernel)) ggX2_read_X3_clear
set_option maxRecDepth 20000 in
theorem ggX2_read_X2_startPart : GoodIn wsX2_read wsX2_startPart := goodIn_r _ [16, 17, 18, 139, 140, 141, 142] (by decide +kernel) (by decide +kernel)
set_option maxRecDepth 20000 in
theorem gX2_read_X2_startPart : GoodIn wsX2_read (wsV RX2 31 RX2 yX2_startPart wsX2_startPart) := goodIn_app (goodIn_of _ (by decide +kernel)) ggX2_read_X2_startPart
set_option maxRecDepth 20000 in
theorem ggX2_read_X2_takes : GoodIn wsX2_read wsX2_takes := goodIn_r _ [22, 2, 23, 24, 25, 15, 26, 17, 18, 1, 27, 12, 13, 14, 16, 28, 29, 30, 31, 32, 33, 34, 35, 36, 37, 38, 39, 40, 41, 42, 43, 44, 45, 46, 47, 48, 49, 50, 51, 52, 53, 54, 55, 56, 57, 58, 59, 60, 61, 62, 63, 64, 65, 66, 67, 68, 69, 70, 71, 72, 73, 74, 75, 76, 77, 78, 79, 80, 81, 82, 83, 84, 85, 86, 87, 88, 89, 90, 91, 92, 93, 94, 95, 96, 97, 98, 99, 100, 101, 102, 103, 104, 105, 106, 107, 108, 109, 110, 111, 112, 113, 114, 115, 116, 117, 118, 119, 120, 121, 122, 123, 124, 125, 126, 127, 128, 129, 130, 131, 132, 133, 134, 135, 136, 137, 138, 139, 140, 141, 142, 145, 146, 147, 148] (by decide +kernel) (by decide +kernel)
set_option maxRecDepth 20000 in
theorem gX2_read_X2_takes : GoodIn wsX2_read (wsV RX2 43 RX2 yX2_takes wsX2_takes) := goodIn_app (goodIn_of _ (by decide +kernel)) ggX2_read_X2_takes
set_option maxRecDepth 20000 in
theorem ggX2_takes_X2_takesInOpening : GoodIn wsX2_takes wsX2_takesInOpening := goodIn_r _ [6, 1, 7, 8, 9, 10, 11, 12, 13, 5, 14, 15, 16, 17, 126, 127, 128, 129, 130, 131, 132, 133] (by decide +kernel) (by decide +kernel)
set_option maxRecDepth 20000 in
theorem gX2_takes_X2_takesInOpening : GoodIn wsX2_takes (wsV RX2 50 RX2 yX2_takesInOpening wsX2_takesInOpening) := goodIn_app (goodIn_of _ (by decide +kernel)) ggX2_takes_X2_takesInOpening
set_option maxRecDepth 20000 in
theorem ggX2_takes_X2_takesInSpeaker : GoodIn wsX2_takes wsX2_takesInSpeaker := goodIn_r _ [21, 7, 22, 23, 24, 25, 26, 27, 28, 29, 30, 31, 32, 33, 34, 35, 36, 37, 38, 39, 40, 41, 42, 43, 44, 45, 46, 47, 48, 49, 50, 51, 52, 53, 54, 55, 56, 57, 58, 59, 60, 61, 62, 63, 64, 65, 66, 67, 68, 69, 70, 71, 72, 73, 74, 75, 76, 77, 78, 79, 80, 81, 82, 83, 84, 85, 86, 87, 88, 89, 90, 91, 92, 93, 94, 95, 96, 97, 98, 99, 100, 101, 102, 103, 104, 105, 106, 107, 108, 109, 110, 111, 112, 113, 5, 114, 9, 115, 116, 117, 118, 119, 120, 121, 15, 16, 17, 122, 123, 124, 125, 11, 12, 13, 14, 8, 126, 127, 128, 129, 130, 131, 132, 133] (by decide +kernel) (by decide +kernel)
set_option maxRecDepth 20000 in
theorem gX2_takes_X2_takesInSpeaker : GoodIn wsX2_takes (wsV RX2 53 RX2 yX2_takesInSpeaker wsX2_takesInSpeaker) := goodIn_app (goodIn_of _ (by decide +kernel)) ggX2_takes_X2_takesInSpeaker
set_option maxRecDepth 20000 in
theorem ggX2_takesInOpening_X2_startPart : GoodIn wsX2_takesInOpening wsX2_startPart := goodIn_r _ [10, 2, 3, 14, 15, 16, 17] (by decide +kernel) (by decide +kernel)
set_option maxRecDepth 20000 in
theorem gX2_takesInOpening_X2_startPart : GoodIn wsX2_takesInOpening (wsV RX2 31 RX2 yX2_startPart wsX2_startPart) := goodIn_app (goodIn_of _ (by decide +kernel)) ggX2_takesInOpening_X2_startPart
set_option maxRecDepth 20000 in
theorem ggX2_takesInOpening_X6_isEnding : GoodIn wsX2_takesInOpening wsX6_isEnding := goodIn_r _ [13] (by decide +kernel) (by decide +kernel)
set_option maxRecDepth 20000 in
theorem gX2_takesInOpening_X6_isEnding_n56 : GoodIn wsX2_takesInOpening (wsX6_isEnding) := ggX2_takesInOpening_X6_isEnding
set_option maxRecDepth 20000 in
theorem ggX2_takesInSpeaker_J0_indexOf_0f7a4 : GoodIn wsX2_takesInSpeaker wsJ0_indexOf_0f7a4 := goodIn_r _ [6, 7, 8, 9, 5, 10, 11, 12, 13, 14, 15, 16, 17, 18, 19, 20, 21, 22, 23, 24, 25, 26, 27, 28, 29, 30, 31, 32, 33, 34, 35, 36, 37, 38, 39, 40, 41, 42, 43, 44, 45, 46, 47, 48, 49, 50, 51, 52, 53, 54, 55, 56, 57, 58, 59, 60, 61, 62, 63, 64, 65, 66, 67, 68, 69, 70, 71, 72, 73, 74, 75, 76, 77, 78, 79, 80, 81, 82, 83, 84, 85, 86, 87, 88, 89, 90] (by decide +kernel) (by decide +kernel)
set_option maxRecDepth 20000 in
theorem gX2_takesInSpeaker_J0_indexOf_0f7a4 : GoodIn wsX2_takesInSpeaker (wsV RX2 64 RJ0 yJ0_indexOf_0f7a4 wsJ0_indexOf_0f7a4) := goodIn_app (goodIn_of _ (by decide +kernel)) ggX2_takesInSpeaker_J0_indexOf_0f7a4
set_option maxRecDepth 20000 in
theorem ggX2_takesInSpeaker_X2_takesKind : GoodIn wsX2_takesInSpeaker wsX2_takesKind := goodIn_r _ [95, 96, 97, 98, 1, 116, 117, 118, 119, 120, 121, 122, 123] (by decide +kernel) (by decide +kernel)
set_option maxRecDepth 20000 in
theorem gX2_takesInSpeaker_X2_takesKind : GoodIn wsX2_takesInSpeaker (wsV RX2 70 RX2 yX2_takesKind wsX2_takesKind) := goodIn_app (goodIn_of _ (by decide +kernel)) ggX2_takesInSpeaker_X2_takesKind
set_option maxRecDepth 20000 in
theorem ggX2_takesInSpeaker_X2_takesWant : GoodIn wsX2_takesInSpeaker wsX2_takesWant := goodIn_r _ [102, 96, 97, 103, 1, 104, 105, 106, 116, 117, 118, 119, 120, 121, 122, 123] (by decide +kernel) (by decide +kernel)
set_option maxRecDepth 20000 in
theorem gX2_takesInSpeaker_X2_takesWant : GoodIn wsX2_takesInSpeaker (wsV RX2 73 RX2 yX2_takesWant wsX2_takesWant) := goodIn_app (goodIn_of _ (by decide +kernel)) ggX2_takesInSpeaker_X2_takesWant
set_option maxRecDepth 20000 in
theorem ggX2_takesInSpeaker_X2_takesNextSpeaker : GoodIn wsX2_takesInSpeaker wsX2_takesNextSpeaker := goodIn_r _ [110, 96, 97, 111, 112, 113, 94, 114, 1, 115, 116, 117, 118, 119, 120, 121, 122, 123] (by decide +kernel) (by decide +kernel)
set_option maxRecDepth 20000 in
theorem gX2_takesInSpeaker_X2_takesNextSpeaker : GoodIn wsX2_takesInSpeaker (wsV RX2 76 RX2 yX2_takesNextSpeaker wsX2_takesNextSpeaker) := goodIn_app (goodIn_of _ (by decide +kernel)) ggX2_takesInSpeaker_X2_takesNextSpeaker
set_option maxRecDepth 20000 in
theorem ggX2_takesWant_X6_isEnding : GoodIn wsX2_takesWant wsX6_isEnding := goodIn_r _ [7] (by decide +kernel) (by decide +kernel)
set_option maxRecDepth 20000 in
theorem gX2_takesWant_X6_isEnding_n56 : GoodIn wsX2_takesWant (wsX6_isEnding) := ggX2_takesWant_X6_isEnding
set_option maxRecDepth 20000 in
theorem ggX2_takesNextSpeaker_X2_startPart : GoodIn wsX2_takesNextSpeaker wsX2_startPart := goodIn_r _ [7, 8, 9, 10, 11, 12, 13] (by decide +kernel) (by decide +kernel)
set_option maxRecDepth 20000 in
theorem gX2_takesNextSpeaker_X2_startPart : GoodIn wsX2_takesNextSpeaker (wsV RX2 31 RX2 yX2_startPart wsX2_startPart) := goodIn_app (goodIn_of _ (by decide +kernel)) ggX2_takesNextSpeaker_X2_startPart
set_option maxRecDepth 20000 in
theorem ggX4_isAsWanted_X4_isOpen : GoodIn wsX4_isAsWanted wsX4_isOpen := goodIn_r _ [8, 9, 10, 11, 12, 13, 14, 15, 16, 17, 18, 19, 20] (by decide +kernel) (by decide +kernel)
set_option maxRecDepth 20000 in
theorem gX4_isAsWanted_X4_isOpen : GoodIn wsX4_isAsWanted (wsV RX4 52 RX4 yX4_isOpen wsX4_isOpen) := goodIn_app (goodIn_of _ (by decide +kernel)) ggX4_isAsWanted_X4_isOpen
set_option maxRecDepth 20000 in
theorem ggX4_openOf_X4_isOpen : GoodIn wsX4_openOf wsX4_isOpen := goodIn_r _ [7, 8, 9, 10, 11, 12, 13, 14, 15, 16, 17, 18, 19] (by decide +kernel) (by decide +kernel)
set_option maxRecDepth 20000 in
theorem gX4_openOf_X4_isOpen : GoodIn wsX4_openOf (wsV RX4 52 RX4 yX4_isOpen wsX4_isOpen) := goodIn_app (goodIn_of _ (by decide +kernel)) ggX4_openOf_X4_isOpen
set_option maxRecDepth 20000 in
theorem ggX4_howManyOpen_X4_howManyEndedBy : GoodIn wsX4_howManyOpen wsX4_howManyEndedBy := goodIn_r _ [5, 6, 7, 8, 9, 10, 11, 12, 13, 14, 15, 16, 17, 18] (by decide +kernel) (by decide +kernel)
set_option maxRecDepth 20000 in
theorem gX4_howManyOpen_X4_howManyEndedBy : GoodIn wsX4_howManyOpen (wsV RX4 56 RX4 yX4_howManyEndedBy wsX4_howManyEndedBy) := goodIn_app (goodIn_of _ (by decide +kernel)) ggX4_howManyOpen_X4_howManyEndedBy
set_option maxRecDepth 20000 in
theorem ggX4_howManyAsWanted_X4_isAsWanted : GoodIn wsX4_howManyAsWanted wsX4_isAsWanted := goodIn_r _ [6, 7, 8, 9, 10, 11, 12, 5, 13, 14, 15, 16, 17, 18, 19, 20, 21, 22, 23, 24, 25] (by decide +kernel) (by decide +kernel)
set_option maxRecDepth 20000 in
theorem gX4_howManyAsWanted_X4_isAsWanted : GoodIn wsX4_howManyAsWanted (wsV RX4 60 RX4 yX4_isAsWanted wsX4_isAsWanted) := goodIn_app (goodIn_of _ (by decide +kernel)) ggX4_howManyAsWanted_X4_isAsWanted
set_option maxRecDepth 20000 in
theorem ggX4_howManyUnlikeEndings_X4_usedBy : GoodIn wsX4_howManyUnlikeEndings wsX4_usedBy := goodIn_r _ [5, 6, 7, 8, 16, 17, 18, 19, 20, 21, 22, 23, 24, 25, 26] (by decide +kernel) (by decide +kernel)
set_option maxRecDepth 20000 in
theorem gX4_howManyUnlikeEndings_X4_usedBy : GoodIn wsX4_howManyUnlikeEndings (wsV RX4 63 RX4 yX4_usedBy wsX4_usedBy) := goodIn_app (goodIn_of _ (by decide +kernel)) ggX4_howManyUnlikeEndings_X4_usedBy
set_option maxRecDepth 20000 in
theorem ggX4_howManyUnlikeEndings_J6_bitCount_0f7a4 : GoodIn wsX4_howManyUnlikeEndings wsJ6_bitCount_0f7a4 := goodIn_r _ [12, 13, 14, 15] (by decide +kernel) (by decide +kernel)
set_option maxRecDepth 20000 in
theorem gX4_howManyUnlikeEndings_J6_bitCount_0f7a4 : GoodIn wsX4_howManyUnlikeEndings (va_wsS RX4 66 yJ6_bitCount_0f7a4 wsJ6_bitCount_0f7a4) := goodIn_app (goodIn_of _ (by decide +kernel)) ggX4_howManyUnlikeEndings_J6_bitCount_0f7a4
set_option maxRecDepth 20000 in
theorem ggX5_run_X4_usedBy : GoodIn wsX5_run wsX4_usedBy := goodIn_r _ [9, 10, 11, 12, 46, 47, 48, 49, 50, 51, 52, 53, 54, 55, 56] (by decide +kernel) (by decide +kernel)
set_option maxRecDepth 20000 in
theorem gX5_run_X4_usedBy : GoodIn wsX5_run (wsV RX5 26 RX4 yX4_usedBy wsX4_usedBy) := goodIn_app (goodIn_of _ (by decide +kernel)) ggX5_run_X4_usedBy
set_option maxRecDepth 20000 in
theorem ggX5_run_X5_talkOnce : GoodIn wsX5_run wsX5_talkOnce := goodIn_r _ [17, 18, 19, 20, 21, 4, 2, 3, 22, 23, 24, 16, 25, 26, 1, 27, 28, 29, 30, 31, 32, 33, 34, 35, 36, 37, 38, 39, 40, 41, 57, 58, 59, 60, 46, 47, 48, 49, 50, 51, 52, 53, 54, 55, 56, 42, 43, 44, 45] (by decide +kernel) (by decide +kernel)
set_option maxRecDepth 20000 in
theorem gX5_run_X5_talkOnce : GoodIn wsX5_run (wsV RX5 32 RX5 yX5_talkOnce wsX5_talkOnce) := goodIn_app (goodIn_of _ (by decide +kernel)) ggX5_run_X5_talkOnce
set_option maxRecDepth 20000 in
theorem ggX5_talkOnce_X5_draw : GoodIn wsX5_talkOnce wsX5_draw := goodIn_r _ [12, 13, 14, 15, 16, 17, 45, 46, 47, 48] (by decide +kernel) (by decide +kernel)
set_option maxRecDepth 20000 in
theorem gX5_talkOnce_X5_draw : GoodIn wsX5_talkOnce (wsV RX5 41 RX5 yX5_draw wsX5_draw) := goodIn_app (goodIn_of _ (by decide +kernel)) ggX5_talkOnce_X5_draw
set_option maxRecDepth 20000 in
theorem ggX5_talkOnce_X6_endingBy : GoodIn wsX5_talkOnce wsX6_endingBy := goodIn_r _ [20, 21, 22, 19, 23, 24, 25, 26, 27, 28, 29] (by decide +kernel) (by decide +kernel)
set_option maxRecDepth 20000 in
theorem gX5_talkOnce_X6_endingBy_n53 : GoodIn wsX5_talkOnce (wsX6_endingBy) := ggX5_talkOnce_X6_endingBy
set_option maxRecDepth 20000 in
theorem ggX6_init_X1_init : GoodIn wsX6_init wsX1_init := goodIn_r _ [32, 33, 2, 3, 34, 35, 36, 79, 80] (by decide +kernel) (by decide +kernel)
set_option maxRecDepth 20000 in
theorem gX6_init_X1_init_n9 : GoodIn wsX6_init (wsX1_init) := ggX6_init_X1_init
set_option maxRecDepth 20000 in
theorem ggX6_init_X2_init : GoodIn wsX6_init wsX2_init := goodIn_r _ [38, 39, 2, 3, 40, 13, 14, 41, 42, 43, 44, 45, 46, 47, 34, 48, 49, 50, 51, 94, 95, 96, 97, 90, 91, 92, 93] (by decide +kernel) (by decide +kernel)
set_option maxRecDepth 20000 in
theorem gX6_init_X2_init_n18 : GoodIn wsX6_init (wsX2_init) := ggX6_init_X2_init
set_option maxRecDepth 20000 in
theorem ggX6_init_X3_init : GoodIn wsX6_init wsX3_init := goodIn_r _ [46, 47, 2, 3, 34, 48, 49, 50, 51, 94, 95, 96, 97] (by decide +kernel) (by decide +kernel)
set_option maxRecDepth 20000 in
theorem gX6_init_X3_init_n25 : GoodIn wsX6_init (wsX3_init) := ggX6_init_X3_init
set_option maxRecDepth 20000 in
theorem ggX6_init_X4_init : GoodIn wsX6_init wsX4_init := goodIn_r _ [53, 54, 2, 3, 34, 55, 56, 57, 58, 59, 60, 61, 62, 63, 64, 65, 98, 99, 100, 101, 102, 103, 104, 105, 106, 107, 108] (by decide +kernel) (by decide +kernel)
set_option maxRecDepth 20000 in
theorem gX6_init_X4_init_n32 : GoodIn wsX6_init (wsX4_init) := ggX6_init_X4_init
set_option maxRecDepth 20000 in
theorem ggX6_init_X0_init : GoodIn wsX6_init wsX0_init := goodIn_r _ [67, 68, 2, 3, 34, 69, 70, 71, 109, 110, 111] (by decide +kernel) (by decide +kernel)
set_option maxRecDepth 20000 in
theorem gX6_init_X0_init_n42 : GoodIn wsX6_init (wsX0_init) := ggX6_init_X0_init
set_option maxRecDepth 20000 in
theorem ggX6_init_X5_init : GoodIn wsX6_init wsX5_init := goodIn_r _ [73, 74, 2, 3, 34, 75, 76, 77, 78, 112, 113, 114, 115] (by decide +kernel) (by decide +kernel)
set_option maxRecDepth 20000 in
theorem gX6_init_X5_init_n49 : GoodIn wsX6_init (wsX5_init) := ggX6_init_X5_init
set_option maxRecDepth 20000 in
theorem ggX6_letter_X1_add : GoodIn wsX6_letter wsX1_add := goodIn_r _ [7, 8, 9, 19, 20] (by decide +kernel) (by decide +kernel)
set_option maxRecDepth 20000 in
theorem gX6_letter_X1_add : GoodIn wsX6_letter (wsV RX6 65 RX1 yX1_add wsX1_add) := goodIn_app (goodIn_of _ (by decide +kernel)) ggX6_letter_X1_add
set_option maxRecDepth 20000 in
theorem ggX6_fault_X2_read : GoodIn wsX6_fault wsX2_read := goodIn_r _ [7, 8, 9, 10, 11, 12, 13, 14, 15, 16, 17, 18, 19, 20, 21, 6, 22, 23, 24, 25, 26, 27, 28, 29, 30, 31, 32, 33, 34, 35, 36, 37, 38, 39, 40, 41, 42, 43, 44, 45, 46, 47, 48, 49, 50, 51, 52, 53, 54, 55, 56, 57, 58, 59, 60, 61, 62, 63, 64, 65, 66, 67, 68, 69, 70, 71, 72, 73, 74, 75, 76, 77, 78, 79, 80, 81, 82, 83, 84, 85, 86, 87, 88, 89, 90, 91, 92, 93, 94, 95, 96, 97, 98, 99, 100, 101, 102, 103, 104, 105, 106, 107, 108, 109, 110, 111, 112, 113, 114, 115, 116, 117, 118, 119, 120, 121, 122, 123, 124, 125, 126, 127, 128, 129, 130, 131, 132, 133, 134, 135, 136, 137, 138, 139, 140, 141, 142, 143, 144, 154, 155, 156, 157, 158, 159, 160, 161, 162, 163] (by decide +kernel) (by decide +kernel)
set_option maxRecDepth 20000 in
theorem gX6_fault_X2_read : GoodIn wsX6_fault (wsV RX6 69 RX2 yX2_read wsX2_read) := goodIn_app (goodIn_of _ (by decide +kernel)) ggX6_fault_X2_read
set_option maxRecDepth 20000 in
theorem ggX6_room_X2_read : GoodIn wsX6_room wsX2_read := goodIn_r _ [15, 16, 17, 18, 19, 20, 21, 22, 23, 24, 25, 26, 27, 28, 29, 14, 30, 31, 32, 33, 34, 35, 36, 37, 38, 39, 40, 41, 42, 43, 44, 45, 46, 47, 48, 49, 50, 51, 52, 53, 54, 55, 56, 57, 58, 59, 60, 61, 62, 63, 64, 65, 66, 67, 68, 69, 70, 71, 72, 73, 74, 75, 76, 77, 78, 79, 80, 81, 82, 83, 84, 85, 86, 87, 88, 89, 90, 91, 92, 93, 94, 95, 96, 97, 98, 99, 100, 101, 102, 103, 104, 105, 106, 107, 108, 109, 110, 111, 112, 113, 114, 115, 116, 117, 118, 119, 120, 121, 122, 123, 124, 125, 126, 127, 128, 129, 130, 131, 132, 133, 134, 135, 136, 137, 138, 139, 140, 141, 142, 143, 144, 145, 146, 147, 148, 149, 150, 151, 152, 188, 189, 190, 191, 186, 187, 192, 193, 194, 195] (by decide +kernel) (by decide +kernel)
set_option maxRecDepth 20000 in
theorem gX6_room_X2_read : GoodIn wsX6_room (wsV RX6 69 RX2 yX2_read wsX2_read) := goodIn_app (goodIn_of _ (by decide +kernel)) ggX6_room_X2_read
set_option maxRecDepth 20000 in
theorem ggX6_room_X2_hasWholeRoom : GoodIn wsX6_room wsX2_hasWholeRoom := goodIn_r _ [156, 16, 142, 31, 188, 189, 190, 191, 192, 193, 194, 195] (by decide +kernel) (by decide +kernel)
set_option maxRecDepth 20000 in
theorem gX6_room_X2_hasWholeRoom : GoodIn wsX6_room (wsV RX6 73 RX2 yX2_hasWholeRoom wsX2_hasWholeRoom) := goodIn_app (goodIn_of _ (by decide +kernel)) ggX6_room_X2_hasWholeRoom
set_option maxRecDepth 20000 in
theorem ggX6_room_X3_copyFrom : GoodIn wsX6_room wsX3_copyFrom := goodIn_r _ [160, 25, 161, 162, 163, 164, 165, 166, 26, 192, 193, 194, 195] (by decide +kernel) (by decide +kernel)
set_option maxRecDepth 20000 in
theorem gX6_room_X3_copyFrom : GoodIn wsX6_room (wsV RX6 80 RX3 yX3_copyFrom wsX3_copyFrom) := goodIn_app (goodIn_of _ (by decide +kernel)) ggX6_room_X3_copyFrom
set_option maxRecDepth 20000 in
theorem ggX6_room_X4_start : GoodIn wsX6_room wsX4_start := goodIn_r _ [171, 172, 173, 162, 163, 164, 174, 175, 176, 196, 197, 198, 199, 200, 201, 202, 203, 204, 205, 206] (by decide +kernel) (by decide +kernel)
set_option maxRecDepth 20000 in
theorem gX6_room_X4_start : GoodIn wsX6_room (wsV RX6 88 RX4 yX4_start wsX4_start) := goodIn_app (goodIn_of _ (by decide +kernel)) ggX6_room_X4_start
set_option maxRecDepth 20000 in
theorem ggX6_fits_X6_isOpening : GoodIn wsX6_fits wsX6_isOpening := goodIn_r _ [7] (by decide +kernel) (by decide +kernel)
set_option maxRecDepth 20000 in
theorem gX6_fits_X6_isOpening : GoodIn wsX6_fits (va_wsS RX6 95 yX6_isOpening wsX6_isOpening) := goodIn_app (goodIn_of _ (by decide +kernel)) ggX6_fits_X6_isOpening
set_option maxRecDepth 20000 in
theorem ggX6_about_X6_isSpeaker : GoodIn wsX6_about wsX6_isSpeaker := goodIn_r _ [9, 1, 10, 85, 86, 87, 88, 89, 90, 91, 92, 93, 94, 95, 96, 97] (by decide +kernel) (by decide +kernel)
set_option maxRecDepth 20000 in
theorem gX6_about_X6_isSpeaker : GoodIn wsX6_about (wsV RX6 102 RX6 yX6_isSpeaker wsX6_isSpeaker) := goodIn_app (goodIn_of _ (by decide +kernel)) ggX6_about_X6_isSpeaker
set_option maxRecDepth 20000 in
theorem ggX6_about_X4_usedBy : GoodIn wsX6_about wsX4_usedBy := goodIn_r _ [15, 16, 17, 18, 98, 99, 100, 101, 102, 103, 104, 105, 106, 107, 108] (by decide +kernel) (by decide +kernel)
set_option maxRecDepth 20000 in
theorem gX6_about_X4_usedBy : GoodIn wsX6_about (wsV RX6 109 RX4 yX4_usedBy wsX4_usedBy) := goodIn_app (goodIn_of _ (by decide +kernel)) ggX6_about_X4_usedBy
set_option maxRecDepth 20000 in
theorem ggX6_about_X4_openOf : GoodIn wsX6_about wsX4_openOf := goodIn_r _ [22, 16, 23, 24, 25, 26, 14, 27, 17, 98, 99, 100, 101, 102, 103, 104, 105, 106, 107, 108] (by decide +kernel) (by decide +kernel)
set_option maxRecDepth 20000 in
theorem gX6_about_X4_openOf : GoodIn wsX6_about (wsV RX6 113 RX4 yX4_openOf wsX4_openOf) := goodIn_app (goodIn_of _ (by decide +kernel)) ggX6_about_X4_openOf
set_option maxRecDepth 20000 in
theorem ggX6_about_X4_howManyBegunBy : GoodIn wsX6_about wsX4_howManyBegunBy := goodIn_r _ [31, 16, 23, 98, 99, 100, 101, 102, 103, 104, 105, 106, 107, 108] (by decide +kernel) (by decide +kernel)
set_option maxRecDepth 20000 in
theorem gX6_about_X4_howManyBegunBy : GoodIn wsX6_about (wsV RX6 116 RX4 yX4_howManyBegunBy wsX4_howManyBegunBy) := goodIn_app (goodIn_of _ (by decide +kernel)) ggX6_about_X4_howManyBegunBy
set_option maxRecDepth 20000 in
theorem ggX6_about_X4_howManyEndedBy : GoodIn wsX6_about wsX4_howManyEndedBy := goodIn_r _ [35, 16, 17, 98, 99, 100, 101, 102, 103, 104, 105, 106, 107, 108] (by decide +kernel) (by decide +kernel)
set_option maxRecDepth 20000 in
theorem gX6_about_X4_howManyEndedBy : GoodIn wsX6_about (wsV RX6 119 RX4 yX4_howManyEndedBy wsX4_howManyEndedBy) := goodIn_app (goodIn_of _ (by decide +kernel)) ggX6_about_X4_howManyEndedBy
set_option maxRecDepth 20000 in
theorem ggX6_about_X6_sureOpening : GoodIn wsX6_about wsX6_sureOpening := goodIn_r _ [39, 40, 41, 42, 8, 43, 1, 10, 3, 4, 44, 45, 46, 47, 2, 48, 11, 12, 13, 14, 15, 16, 17, 18, 49, 50, 51, 52, 53, 54, 55, 56, 57, 58, 59, 60, 85, 86, 87, 88, 89, 90, 91, 92, 93, 94, 95, 96, 97, 98, 99, 100, 101, 102, 103, 104, 105, 106, 107, 108] (by decide +kernel) (by decide +kernel)
set_option maxRecDepth 20000 in
theorem gX6_about_X6_sureOpening : GoodIn wsX6_about (wsV RX6 122 RX6 yX6_sureOpening wsX6_sureOpening) := goodIn_app (goodIn_of _ (by decide +kernel)) ggX6_about_X6_sureOpening
set_option maxRecDepth 20000 in
theorem ggX6_about_X6_possibleKinds : GoodIn wsX6_about wsX6_possibleKinds := goodIn_r _ [64, 65, 66, 67, 8, 68, 3, 69, 70, 1, 48, 71, 4, 72, 49, 50, 51, 52, 53, 54, 55, 56, 57, 58, 59, 60, 85, 86, 87, 88, 89, 90, 91, 92, 93, 98, 99, 100, 101, 102, 103, 104, 105, 106, 107, 108, 94, 95, 96, 97] (by decide +kernel) (by decide +kernel)
set_option maxRecDepth 20000 in
theorem gX6_about_X6_possibleKinds : GoodIn wsX6_about (wsV RX6 125 RX6 yX6_possibleKinds wsX6_possibleKinds) := goodIn_app (goodIn_of _ (by decide +kernel)) ggX6_about_X6_possibleKinds
set_option maxRecDepth 20000 in
theorem ggX6_about_X6_tellingOpening : GoodIn wsX6_about wsX6_tellingOpening := goodIn_r _ [76, 77, 78, 79, 8, 80, 1, 48, 3, 4, 81, 82, 83, 84, 52, 53, 54, 49, 50, 51, 55, 56, 57, 58, 59, 60, 85, 86, 87, 88, 89, 90, 91, 92, 93, 94, 95, 96, 97, 98, 99, 100, 101, 102, 103, 104, 105, 106, 107, 108] (by decide +kernel) (by decide +kernel)
set_option maxRecDepth 20000 in
theorem gX6_about_X6_tellingOpening : GoodIn wsX6_about (wsV RX6 128 RX6 yX6_tellingOpening wsX6_tellingOpening) := goodIn_app (goodIn_of _ (by decide +kernel)) ggX6_about_X6_tellingOpening
set_option maxRecDepth 20000 in
theorem ggX6_as_X6_isSpeaker : GoodIn wsX6_as wsX6_isSpeaker := goodIn_r _ [7, 1, 8, 12, 13, 14, 15, 16, 17, 18, 19, 20, 21, 22, 23, 24] (by decide +kernel) (by decide +kernel)
set_option maxRecDepth 20000 in
theorem gX6_as_X6_isSpeaker : GoodIn wsX6_as (wsV RX6 102 RX6 yX6_isSpeaker wsX6_isSpeaker) := goodIn_app (goodIn_of _ (by decide +kernel)) ggX6_as_X6_isSpeaker
set_option maxRecDepth 20000 in
theorem ggX6_as_X6_isOfKind : GoodIn wsX6_as wsX6_isOfKind := goodIn_r _ [11] (by decide +kernel) (by decide +kernel)
set_option maxRecDepth 20000 in
theorem gX6_as_X6_isOfKind : GoodIn wsX6_as (va_wsS RX6 132 yX6_isOfKind wsX6_isOfKind) := goodIn_app (goodIn_of _ (by decide +kernel)) ggX6_as_X6_isOfKind
set_option maxRecDepth 20000 in
theorem ggX6_want_X6_isSpeaker : GoodIn wsX6_want wsX6_isSpeaker := goodIn_r _ [8, 9, 10, 14, 15, 16, 17, 18, 19, 20, 21, 22, 34, 35, 36, 37] (by decide +kernel) (by decide +kernel)
set_option maxRecDepth 20000 in
theorem gX6_want_X6_isSpeaker : GoodIn wsX6_want (wsV RX6 102 RX6 yX6_isSpeaker wsX6_isSpeaker) := goodIn_app (goodIn_of _ (by decide +kernel)) ggX6_want_X6_isSpeaker
set_option maxRecDepth 20000 in
theorem ggX6_want_X6_isEnding : GoodIn wsX6_want wsX6_isEnding := goodIn_r _ [13] (by decide +kernel) (by decide +kernel)
set_option maxRecDepth 20000 in
theorem gX6_want_X6_isEnding : GoodIn wsX6_want (va_wsS RX6 136 yX6_isEnding wsX6_isEnding) := goodIn_app (goodIn_of _ (by decide +kernel)) ggX6_want_X6_isEnding
set_option maxRecDepth 20000 in
theorem ggX6_would_X6_isSpeaker : GoodIn wsX6_would wsX6_isSpeaker := goodIn_r _ [5, 6, 7, 39, 40, 41, 42, 43, 44, 45, 46, 47, 48, 49, 50, 51] (by decide +kernel) (by decide +kernel)
set_option maxRecDepth 20000 in
theorem gX6_would_X6_isSpeaker : GoodIn wsX6_would (wsV RX6 102 RX6 yX6_isSpeaker wsX6_isSpeaker) := goodIn_app (goodIn_of _ (by decide +kernel)) ggX6_would_X6_isSpeaker
set_option maxRecDepth 20000 in
theorem ggX6_would_X6_isOpening : GoodIn wsX6_would wsX6_isOpening := goodIn_r _ [10] (by decide +kernel) (by decide +kernel)
set_option maxRecDepth 20000 in
theorem gX6_would_X6_isOpening : GoodIn wsX6_would (va_wsS RX6 95 yX6_isOpening wsX6_isOpening) := goodIn_app (goodIn_of _ (by decide +kernel)) ggX6_would_X6_isOpening
set_option maxRecDepth 20000 in
theorem ggX6_would_X6_endingNow : GoodIn wsX6_would wsX6_endingNow := goodIn_r _ [14, 6, 15, 16, 17, 18, 19, 20, 21, 22, 23, 24, 25, 26, 27, 28, 4, 29, 30, 31, 32, 33, 34, 35, 36, 37, 38, 39, 40, 41, 42, 43, 44, 45, 46, 47, 48, 49, 50, 51, 52, 53, 54, 55, 56, 57, 58, 59, 60, 61, 62] (by decide +kernel) (by decide +kernel)
set_option maxRecDepth 20000 in
theorem gX6_would_X6_endingNow : GoodIn wsX6_would (wsV RX6 142 RX6 yX6_endingNow wsX6_endingNow) := goodIn_app (goodIn_of _ (by decide +kernel)) ggX6_would_X6_endingNow
set_option maxRecDepth 20000 in
theorem ggX6_begin_X6_isSpeaker : GoodIn wsX6_begin wsX6_isSpeaker := goodIn_r _ [7, 8, 9, 31, 32, 33, 34, 35, 36, 37, 38, 39, 51, 52, 53, 54] (by decide +kernel) (by decide +kernel)
set_option maxRecDepth 20000 in
theorem gX6_begin_X6_isSpeaker : GoodIn wsX6_begin (wsV RX6 102 RX6 yX6_isSpeaker wsX6_isSpeaker) := goodIn_app (goodIn_of _ (by decide +kernel)) ggX6_begin_X6_isSpeaker
set_option maxRecDepth 20000 in
theorem ggX6_begin_X6_isOpening : GoodIn wsX6_begin wsX6_isOpening := goodIn_r _ [12] (by decide +kernel) (by decide +kernel)
set_option maxRecDepth 20000 in
theorem gX6_begin_X6_isOpening : GoodIn wsX6_begin (va_wsS RX6 95 yX6_isOpening wsX6_isOpening) := goodIn_app (goodIn_of _ (by decide +kernel)) ggX6_begin_X6_isOpening
set_option maxRecDepth 20000 in
theorem ggX6_begin_X4_openOf : GoodIn wsX6_begin wsX4_openOf := goodIn_r _ [17, 18, 19, 20, 21, 22, 16, 23, 24, 40, 41, 42, 43, 44, 45, 46, 47, 48, 49, 50] (by decide +kernel) (by decide +kernel)
set_option maxRecDepth 20000 in
theorem gX6_begin_X4_openOf : GoodIn wsX6_begin (wsV RX6 113 RX4 yX4_openOf wsX4_openOf) := goodIn_app (goodIn_of _ (by decide +kernel)) ggX6_begin_X4_openOf
set_option maxRecDepth 20000 in
theorem ggX6_begin_X4_addSentence : GoodIn wsX6_begin wsX4_addSentence := goodIn_r _ [28, 18, 19, 29, 24, 30, 40, 41, 42, 43, 44, 45, 46, 47, 48, 49, 50] (by decide +kernel) (by decide +kernel)
set_option maxRecDepth 20000 in
theorem gX6_begin_X4_addSentence : GoodIn wsX6_begin (wsV RX6 148 RX4 yX4_addSentence wsX4_addSentence) := goodIn_app (goodIn_of _ (by decide +kernel)) ggX6_begin_X4_addSentence
set_option maxRecDepth 20000 in
theorem ggX6_end_X6_isSentence : GoodIn wsX6_end wsX6_isSentence := goodIn_r _ [10, 1, 11, 49, 50, 51, 52, 53, 54, 55, 56, 57, 58, 59, 60, 61, 62, 63, 64, 65, 66, 67, 68] (by decide +kernel) (by decide +kernel)
set_option maxRecDepth 20000 in
theorem gX6_end_X6_isSentence : GoodIn wsX6_end (wsV RX6 151 RX6 yX6_isSentence wsX6_isSentence) := goodIn_app (goodIn_of _ (by decide +kernel)) ggX6_end_X6_isSentence
set_option maxRecDepth 20000 in
theorem ggX6_end_X6_isSpeaker : GoodIn wsX6_end wsX6_isSpeaker := goodIn_r _ [15, 16, 17, 49, 50, 51, 52, 53, 54, 55, 56, 57, 69, 70, 71, 72] (by decide +kernel) (by decide +kernel)
set_option maxRecDepth 20000 in
theorem gX6_end_X6_isSpeaker : GoodIn wsX6_end (wsV RX6 102 RX6 yX6_isSpeaker wsX6_isSpeaker) := goodIn_app (goodIn_of _ (by decide +kernel)) ggX6_end_X6_isSpeaker
set_option maxRecDepth 20000 in
theorem ggX6_end_X4_isOpen : GoodIn wsX6_end wsX4_isOpen := goodIn_r _ [22, 23, 58, 59, 60, 61, 62, 63, 64, 65, 66, 67, 68] (by decide +kernel) (by decide +kernel)
set_option maxRecDepth 20000 in
theorem gX6_end_X4_isOpen : GoodIn wsX6_end (wsV RX6 154 RX4 yX4_isOpen wsX4_isOpen) := goodIn_app (goodIn_of _ (by decide +kernel)) ggX6_end_X4_isOpen
set_option maxRecDepth 20000 in
theorem ggX6_end_X6_endingNow : GoodIn wsX6_end wsX6_endingNow := goodIn_r _ [27, 16, 28, 29, 1, 30, 31, 32, 33, 21, 34, 35, 23, 36, 37, 38, 9, 39, 40, 41, 42, 43, 44, 45, 46, 47, 48, 49, 50, 51, 52, 53, 54, 55, 56, 57, 69, 70, 71, 72, 58, 59, 60, 61, 62, 63, 64, 65, 66, 67, 68] (by decide +kernel) (by decide +kernel)
set_option maxRecDepth 20000 in
theorem gX6_end_X6_endingNow : GoodIn wsX6_end (wsV RX6 142 RX6 yX6_endingNow wsX6_endingNow) := goodIn_app (goodIn_of _ (by decide +kernel)) ggX6_end_X6_endingNow
set_option maxRecDepth 20000 in
theorem ggX6_sentence_X6_isSentence : GoodIn wsX6_sentence wsX6_isSentence := goodIn_r _ [10, 1, 11, 25, 26, 27, 28, 29, 30, 31, 32, 33, 34, 35, 36, 37, 38, 39, 40, 41, 42, 43, 44] (by decide +kernel) (by decide +kernel)
set_option maxRecDepth 20000 in
theorem gX6_sentence_X6_isSentence : GoodIn wsX6_sentence (wsV RX6 151 RX6 yX6_isSentence wsX6_isSentence) := goodIn_app (goodIn_of _ (by decide +kernel)) ggX6_sentence_X6_isSentence
set_option maxRecDepth 20000 in
theorem ggX6_sentence_X4_isAsWanted : GoodIn wsX6_sentence wsX4_isAsWanted := goodIn_r _ [16, 17, 18, 19, 20, 21, 22, 15, 23, 24, 34, 35, 36, 37, 38, 39, 40, 41, 42, 43, 44] (by decide +kernel) (by decide +kernel)
set_option maxRecDepth 20000 in
theorem gX6_sentence_X4_isAsWanted : GoodIn wsX6_sentence (wsV RX6 169 RX4 yX4_isAsWanted wsX4_isAsWanted) := goodIn_app (goodIn_of _ (by decide +kernel)) ggX6_sentence_X4_isAsWanted
set_option maxRecDepth 20000 in
theorem ggX6_match_X6_findPleasing : GoodIn wsX6_match wsX6_findPleasing := goodIn_r _ [10, 3, 11, 12, 13, 14, 15, 16, 9, 17, 1, 2, 18, 19, 20, 21, 22, 23, 24, 25, 26, 27, 28, 29, 30, 31, 32, 33, 34, 35, 36, 37, 38, 39, 40, 41, 42, 43, 44, 45, 46, 47, 48, 49, 50, 51, 52, 53, 54, 74, 75, 76, 77, 78, 79, 80, 81, 82, 87, 88, 89, 90, 91, 92, 93, 94, 95, 96, 97, 98, 99, 100, 83, 84, 85, 86] (by decide +kernel) (by decide +kernel)
set_option maxRecDepth 20000 in
theorem gX6_match_X6_findPleasing : GoodIn wsX6_match (wsV RX6 172 RX6 yX6_findPleasing wsX6_findPleasing) := goodIn_app (goodIn_of _ (by decide +kernel)) ggX6_match_X6_findPleasing
set_option maxRecDepth 20000 in
theorem ggX6_match_X0_solve : GoodIn wsX6_match wsX0_solve := goodIn_r _ [59, 60, 61, 62, 63, 64, 58, 65, 66, 67, 68, 69, 47, 9, 48, 70, 71, 72, 73, 87, 88, 89] (by decide +kernel) (by decide +kernel)
set_option maxRecDepth 20000 in
theorem gX6_match_X0_solve : GoodIn wsX6_match (wsV RX6 175 RX0 yX0_solve wsX0_solve) := goodIn_app (goodIn_of _ (by decide +kernel)) ggX6_match_X0_solve
set_option maxRecDepth 20000 in
theorem ggX6_hear_X6_isSpeaker : GoodIn wsX6_hear wsX6_isSpeaker := goodIn_r _ [7, 8, 9, 25, 26, 27, 28, 29, 30, 31, 32, 33, 45, 46, 47, 48] (by decide +kernel) (by decide +kernel)
set_option maxRecDepth 20000 in
theorem gX6_hear_X6_isSpeaker : GoodIn wsX6_hear (wsV RX6 102 RX6 yX6_isSpeaker wsX6_isSpeaker) := goodIn_app (goodIn_of _ (by decide +kernel)) ggX6_hear_X6_isSpeaker
set_option maxRecDepth 20000 in
theorem ggX6_hear_X6_isOpening : GoodIn wsX6_hear wsX6_isOpening := goodIn_r _ [12] (by decide +kernel) (by decide +kernel)
set_option maxRecDepth 20000 in
theorem gX6_hear_X6_isOpening : GoodIn wsX6_hear (va_wsS RX6 95 yX6_isOpening wsX6_isOpening) := goodIn_app (goodIn_of _ (by decide +kernel)) ggX6_hear_X6_isOpening
set_option maxRecDepth 20000 in
theorem ggX6_hear_X6_isEnding : GoodIn wsX6_hear wsX6_isEnding := goodIn_r _ [15] (by decide +kernel) (by decide +kernel)
set_option maxRecDepth 20000 in
theorem gX6_hear_X6_isEnding : GoodIn wsX6_hear (va_wsS RX6 136 yX6_isEnding wsX6_isEnding) := goodIn_app (goodIn_of _ (by decide +kernel)) ggX6_hear_X6_isEnding
set_option maxRecDepth 20000 in
theorem ggX6_hear_X4_addHeard : GoodIn wsX6_hear wsX4_addHeard := goodIn_r _ [20, 21, 22, 23, 24, 34, 35, 36, 37, 38, 39, 40, 41, 42, 43, 44] (by decide +kernel) (by decide +kernel)
set_option maxRecDepth 20000 in
theorem gX6_hear_X4_addHeard : GoodIn wsX6_hear (wsV RX6 187 RX4 yX4_addHeard wsX4_addHeard) := goodIn_app (goodIn_of _ (by decide +kernel)) ggX6_hear_X4_addHeard
set_option maxRecDepth 20000 in
theorem ggX6_talks_X5_run : GoodIn wsX6_talks wsX5_run := goodIn_r _ [12, 13, 14, 15, 16, 17, 18, 19, 20, 21, 22, 23, 24, 25, 26, 27, 11, 28, 29, 30, 31, 32, 33, 34, 35, 36, 37, 38, 39, 40, 41, 42, 43, 44, 45, 46, 47, 48, 49, 50, 51, 52, 66, 67, 68, 69, 70, 71, 72, 73, 74, 75, 76, 77, 78, 79, 80, 62, 63, 64, 65] (by decide +kernel) (by decide +kernel)
set_option maxRecDepth 20000 in
theorem gX6_talks_X5_run : GoodIn wsX6_talks (wsV RX6 191 RX5 yX5_run wsX5_run) := goodIn_app (goodIn_of _ (by decide +kernel)) ggX6_talks_X5_run
set_option maxRecDepth 20000 in
theorem ggX6_image_X4_copyFrom : GoodIn wsX6_image wsX4_copyFrom := goodIn_r _ [11, 12, 13, 14, 15, 16, 17, 18, 19, 20, 21, 22, 23, 24, 25, 26, 40, 41, 42, 43, 44, 45, 46, 47, 48, 49, 50] (by decide +kernel) (by decide +kernel)
set_option maxRecDepth 20000 in
theorem gX6_image_X4_copyFrom : GoodIn wsX6_image (wsV RX6 203 RX4 yX4_copyFrom wsX4_copyFrom) := goodIn_app (goodIn_of _ (by decide +kernel)) ggX6_image_X4_copyFrom
set_option maxRecDepth 20000 in
theorem ggX6_restore_X4_copyFrom : GoodIn wsX6_restore wsX4_copyFrom := goodIn_r _ [9, 10, 11, 12, 13, 14, 15, 16, 17, 18, 19, 20, 21, 22, 23, 24, 34, 35, 36, 37, 38, 39, 40, 41, 42, 43, 44] (by decide +kernel) (by decide +kernel)
set_option maxRecDepth 20000 in
theorem gX6_restore_X4_copyFrom : GoodIn wsX6_restore (wsV RX6 203 RX4 yX4_copyFrom wsX4_copyFrom) := goodIn_app (goodIn_of _ (by decide +kernel)) ggX6_restore_X4_copyFrom
set_option maxRecDepth 20000 in
theorem ggX6_count_X4_howManyOpen : GoodIn wsX6_count wsX4_howManyOpen := goodIn_r _ [14, 15, 16, 17, 13, 18, 19, 20, 64, 65, 66, 67, 68, 69, 70, 71, 72, 73, 74] (by decide +kernel) (by decide +kernel)
set_option maxRecDepth 20000 in
theorem gX6_count_X4_howManyOpen : GoodIn wsX6_count (wsV RX6 206 RX4 yX4_howManyOpen wsX4_howManyOpen) := goodIn_app (goodIn_of _ (by decide +kernel)) ggX6_count_X4_howManyOpen
set_option maxRecDepth 20000 in
theorem ggX6_count_X4_howManyAsWanted : GoodIn wsX6_count wsX4_howManyAsWanted := goodIn_r _ [24, 19, 25, 26, 27, 13, 28, 29, 30, 31, 32, 33, 34, 35, 20, 64, 65, 66, 67, 68, 69, 70, 71, 72, 73, 74] (by decide +kernel) (by decide +kernel)
set_option maxRecDepth 20000 in
theorem gX6_count_X4_howManyAsWanted : GoodIn wsX6_count (wsV RX6 210 RX4 yX4_howManyAsWanted wsX4_howManyAsWanted) := goodIn_app (goodIn_of _ (by decide +kernel)) ggX6_count_X4_howManyAsWanted
set_option maxRecDepth 20000 in
theorem ggX6_count_X4_howManyUnlikeEndings : GoodIn wsX6_count wsX4_howManyUnlikeEndings := goodIn_r _ [39, 40, 41, 42, 13, 43, 19, 20, 29, 44, 45, 46, 47, 48, 49, 50, 64, 65, 66, 67, 68, 69, 70, 71, 72, 73, 74] (by decide +kernel) (by decide +kernel)
set_option maxRecDepth 20000 in
theorem gX6_count_X4_howManyUnlikeEndings : GoodIn wsX6_count (wsV RX6 213 RX4 yX4_howManyUnlikeEndings wsX4_howManyUnlikeEndings) := goodIn_app (goodIn_of _ (by decide +kernel)) ggX6_count_X4_howManyUnlikeEndings
set_option maxRecDepth 20000 in
theorem ggX6_digest_X6_mixed : GoodIn wsX6_digest wsX6_mixed := goodIn_r _ [13, 14] (by decide +kernel) (by decide +kernel)
set_option maxRecDepth 20000 in
theorem gX6_digest_X6_mixed : GoodIn wsX6_digest (va_wsS RX6 218 yX6_mixed wsX6_mixed) := goodIn_app (goodIn_of _ (by decide +kernel)) ggX6_digest_X6_mixed
set_option maxRecDepth 20000 in
theorem ggX6_digest_X6_about : GoodIn wsX6_digest wsX6_about := goodIn_r _ [18, 2, 19, 5, 20, 21, 22, 23, 12, 24, 3, 25, 26, 27, 28, 29, 30, 31, 32, 33, 34, 35, 36, 37, 38, 39, 40, 41, 42, 43, 44, 45, 46, 47, 48, 49, 50, 51, 52, 53, 54, 55, 56, 57, 58, 59, 60, 61, 4, 62, 63, 64, 65, 66, 67, 68, 69, 70, 71, 72, 73, 74, 75, 76, 77, 78, 79, 80, 81, 82, 83, 84, 85, 86, 87, 88, 89, 90, 91, 92, 93, 94, 95, 96, 97, 176, 177, 178, 179, 180, 181, 182, 183, 184, 185, 186, 187, 188, 189, 190, 191, 192, 193, 194, 195, 196, 197, 198, 199] (by decide +kernel) (by decide +kernel)
set_option maxRecDepth 20000 in
theorem gX6_digest_X6_about : GoodIn wsX6_digest (wsV RX6 222 RX6 yX6_about wsX6_about) := goodIn_app (goodIn_of _ (by decide +kernel)) ggX6_digest_X6_about
set_option maxRecDepth 20000 in
theorem ggX6_digest_X6_endingNow : GoodIn wsX6_digest wsX6_endingNow := goodIn_r _ [61, 2, 19, 4, 5, 20, 25, 26, 27, 28, 29, 30, 31, 32, 62, 63, 12, 64, 65, 66, 67, 68, 69, 70, 71, 72, 73, 176, 177, 178, 179, 180, 181, 182, 183, 184, 185, 186, 187, 188, 189, 190, 191, 192, 193, 194, 195, 196, 197, 198, 199] (by decide +kernel) (by decide +kernel)
set_option maxRecDepth 20000 in
theorem gX6_digest_X6_endingNow : GoodIn wsX6_digest (wsV RX6 142 RX6 yX6_endingNow wsX6_endingNow) := goodIn_app (goodIn_of _ (by decide +kernel)) ggX6_digest_X6_endingNow
set_option maxRecDepth 20000 in
theorem ggX6_digest_X6_sentence : GoodIn wsX6_digest wsX6_sentence := goodIn_r _ [101, 5, 102, 103, 104, 105, 106, 107, 108, 12, 109, 6, 110, 111, 112, 28, 113, 32, 114, 37, 38, 39, 40, 41, 31, 176, 177, 178, 179, 180, 181, 182, 183, 184, 189, 190, 191, 192, 193, 194, 195, 196, 197, 198, 199] (by decide +kernel) (by decide +kernel)
set_option maxRecDepth 20000 in
theorem gX6_digest_X6_sentence : GoodIn wsX6_digest (wsV RX6 225 RX6 yX6_sentence wsX6_sentence) := goodIn_app (goodIn_of _ (by decide +kernel)) ggX6_digest_X6_sentence
set_option maxRecDepth 20000 in
theorem ggX6_digest_X6_match : GoodIn wsX6_digest wsX6_match := goodIn_r _ [118, 2, 3, 119, 120, 121, 122, 123, 124, 12, 125, 126, 5, 6, 21, 22, 23, 24, 127, 128, 129, 130, 102, 103, 20, 131, 39, 40, 28, 41, 31, 58, 59, 60, 61, 19, 4, 25, 26, 27, 29, 30, 32, 62, 63, 64, 65, 66, 67, 68, 69, 70, 71, 72, 73, 132, 133, 134, 135, 136, 137, 138, 139, 140, 141, 142, 143, 95, 96, 97, 144, 145, 146, 147, 176, 177, 178, 179, 180, 181, 182, 183, 184, 185, 186, 187, 188, 202, 203, 204, 189, 190, 191, 192, 193, 194, 195, 196, 197, 198, 199] (by decide +kernel) (by decide +kernel)
set_option maxRecDepth 20000 in
theorem gX6_digest_X6_match : GoodIn wsX6_digest (wsV RX6 228 RX6 yX6_match wsX6_match) := goodIn_app (goodIn_of _ (by decide +kernel)) ggX6_digest_X6_match
set_option maxRecDepth 20000 in
theorem ggX6_digest_X6_count : GoodIn wsX6_digest wsX6_count := goodIn_r _ [151, 2, 3, 5, 6, 152, 82, 7, 8, 153, 154, 155, 156, 28, 157, 158, 47, 48, 49, 30, 31, 159, 160, 161, 162, 163, 111, 112, 113, 32, 114, 37, 38, 39, 40, 41, 164, 165, 166, 167, 168, 26, 27, 29, 169, 170, 171, 172, 173, 174, 175, 176, 177, 178, 179, 180, 181, 182, 183, 184, 185, 186, 187, 188, 189, 190, 191, 192, 193, 194, 195, 196, 197, 198, 199, 200, 201] (by decide +kernel) (by decide +kernel)
set_option maxRecDepth 20000 in
theorem gX6_digest_X6_count : GoodIn wsX6_digest (wsV RX6 234 RX6 yX6_count wsX6_count) := goodIn_app (goodIn_of _ (by decide +kernel)) ggX6_digest_X6_count
set_option maxRecDepth 20000 in
theorem ggX6_endingBy_X6_has : GoodIn wsX6_endingBy wsX6_has := goodIn_r _ [4] (by decide +kernel) (by decide +kernel)
set_option maxRecDepth 20000 in
theorem gX6_endingBy_X6_has : GoodIn wsX6_endingBy (va_wsS RX6 239 yX6_has wsX6_has) := goodIn_app (goodIn_of _ (by decide +kernel)) ggX6_endingBy_X6_has
set_option maxRecDepth 20000 in
theorem ggX6_endingBy_X6_greatest : GoodIn wsX6_endingBy wsX6_greatest := goodIn_r _ [7] (by decide +kernel) (by decide +kernel)
set_option maxRecDepth 20000 in
theorem gX6_endingBy_X6_greatest : GoodIn wsX6_endingBy (va_wsS RX6 242 yX6_greatest wsX6_greatest) := goodIn_app (goodIn_of _ (by decide +kernel)) ggX6_endingBy_X6_greatest
set_option maxRecDepth 20000 in
theorem ggX6_endingBy_X6_least : GoodIn wsX6_endingBy wsX6_least := goodIn_r _ [10] (by decide +kernel) (by decide +kernel)
set_option maxRecDepth 20000 in
theorem gX6_endingBy_X6_least : GoodIn wsX6_endingBy (va_wsS RX6 245 yX6_least wsX6_least) := goodIn_app (goodIn_of _ (by decide +kernel)) ggX6_endingBy_X6_least
set_option maxRecDepth 20000 in
theorem ggX6_endingNow_X4_usedBy : GoodIn wsX6_endingNow wsX4_usedBy := goodIn_r _ [10, 11, 12, 13, 40, 41, 42, 43, 44, 45, 46, 47, 48, 49, 50] (by decide +kernel) (by decide +kernel)
set_option maxRecDepth 20000 in
theorem gX6_endingNow_X4_usedBy : GoodIn wsX6_endingNow (wsV RX6 109 RX4 yX4_usedBy wsX4_usedBy) := goodIn_app (goodIn_of _ (by decide +kernel)) ggX6_endingNow_X4_usedBy
set_option maxRecDepth 20000 in
theorem ggX6_endingNow_X6_endingBy : GoodIn wsX6_endingNow wsX6_endingBy := goodIn_r _ [17, 18, 19, 16, 20, 21, 22, 23, 24, 25, 26] (by decide +kernel) (by decide +kernel)
set_option maxRecDepth 20000 in
theorem gX6_endingNow_X6_endingBy : GoodIn wsX6_endingNow (va_wsS RX6 248 yX6_endingBy wsX6_endingBy) := goodIn_app (goodIn_of _ (by decide +kernel)) ggX6_endingNow_X6_endingBy
set_option maxRecDepth 20000 in
theorem ggX6_sureOpening_X6_isSure : GoodIn wsX6_sureOpening wsX6_isSure := goodIn_r _ [5, 6, 7, 8, 9, 10, 11, 12, 4, 13, 14, 15, 16, 17, 18, 19, 20, 21, 22, 23, 24, 25, 26, 27, 28, 29, 30, 31, 32, 33, 34, 35, 36, 37, 38, 39, 40, 41, 42, 43, 44, 45, 46, 47, 48, 49, 50, 51, 52, 53, 54, 55, 56, 57, 58, 59] (by decide +kernel) (by decide +kernel)
set_option maxRecDepth 20000 in
theorem gX6_sureOpening_X6_isSure : GoodIn wsX6_sureOpening (wsV RX6 252 RX6 yX6_isSure wsX6_isSure) := goodIn_app (goodIn_of _ (by decide +kernel)) ggX6_sureOpening_X6_isSure
set_option maxRecDepth 20000 in
theorem ggX6_isSure_X6_endingNow : GoodIn wsX6_isSure wsX6_endingNow := goodIn_r _ [9, 1, 10, 11, 3, 4, 12, 13, 14, 15, 16, 17, 18, 19, 20, 21, 8, 22, 23, 24, 25, 26, 27, 28, 29, 30, 31, 32, 33, 34, 35, 36, 37, 38, 39, 40, 41, 42, 43, 44, 45, 46, 47, 48, 49, 50, 51, 52, 53, 54, 55] (by decide +kernel) (by decide +kernel)
set_option maxRecDepth 20000 in
theorem gX6_isSure_X6_endingNow : GoodIn wsX6_isSure (wsV RX6 142 RX6 yX6_endingNow wsX6_endingNow) := goodIn_app (goodIn_of _ (by decide +kernel)) ggX6_isSure_X6_endingNow
set_option maxRecDepth 20000 in
theorem ggX6_possibleKinds_X6_agreesWithHeard : GoodIn wsX6_possibleKinds wsX6_agreesWithHeard := goodIn_r _ [5, 6, 7, 8, 9, 10, 11, 12, 13, 14, 15, 4, 16, 17, 18, 19, 20, 21, 22, 23, 24, 25, 26, 27, 28, 29, 30, 31, 32, 33, 34, 35, 36, 37, 38, 39, 40, 41, 42, 43, 44, 45, 46, 47, 48, 49] (by decide +kernel) (by decide +kernel)
set_option maxRecDepth 20000 in
theorem gX6_possibleKinds_X6_agreesWithHeard : GoodIn wsX6_possibleKinds (wsV RX6 255 RX6 yX6_agreesWithHeard wsX6_agreesWithHeard) := goodIn_app (goodIn_of _ (by decide +kernel)) ggX6_possibleKinds_X6_agreesWithHeard
set_option maxRecDepth 20000 in
theorem ggX6_agreesWithHeard_X6_endingBy : GoodIn wsX6_agreesWithHeard wsX6_endingBy := goodIn_r _ [12, 13, 14, 11, 15, 16, 17, 18, 19, 20, 21] (by decide +kernel) (by decide +kernel)
set_option maxRecDepth 20000 in
theorem gX6_agreesWithHeard_X6_endingBy : GoodIn wsX6_agreesWithHeard (va_wsS RX6 248 yX6_endingBy wsX6_endingBy) := goodIn_app (goodIn_of _ (by decide +kernel)) ggX6_agreesWithHeard_X6_endingBy
set_option maxRecDepth 20000 in
theorem ggX6_tellingOpening_X6_mostKindsLeft : GoodIn wsX6_tellingOpening wsX6_mostKindsLeft := goodIn_r _ [5, 6, 7, 8, 9, 10, 11, 12, 13, 14, 15, 4, 16, 17, 18, 19, 20, 21, 22, 23, 24, 25, 26, 27, 28, 29, 30, 31, 32, 33, 34, 35, 36, 37, 38, 39, 40, 41, 42, 43, 44, 45, 46, 47, 48, 49] (by decide +kernel) (by decide +kernel)
set_option maxRecDepth 20000 in
theorem gX6_tellingOpening_X6_mostKindsLeft : GoodIn wsX6_tellingOpening (wsV RX6 267 RX6 yX6_mostKindsLeft wsX6_mostKindsLeft) := goodIn_app (goodIn_of _ (by decide +kernel)) ggX6_tellingOpening_X6_mostKindsLeft
set_option maxRecDepth 20000 in
theorem ggX6_mostKindsLeft_X6_has : GoodIn wsX6_mostKindsLeft wsX6_has := goodIn_r _ [12] (by decide +kernel) (by decide +kernel)
set_option maxRecDepth 20000 in
theorem gX6_mostKindsLeft_X6_has : GoodIn wsX6_mostKindsLeft (va_wsS RX6 239 yX6_has wsX6_has) := goodIn_app (goodIn_of _ (by decide +kernel)) ggX6_mostKindsLeft_X6_has
set_option maxRecDepth 20000 in
theorem ggX6_mostKindsLeft_X6_endingBy : GoodIn wsX6_mostKindsLeft wsX6_endingBy := goodIn_r _ [15, 9, 10, 11, 12, 16, 17, 18, 19, 20, 21] (by decide +kernel) (by decide +kernel)
set_option maxRecDepth 20000 in
theorem gX6_mostKindsLeft_X6_endingBy : GoodIn wsX6_mostKindsLeft (va_wsS RX6 248 yX6_endingBy wsX6_endingBy) := goodIn_app (goodIn_of _ (by decide +kernel)) ggX6_mostKindsLeft_X6_endingBy
set_option maxRecDepth 20000 in
theorem ggX6_findPleasing_X6_isSpeaker : GoodIn wsX6_findPleasing wsX6_isSpeaker := goodIn_r _ [9, 10, 11, 49, 50, 51, 52, 53, 54, 55, 56, 57, 72, 73, 74, 75] (by decide +kernel) (by decide +kernel)
set_option maxRecDepth 20000 in
theorem gX6_findPleasing_X6_isSpeaker : GoodIn wsX6_findPleasing (wsV RX6 102 RX6 yX6_isSpeaker wsX6_isSpeaker) := goodIn_app (goodIn_of _ (by decide +kernel)) ggX6_findPleasing_X6_isSpeaker
set_option maxRecDepth 20000 in
theorem ggX6_findPleasing_X6_wouldPlease : GoodIn wsX6_findPleasing wsX6_wouldPlease := goodIn_r _ [15, 3, 16, 17, 18, 19, 20, 21, 22, 23, 24, 25, 26, 27, 8, 28, 10, 29, 30, 31, 32, 33, 34, 35, 36, 37, 38, 39, 40, 41, 42, 43, 44, 45, 46, 47, 48, 49, 50, 51, 52, 53, 54, 55, 56, 57, 61, 62, 63, 64, 65, 66, 67, 68, 69, 70, 71, 72, 73, 74, 75] (by decide +kernel) (by decide +kernel)
set_option maxRecDepth 20000 in
theorem gX6_findPleasing_X6_wouldPlease : GoodIn wsX6_findPleasing (wsV RX6 279 RX6 yX6_wouldPlease wsX6_wouldPlease) := goodIn_app (goodIn_of _ (by decide +kernel)) ggX6_findPleasing_X6_wouldPlease
set_option maxRecDepth 20000 in
theorem ggX6_wouldPlease_X4_isOpen : GoodIn wsX6_wouldPlease wsX4_isOpen := goodIn_r _ [9, 10, 46, 47, 48, 49, 50, 51, 52, 53, 54, 55, 56] (by decide +kernel) (by decide +kernel)
set_option maxRecDepth 20000 in
theorem gX6_wouldPlease_X4_isOpen : GoodIn wsX6_wouldPlease (wsV RX6 154 RX4 yX4_isOpen wsX4_isOpen) := goodIn_app (goodIn_of _ (by decide +kernel)) ggX6_wouldPlease_X4_isOpen
set_option maxRecDepth 20000 in
theorem ggX6_wouldPlease_X6_endingNow : GoodIn wsX6_wouldPlease wsX6_endingNow := goodIn_r _ [15, 16, 17, 18, 1, 4, 19, 20, 21, 8, 22, 23, 10, 24, 25, 26, 14, 27, 28, 29, 30, 31, 32, 33, 34, 35, 36, 37, 38, 39, 40, 41, 42, 43, 44, 45, 57, 58, 59, 60, 46, 47, 48, 49, 50, 51, 52, 53, 54, 55, 56] (by decide +kernel) (by decide +kernel)
set_option maxRecDepth 20000 in
theorem gX6_wouldPlease_X6_endingNow : GoodIn wsX6_wouldPlease (wsV RX6 142 RX6 yX6_endingNow wsX6_endingNow) := goodIn_app (goodIn_of _ (by decide +kernel)) ggX6_wouldPlease_X6_endingNow
set_option maxRecDepth 20000 in
theorem ggJ0_length_8abf5_J0_coder_7d493 : GoodIn wsJ0_length_8abf5 wsJ0_coder_7d493 := goodIn_r _ [6, 7, 8] (by decide +kernel) (by decide +kernel)
set_option maxRecDepth 20000 in
theorem gJ0_length_8abf5_J0_coder_7d493 : GoodIn wsJ0_length_8abf5 (wsV RJ0 335 RJ0 yJ0_coder_7d493 wsJ0_coder_7d493) := goodIn_app (goodIn_of _ (by decide +kernel)) ggJ0_length_8abf5_J0_coder_7d493
set_option maxRecDepth 20000 in
theorem ggJ0_indexOf_0f7a4_J0_indexOf_7cf53 : GoodIn wsJ0_indexOf_0f7a4 wsJ0_indexOf_7cf53 := goodIn_r _ [5, 6, 7, 8, 9, 4, 10, 11, 12, 13, 14, 15, 16, 17, 18, 19, 20, 21, 22, 23, 24, 25, 26, 27, 28, 29, 30, 31, 32, 33, 34, 35, 36, 37, 38, 39, 40, 41, 42, 43, 44, 45, 46, 47, 48, 49, 50, 51, 52, 53, 54, 55, 56, 57, 58, 59, 60, 61, 62, 63, 64, 65, 66, 67, 68, 69, 70, 71, 72, 73, 74, 75, 76, 77, 78, 79, 80, 81, 82, 83, 84, 85] (by decide +kernel) (by decide +kernel)
set_option maxRecDepth 20000 in
theorem gJ0_indexOf_0f7a4_J0_indexOf_7cf53 : GoodIn wsJ0_indexOf_0f7a4 (wsV RJ0 633 RJ0 yJ0_indexOf_7cf53 wsJ0_indexOf_7cf53) := goodIn_app (goodIn_of _ (by decide +kernel)) ggJ0_indexOf_0f7a4_J0_indexOf_7cf53
set_option maxRecDepth 20000 in
theorem ggJ0_indexOf_7cf53_J0_isLatin1_aae02 : GoodIn wsJ0_indexOf_7cf53 wsJ0_isLatin1_aae02 := goodIn_r _ [6, 7, 8] (by decide +kernel) (by decide +kernel)
set_option maxRecDepth 20000 in
theorem gJ0_indexOf_7cf53_J0_isLatin1_aae02 : GoodIn wsJ0_indexOf_7cf53 (wsV RJ0 492 RJ0 yJ0_isLatin1_aae02 wsJ0_isLatin1_aae02) := goodIn_app (goodIn_of _ (by decide +kernel)) ggJ0_indexOf_7cf53_J0_isLatin1_aae02
set_option maxRecDepth 20000 in
theorem ggJ0_indexOf_7cf53_J0_length_8abf5 : GoodIn wsJ0_indexOf_7cf53 wsJ0_length_8abf5 := goodIn_r _ [12, 1, 13, 14, 15, 5, 16, 7, 8] (by decide +kernel) (by decide +kernel)
set_option maxRecDepth 20000 in
theorem gJ0_indexOf_7cf53_J0_length_8abf5 : GoodIn wsJ0_indexOf_7cf53 (wsV RJ0 505 RJ0 yJ0_length_8abf5 wsJ0_length_8abf5) := goodIn_app (goodIn_of _ (by decide +kernel)) ggJ0_indexOf_7cf53_J0_length_8abf5
set_option maxRecDepth 20000 in
theorem ggJ0_indexOf_7cf53_J1_indexOf_4cfef : GoodIn wsJ0_indexOf_7cf53 wsJ1_indexOf_4cfef := goodIn_r _ [20, 21, 22, 23, 24, 25, 26, 27, 28, 29, 19, 30, 31, 32, 33] (by decide +kernel) (by decide +kernel)
set_option maxRecDepth 20000 in
theorem gJ0_indexOf_7cf53_J1_indexOf_4cfef : GoodIn wsJ0_indexOf_7cf53 (va_wsS RJ0 637 yJ1_indexOf_4cfef wsJ1_indexOf_4cfef) := goodIn_app (goodIn_of _ (by decide +kernel)) ggJ0_indexOf_7cf53_J1_indexOf_4cfef
set_option maxRecDepth 20000 in
theorem ggJ0_indexOf_7cf53_J2_indexOf_4cfef : GoodIn wsJ0_indexOf_7cf53 wsJ2_indexOf_4cfef := goodIn_r _ [37, 38, 22, 23, 24, 39, 26, 27, 40, 41, 42, 36, 43, 44, 45, 46, 47, 48, 49, 50, 51, 5, 52, 53, 54, 55, 56, 57, 58, 59, 60, 61, 62, 63, 64, 65, 66, 67, 68, 69, 70, 71, 72, 73, 74, 75, 76, 77, 78, 79, 80, 81] (by decide +kernel) (by decide +kernel)
set_option maxRecDepth 20000 in
theorem gJ0_indexOf_7cf53_J2_indexOf_4cfef : GoodIn wsJ0_indexOf_7cf53 (va_wsS RJ0 640 yJ2_indexOf_4cfef wsJ2_indexOf_4cfef) := goodIn_app (goodIn_of _ (by decide +kernel)) ggJ0_indexOf_7cf53_J2_indexOf_4cfef
set_option maxRecDepth 20000 in
theorem ggJ0_checkBoundsBeginEnd_23922_J3_checkFromToIndex_8c36e : GoodIn wsJ0_checkBoundsBeginEnd_23922 wsJ3_checkFromToIndex_8c36e := goodIn_r _ [5] (by decide +kernel) (by decide +kernel)
set_option maxRecDepth 20000 in
theorem gJ0_checkBoundsBeginEnd_23922_J3_checkFromToIndex_8c36e : GoodIn wsJ0_checkBoundsBeginEnd_23922 (va_wsS RJ0 1062 yJ3_checkFromToIndex_8c36e wsJ3_checkFromToIndex_8c36e) := goodIn_app (goodIn_of _ (by decide +kernel)) ggJ0_checkBoundsBeginEnd_23922_J3_checkFromToIndex_8c36e
set_option maxRecDepth 20000 in
theorem ggJ1_indexOf_4cfef_J1_canEncode_9a6ad : GoodIn wsJ1_indexOf_4cfef wsJ1_canEncode_9a6ad := goodIn_r _ [11] (by decide +kernel) (by decide +kernel)
set_option maxRecDepth 20000 in
theorem gJ1_indexOf_4cfef_J1_canEncode_9a6ad : GoodIn wsJ1_indexOf_4cfef (va_wsS RJ1 88 yJ1_canEncode_9a6ad wsJ1_canEncode_9a6ad) := goodIn_app (goodIn_of _ (by decide +kernel)) ggJ1_indexOf_4cfef_J1_canEncode_9a6ad
set_option maxRecDepth 20000 in
theorem ggJ1_indexOf_4cfef_J1_indexOfChar_4cfef : GoodIn wsJ1_indexOf_4cfef wsJ1_indexOfChar_4cfef := goodIn_r _ [14] (by decide +kernel) (by decide +kernel)
set_option maxRecDepth 20000 in
theorem gJ1_indexOf_4cfef_J1_indexOfChar_4cfef : GoodIn wsJ1_indexOf_4cfef (va_wsS RJ1 95 yJ1_indexOfChar_4cfef wsJ1_indexOfChar_4cfef) := goodIn_app (goodIn_of _ (by decide +kernel)) ggJ1_indexOf_4cfef_J1_indexOfChar_4cfef
set_option maxRecDepth 20000 in
theorem ggJ2_getChar_3b067_J2_length_9d52b : GoodIn wsJ2_getChar_3b067 wsJ2_length_9d52b := goodIn_r _ [7] (by decide +kernel) (by decide +kernel)
set_option maxRecDepth 20000 in
theorem gJ2_getChar_3b067_J2_length_9d52b : GoodIn wsJ2_getChar_3b067 (va_wsS RJ2 48 yJ2_length_9d52b wsJ2_length_9d52b) := goodIn_app (goodIn_of _ (by decide +kernel)) ggJ2_getChar_3b067_J2_length_9d52b
set_option maxRecDepth 20000 in
theorem ggJ2_indexOf_4cfef_J2_indexOfChar_4cfef : GoodIn wsJ2_indexOf_4cfef wsJ2_indexOfChar_4cfef := goodIn_r _ [12, 13, 14, 11, 15, 16, 17, 18, 19, 20, 21, 22, 23, 24, 25, 26, 27, 28, 29, 30, 31, 32, 33, 34, 35, 36] (by decide +kernel) (by decide +kernel)
set_option maxRecDepth 20000 in
theorem gJ2_indexOf_4cfef_J2_indexOfChar_4cfef : GoodIn wsJ2_indexOf_4cfef (va_wsS RJ2 228 yJ2_indexOfChar_4cfef wsJ2_indexOfChar_4cfef) := goodIn_app (goodIn_of _ (by decide +kernel)) ggJ2_indexOf_4cfef_J2_indexOfChar_4cfef
set_option maxRecDepth 20000 in
theorem ggJ2_indexOf_4cfef_J2_indexOfSupplementary_4cfef : GoodIn wsJ2_indexOf_4cfef wsJ2_indexOfSupplementary_4cfef := goodIn_r _ [39, 40, 41, 42, 43, 44, 45, 46, 47, 48, 49, 50, 51, 13, 14, 11, 15, 16, 17, 18, 19, 20, 21, 22, 23, 24, 25, 26, 27, 31, 32, 33, 34, 35, 36] (by decide +kernel) (by decide +kernel)
set_option maxRecDepth 20000 in
theorem gJ2_indexOf_4cfef_J2_indexOfSupplementary_4cfef : GoodIn wsJ2_indexOf_4cfef (va_wsS RJ2 232 yJ2_indexOfSupplementary_4cfef wsJ2_indexOfSupplementary_4cfef) := goodIn_app (goodIn_of _ (by decide +kernel)) ggJ2_indexOf_4cfef_J2_indexOfSupplementary_4cfef
set_option maxRecDepth 20000 in
theorem ggJ2_indexOfChar_4cfef_J2_checkBoundsBeginEnd_d044e : GoodIn wsJ2_indexOfChar_4cfef wsJ2_checkBoundsBeginEnd_d044e := goodIn_r _ [4, 5, 6, 3, 7, 8, 9, 10, 11, 12, 13, 14, 15, 16] (by decide +kernel) (by decide +kernel)
set_option maxRecDepth 20000 in
theorem gJ2_indexOfChar_4cfef_J2_checkBoundsBeginEnd_d044e : GoodIn wsJ2_indexOfChar_4cfef (va_wsS RJ2 96 yJ2_checkBoundsBeginEnd_d044e wsJ2_checkBoundsBeginEnd_d044e) := goodIn_app (goodIn_of _ (by decide +kernel)) ggJ2_indexOfChar_4cfef_J2_checkBoundsBeginEnd_d044e
set_option maxRecDepth 20000 in
theorem ggJ2_indexOfChar_4cfef_J2_indexOfCharUnsafe_4cfef : GoodIn wsJ2_indexOfChar_4cfef wsJ2_indexOfCharUnsafe_4cfef := goodIn_r _ [19, 20, 21, 3, 22, 23, 24, 25, 5, 6, 7] (by decide +kernel) (by decide +kernel)
set_option maxRecDepth 20000 in
theorem gJ2_indexOfChar_4cfef_J2_indexOfCharUnsafe_4cfef : GoodIn wsJ2_indexOfChar_4cfef (va_wsS RJ2 244 yJ2_indexOfCharUnsafe_4cfef wsJ2_indexOfCharUnsafe_4cfef) := goodIn_app (goodIn_of _ (by decide +kernel)) ggJ2_indexOfChar_4cfef_J2_indexOfCharUnsafe_4cfef
set_option maxRecDepth 20000 in
theorem ggJ2_indexOfCharUnsafe_4cfef_J2_getChar_3b067 : GoodIn wsJ2_indexOfCharUnsafe_4cfef wsJ2_getChar_3b067 := goodIn_r _ [4, 5, 6, 7, 8, 9, 3, 10] (by decide +kernel) (by decide +kernel)
set_option maxRecDepth 20000 in
theorem gJ2_indexOfCharUnsafe_4cfef_J2_getChar_3b067 : GoodIn wsJ2_indexOfCharUnsafe_4cfef (va_wsS RJ2 71 yJ2_getChar_3b067 wsJ2_getChar_3b067) := goodIn_app (goodIn_of _ (by decide +kernel)) ggJ2_indexOfCharUnsafe_4cfef_J2_getChar_3b067
set_option maxRecDepth 20000 in
theorem ggJ2_indexOfSupplementary_4cfef_J11_isValidCodePoint_9a6ad : GoodIn wsJ2_indexOfSupplementary_4cfef wsJ11_isValidCodePoint_9a6ad := goodIn_r _ [4] (by decide +kernel) (by decide +kernel)
set_option maxRecDepth 20000 in
theorem gJ2_indexOfSupplementary_4cfef_J11_isValidCodePoint_9a6ad : GoodIn wsJ2_indexOfSupplementary_4cfef (va_wsS RJ2 164 yJ11_isValidCodePoint_9a6ad wsJ11_isValidCodePoint_9a6ad) := goodIn_app (goodIn_of _ (by decide +kernel)) ggJ2_indexOfSupplementary_4cfef_J11_isValidCodePoint_9a6ad
set_option maxRecDepth 20000 in
theorem ggJ2_indexOfSupplementary_4cfef_J11_highSurrogate_5068e : GoodIn wsJ2_indexOfSupplementary_4cfef wsJ11_highSurrogate_5068e := goodIn_r _ [7, 8] (by decide +kernel) (by decide +kernel)
set_option maxRecDepth 20000 in
theorem gJ2_indexOfSupplementary_4cfef_J11_highSurrogate_5068e : GoodIn wsJ2_indexOfSupplementary_4cfef (va_wsS RJ2 157 yJ11_highSurrogate_5068e wsJ11_highSurrogate_5068e) := goodIn_app (goodIn_of _ (by decide +kernel)) ggJ2_indexOfSupplementary_4cfef_J11_highSurrogate_5068e
set_option maxRecDepth 20000 in
theorem ggJ2_indexOfSupplementary_4cfef_J11_lowSurrogate_5068e : GoodIn wsJ2_indexOfSupplementary_4cfef wsJ11_lowSurrogate_5068e := goodIn_r _ [11, 12] (by decide +kernel) (by decide +kernel)
set_option maxRecDepth 20000 in
theorem gJ2_indexOfSupplementary_4cfef_J11_lowSurrogate_5068e : GoodIn wsJ2_indexOfSupplementary_4cfef (va_wsS RJ2 161 yJ11_lowSurrogate_5068e wsJ11_lowSurrogate_5068e) := goodIn_app (goodIn_of _ (by decide +kernel)) ggJ2_indexOfSupplementary_4cfef_J11_lowSurrogate_5068e
set_option maxRecDepth 20000 in
theorem ggJ2_indexOfSupplementary_4cfef_J2_checkBoundsBeginEnd_d044e : GoodIn wsJ2_indexOfSupplementary_4cfef wsJ2_checkBoundsBeginEnd_d044e := goodIn_r _ [16, 17, 18, 15, 19, 20, 21, 22, 23, 24, 25, 26, 27, 28] (by decide +kernel) (by decide +kernel)
set_option maxRecDepth 20000 in
theorem gJ2_indexOfSupplementary_4cfef_J2_checkBoundsBeginEnd_d044e : GoodIn wsJ2_indexOfSupplementary_4cfef (va_wsS RJ2 96 yJ2_checkBoundsBeginEnd_d044e wsJ2_checkBoundsBeginEnd_d044e) := goodIn_app (goodIn_of _ (by decide +kernel)) ggJ2_indexOfSupplementary_4cfef_J2_checkBoundsBeginEnd_d044e
set_option maxRecDepth 20000 in
theorem ggJ2_indexOfSupplementary_4cfef_J2_getChar_3b067 : GoodIn wsJ2_indexOfSupplementary_4cfef wsJ2_getChar_3b067 := goodIn_r _ [31, 32, 33, 34, 17, 18, 15, 19] (by decide +kernel) (by decide +kernel)
set_option maxRecDepth 20000 in
theorem gJ2_indexOfSupplementary_4cfef_J2_getChar_3b067 : GoodIn wsJ2_indexOfSupplementary_4cfef (va_wsS RJ2 71 yJ2_getChar_3b067 wsJ2_getChar_3b067) := goodIn_app (goodIn_of _ (by decide +kernel)) ggJ2_indexOfSupplementary_4cfef_J2_getChar_3b067
set_option maxRecDepth 20000 in
theorem ggJ2_checkBoundsBeginEnd_d044e_J2_length_9d52b : GoodIn wsJ2_checkBoundsBeginEnd_d044e wsJ2_length_9d52b := goodIn_r _ [4] (by decide +kernel) (by decide +kernel)
set_option maxRecDepth 20000 in
theorem gJ2_checkBoundsBeginEnd_d044e_J2_length_9d52b : GoodIn wsJ2_checkBoundsBeginEnd_d044e (va_wsS RJ2 48 yJ2_length_9d52b wsJ2_length_9d52b) := goodIn_app (goodIn_of _ (by decide +kernel)) ggJ2_checkBoundsBeginEnd_d044e_J2_length_9d52b
set_option maxRecDepth 20000 in
theorem ggJ2_checkBoundsBeginEnd_d044e_J0_checkBoundsBeginEnd_23922 : GoodIn wsJ2_checkBoundsBeginEnd_d044e wsJ0_checkBoundsBeginEnd_23922 := goodIn_r _ [8, 9, 10, 11, 12, 13] (by decide +kernel) (by decide +kernel)
set_option maxRecDepth 20000 in
theorem gJ2_checkBoundsBeginEnd_d044e_J0_checkBoundsBeginEnd_23922 : GoodIn wsJ2_checkBoundsBeginEnd_d044e (va_wsS RJ2 241 yJ0_checkBoundsBeginEnd_23922 wsJ0_checkBoundsBeginEnd_23922) := goodIn_app (goodIn_of _ (by decide +kernel)) ggJ2_checkBoundsBeginEnd_d044e_J0_checkBoundsBeginEnd_23922
end
section
set_option maxRecDepth 20000 in
theorem ggX7_letter_X7_in : GoodIn wsX7_letter wsX7_in := goodIn_r _ [7] (by decide +kernel) (by decide +kernel)
set_option maxRecDepth 20000 in
theorem gX7_letter_X7_in : GoodIn wsX7_letter (va_wsS RX7 58 yX7_in wsX7_in) := goodIn_app (goodIn_of _ (by decide +kernel)) ggX7_letter_X7_in
set_option maxRecDepth 20000 in
theorem ggX7_goOpening_X7_in : GoodIn wsX7_goOpening wsX7_in := goodIn_r _ [9] (by decide +kernel) (by decide +kernel)
set_option maxRecDepth 20000 in
theorem gX7_goOpening_X7_in : GoodIn wsX7_goOpening (va_wsS RX7 58 yX7_in wsX7_in) := goodIn_app (goodIn_of _ (by decide +kernel)) ggX7_goOpening_X7_in
set_option maxRecDepth 20000 in
theorem ggX7_goSpeaker_X7_kindBy : GoodIn wsX7_goSpeaker wsX7_kindBy := goodIn_r _ [9] (by decide +kernel) (by decide +kernel)
set_option maxRecDepth 20000 in
theorem gX7_goSpeaker_X7_kindBy : GoodIn wsX7_goSpeaker (va_wsS RX7 82 yX7_kindBy wsX7_kindBy) := goodIn_app (goodIn_of _ (by decide +kernel)) ggX7_goSpeaker_X7_kindBy
set_option maxRecDepth 20000 in
theorem ggX7_goSpeaker_X7_in : GoodIn wsX7_goSpeaker wsX7_in := goodIn_r _ [12] (by decide +kernel) (by decide +kernel)
set_option maxRecDepth 20000 in
theorem gX7_goSpeaker_X7_in : GoodIn wsX7_goSpeaker (va_wsS RX7 58 yX7_in wsX7_in) := goodIn_app (goodIn_of _ (by decide +kernel)) ggX7_goSpeaker_X7_in
set_option maxRecDepth 20000 in
theorem ggX7_faultOf_X7_goOpening : GoodIn wsX7_faultOf wsX7_goOpening := goodIn_r _ [12, 2, 1, 3, 13, 14, 15, 16, 11, 17, 28, 29, 30, 31, 32, 33, 34, 35, 36, 37, 38, 39, 40, 41, 42, 43, 44, 45, 46, 47, 48, 49, 50, 51, 52, 53, 54, 55, 56, 57, 58] (by decide +kernel) (by decide +kernel)
set_option maxRecDepth 20000 in
theorem gX7_faultOf_X7_goOpening : GoodIn wsX7_faultOf (wsV RX7 90 RX7 yX7_goOpening wsX7_goOpening) := goodIn_app (goodIn_of _ (by decide +kernel)) ggX7_faultOf_X7_goOpening
set_option maxRecDepth 20000 in
theorem ggX7_faultOf_X7_goSpeaker : GoodIn wsX7_faultOf wsX7_goSpeaker := goodIn_r _ [21, 5, 22, 4, 23, 24, 25, 26, 11, 27, 15, 16, 17, 28, 29, 30, 31, 32, 33, 34, 35, 36, 37, 38, 39, 40, 41, 42, 43, 44, 45, 46, 47, 48, 49, 50, 51, 52, 53, 54, 55, 56, 57, 58] (by decide +kernel) (by decide +kernel)
set_option maxRecDepth 20000 in
theorem gX7_faultOf_X7_goSpeaker : GoodIn wsX7_faultOf (wsV RX7 94 RX7 yX7_goSpeaker wsX7_goSpeaker) := goodIn_app (goodIn_of _ (by decide +kernel)) ggX7_faultOf_X7_goSpeaker
set_option maxRecDepth 20000 in
theorem ggX7_fault_X7_faultOf : GoodIn wsX7_fault wsX7_faultOf := goodIn_r _ [5, 6, 7, 8, 9, 10, 11, 12, 13, 14, 15, 4, 16, 17, 18, 19, 20, 21, 22, 23, 24, 25, 26, 27, 28, 29, 30, 31, 32, 33, 34, 35, 36, 37, 38, 39, 40, 41, 42, 43, 44, 45, 46, 47, 48, 49, 50, 51, 52, 53, 54, 55, 56, 57, 58, 59, 60, 61, 62] (by decide +kernel) (by decide +kernel)
set_option maxRecDepth 20000 in
theorem gX7_fault_X7_faultOf : GoodIn wsX7_fault (wsV RX7 97 RX7 yX7_faultOf wsX7_faultOf) := goodIn_app (goodIn_of _ (by decide +kernel)) ggX7_fault_X7_faultOf
set_option maxRecDepth 20000 in
theorem ggX7_room_X7_faultOf : GoodIn wsX7_room wsX7_faultOf := goodIn_r _ [17, 18, 19, 20, 3, 2, 1, 21, 22, 23, 24, 16, 25, 26, 5, 27, 28, 29, 30, 31, 32, 33, 8, 34, 35, 36, 37, 38, 42, 43, 44, 45, 46, 47, 48, 49, 50, 51, 52, 53, 54, 55, 56, 57, 58, 59, 60, 61, 62, 63, 64, 65, 66, 67, 68, 69, 70, 71, 72] (by decide +kernel) (by decide +kernel)
set_option maxRecDepth 20000 in
theorem gX7_room_X7_faultOf : GoodIn wsX7_room (wsV RX7 97 RX7 yX7_faultOf wsX7_faultOf) := goodIn_app (goodIn_of _ (by decide +kernel)) ggX7_room_X7_faultOf
set_option maxRecDepth 20000 in
theorem ggX7_room_X7_copy : GoodIn wsX7_room wsX7_copy := goodIn_r _ [41] (by decide +kernel) (by decide +kernel)
set_option maxRecDepth 20000 in
theorem gX7_room_X7_copy : GoodIn wsX7_room (va_wsS RX7 104 yX7_copy wsX7_copy) := goodIn_app (goodIn_of _ (by decide +kernel)) ggX7_room_X7_copy
set_option maxRecDepth 20000 in
theorem ggX7_isOpening_X7_lacks : GoodIn wsX7_isOpening wsX7_lacks := goodIn_r _ [6, 7, 11, 12, 13, 14, 15, 16, 17, 18, 19, 20, 21, 22, 23, 24, 25, 26, 27, 28, 29, 30, 31, 32, 33, 34, 35, 36, 37, 38, 39, 40, 41] (by decide +kernel) (by decide +kernel)
set_option maxRecDepth 20000 in
theorem gX7_isOpening_X7_lacks : GoodIn wsX7_isOpening (wsV RX7 120 RX7 yX7_lacks wsX7_lacks) := goodIn_app (goodIn_of _ (by decide +kernel)) ggX7_isOpening_X7_lacks
set_option maxRecDepth 20000 in
theorem ggX7_isOpening_X7_in : GoodIn wsX7_isOpening wsX7_in := goodIn_r _ [10] (by decide +kernel) (by decide +kernel)
set_option maxRecDepth 20000 in
theorem gX7_isOpening_X7_in : GoodIn wsX7_isOpening (va_wsS RX7 58 yX7_in wsX7_in) := goodIn_app (goodIn_of _ (by decide +kernel)) ggX7_isOpening_X7_in
set_option maxRecDepth 20000 in
theorem ggX7_isSpeaker_X7_in : GoodIn wsX7_isSpeaker wsX7_in := goodIn_r _ [5] (by decide +kernel) (by decide +kernel)
set_option maxRecDepth 20000 in
theorem gX7_isSpeaker_X7_in : GoodIn wsX7_isSpeaker (va_wsS RX7 58 yX7_in wsX7_in) := goodIn_app (goodIn_of _ (by decide +kernel)) ggX7_isSpeaker_X7_in
set_option maxRecDepth 20000 in
theorem ggX7_fits_X7_isOpening : GoodIn wsX7_fits wsX7_isOpening := goodIn_r _ [6, 7, 8, 9, 10, 5, 11, 12, 13, 14, 15, 16, 17, 18, 19, 20, 21, 22, 23, 24, 25, 26, 27, 28, 29, 30, 31, 32, 33, 34, 35, 36, 37, 38, 39, 40, 41, 42, 43, 44, 45, 46] (by decide +kernel) (by decide +kernel)
set_option maxRecDepth 20000 in
theorem gX7_fits_X7_isOpening : GoodIn wsX7_fits (wsV RX7 126 RX7 yX7_isOpening wsX7_isOpening) := goodIn_app (goodIn_of _ (by decide +kernel)) ggX7_fits_X7_isOpening
set_option maxRecDepth 20000 in
theorem ggX7_endsBy_X7_greatestOf : GoodIn wsX7_endsBy wsX7_greatestOf := goodIn_r _ [5] (by decide +kernel) (by decide +kernel)
set_option maxRecDepth 20000 in
theorem gX7_endsBy_X7_greatestOf : GoodIn wsX7_endsBy (va_wsS RX7 129 yX7_greatestOf wsX7_greatestOf) := goodIn_app (goodIn_of _ (by decide +kernel)) ggX7_endsBy_X7_greatestOf
set_option maxRecDepth 20000 in
theorem ggX7_endsBy_X7_leastOf : GoodIn wsX7_endsBy wsX7_leastOf := goodIn_r _ [8] (by decide +kernel) (by decide +kernel)
set_option maxRecDepth 20000 in
theorem gX7_endsBy_X7_leastOf : GoodIn wsX7_endsBy (va_wsS RX7 132 yX7_leastOf wsX7_leastOf) := goodIn_app (goodIn_of _ (by decide +kernel)) ggX7_endsBy_X7_leastOf
set_option maxRecDepth 20000 in
theorem ggX7_wouldOf_X7_endsBy : GoodIn wsX7_wouldOf wsX7_endsBy := goodIn_r _ [6, 7, 8, 9, 5, 10, 11, 12, 13, 14, 15, 16, 17, 18, 19, 20, 21, 22, 23, 24, 25, 26, 27, 28, 29, 30, 31, 32, 33, 34, 35, 36, 37, 38, 39, 40, 41, 42, 43, 44] (by decide +kernel) (by decide +kernel)
set_option maxRecDepth 20000 in
theorem gX7_wouldOf_X7_endsBy : GoodIn wsX7_wouldOf (wsV RX7 135 RX7 yX7_endsBy wsX7_endsBy) := goodIn_app (goodIn_of _ (by decide +kernel)) ggX7_wouldOf_X7_endsBy
set_option maxRecDepth 20000 in
theorem ggX7_sureOf_X7_wouldOf : GoodIn wsX7_sureOf wsX7_wouldOf := goodIn_r _ [7, 2, 8, 9, 10, 6, 11, 12, 13, 14, 15, 16, 17, 18, 19, 20, 21, 22, 23, 24, 25, 26, 27, 28, 29, 30, 31, 32, 33, 34, 35, 36, 37, 38, 39, 40, 41, 42, 43, 44, 45, 46, 47, 48, 49] (by decide +kernel) (by decide +kernel)
set_option maxRecDepth 20000 in
theorem gX7_sureOf_X7_wouldOf : GoodIn wsX7_sureOf (wsV RX7 139 RX7 yX7_wouldOf wsX7_wouldOf) := goodIn_app (goodIn_of _ (by decide +kernel)) ggX7_sureOf_X7_wouldOf
set_option maxRecDepth 20000 in
theorem ggX7_tell_X7_openOf : GoodIn wsX7_tell wsX7_openOf := goodIn_r _ [6, 7, 8, 44, 45, 46, 47, 48, 49, 50, 51, 52, 53, 54, 55, 56, 57, 58, 59, 60, 61, 62, 63, 64, 65, 66, 67, 68, 69, 70, 71, 72, 73, 74] (by decide +kernel) (by decide +kernel)
set_option maxRecDepth 20000 in
theorem gX7_tell_X7_openOf : GoodIn wsX7_tell (wsV RX7 143 RX7 yX7_openOf wsX7_openOf) := goodIn_app (goodIn_of _ (by decide +kernel)) ggX7_tell_X7_openOf
set_option maxRecDepth 20000 in
theorem ggX7_tell_X7_saidBy : GoodIn wsX7_tell wsX7_saidBy := goodIn_r _ [12, 7, 8, 44, 45, 46, 47, 48, 49, 50, 51, 52, 53, 54, 55, 56, 57, 58, 59, 60, 61, 62, 63, 64, 65, 66, 67, 68, 69, 70, 71, 72, 73, 74] (by decide +kernel) (by decide +kernel)
set_option maxRecDepth 20000 in
theorem gX7_tell_X7_saidBy : GoodIn wsX7_tell (wsV RX7 146 RX7 yX7_saidBy wsX7_saidBy) := goodIn_app (goodIn_of _ (by decide +kernel)) ggX7_tell_X7_saidBy
set_option maxRecDepth 20000 in
theorem ggX7_tell_X7_sureOf : GoodIn wsX7_tell wsX7_sureOf := goodIn_r _ [16, 17, 1, 18, 19, 20, 5, 21, 22, 23, 24, 25, 26, 27, 28, 29, 30, 31, 32, 44, 45, 46, 47, 48, 49, 50, 51, 52, 53, 54, 55, 56, 57, 58, 59, 60, 61, 62, 63, 64, 65, 66, 67, 68, 69, 70, 71, 72, 73, 74] (by decide +kernel) (by decide +kernel)
set_option maxRecDepth 20000 in
theorem gX7_tell_X7_sureOf : GoodIn wsX7_tell (wsV RX7 149 RX7 yX7_sureOf wsX7_sureOf) := goodIn_app (goodIn_of _ (by decide +kernel)) ggX7_tell_X7_sureOf
set_option maxRecDepth 20000 in
theorem ggX7_tell_X7_whichOf : GoodIn wsX7_tell wsX7_whichOf := goodIn_r _ [36, 37, 1, 38, 22, 23, 24, 5, 25, 26, 27, 28, 29, 30, 31, 32, 44, 45, 46, 47, 48, 49, 50, 51, 52, 53, 54, 55, 56, 57, 58, 59, 60, 61, 62, 63, 64, 65, 66, 67, 68, 69, 70, 71, 72, 73, 74] (by decide +kernel) (by decide +kernel)
set_option maxRecDepth 20000 in
theorem gX7_tell_X7_whichOf : GoodIn wsX7_tell (wsV RX7 152 RX7 yX7_whichOf wsX7_whichOf) := goodIn_app (goodIn_of _ (by decide +kernel)) ggX7_tell_X7_whichOf
set_option maxRecDepth 20000 in
theorem ggX7_tell_X7_beginOf : GoodIn wsX7_tell wsX7_beginOf := goodIn_r _ [42, 43, 1, 33, 34, 35, 5, 36, 37, 38, 22, 23, 24, 25, 26, 27, 28, 29, 30, 31, 32, 44, 45, 46, 47, 48, 49, 50, 51, 52, 53, 54, 55, 56, 57, 58, 59, 60, 61, 62, 63, 64, 65, 66, 67, 68, 69, 70, 71, 72, 73, 74] (by decide +kernel) (by decide +kernel)
set_option maxRecDepth 20000 in
theorem gX7_tell_X7_beginOf : GoodIn wsX7_tell (wsV RX7 155 RX7 yX7_beginOf wsX7_beginOf) := goodIn_app (goodIn_of _ (by decide +kernel)) ggX7_tell_X7_beginOf
set_option maxRecDepth 20000 in
theorem ggX7_about_X7_isSpeaker : GoodIn wsX7_about wsX7_isSpeaker := goodIn_r _ [5, 6, 7, 8, 4, 9, 55, 56, 57, 58, 59, 60, 61, 62, 63, 64, 65, 66, 67, 68, 69, 70, 71, 72, 73, 74, 75, 76, 77, 78, 79, 80, 81, 82, 83, 84, 85] (by decide +kernel) (by decide +kernel)
set_option maxRecDepth 20000 in
theorem gX7_about_X7_isSpeaker : GoodIn wsX7_about (wsV RX7 158 RX7 yX7_isSpeaker wsX7_isSpeaker) := goodIn_app (goodIn_of _ (by decide +kernel)) ggX7_about_X7_isSpeaker
set_option maxRecDepth 20000 in
theorem ggX7_about_X7_tell : GoodIn wsX7_about wsX7_tell := goodIn_r _ [13, 14, 15, 16, 17, 4, 18, 19, 20, 21, 22, 23, 24, 25, 26, 27, 28, 6, 29, 30, 31, 32, 33, 34, 35, 36, 37, 38, 39, 40, 41, 42, 43, 44, 45, 46, 47, 48, 49, 50, 51, 52, 53, 54, 55, 56, 57, 58, 59, 60, 61, 62, 63, 64, 65, 66, 67, 68, 69, 70, 71, 72, 73, 74, 75, 76, 77, 78, 79, 80, 81, 82, 83, 84, 85] (by decide +kernel) (by decide +kernel)
set_option maxRecDepth 20000 in
theorem gX7_about_X7_tell : GoodIn wsX7_about (wsV RX7 161 RX7 yX7_tell wsX7_tell) := goodIn_app (goodIn_of _ (by decide +kernel)) ggX7_about_X7_tell
set_option maxRecDepth 20000 in
theorem ggX7_as_X7_isSpeaker : GoodIn wsX7_as wsX7_isSpeaker := goodIn_r _ [7, 8, 9, 10, 6, 11, 12, 13, 14, 15, 16, 17, 18, 19, 20, 21, 22, 23, 24, 25, 26, 27, 28, 29, 30, 31, 32, 33, 34, 35, 36, 37, 38, 39, 40, 41, 42] (by decide +kernel) (by decide +kernel)
set_option maxRecDepth 20000 in
theorem gX7_as_X7_isSpeaker : GoodIn wsX7_as (wsV RX7 158 RX7 yX7_isSpeaker wsX7_isSpeaker) := goodIn_app (goodIn_of _ (by decide +kernel)) ggX7_as_X7_isSpeaker
set_option maxRecDepth 20000 in
theorem ggX7_as_X7_in : GoodIn wsX7_as wsX7_in := goodIn_r _ [11] (by decide +kernel) (by decide +kernel)
set_option maxRecDepth 20000 in
theorem gX7_as_X7_in : GoodIn wsX7_as (va_wsS RX7 58 yX7_in wsX7_in) := goodIn_app (goodIn_of _ (by decide +kernel)) ggX7_as_X7_in
set_option maxRecDepth 20000 in
theorem ggX7_want_X7_isSpeaker : GoodIn wsX7_want wsX7_isSpeaker := goodIn_r _ [8, 9, 10, 11, 7, 12, 13, 14, 15, 16, 17, 18, 19, 20, 21, 22, 23, 24, 25, 26, 27, 28, 29, 30, 31, 32, 33, 34, 35, 36, 37, 38, 39, 40, 41, 42, 43] (by decide +kernel) (by decide +kernel)
set_option maxRecDepth 20000 in
theorem gX7_want_X7_isSpeaker : GoodIn wsX7_want (wsV RX7 158 RX7 yX7_isSpeaker wsX7_isSpeaker) := goodIn_app (goodIn_of _ (by decide +kernel)) ggX7_want_X7_isSpeaker
set_option maxRecDepth 20000 in
theorem ggX7_want_X7_in : GoodIn wsX7_want wsX7_in := goodIn_r _ [12] (by decide +kernel) (by decide +kernel)
set_option maxRecDepth 20000 in
theorem gX7_want_X7_in : GoodIn wsX7_want (va_wsS RX7 58 yX7_in wsX7_in) := goodIn_app (goodIn_of _ (by decide +kernel)) ggX7_want_X7_in
set_option maxRecDepth 20000 in
theorem ggX7_would_X7_isSpeaker : GoodIn wsX7_would wsX7_isSpeaker := goodIn_r _ [5, 6, 7, 8, 4, 9, 35, 36, 37, 38, 39, 40, 41, 42, 43, 44, 45, 46, 47, 48, 49, 50, 51, 52, 53, 54, 55, 56, 57, 58, 59, 60, 61, 62, 63, 64, 65] (by decide +kernel) (by decide +kernel)
set_option maxRecDepth 20000 in
theorem gX7_would_X7_isSpeaker : GoodIn wsX7_would (wsV RX7 158 RX7 yX7_isSpeaker wsX7_isSpeaker) := goodIn_app (goodIn_of _ (by decide +kernel)) ggX7_would_X7_isSpeaker
set_option maxRecDepth 20000 in
theorem ggX7_would_X7_isOpening : GoodIn wsX7_would wsX7_isOpening := goodIn_r _ [13, 14, 15, 16, 17, 4, 18, 6, 7, 8, 9, 35, 36, 37, 38, 39, 40, 41, 42, 43, 44, 45, 46, 47, 48, 49, 50, 51, 52, 53, 54, 55, 56, 57, 58, 59, 60, 61, 62, 63, 64, 65] (by decide +kernel) (by decide +kernel)
set_option maxRecDepth 20000 in
theorem gX7_would_X7_isOpening : GoodIn wsX7_would (wsV RX7 126 RX7 yX7_isOpening wsX7_isOpening) := goodIn_app (goodIn_of _ (by decide +kernel)) ggX7_would_X7_isOpening
set_option maxRecDepth 20000 in
theorem ggX7_would_X7_wouldOf : GoodIn wsX7_would wsX7_wouldOf := goodIn_r _ [22, 23, 24, 25, 26, 4, 27, 28, 29, 30, 31, 32, 33, 34, 35, 36, 37, 38, 39, 40, 41, 42, 43, 44, 45, 46, 47, 48, 49, 50, 51, 52, 53, 54, 55, 56, 57, 58, 59, 60, 61, 62, 63, 64, 65] (by decide +kernel) (by decide +kernel)
set_option maxRecDepth 20000 in
theorem gX7_would_X7_wouldOf : GoodIn wsX7_would (wsV RX7 139 RX7 yX7_wouldOf wsX7_wouldOf) := goodIn_app (goodIn_of _ (by decide +kernel)) ggX7_would_X7_wouldOf
set_option maxRecDepth 20000 in
theorem ggX7_isSentence_X7_in : GoodIn wsX7_isSentence wsX7_in := goodIn_r _ [5] (by decide +kernel) (by decide +kernel)
set_option maxRecDepth 20000 in
theorem gX7_isSentence_X7_in : GoodIn wsX7_isSentence (va_wsS RX7 58 yX7_in wsX7_in) := goodIn_app (goodIn_of _ (by decide +kernel)) ggX7_isSentence_X7_in
set_option maxRecDepth 20000 in
theorem ggX7_begin_X7_isSpeaker : GoodIn wsX7_begin wsX7_isSpeaker := goodIn_r _ [7, 8, 9, 10, 6, 11, 25, 26, 27, 28, 29, 30, 31, 32, 33, 34, 35, 36, 37, 38, 39, 40, 41, 42, 43, 44, 45, 46, 47, 48, 49, 50, 51, 52, 53, 54, 55] (by decide +kernel) (by decide +kernel)
set_option maxRecDepth 20000 in
theorem gX7_begin_X7_isSpeaker : GoodIn wsX7_begin (wsV RX7 158 RX7 yX7_isSpeaker wsX7_isSpeaker) := goodIn_app (goodIn_of _ (by decide +kernel)) ggX7_begin_X7_isSpeaker
set_option maxRecDepth 20000 in
theorem ggX7_begin_X7_isOpening : GoodIn wsX7_begin wsX7_isOpening := goodIn_r _ [15, 16, 17, 18, 19, 6, 20, 8, 9, 10, 11, 25, 26, 27, 28, 29, 30, 31, 32, 33, 34, 35, 36, 37, 38, 39, 40, 41, 42, 43, 44, 45, 46, 47, 48, 49, 50, 51, 52, 53, 54, 55] (by decide +kernel) (by decide +kernel)
set_option maxRecDepth 20000 in
theorem gX7_begin_X7_isOpening : GoodIn wsX7_begin (wsV RX7 126 RX7 yX7_isOpening wsX7_isOpening) := goodIn_app (goodIn_of _ (by decide +kernel)) ggX7_begin_X7_isOpening
set_option maxRecDepth 20000 in
theorem ggX7_begin_X7_openOf : GoodIn wsX7_begin wsX7_openOf := goodIn_r _ [24, 1, 2, 25, 26, 27, 28, 29, 30, 31, 32, 33, 34, 35, 36, 37, 38, 39, 40, 41, 42, 43, 44, 45, 46, 47, 48, 49, 50, 51, 52, 53, 54, 55] (by decide +kernel) (by decide +kernel)
set_option maxRecDepth 20000 in
theorem gX7_begin_X7_openOf : GoodIn wsX7_begin (wsV RX7 143 RX7 yX7_openOf wsX7_openOf) := goodIn_app (goodIn_of _ (by decide +kernel)) ggX7_begin_X7_openOf
set_option maxRecDepth 20000 in
theorem ggX7_end_X7_isSentence : GoodIn wsX7_end wsX7_isSentence := goodIn_r _ [7, 8, 9, 10, 6, 11, 32, 33, 34, 35, 36, 37, 38, 39, 40, 41, 42, 43, 44, 45, 46, 47, 48, 49, 50, 51, 52, 53, 54, 55, 56, 57, 58, 59, 60, 61, 62] (by decide +kernel) (by decide +kernel)
set_option maxRecDepth 20000 in
theorem gX7_end_X7_isSentence : GoodIn wsX7_end (wsV RX7 166 RX7 yX7_isSentence wsX7_isSentence) := goodIn_app (goodIn_of _ (by decide +kernel)) ggX7_end_X7_isSentence
set_option maxRecDepth 20000 in
theorem ggX7_end_X7_isSpeaker : GoodIn wsX7_end wsX7_isSpeaker := goodIn_r _ [15, 16, 9, 10, 6, 11, 32, 33, 34, 35, 36, 37, 38, 39, 40, 41, 42, 43, 44, 45, 46, 47, 48, 49, 50, 51, 52, 53, 54, 55, 56, 57, 58, 59, 60, 61, 62] (by decide +kernel) (by decide +kernel)
set_option maxRecDepth 20000 in
theorem gX7_end_X7_isSpeaker : GoodIn wsX7_end (wsV RX7 158 RX7 yX7_isSpeaker wsX7_isSpeaker) := goodIn_app (goodIn_of _ (by decide +kernel)) ggX7_end_X7_isSpeaker
set_option maxRecDepth 20000 in
theorem ggX7_end_X7_wouldOf : GoodIn wsX7_end wsX7_wouldOf := goodIn_r _ [20, 2, 21, 22, 23, 6, 24, 25, 26, 27, 28, 29, 30, 31, 32, 33, 34, 35, 36, 37, 38, 39, 40, 41, 42, 43, 44, 45, 46, 47, 48, 49, 50, 51, 52, 53, 54, 55, 56, 57, 58, 59, 60, 61, 62] (by decide +kernel) (by decide +kernel)
set_option maxRecDepth 20000 in
theorem gX7_end_X7_wouldOf : GoodIn wsX7_end (wsV RX7 139 RX7 yX7_wouldOf wsX7_wouldOf) := goodIn_app (goodIn_of _ (by decide +kernel)) ggX7_end_X7_wouldOf
set_option maxRecDepth 20000 in
theorem ggX7_tellSentence_X7_in : GoodIn wsX7_tellSentence wsX7_in := goodIn_r _ [6] (by decide +kernel) (by decide +kernel)
set_option maxRecDepth 20000 in
theorem gX7_tellSentence_X7_in : GoodIn wsX7_tellSentence (va_wsS RX7 58 yX7_in wsX7_in) := goodIn_app (goodIn_of _ (by decide +kernel)) ggX7_tellSentence_X7_in
set_option maxRecDepth 20000 in
theorem ggX7_tellSentence_X7_isWanted : GoodIn wsX7_tellSentence wsX7_isWanted := goodIn_r _ [10, 2, 11, 12, 13, 14, 15, 16, 17, 18, 19, 20, 21, 22, 23, 24, 25, 26, 27, 28, 29, 30, 31, 32, 33, 34, 35, 36, 37, 38, 39, 40, 41, 42] (by decide +kernel) (by decide +kernel)
set_option maxRecDepth 20000 in
theorem gX7_tellSentence_X7_isWanted : GoodIn wsX7_tellSentence (wsV RX7 169 RX7 yX7_isWanted wsX7_isWanted) := goodIn_app (goodIn_of _ (by decide +kernel)) ggX7_tellSentence_X7_isWanted
set_option maxRecDepth 20000 in
theorem ggX7_sentence_X7_isSentence : GoodIn wsX7_sentence wsX7_isSentence := goodIn_r _ [5, 6, 7, 8, 4, 9, 21, 22, 23, 24, 25, 26, 27, 28, 29, 30, 31, 32, 33, 34, 35, 36, 37, 38, 39, 40, 41, 42, 43, 44, 45, 46, 47, 48, 49, 50, 51] (by decide +kernel) (by decide +kernel)
set_option maxRecDepth 20000 in
theorem gX7_sentence_X7_isSentence : GoodIn wsX7_sentence (wsV RX7 166 RX7 yX7_isSentence wsX7_isSentence) := goodIn_app (goodIn_of _ (by decide +kernel)) ggX7_sentence_X7_isSentence
set_option maxRecDepth 20000 in
theorem ggX7_sentence_X7_tellSentence : GoodIn wsX7_sentence wsX7_tellSentence := goodIn_r _ [13, 14, 15, 7, 8, 4, 9, 16, 17, 18, 19, 20, 21, 22, 23, 24, 25, 26, 27, 28, 29, 30, 31, 32, 33, 34, 35, 36, 37, 38, 39, 40, 41, 42, 43, 44, 45, 46, 47, 48, 49, 50, 51] (by decide +kernel) (by decide +kernel)
set_option maxRecDepth 20000 in
theorem gX7_sentence_X7_tellSentence : GoodIn wsX7_sentence (wsV RX7 172 RX7 yX7_tellSentence wsX7_tellSentence) := goodIn_app (goodIn_of _ (by decide +kernel)) ggX7_sentence_X7_tellSentence
set_option maxRecDepth 20000 in
theorem ggX7_endsAsWanted_X7_wouldOf : GoodIn wsX7_endsAsWanted wsX7_wouldOf := goodIn_r _ [7, 2, 8, 9, 10, 6, 11, 12, 13, 14, 15, 16, 17, 18, 19, 20, 21, 22, 23, 24, 25, 26, 27, 28, 29, 30, 31, 32, 33, 34, 35, 36, 37, 38, 39, 40, 41, 42, 43, 44, 45, 46, 47, 48, 49] (by decide +kernel) (by decide +kernel)
set_option maxRecDepth 20000 in
theorem gX7_endsAsWanted_X7_wouldOf : GoodIn wsX7_endsAsWanted (wsV RX7 139 RX7 yX7_wouldOf wsX7_wouldOf) := goodIn_app (goodIn_of _ (by decide +kernel)) ggX7_endsAsWanted_X7_wouldOf
set_option maxRecDepth 20000 in
theorem ggX7_layRow_X7_endsAsWanted : GoodIn wsX7_layRow wsX7_endsAsWanted := goodIn_r _ [8, 9, 10, 11, 12, 13, 7, 14, 15, 16, 17, 18, 19, 20, 21, 22, 23, 24, 25, 26, 27, 28, 29, 30, 31, 32, 33, 34, 35, 36, 37, 38, 39, 40, 41, 42, 43, 44, 45, 46, 47, 48, 49, 50, 51, 52, 53, 54, 55, 56] (by decide +kernel) (by decide +kernel)
set_option maxRecDepth 20000 in
theorem gX7_layRow_X7_endsAsWanted : GoodIn wsX7_layRow (wsV RX7 175 RX7 yX7_endsAsWanted wsX7_endsAsWanted) := goodIn_app (goodIn_of _ (by decide +kernel)) ggX7_layRow_X7_endsAsWanted
set_option maxRecDepth 20000 in
theorem ggX7_matchOf_X7_layRow : GoodIn wsX7_matchOf wsX7_layRow := goodIn_r _ [9, 1, 3, 2, 10, 11, 12, 8, 13, 14, 15, 16, 17, 18, 19, 20, 21, 22, 23, 24, 25, 26, 27, 28, 29, 30, 34, 35, 36, 37, 38, 39, 40, 41, 42, 43, 44, 45, 46, 47, 48, 49, 50, 51, 52, 53, 54, 55, 56, 57, 58, 59, 60, 61, 62, 63, 64] (by decide +kernel) (by decide +kernel)
set_option maxRecDepth 20000 in
theorem gX7_matchOf_X7_layRow : GoodIn wsX7_matchOf (wsV RX7 179 RX7 yX7_layRow wsX7_layRow) := goodIn_app (goodIn_of _ (by decide +kernel)) ggX7_matchOf_X7_layRow
set_option maxRecDepth 20000 in
theorem ggX7_matchOf_X7_copy : GoodIn wsX7_matchOf wsX7_copy := goodIn_r _ [33] (by decide +kernel) (by decide +kernel)
set_option maxRecDepth 20000 in
theorem gX7_matchOf_X7_copy : GoodIn wsX7_matchOf (va_wsS RX7 104 yX7_copy wsX7_copy) := goodIn_app (goodIn_of _ (by decide +kernel)) ggX7_matchOf_X7_copy
set_option maxRecDepth 20000 in
theorem ggX7_match_X7_in : GoodIn wsX7_match wsX7_in := goodIn_r _ [6] (by decide +kernel) (by decide +kernel)
set_option maxRecDepth 20000 in
theorem gX7_match_X7_in : GoodIn wsX7_match (va_wsS RX7 58 yX7_in wsX7_in) := goodIn_app (goodIn_of _ (by decide +kernel)) ggX7_match_X7_in
set_option maxRecDepth 20000 in
theorem ggX7_match_X7_lacks : GoodIn wsX7_match wsX7_lacks := goodIn_r _ [10, 11, 47, 48, 49, 50, 51, 52, 53, 54, 55, 56, 57, 58, 59, 60, 61, 62, 63, 64, 65, 66, 67, 68, 69, 70, 71, 72, 73, 74, 75, 76, 77] (by decide +kernel) (by decide +kernel)
set_option maxRecDepth 20000 in
theorem gX7_match_X7_lacks : GoodIn wsX7_match (wsV RX7 120 RX7 yX7_lacks wsX7_lacks) := goodIn_app (goodIn_of _ (by decide +kernel)) ggX7_match_X7_lacks
set_option maxRecDepth 20000 in
theorem ggX7_match_X7_matchOf : GoodIn wsX7_match wsX7_matchOf := goodIn_r _ [15, 11, 16, 17, 18, 19, 20, 21, 5, 22, 23, 24, 25, 26, 27, 28, 29, 30, 31, 32, 33, 34, 35, 36, 37, 38, 39, 40, 41, 42, 43, 44, 45, 46, 47, 48, 49, 50, 51, 52, 53, 54, 55, 56, 57, 58, 59, 60, 61, 62, 63, 64, 65, 66, 67, 68, 69, 70, 71, 72, 73, 74, 75, 76, 77] (by decide +kernel) (by decide +kernel)
set_option maxRecDepth 20000 in
theorem gX7_match_X7_matchOf : GoodIn wsX7_match (wsV RX7 186 RX7 yX7_matchOf wsX7_matchOf) := goodIn_app (goodIn_of _ (by decide +kernel)) ggX7_match_X7_matchOf
set_option maxRecDepth 20000 in
theorem ggX7_hear_X7_isSpeaker : GoodIn wsX7_hear wsX7_isSpeaker := goodIn_r _ [9, 10, 11, 12, 8, 13, 23, 24, 25, 26, 27, 28, 29, 30, 31, 32, 33, 34, 35, 36, 37, 38, 39, 40, 41, 42, 43, 44, 45, 46, 47, 48, 49, 50, 51, 52, 53] (by decide +kernel) (by decide +kernel)
set_option maxRecDepth 20000 in
theorem gX7_hear_X7_isSpeaker : GoodIn wsX7_hear (wsV RX7 158 RX7 yX7_isSpeaker wsX7_isSpeaker) := goodIn_app (goodIn_of _ (by decide +kernel)) ggX7_hear_X7_isSpeaker
set_option maxRecDepth 20000 in
theorem ggX7_hear_X7_isOpening : GoodIn wsX7_hear wsX7_isOpening := goodIn_r _ [17, 18, 19, 20, 21, 8, 22, 10, 11, 12, 13, 23, 24, 25, 26, 27, 28, 29, 30, 31, 32, 33, 34, 35, 36, 37, 38, 39, 40, 41, 42, 43, 44, 45, 46, 47, 48, 49, 50, 51, 52, 53] (by decide +kernel) (by decide +kernel)
set_option maxRecDepth 20000 in
theorem gX7_hear_X7_isOpening : GoodIn wsX7_hear (wsV RX7 126 RX7 yX7_isOpening wsX7_isOpening) := goodIn_app (goodIn_of _ (by decide +kernel)) ggX7_hear_X7_isOpening
set_option maxRecDepth 20000 in
theorem ggX7_hear_X7_in : GoodIn wsX7_hear wsX7_in := goodIn_r _ [13] (by decide +kernel) (by decide +kernel)
set_option maxRecDepth 20000 in
theorem gX7_hear_X7_in : GoodIn wsX7_hear (va_wsS RX7 58 yX7_in wsX7_in) := goodIn_app (goodIn_of _ (by decide +kernel)) ggX7_hear_X7_in
set_option maxRecDepth 20000 in
theorem ggX7_whichOf_X7_endsBy : GoodIn wsX7_whichOf wsX7_endsBy := goodIn_r _ [8, 9, 10, 11, 7, 12, 13, 14, 15, 16, 17, 18, 19, 20, 21, 22, 23, 24, 25, 26, 27, 28, 29, 30, 31, 32, 33, 34, 35, 36, 37, 38, 39, 40, 41, 42, 43, 44, 45, 46] (by decide +kernel) (by decide +kernel)
set_option maxRecDepth 20000 in
theorem gX7_whichOf_X7_endsBy : GoodIn wsX7_whichOf (wsV RX7 135 RX7 yX7_endsBy wsX7_endsBy) := goodIn_app (goodIn_of _ (by decide +kernel)) ggX7_whichOf_X7_endsBy
set_option maxRecDepth 20000 in
theorem ggX7_beginOf_X7_whichOf : GoodIn wsX7_beginOf wsX7_whichOf := goodIn_r _ [7, 8, 2, 9, 10, 11, 12, 6, 13, 14, 15, 16, 17, 18, 19, 20, 21, 22, 23, 24, 25, 26, 27, 28, 29, 30, 31, 32, 33, 34, 35, 36, 37, 38, 39, 40, 41, 42, 43, 44, 45, 46, 47, 48, 49, 50, 51] (by decide +kernel) (by decide +kernel)
set_option maxRecDepth 20000 in
theorem gX7_beginOf_X7_whichOf : GoodIn wsX7_beginOf (wsV RX7 152 RX7 yX7_whichOf wsX7_whichOf) := goodIn_app (goodIn_of _ (by decide +kernel)) ggX7_beginOf_X7_whichOf
set_option maxRecDepth 20000 in
theorem ggX7_beginOf_X7_endsBy : GoodIn wsX7_beginOf wsX7_endsBy := goodIn_r _ [13, 14, 15, 16, 6, 17, 18, 19, 20, 21, 22, 23, 24, 25, 26, 27, 28, 29, 30, 31, 32, 33, 34, 35, 36, 37, 38, 39, 40, 41, 42, 43, 44, 45, 46, 47, 48, 49, 50, 51] (by decide +kernel) (by decide +kernel)
set_option maxRecDepth 20000 in
theorem gX7_beginOf_X7_endsBy : GoodIn wsX7_beginOf (wsV RX7 135 RX7 yX7_endsBy wsX7_endsBy) := goodIn_app (goodIn_of _ (by decide +kernel)) ggX7_beginOf_X7_endsBy
set_option maxRecDepth 20000 in
theorem ggX7_talks_X7_in : GoodIn wsX7_talks wsX7_in := goodIn_r _ [10] (by decide +kernel) (by decide +kernel)
set_option maxRecDepth 20000 in
theorem gX7_talks_X7_in : GoodIn wsX7_talks (va_wsS RX7 58 yX7_in wsX7_in) := goodIn_app (goodIn_of _ (by decide +kernel)) ggX7_talks_X7_in
set_option maxRecDepth 20000 in
theorem ggX7_talks_X7_lacks : GoodIn wsX7_talks wsX7_lacks := goodIn_r _ [14, 6, 41, 42, 43, 44, 45, 46, 47, 48, 49, 50, 51, 52, 53, 54, 55, 56, 57, 58, 59, 60, 61, 62, 63, 64, 65, 66, 67, 68, 69, 70, 71] (by decide +kernel) (by decide +kernel)
set_option maxRecDepth 20000 in
theorem gX7_talks_X7_lacks : GoodIn wsX7_talks (wsV RX7 120 RX7 yX7_lacks wsX7_lacks) := goodIn_app (goodIn_of _ (by decide +kernel)) ggX7_talks_X7_lacks
set_option maxRecDepth 20000 in
theorem ggX7_talks_X7_copy : GoodIn wsX7_talks wsX7_copy := goodIn_r _ [17] (by decide +kernel) (by decide +kernel)
set_option maxRecDepth 20000 in
theorem gX7_talks_X7_copy : GoodIn wsX7_talks (va_wsS RX7 104 yX7_copy wsX7_copy) := goodIn_app (goodIn_of _ (by decide +kernel)) ggX7_talks_X7_copy
set_option maxRecDepth 20000 in
theorem ggX7_talks_X7_draw : GoodIn wsX7_talks wsX7_draw := goodIn_r _ [21, 22, 5, 23, 24, 25, 41, 42, 43, 44, 45, 46, 47, 48, 49, 50, 51, 52, 53, 54, 55, 56, 57, 58, 59, 60, 61, 62, 63, 64, 65, 66, 67, 68, 69, 70, 71] (by decide +kernel) (by decide +kernel)
set_option maxRecDepth 20000 in
theorem gX7_talks_X7_draw : GoodIn wsX7_talks (wsV RX7 205 RX7 yX7_draw wsX7_draw) := goodIn_app (goodIn_of _ (by decide +kernel)) ggX7_talks_X7_draw
set_option maxRecDepth 20000 in
theorem ggX7_talks_X7_wouldOf : GoodIn wsX7_talks wsX7_wouldOf := goodIn_r _ [29, 3, 30, 31, 32, 9, 33, 34, 35, 36, 37, 38, 39, 40, 41, 42, 43, 44, 45, 46, 47, 48, 49, 50, 51, 52, 53, 54, 55, 56, 57, 58, 59, 60, 61, 62, 63, 64, 65, 66, 67, 68, 69, 70, 71] (by decide +kernel) (by decide +kernel)
set_option maxRecDepth 20000 in
theorem gX7_talks_X7_wouldOf : GoodIn wsX7_talks (wsV RX7 139 RX7 yX7_wouldOf wsX7_wouldOf) := goodIn_app (goodIn_of _ (by decide +kernel)) ggX7_talks_X7_wouldOf
set_option maxRecDepth 20000 in
theorem ggX7_image_X7_lacks : GoodIn wsX7_image wsX7_lacks := goodIn_r _ [19, 20, 24, 25, 26, 27, 28, 29, 30, 31, 32, 33, 34, 35, 36, 37, 38, 39, 40, 41, 42, 43, 44, 45, 46, 47, 48, 49, 50, 51, 52, 53, 54] (by decide +kernel) (by decide +kernel)
set_option maxRecDepth 20000 in
theorem gX7_image_X7_lacks : GoodIn wsX7_image (wsV RX7 120 RX7 yX7_lacks wsX7_lacks) := goodIn_app (goodIn_of _ (by decide +kernel)) ggX7_image_X7_lacks
set_option maxRecDepth 20000 in
theorem ggX7_image_X7_copy : GoodIn wsX7_image wsX7_copy := goodIn_r _ [23] (by decide +kernel) (by decide +kernel)
set_option maxRecDepth 20000 in
theorem gX7_image_X7_copy : GoodIn wsX7_image (va_wsS RX7 104 yX7_copy wsX7_copy) := goodIn_app (goodIn_of _ (by decide +kernel)) ggX7_image_X7_copy
set_option maxRecDepth 20000 in
theorem ggX7_restore_X7_copy : GoodIn wsX7_restore wsX7_copy := goodIn_r _ [18] (by decide +kernel) (by decide +kernel)
set_option maxRecDepth 20000 in
theorem gX7_restore_X7_copy : GoodIn wsX7_restore (va_wsS RX7 104 yX7_copy wsX7_copy) := goodIn_app (goodIn_of _ (by decide +kernel)) ggX7_restore_X7_copy
set_option maxRecDepth 20000 in
theorem ggX7_wantedMany_X7_isWanted : GoodIn wsX7_wantedMany wsX7_isWanted := goodIn_r _ [6, 7, 8, 9, 10, 11, 12, 13, 14, 15, 16, 17, 18, 19, 20, 21, 22, 23, 24, 25, 26, 27, 28, 29, 30, 31, 32, 33, 34, 35, 36, 37, 38, 39] (by decide +kernel) (by decide +kernel)
set_option maxRecDepth 20000 in
theorem gX7_wantedMany_X7_isWanted : GoodIn wsX7_wantedMany (wsV RX7 169 RX7 yX7_isWanted wsX7_isWanted) := goodIn_app (goodIn_of _ (by decide +kernel)) ggX7_wantedMany_X7_isWanted
set_option maxRecDepth 20000 in
theorem ggX7_unlike_X7_ones : GoodIn wsX7_unlike wsX7_ones := goodIn_r _ [6] (by decide +kernel) (by decide +kernel)
set_option maxRecDepth 20000 in
theorem gX7_unlike_X7_ones : GoodIn wsX7_unlike (va_wsS RX7 217 yX7_ones wsX7_ones) := goodIn_app (goodIn_of _ (by decide +kernel)) ggX7_unlike_X7_ones
set_option maxRecDepth 20000 in
theorem ggX7_countOf_X7_saidBy : GoodIn wsX7_countOf wsX7_saidBy := goodIn_r _ [11, 2, 12, 29, 30, 31, 32, 33, 34, 35, 36, 37, 38, 39, 40, 41, 42, 43, 44, 45, 46, 47, 48, 49, 50, 51, 52, 53, 54, 55, 56, 57, 58, 59] (by decide +kernel) (by decide +kernel)
set_option maxRecDepth 20000 in
theorem gX7_countOf_X7_saidBy : GoodIn wsX7_countOf (wsV RX7 146 RX7 yX7_saidBy wsX7_saidBy) := goodIn_app (goodIn_of _ (by decide +kernel)) ggX7_countOf_X7_saidBy
set_option maxRecDepth 20000 in
theorem ggX7_countOf_X7_wantedMany : GoodIn wsX7_countOf wsX7_wantedMany := goodIn_r _ [16, 2, 17, 18, 19, 10, 20, 12, 21, 29, 30, 31, 32, 33, 34, 35, 36, 37, 38, 39, 40, 41, 42, 43, 44, 45, 46, 47, 48, 49, 50, 51, 52, 53, 54, 55, 56, 57, 58, 59] (by decide +kernel) (by decide +kernel)
set_option maxRecDepth 20000 in
theorem gX7_countOf_X7_wantedMany : GoodIn wsX7_countOf (wsV RX7 220 RX7 yX7_wantedMany wsX7_wantedMany) := goodIn_app (goodIn_of _ (by decide +kernel)) ggX7_countOf_X7_wantedMany
set_option maxRecDepth 20000 in
theorem ggX7_countOf_X7_unlike : GoodIn wsX7_countOf wsX7_unlike := goodIn_r _ [25, 2, 12, 26, 27, 10, 28, 29, 30, 31, 32, 33, 34, 35, 36, 37, 38, 39, 40, 41, 42, 43, 44, 45, 46, 47, 48, 49, 50, 51, 52, 53, 54, 55, 56, 57, 58, 59] (by decide +kernel) (by decide +kernel)
set_option maxRecDepth 20000 in
theorem gX7_countOf_X7_unlike : GoodIn wsX7_countOf (wsV RX7 223 RX7 yX7_unlike wsX7_unlike) := goodIn_app (goodIn_of _ (by decide +kernel)) ggX7_countOf_X7_unlike
set_option maxRecDepth 20000 in
theorem ggX7_count_X7_countOf : GoodIn wsX7_count wsX7_countOf := goodIn_r _ [5, 6, 7, 8, 9, 10, 11, 12, 13, 14, 4, 15, 16, 17, 18, 19, 20, 21, 22, 23, 24, 25, 26, 27, 28, 29, 30, 31, 32, 33, 34, 35, 36, 37, 38, 39, 40, 41, 42, 43, 44, 45, 46, 47, 48, 49, 50, 51, 52, 53, 54, 55, 56, 57, 58, 59, 60, 61, 62, 63] (by decide +kernel) (by decide +kernel)
set_option maxRecDepth 20000 in
theorem gX7_count_X7_countOf : GoodIn wsX7_count (wsV RX7 226 RX7 yX7_countOf wsX7_countOf) := goodIn_app (goodIn_of _ (by decide +kernel)) ggX7_count_X7_countOf
set_option maxRecDepth 20000 in
theorem ggX7_saySpeaker_X7_tell : GoodIn wsX7_saySpeaker wsX7_tell := goodIn_r _ [5, 6, 7, 8, 9, 4, 10, 11, 12, 13, 14, 15, 16, 17, 18, 19, 20, 21, 22, 23, 24, 25, 26, 27, 28, 29, 30, 31, 32, 33, 34, 35, 36, 37, 38, 39, 40, 41, 42, 43, 44, 45, 46, 47, 54, 55, 56, 57, 58, 59, 60, 61, 62, 63, 64, 65, 66, 67, 68, 69, 70, 71, 72, 73, 74, 75, 76, 77, 78, 79, 80, 81, 82, 83, 84] (by decide +kernel) (by decide +kernel)
set_option maxRecDepth 20000 in
theorem gX7_saySpeaker_X7_tell : GoodIn wsX7_saySpeaker (wsV RX7 161 RX7 yX7_tell wsX7_tell) := goodIn_app (goodIn_of _ (by decide +kernel)) ggX7_saySpeaker_X7_tell
set_option maxRecDepth 20000 in
theorem ggX7_saySpeaker_X7_say : GoodIn wsX7_saySpeaker wsX7_say := goodIn_r _ [51, 52, 53, 54, 55, 56, 57, 58, 59, 60, 61, 62, 63, 64, 65, 66, 67, 68, 69, 70, 71, 72, 73, 74, 75, 76, 77, 78, 79, 80, 81, 82, 83, 84] (by decide +kernel) (by decide +kernel)
set_option maxRecDepth 20000 in
theorem gX7_saySpeaker_X7_say : GoodIn wsX7_saySpeaker (wsV RX7 235 RX7 yX7_say wsX7_say) := goodIn_app (goodIn_of _ (by decide +kernel)) ggX7_saySpeaker_X7_say
set_option maxRecDepth 20000 in
theorem ggX7_saySpeaker_X7_wouldOf : GoodIn wsX7_saySpeaker wsX7_wouldOf := goodIn_r _ [25, 6, 26, 27, 28, 4, 29, 30, 31, 32, 33, 34, 35, 36, 54, 55, 56, 57, 58, 59, 60, 61, 62, 63, 64, 65, 66, 67, 68, 69, 70, 71, 72, 73, 74, 75, 76, 77, 78, 79, 80, 81, 82, 83, 84] (by decide +kernel) (by decide +kernel)
set_option maxRecDepth 20000 in
theorem gX7_saySpeaker_X7_wouldOf : GoodIn wsX7_saySpeaker (wsV RX7 139 RX7 yX7_wouldOf wsX7_wouldOf) := goodIn_app (goodIn_of _ (by decide +kernel)) ggX7_saySpeaker_X7_wouldOf
set_option maxRecDepth 20000 in
theorem ggX7_digest_X7_lacks : GoodIn wsX7_digest wsX7_lacks := goodIn_r _ [12, 4, 111, 112, 113, 114, 115, 116, 117, 118, 119, 120, 121, 122, 123, 124, 125, 126, 127, 128, 129, 130, 131, 132, 133, 134, 135, 136, 137, 138, 139, 140, 141] (by decide +kernel) (by decide +kernel)
set_option maxRecDepth 20000 in
theorem gX7_digest_X7_lacks : GoodIn wsX7_digest (wsV RX7 120 RX7 yX7_lacks wsX7_lacks) := goodIn_app (goodIn_of _ (by decide +kernel)) ggX7_digest_X7_lacks
set_option maxRecDepth 20000 in
theorem ggX7_digest_X7_say : GoodIn wsX7_digest wsX7_say := goodIn_r _ [16, 17, 2, 111, 112, 113, 114, 115, 116, 117, 118, 119, 120, 121, 122, 123, 124, 125, 126, 127, 128, 129, 130, 131, 132, 133, 134, 135, 136, 137, 138, 139, 140, 141] (by decide +kernel) (by decide +kernel)
set_option maxRecDepth 20000 in
theorem gX7_digest_X7_say : GoodIn wsX7_digest (wsV RX7 235 RX7 yX7_say wsX7_say) := goodIn_app (goodIn_of _ (by decide +kernel)) ggX7_digest_X7_say
set_option maxRecDepth 20000 in
theorem ggX7_digest_X7_saySpeaker : GoodIn wsX7_digest wsX7_saySpeaker := goodIn_r _ [21, 22, 23, 24, 11, 25, 26, 27, 28, 29, 30, 5, 31, 32, 33, 34, 35, 36, 37, 38, 39, 4, 40, 41, 42, 43, 44, 45, 46, 47, 3, 48, 49, 50, 51, 52, 53, 54, 55, 56, 57, 58, 59, 60, 61, 62, 63, 64, 13, 14, 15, 16, 17, 2, 111, 112, 113, 114, 115, 116, 117, 118, 119, 120, 121, 122, 123, 124, 125, 126, 127, 128, 129, 130, 131, 132, 133, 134, 135, 136, 137, 138, 139, 140, 141] (by decide +kernel) (by decide +kernel)
set_option maxRecDepth 20000 in
theorem gX7_digest_X7_saySpeaker : GoodIn wsX7_digest (wsV RX7 241 RX7 yX7_saySpeaker wsX7_saySpeaker) := goodIn_app (goodIn_of _ (by decide +kernel)) ggX7_digest_X7_saySpeaker
set_option maxRecDepth 20000 in
theorem ggX7_digest_X7_tellSentence : GoodIn wsX7_digest wsX7_tellSentence := goodIn_r _ [68, 69, 31, 70, 71, 11, 72, 73, 74, 75, 76, 26, 111, 112, 113, 114, 115, 116, 117, 118, 119, 120, 121, 122, 123, 124, 125, 126, 127, 128, 129, 130, 131, 132, 133, 134, 135, 136, 137, 138, 139, 140, 141] (by decide +kernel) (by decide +kernel)
set_option maxRecDepth 20000 in
theorem gX7_digest_X7_tellSentence : GoodIn wsX7_digest (wsV RX7 172 RX7 yX7_tellSentence wsX7_tellSentence) := goodIn_app (goodIn_of _ (by decide +kernel)) ggX7_digest_X7_tellSentence
set_option maxRecDepth 20000 in
theorem ggX7_digest_X7_matchOf : GoodIn wsX7_digest wsX7_matchOf := goodIn_r _ [80, 4, 5, 81, 82, 83, 84, 85, 11, 86, 87, 88, 89, 90, 31, 26, 40, 41, 42, 43, 44, 45, 46, 47, 3, 48, 49, 50, 51, 52, 53, 91, 92, 93, 111, 112, 113, 114, 115, 116, 117, 118, 119, 120, 121, 122, 123, 124, 125, 126, 127, 128, 129, 130, 131, 132, 133, 134, 135, 136, 137, 138, 139, 140, 141] (by decide +kernel) (by decide +kernel)
set_option maxRecDepth 20000 in
theorem gX7_digest_X7_matchOf : GoodIn wsX7_digest (wsV RX7 186 RX7 yX7_matchOf wsX7_matchOf) := goodIn_app (goodIn_of _ (by decide +kernel)) ggX7_digest_X7_matchOf
set_option maxRecDepth 20000 in
theorem ggX7_digest_X7_countOf : GoodIn wsX7_digest wsX7_countOf := goodIn_r _ [97, 4, 5, 98, 58, 6, 99, 32, 33, 34, 11, 35, 31, 100, 101, 102, 103, 73, 74, 75, 76, 26, 104, 105, 106, 107, 108, 109, 110, 111, 112, 113, 114, 115, 116, 117, 118, 119, 120, 121, 122, 123, 124, 125, 126, 127, 128, 129, 130, 131, 132, 133, 134, 135, 136, 137, 138, 139, 140, 141] (by decide +kernel) (by decide +kernel)
set_option maxRecDepth 20000 in
theorem gX7_digest_X7_countOf : GoodIn wsX7_digest (wsV RX7 226 RX7 yX7_countOf wsX7_countOf) := goodIn_app (goodIn_of _ (by decide +kernel)) ggX7_digest_X7_countOf
end
section
theorem dX0_init_0 : decode cX0_init 0 = .ok (.aload_n 0, 1) := by decide +kernel
theorem dX0_init_1 : decode cX0_init 1 = .ok (.invokespecial 3, 3) := by decide +kernel
theorem dX0_init_4 : decode cX0_init 4 = .ok (.aload_n 0, 1) := by decide +kernel
theorem dX0_init_5 : decode cX0_init 5 = .ok (.iconst 4, 1) := by decide +kernel
theorem dX0_init_6 : decode cX0_init 6 = .ok (.newarray .int, 2) := by decide +kernel
theorem dX0_init_8 : decode cX0_init 8 = .ok (.putfield 9, 3) := by decide +kernel
theorem dX0_init_11 : decode cX0_init 11 = .ok (.aload_n 0, 1) := by decide +kernel
theorem dX0_init_12 : decode cX0_init 12 = .ok (.iconst 4, 1) := by decide +kernel
theorem dX0_init_13 : decode cX0_init 13 = .ok (.newarray .int, 2) := by decide +kernel
theorem dX0_init_15 : decode cX0_init 15 = .ok (.putfield 15, 3) := by decide +kernel
theorem dX0_init_18 : decode cX0_init 18 = .ok (.aload_n 0, 1) := by decide +kernel
theorem dX0_init_19 : decode cX0_init 19 = .ok (.iconst 0, 1) := by decide +kernel
theorem dX0_init_20 : decode cX0_init 20 = .ok (.putfield 18, 3) := by decide +kernel
theorem dX0_init_23 : decode cX0_init 23 = .ok (.return_, 1) := by decide +kernel
theorem dX0_solve_0 : decode cX0_solve 0 = .ok (.aload_n 0, 1) := by decide +kernel
theorem dX0_solve_1 : decode cX0_solve 1 = .ok (.aload_n 0, 1) := by decide +kernel
theorem dX0_solve_2 : decode cX0_solve 2 = .ok (.getfield 9, 3) := by decide +kernel
theorem dX0_solve_5 : decode cX0_solve 5 = .ok (.iconst 0, 1) := by decide +kernel
theorem dX0_solve_6 : decode cX0_solve 6 = .ok (.iconst 0, 1) := by decide +kernel
theorem dX0_solve_7 : decode cX0_solve 7 = .ok (.invokestatic 22, 3) := by decide +kernel
theorem dX0_solve_10 : decode cX0_solve 10 = .ok (.putfield 18, 3) := by decide +kernel
theorem dX0_solve_13 : decode cX0_solve 13 = .ok (.iconst 0, 1) := by decide +kernel
theorem dX0_solve_14 : decode cX0_solve 14 = .ok (.istore_n 1, 1) := by decide +kernel
theorem dX0_solve_15 : decode cX0_solve 15 = .ok (.iconst 0, 1) := by decide +kernel
theorem dX0_solve_16 : decode cX0_solve 16 = .ok (.istore_n 2, 1) := by decide +kernel
theorem dX0_solve_17 : decode cX0_solve 17 = .ok (.iload_n 2, 1) := by decide +kernel
theorem dX0_solve_18 : decode cX0_solve 18 = .ok (.iconst 4, 1) := by decide +kernel
theorem dX0_solve_19 : decode cX0_solve 19 = .ok (.if_icmp .ge 42, 3) := by decide +kernel
theorem dX0_solve_22 : decode cX0_solve 22 = .ok (.aload_n 0, 1) := by decide +kernel
theorem dX0_solve_23 : decode cX0_solve 23 = .ok (.getfield 15, 3) := by decide +kernel
theorem dX0_solve_26 : decode cX0_solve 26 = .ok (.iload_n 2, 1) := by decide +kernel
theorem dX0_solve_27 : decode cX0_solve 27 = .ok (.aload_n 0, 1) := by decide +kernel
theorem dX0_solve_28 : decode cX0_solve 28 = .ok (.iload_n 2, 1) := by decide +kernel
theorem dX0_solve_29 : decode cX0_solve 29 = .ok (.iload_n 1, 1) := by decide +kernel
theorem dX0_solve_30 : decode cX0_solve 30 = .ok (.invokevirtual 26, 3) := by decide +kernel
theorem dX0_solve_33 : decode cX0_solve 33 = .ok (.iastore, 1) := by decide +kernel
theorem dX0_solve_34 : decode cX0_solve 34 = .ok (.aload_n 0, 1) := by decide +kernel
theorem dX0_solve_35 : decode cX0_solve 35 = .ok (.getfield 15, 3) := by decide +kernel
theorem dX0_solve_38 : decode cX0_solve 38 = .ok (.iload_n 2, 1) := by decide +kernel
theorem dX0_solve_39 : decode cX0_solve 39 = .ok (.iaload, 1) := by decide +kernel
theorem dX0_solve_40 : decode cX0_solve 40 = .ok (.iconst (-1), 1) := by decide +kernel
theorem dX0_solve_41 : decode cX0_solve 41 = .ok (.if_icmp .eq 14, 3) := by decide +kernel
theorem dX0_solve_44 : decode cX0_solve 44 = .ok (.iload_n 1, 1) := by decide +kernel
theorem dX0_solve_45 : decode cX0_solve 45 = .ok (.iconst 1, 1) := by decide +kernel
theorem dX0_solve_46 : decode cX0_solve 46 = .ok (.aload_n 0, 1) := by decide +kernel
theorem dX0_solve_47 : decode cX0_solve 47 = .ok (.getfield 15, 3) := by decide +kernel
theorem dX0_solve_50 : decode cX0_solve 50 = .ok (.iload_n 2, 1) := by decide +kernel
theorem dX0_solve_51 : decode cX0_solve 51 = .ok (.iaload, 1) := by decide +kernel
theorem dX0_solve_52 : decode cX0_solve 52 = .ok (.ishl, 1) := by decide +kernel
theorem dX0_solve_53 : decode cX0_solve 53 = .ok (.ior, 1) := by decide +kernel
theorem dX0_solve_54 : decode cX0_solve 54 = .ok (.istore_n 1, 1) := by decide +kernel
theorem dX0_solve_55 : decode cX0_solve 55 = .ok (.iinc 2 1, 3) := by decide +kernel
theorem dX0_solve_58 : decode cX0_solve 58 = .ok (.goto (-41), 3) := by decide +kernel
theorem dX0_solve_61 : decode cX0_solve 61 = .ok (.return_, 1) := by decide +kernel
theorem dX0_firstBestPick_0 : decode cX0_firstBestPick 0 = .ok (.aload_n 0, 1) := by decide +kernel
theorem dX0_firstBestPick_1 : decode cX0_firstBestPick 1 = .ok (.getfield 9, 3) := by decide +kernel
theorem dX0_firstBestPick_4 : decode cX0_firstBestPick 4 = .ok (.iload_n 1, 1) := by decide +kernel
theorem dX0_firstBestPick_5 : decode cX0_firstBestPick 5 = .ok (.iload_n 2, 1) := by decide +kernel
theorem dX0_firstBestPick_6 : decode cX0_firstBestPick 6 = .ok (.invokestatic 22, 3) := by decide +kernel
theorem dX0_firstBestPick_9 : decode cX0_firstBestPick 9 = .ok (.istore_n 3, 1) := by decide +kernel
theorem dX0_firstBestPick_10 : decode cX0_firstBestPick 10 = .ok (.aload_n 0, 1) := by decide +kernel
theorem dX0_firstBestPick_11 : decode cX0_firstBestPick 11 = .ok (.getfield 9, 3) := by decide +kernel
theorem dX0_firstBestPick_14 : decode cX0_firstBestPick 14 = .ok (.iload_n 1, 1) := by decide +kernel
theorem dX0_firstBestPick_15 : decode cX0_firstBestPick 15 = .ok (.iconst 1, 1) := by decide +kernel
theorem dX0_firstBestPick_16 : decode cX0_firstBestPick 16 = .ok (.iadd, 1) := by decide +kernel
theorem dX0_firstBestPick_17 : decode cX0_firstBestPick 17 = .ok (.iload_n 2, 1) := by decide +kernel
theorem dX0_firstBestPick_18 : decode cX0_firstBestPick 18 = .ok (.invokestatic 22, 3) := by decide +kernel
theorem dX0_firstBestPick_21 : decode cX0_firstBestPick 21 = .ok (.iload_n 3, 1) := by decide +kernel
theorem dX0_firstBestPick_22 : decode cX0_firstBestPick 22 = .ok (.if_icmp .ne 5, 3) := by decide +kernel
theorem dX0_firstBestPick_25 : decode cX0_firstBestPick 25 = .ok (.iconst (-1), 1) := by decide +kernel
theorem dX0_firstBestPick_26 : decode cX0_firstBestPick 26 = .ok (.ireturn, 1) := by decide +kernel
theorem dX0_firstBestPick_27 : decode cX0_firstBestPick 27 = .ok (.aload_n 0, 1) := by decide +kernel
theorem dX0_firstBestPick_28 : decode cX0_firstBestPick 28 = .ok (.getfield 9, 3) := by decide +kernel
theorem dX0_firstBestPick_31 : decode cX0_firstBestPick 31 = .ok (.iload_n 1, 1) := by decide +kernel
theorem dX0_firstBestPick_32 : decode cX0_firstBestPick 32 = .ok (.iaload, 1) := by decide +kernel
theorem dX0_firstBestPick_33 : decode cX0_firstBestPick 33 = .ok (.iload_n 2, 1) := by decide +kernel
theorem dX0_firstBestPick_34 : decode cX0_firstBestPick 34 = .ok (.iconst (-1), 1) := by decide +kernel
theorem dX0_firstBestPick_35 : decode cX0_firstBestPick 35 = .ok (.ixor, 1) := by decide +kernel
theorem dX0_firstBestPick_36 : decode cX0_firstBestPick 36 = .ok (.iand, 1) := by decide +kernel
theorem dX0_firstBestPick_37 : decode cX0_firstBestPick 37 = .ok (.istore 4, 2) := by decide +kernel
theorem dX0_firstBestPick_39 : decode cX0_firstBestPick 39 = .ok (.iconst 0, 1) := by decide +kernel
theorem dX0_firstBestPick_40 : decode cX0_firstBestPick 40 = .ok (.istore 5, 2) := by decide +kernel
theorem dX0_firstBestPick_42 : decode cX0_firstBestPick 42 = .ok (.iload 5, 2) := by decide +kernel
theorem dX0_firstBestPick_44 : decode cX0_firstBestPick 44 = .ok (.bipush 8, 2) := by decide +kernel
theorem dX0_firstBestPick_46 : decode cX0_firstBestPick 46 = .ok (.if_icmp .ge 44, 3) := by decide +kernel
theorem dX0_firstBestPick_49 : decode cX0_firstBestPick 49 = .ok (.iload 4, 2) := by decide +kernel
theorem dX0_firstBestPick_51 : decode cX0_firstBestPick 51 = .ok (.iload 5, 2) := by decide +kernel
theorem dX0_firstBestPick_53 : decode cX0_firstBestPick 53 = .ok (.invokestatic 30, 3) := by decide +kernel
theorem dX0_firstBestPick_56 : decode cX0_firstBestPick 56 = .ok (.ifCond .eq 28, 3) := by decide +kernel
theorem dX0_firstBestPick_59 : decode cX0_firstBestPick 59 = .ok (.iconst 1, 1) := by decide +kernel
theorem dX0_firstBestPick_60 : decode cX0_firstBestPick 60 = .ok (.aload_n 0, 1) := by decide +kernel
theorem dX0_firstBestPick_61 : decode cX0_firstBestPick 61 = .ok (.getfield 9, 3) := by decide +kernel
theorem dX0_firstBestPick_64 : decode cX0_firstBestPick 64 = .ok (.iload_n 1, 1) := by decide +kernel
theorem dX0_firstBestPick_65 : decode cX0_firstBestPick 65 = .ok (.iconst 1, 1) := by decide +kernel
theorem dX0_firstBestPick_66 : decode cX0_firstBestPick 66 = .ok (.iadd, 1) := by decide +kernel
theorem dX0_firstBestPick_67 : decode cX0_firstBestPick 67 = .ok (.iload_n 2, 1) := by decide +kernel
theorem dX0_firstBestPick_68 : decode cX0_firstBestPick 68 = .ok (.iconst 1, 1) := by decide +kernel
theorem dX0_firstBestPick_69 : decode cX0_firstBestPick 69 = .ok (.iload 5, 2) := by decide +kernel
theorem dX0_firstBestPick_71 : decode cX0_firstBestPick 71 = .ok (.ishl, 1) := by decide +kernel
theorem dX0_firstBestPick_72 : decode cX0_firstBestPick 72 = .ok (.ior, 1) := by decide +kernel
theorem dX0_firstBestPick_73 : decode cX0_firstBestPick 73 = .ok (.invokestatic 22, 3) := by decide +kernel
theorem dX0_firstBestPick_76 : decode cX0_firstBestPick 76 = .ok (.iadd, 1) := by decide +kernel
theorem dX0_firstBestPick_77 : decode cX0_firstBestPick 77 = .ok (.iload_n 3, 1) := by decide +kernel
theorem dX0_firstBestPick_78 : decode cX0_firstBestPick 78 = .ok (.if_icmp .ne 6, 3) := by decide +kernel
theorem dX0_firstBestPick_81 : decode cX0_firstBestPick 81 = .ok (.iload 5, 2) := by decide +kernel
theorem dX0_firstBestPick_83 : decode cX0_firstBestPick 83 = .ok (.ireturn, 1) := by decide +kernel
theorem dX0_firstBestPick_84 : decode cX0_firstBestPick 84 = .ok (.iinc 5 1, 3) := by decide +kernel
theorem dX0_firstBestPick_87 : decode cX0_firstBestPick 87 = .ok (.goto (-45), 3) := by decide +kernel
theorem dX0_firstBestPick_90 : decode cX0_firstBestPick 90 = .ok (.iconst (-1), 1) := by decide +kernel
theorem dX0_firstBestPick_91 : decode cX0_firstBestPick 91 = .ok (.ireturn, 1) := by decide +kernel
theorem dX0_mostFrom_0 : decode cX0_mostFrom 0 = .ok (.iload_n 1, 1) := by decide +kernel
theorem dX0_mostFrom_1 : decode cX0_mostFrom 1 = .ok (.ifCond .lt 9, 3) := by decide +kernel
theorem dX0_mostFrom_4 : decode cX0_mostFrom 4 = .ok (.iload_n 1, 1) := by decide +kernel
theorem dX0_mostFrom_5 : decode cX0_mostFrom 5 = .ok (.aload_n 0, 1) := by decide +kernel
theorem dX0_mostFrom_6 : decode cX0_mostFrom 6 = .ok (.arraylength, 1) := by decide +kernel
theorem dX0_mostFrom_7 : decode cX0_mostFrom 7 = .ok (.if_icmp .lt 5, 3) := by decide +kernel
theorem dX0_mostFrom_10 : decode cX0_mostFrom 10 = .ok (.iconst 0, 1) := by decide +kernel
theorem dX0_mostFrom_11 : decode cX0_mostFrom 11 = .ok (.ireturn, 1) := by decide +kernel
theorem dX0_mostFrom_12 : decode cX0_mostFrom 12 = .ok (.aload_n 0, 1) := by decide +kernel
theorem dX0_mostFrom_13 : decode cX0_mostFrom 13 = .ok (.iload_n 1, 1) := by decide +kernel
theorem dX0_mostFrom_14 : decode cX0_mostFrom 14 = .ok (.iconst 1, 1) := by decide +kernel
theorem dX0_mostFrom_15 : decode cX0_mostFrom 15 = .ok (.iadd, 1) := by decide +kernel
theorem dX0_mostFrom_16 : decode cX0_mostFrom 16 = .ok (.iload_n 2, 1) := by decide +kernel
theorem dX0_mostFrom_17 : decode cX0_mostFrom 17 = .ok (.invokestatic 22, 3) := by decide +kernel
theorem dX0_mostFrom_20 : decode cX0_mostFrom 20 = .ok (.istore_n 3, 1) := by decide +kernel
theorem dX0_mostFrom_21 : decode cX0_mostFrom 21 = .ok (.aload_n 0, 1) := by decide +kernel
theorem dX0_mostFrom_22 : decode cX0_mostFrom 22 = .ok (.iload_n 1, 1) := by decide +kernel
theorem dX0_mostFrom_23 : decode cX0_mostFrom 23 = .ok (.iaload, 1) := by decide +kernel
theorem dX0_mostFrom_24 : decode cX0_mostFrom 24 = .ok (.iload_n 2, 1) := by decide +kernel
theorem dX0_mostFrom_25 : decode cX0_mostFrom 25 = .ok (.iconst (-1), 1) := by decide +kernel
theorem dX0_mostFrom_26 : decode cX0_mostFrom 26 = .ok (.ixor, 1) := by decide +kernel
theorem dX0_mostFrom_27 : decode cX0_mostFrom 27 = .ok (.iand, 1) := by decide +kernel
theorem dX0_mostFrom_28 : decode cX0_mostFrom 28 = .ok (.istore 4, 2) := by decide +kernel
theorem dX0_mostFrom_30 : decode cX0_mostFrom 30 = .ok (.iconst 0, 1) := by decide +kernel
theorem dX0_mostFrom_31 : decode cX0_mostFrom 31 = .ok (.istore 5, 2) := by decide +kernel
theorem dX0_mostFrom_33 : decode cX0_mostFrom 33 = .ok (.iload 5, 2) := by decide +kernel
theorem dX0_mostFrom_35 : decode cX0_mostFrom 35 = .ok (.bipush 8, 2) := by decide +kernel
theorem dX0_mostFrom_37 : decode cX0_mostFrom 37 = .ok (.if_icmp .ge 39, 3) := by decide +kernel
theorem dX0_mostFrom_40 : decode cX0_mostFrom 40 = .ok (.iload 4, 2) := by decide +kernel
theorem dX0_mostFrom_42 : decode cX0_mostFrom 42 = .ok (.iload 5, 2) := by decide +kernel
theorem dX0_mostFrom_44 : decode cX0_mostFrom 44 = .ok (.invokestatic 30, 3) := by decide +kernel
theorem dX0_mostFrom_47 : decode cX0_mostFrom 47 = .ok (.ifCond .eq 23, 3) := by decide +kernel
theorem dX0_mostFrom_50 : decode cX0_mostFrom 50 = .ok (.iload_n 3, 1) := by decide +kernel
theorem dX0_mostFrom_51 : decode cX0_mostFrom 51 = .ok (.iconst 1, 1) := by decide +kernel
theorem dX0_mostFrom_52 : decode cX0_mostFrom 52 = .ok (.aload_n 0, 1) := by decide +kernel
theorem dX0_mostFrom_53 : decode cX0_mostFrom 53 = .ok (.iload_n 1, 1) := by decide +kernel
theorem dX0_mostFrom_54 : decode cX0_mostFrom 54 = .ok (.iconst 1, 1) := by decide +kernel
theorem dX0_mostFrom_55 : decode cX0_mostFrom 55 = .ok (.iadd, 1) := by decide +kernel
theorem dX0_mostFrom_56 : decode cX0_mostFrom 56 = .ok (.iload_n 2, 1) := by decide +kernel
theorem dX0_mostFrom_57 : decode cX0_mostFrom 57 = .ok (.iconst 1, 1) := by decide +kernel
theorem dX0_mostFrom_58 : decode cX0_mostFrom 58 = .ok (.iload 5, 2) := by decide +kernel
theorem dX0_mostFrom_60 : decode cX0_mostFrom 60 = .ok (.ishl, 1) := by decide +kernel
theorem dX0_mostFrom_61 : decode cX0_mostFrom 61 = .ok (.ior, 1) := by decide +kernel
theorem dX0_mostFrom_62 : decode cX0_mostFrom 62 = .ok (.invokestatic 22, 3) := by decide +kernel
theorem dX0_mostFrom_65 : decode cX0_mostFrom 65 = .ok (.iadd, 1) := by decide +kernel
theorem dX0_mostFrom_66 : decode cX0_mostFrom 66 = .ok (.invokestatic 34, 3) := by decide +kernel
theorem dX0_mostFrom_69 : decode cX0_mostFrom 69 = .ok (.istore_n 3, 1) := by decide +kernel
theorem dX0_mostFrom_70 : decode cX0_mostFrom 70 = .ok (.iinc 5 1, 3) := by decide +kernel
theorem dX0_mostFrom_73 : decode cX0_mostFrom 73 = .ok (.goto (-40), 3) := by decide +kernel
theorem dX0_mostFrom_76 : decode cX0_mostFrom 76 = .ok (.iload_n 3, 1) := by decide +kernel
theorem dX0_mostFrom_77 : decode cX0_mostFrom 77 = .ok (.ireturn, 1) := by decide +kernel
theorem dX1_init_0 : decode cX1_init 0 = .ok (.aload_n 0, 1) := by decide +kernel
theorem dX1_init_1 : decode cX1_init 1 = .ok (.invokespecial 3, 3) := by decide +kernel
theorem dX1_init_4 : decode cX1_init 4 = .ok (.aload_n 0, 1) := by decide +kernel
theorem dX1_init_5 : decode cX1_init 5 = .ok (.bipush 30, 2) := by decide +kernel
theorem dX1_init_7 : decode cX1_init 7 = .ok (.newarray .int, 2) := by decide +kernel
theorem dX1_init_9 : decode cX1_init 9 = .ok (.putfield 9, 3) := by decide +kernel
theorem dX1_init_12 : decode cX1_init 12 = .ok (.aload_n 0, 1) := by decide +kernel
theorem dX1_init_13 : decode cX1_init 13 = .ok (.iconst 0, 1) := by decide +kernel
theorem dX1_init_14 : decode cX1_init 14 = .ok (.putfield 15, 3) := by decide +kernel
theorem dX1_init_17 : decode cX1_init 17 = .ok (.return_, 1) := by decide +kernel
theorem dX1_add_0 : decode cX1_add 0 = .ok (.aload_n 0, 1) := by decide +kernel
theorem dX1_add_1 : decode cX1_add 1 = .ok (.getfield 15, 3) := by decide +kernel
theorem dX1_add_4 : decode cX1_add 4 = .ok (.bipush 30, 2) := by decide +kernel
theorem dX1_add_6 : decode cX1_add 6 = .ok (.if_icmp .ge 23, 3) := by decide +kernel
theorem dX1_add_9 : decode cX1_add 9 = .ok (.aload_n 0, 1) := by decide +kernel
theorem dX1_add_10 : decode cX1_add 10 = .ok (.getfield 9, 3) := by decide +kernel
theorem dX1_add_13 : decode cX1_add 13 = .ok (.aload_n 0, 1) := by decide +kernel
theorem dX1_add_14 : decode cX1_add 14 = .ok (.getfield 15, 3) := by decide +kernel
theorem dX1_add_17 : decode cX1_add 17 = .ok (.iload_n 1, 1) := by decide +kernel
theorem dX1_add_18 : decode cX1_add 18 = .ok (.iastore, 1) := by decide +kernel
theorem dX1_add_19 : decode cX1_add 19 = .ok (.aload_n 0, 1) := by decide +kernel
theorem dX1_add_20 : decode cX1_add 20 = .ok (.dup, 1) := by decide +kernel
theorem dX1_add_21 : decode cX1_add 21 = .ok (.getfield 15, 3) := by decide +kernel
theorem dX1_add_24 : decode cX1_add 24 = .ok (.iconst 1, 1) := by decide +kernel
theorem dX1_add_25 : decode cX1_add 25 = .ok (.iadd, 1) := by decide +kernel
theorem dX1_add_26 : decode cX1_add 26 = .ok (.putfield 15, 3) := by decide +kernel
theorem dX1_add_29 : decode cX1_add 29 = .ok (.return_, 1) := by decide +kernel
theorem dX2_init_0 : decode cX2_init 0 = .ok (.aload_n 0, 1) := by decide +kernel
theorem dX2_init_1 : decode cX2_init 1 = .ok (.invokespecial 3, 3) := by decide +kernel
theorem dX2_init_4 : decode cX2_init 4 = .ok (.aload_n 0, 1) := by decide +kernel
theorem dX2_init_5 : decode cX2_init 5 = .ok (.new 9, 3) := by decide +kernel
theorem dX2_init_8 : decode cX2_init 8 = .ok (.dup, 1) := by decide +kernel
theorem dX2_init_9 : decode cX2_init 9 = .ok (.invokespecial 11, 3) := by decide +kernel
theorem dX2_init_12 : decode cX2_init 12 = .ok (.putfield 12, 3) := by decide +kernel
theorem dX2_init_15 : decode cX2_init 15 = .ok (.aload_n 0, 1) := by decide +kernel
theorem dX2_init_16 : decode cX2_init 16 = .ok (.iconst 0, 1) := by decide +kernel
theorem dX2_init_17 : decode cX2_init 17 = .ok (.putfield 18, 3) := by decide +kernel
theorem dX2_init_20 : decode cX2_init 20 = .ok (.aload_n 0, 1) := by decide +kernel
theorem dX2_init_21 : decode cX2_init 21 = .ok (.iconst 0, 1) := by decide +kernel
theorem dX2_init_22 : decode cX2_init 22 = .ok (.putfield 22, 3) := by decide +kernel
theorem dX2_init_25 : decode cX2_init 25 = .ok (.aload_n 0, 1) := by decide +kernel
theorem dX2_init_26 : decode cX2_init 26 = .ok (.iconst 0, 1) := by decide +kernel
theorem dX2_init_27 : decode cX2_init 27 = .ok (.putfield 25, 3) := by decide +kernel
theorem dX2_init_30 : decode cX2_init 30 = .ok (.return_, 1) := by decide +kernel
theorem dX2_read_0 : decode cX2_read 0 = .ok (.aload_n 0, 1) := by decide +kernel
theorem dX2_read_1 : decode cX2_read 1 = .ok (.getfield 12, 3) := by decide +kernel
theorem dX2_read_4 : decode cX2_read 4 = .ok (.invokevirtual 28, 3) := by decide +kernel
theorem dX2_read_7 : decode cX2_read 7 = .ok (.aload_n 0, 1) := by decide +kernel
theorem dX2_read_8 : decode cX2_read 8 = .ok (.iconst 0, 1) := by decide +kernel
theorem dX2_read_9 : decode cX2_read 9 = .ok (.putfield 18, 3) := by decide +kernel
theorem dX2_read_12 : decode cX2_read 12 = .ok (.aload_n 0, 1) := by decide +kernel
theorem dX2_read_13 : decode cX2_read 13 = .ok (.invokevirtual 31, 3) := by decide +kernel
theorem dX2_read_16 : decode cX2_read 16 = .ok (.iconst 0, 1) := by decide +kernel
theorem dX2_read_17 : decode cX2_read 17 = .ok (.istore_n 2, 1) := by decide +kernel
theorem dX2_read_18 : decode cX2_read 18 = .ok (.iload_n 2, 1) := by decide +kernel
theorem dX2_read_19 : decode cX2_read 19 = .ok (.aload_n 1, 1) := by decide +kernel
theorem dX2_read_20 : decode cX2_read 20 = .ok (.getfield 34, 3) := by decide +kernel
theorem dX2_read_23 : decode cX2_read 23 = .ok (.if_icmp .ge 24, 3) := by decide +kernel
theorem dX2_read_26 : decode cX2_read 26 = .ok (.aload_n 0, 1) := by decide +kernel
theorem dX2_read_27 : decode cX2_read 27 = .ok (.aload_n 1, 1) := by decide +kernel
theorem dX2_read_28 : decode cX2_read 28 = .ok (.getfield 39, 3) := by decide +kernel
theorem dX2_read_31 : decode cX2_read 31 = .ok (.iload_n 2, 1) := by decide +kernel
theorem dX2_read_32 : decode cX2_read 32 = .ok (.iaload, 1) := by decide +kernel
theorem dX2_read_33 : decode cX2_read 33 = .ok (.invokevirtual 43, 3) := by decide +kernel
theorem dX2_read_36 : decode cX2_read 36 = .ok (.ifCond .ne 5, 3) := by decide +kernel
theorem dX2_read_39 : decode cX2_read 39 = .ok (.iload_n 2, 1) := by decide +kernel
theorem dX2_read_40 : decode cX2_read 40 = .ok (.ireturn, 1) := by decide +kernel
theorem dX2_read_41 : decode cX2_read 41 = .ok (.iinc 2 1, 3) := by decide +kernel
theorem dX2_read_44 : decode cX2_read 44 = .ok (.goto (-26), 3) := by decide +kernel
theorem dX2_read_47 : decode cX2_read 47 = .ok (.aload_n 1, 1) := by decide +kernel
theorem dX2_read_48 : decode cX2_read 48 = .ok (.getfield 34, 3) := by decide +kernel
theorem dX2_read_51 : decode cX2_read 51 = .ok (.ireturn, 1) := by decide +kernel
theorem dX2_hasWholeRoom_0 : decode cX2_hasWholeRoom 0 = .ok (.aload_n 0, 1) := by decide +kernel
theorem dX2_hasWholeRoom_1 : decode cX2_hasWholeRoom 1 = .ok (.getfield 12, 3) := by decide +kernel
theorem dX2_hasWholeRoom_4 : decode cX2_hasWholeRoom 4 = .ok (.getfield 47, 3) := by decide +kernel
theorem dX2_hasWholeRoom_7 : decode cX2_hasWholeRoom 7 = .ok (.iconst 2, 1) := by decide +kernel
theorem dX2_hasWholeRoom_8 : decode cX2_hasWholeRoom 8 = .ok (.if_icmp .lt 15, 3) := by decide +kernel
theorem dX2_hasWholeRoom_11 : decode cX2_hasWholeRoom 11 = .ok (.aload_n 0, 1) := by decide +kernel
theorem dX2_hasWholeRoom_12 : decode cX2_hasWholeRoom 12 = .ok (.getfield 22, 3) := by decide +kernel
theorem dX2_hasWholeRoom_15 : decode cX2_hasWholeRoom 15 = .ok (.iconst 2, 1) := by decide +kernel
theorem dX2_hasWholeRoom_16 : decode cX2_hasWholeRoom 16 = .ok (.if_icmp .ne 7, 3) := by decide +kernel
theorem dX2_hasWholeRoom_19 : decode cX2_hasWholeRoom 19 = .ok (.iconst 1, 1) := by decide +kernel
theorem dX2_hasWholeRoom_20 : decode cX2_hasWholeRoom 20 = .ok (.goto 4, 3) := by decide +kernel
theorem dX2_hasWholeRoom_23 : decode cX2_hasWholeRoom 23 = .ok (.iconst 0, 1) := by decide +kernel
theorem dX2_hasWholeRoom_24 : decode cX2_hasWholeRoom 24 = .ok (.ireturn, 1) := by decide +kernel
theorem dX2_takes_0 : decode cX2_takes 0 = .ok (.aload_n 0, 1) := by decide +kernel
theorem dX2_takes_1 : decode cX2_takes 1 = .ok (.getfield 18, 3) := by decide +kernel
theorem dX2_takes_4 : decode cX2_takes 4 = .ok (.iconst 4, 1) := by decide +kernel
theorem dX2_takes_5 : decode cX2_takes 5 = .ok (.if_icmp .ge 11, 3) := by decide +kernel
theorem dX2_takes_8 : decode cX2_takes 8 = .ok (.aload_n 0, 1) := by decide +kernel
theorem dX2_takes_9 : decode cX2_takes 9 = .ok (.iload_n 1, 1) := by decide +kernel
theorem dX2_takes_10 : decode cX2_takes 10 = .ok (.invokevirtual 50, 3) := by decide +kernel
theorem dX2_takes_13 : decode cX2_takes 13 = .ok (.goto 8, 3) := by decide +kernel
theorem dX2_takes_16 : decode cX2_takes 16 = .ok (.aload_n 0, 1) := by decide +kernel
theorem dX2_takes_17 : decode cX2_takes 17 = .ok (.iload_n 1, 1) := by decide +kernel
theorem dX2_takes_18 : decode cX2_takes 18 = .ok (.invokevirtual 53, 3) := by decide +kernel
theorem dX2_takes_21 : decode cX2_takes 21 = .ok (.ireturn, 1) := by decide +kernel
theorem dX2_takesInOpening_0 : decode cX2_takesInOpening 0 = .ok (.aload_n 0, 1) := by decide +kernel
theorem dX2_takesInOpening_1 : decode cX2_takesInOpening 1 = .ok (.getfield 18, 3) := by decide +kernel
theorem dX2_takesInOpening_4 : decode cX2_takesInOpening 4 = .ok (.iconst 3, 1) := by decide +kernel
theorem dX2_takesInOpening_5 : decode cX2_takesInOpening 5 = .ok (.if_icmp .ge 8, 3) := by decide +kernel
theorem dX2_takesInOpening_8 : decode cX2_takesInOpening 8 = .ok (.bipush 44, 2) := by decide +kernel
theorem dX2_takesInOpening_10 : decode cX2_takesInOpening 10 = .ok (.goto 5, 3) := by decide +kernel
theorem dX2_takesInOpening_13 : decode cX2_takesInOpening 13 = .ok (.bipush 59, 2) := by decide +kernel
theorem dX2_takesInOpening_15 : decode cX2_takesInOpening 15 = .ok (.istore_n 2, 1) := by decide +kernel
theorem dX2_takesInOpening_16 : decode cX2_takesInOpening 16 = .ok (.aload_n 0, 1) := by decide +kernel
theorem dX2_takesInOpening_17 : decode cX2_takesInOpening 17 = .ok (.getfield 22, 3) := by decide +kernel
theorem dX2_takesInOpening_20 : decode cX2_takesInOpening 20 = .ok (.ifCond .le 24, 3) := by decide +kernel
theorem dX2_takesInOpening_23 : decode cX2_takesInOpening 23 = .ok (.iload_n 1, 1) := by decide +kernel
theorem dX2_takesInOpening_24 : decode cX2_takesInOpening 24 = .ok (.iload_n 2, 1) := by decide +kernel
theorem dX2_takesInOpening_25 : decode cX2_takesInOpening 25 = .ok (.if_icmp .ne 19, 3) := by decide +kernel
theorem dX2_takesInOpening_28 : decode cX2_takesInOpening 28 = .ok (.aload_n 0, 1) := by decide +kernel
theorem dX2_takesInOpening_29 : decode cX2_takesInOpening 29 = .ok (.dup, 1) := by decide +kernel
theorem dX2_takesInOpening_30 : decode cX2_takesInOpening 30 = .ok (.getfield 18, 3) := by decide +kernel
theorem dX2_takesInOpening_33 : decode cX2_takesInOpening 33 = .ok (.iconst 1, 1) := by decide +kernel
theorem dX2_takesInOpening_34 : decode cX2_takesInOpening 34 = .ok (.iadd, 1) := by decide +kernel
theorem dX2_takesInOpening_35 : decode cX2_takesInOpening 35 = .ok (.putfield 18, 3) := by decide +kernel
theorem dX2_takesInOpening_38 : decode cX2_takesInOpening 38 = .ok (.aload_n 0, 1) := by decide +kernel
theorem dX2_takesInOpening_39 : decode cX2_takesInOpening 39 = .ok (.invokevirtual 31, 3) := by decide +kernel
theorem dX2_takesInOpening_42 : decode cX2_takesInOpening 42 = .ok (.iconst 1, 1) := by decide +kernel
theorem dX2_takesInOpening_43 : decode cX2_takesInOpening 43 = .ok (.ireturn, 1) := by decide +kernel
theorem dX2_takesInOpening_44 : decode cX2_takesInOpening 44 = .ok (.aload_n 0, 1) := by decide +kernel
theorem dX2_takesInOpening_45 : decode cX2_takesInOpening 45 = .ok (.getfield 22, 3) := by decide +kernel
theorem dX2_takesInOpening_48 : decode cX2_takesInOpening 48 = .ok (.iconst 3, 1) := by decide +kernel
theorem dX2_takesInOpening_49 : decode cX2_takesInOpening 49 = .ok (.if_icmp .ge 21, 3) := by decide +kernel
theorem dX2_takesInOpening_52 : decode cX2_takesInOpening 52 = .ok (.iload_n 1, 1) := by decide +kernel
theorem dX2_takesInOpening_53 : decode cX2_takesInOpening 53 = .ok (.bipush 97, 2) := by decide +kernel
theorem dX2_takesInOpening_55 : decode cX2_takesInOpening 55 = .ok (.isub, 1) := by decide +kernel
theorem dX2_takesInOpening_56 : decode cX2_takesInOpening 56 = .ok (.invokestatic 56, 3) := by decide +kernel
theorem dX2_takesInOpening_59 : decode cX2_takesInOpening 59 = .ok (.ifCond .eq 11, 3) := by decide +kernel
theorem dX2_takesInOpening_62 : decode cX2_takesInOpening 62 = .ok (.iload_n 1, 1) := by decide +kernel
theorem dX2_takesInOpening_63 : decode cX2_takesInOpening 63 = .ok (.aload_n 0, 1) := by decide +kernel
theorem dX2_takesInOpening_64 : decode cX2_takesInOpening 64 = .ok (.getfield 25, 3) := by decide +kernel
theorem dX2_takesInOpening_67 : decode cX2_takesInOpening 67 = .ok (.if_icmp .gt 5, 3) := by decide +kernel
theorem dX2_takesInOpening_70 : decode cX2_takesInOpening 70 = .ok (.iconst 0, 1) := by decide +kernel
theorem dX2_takesInOpening_71 : decode cX2_takesInOpening 71 = .ok (.ireturn, 1) := by decide +kernel
theorem dX2_takesInOpening_72 : decode cX2_takesInOpening 72 = .ok (.aload_n 0, 1) := by decide +kernel
theorem dX2_takesInOpening_73 : decode cX2_takesInOpening 73 = .ok (.getfield 12, 3) := by decide +kernel
theorem dX2_takesInOpening_76 : decode cX2_takesInOpening 76 = .ok (.getfield 59, 3) := by decide +kernel
theorem dX2_takesInOpening_79 : decode cX2_takesInOpening 79 = .ok (.aload_n 0, 1) := by decide +kernel
theorem dX2_takesInOpening_80 : decode cX2_takesInOpening 80 = .ok (.getfield 18, 3) := by decide +kernel
theorem dX2_takesInOpening_83 : decode cX2_takesInOpening 83 = .ok (.dup2, 1) := by decide +kernel
theorem dX2_takesInOpening_84 : decode cX2_takesInOpening 84 = .ok (.iaload, 1) := by decide +kernel
theorem dX2_takesInOpening_85 : decode cX2_takesInOpening 85 = .ok (.iconst 1, 1) := by decide +kernel
theorem dX2_takesInOpening_86 : decode cX2_takesInOpening 86 = .ok (.iload_n 1, 1) := by decide +kernel
theorem dX2_takesInOpening_87 : decode cX2_takesInOpening 87 = .ok (.bipush 97, 2) := by decide +kernel
theorem dX2_takesInOpening_89 : decode cX2_takesInOpening 89 = .ok (.isub, 1) := by decide +kernel
theorem dX2_takesInOpening_90 : decode cX2_takesInOpening 90 = .ok (.ishl, 1) := by decide +kernel
theorem dX2_takesInOpening_91 : decode cX2_takesInOpening 91 = .ok (.ior, 1) := by decide +kernel
theorem dX2_takesInOpening_92 : decode cX2_takesInOpening 92 = .ok (.iastore, 1) := by decide +kernel
theorem dX2_takesInOpening_93 : decode cX2_takesInOpening 93 = .ok (.aload_n 0, 1) := by decide +kernel
theorem dX2_takesInOpening_94 : decode cX2_takesInOpening 94 = .ok (.dup, 1) := by decide +kernel
theorem dX2_takesInOpening_95 : decode cX2_takesInOpening 95 = .ok (.getfield 22, 3) := by decide +kernel
theorem dX2_takesInOpening_98 : decode cX2_takesInOpening 98 = .ok (.iconst 1, 1) := by decide +kernel
theorem dX2_takesInOpening_99 : decode cX2_takesInOpening 99 = .ok (.iadd, 1) := by decide +kernel
theorem dX2_takesInOpening_100 : decode cX2_takesInOpening 100 = .ok (.putfield 22, 3) := by decide +kernel
theorem dX2_takesInOpening_103 : decode cX2_takesInOpening 103 = .ok (.aload_n 0, 1) := by decide +kernel
theorem dX2_takesInOpening_104 : decode cX2_takesInOpening 104 = .ok (.iload_n 1, 1) := by decide +kernel
theorem dX2_takesInOpening_105 : decode cX2_takesInOpening 105 = .ok (.putfield 25, 3) := by decide +kernel
theorem dX2_takesInOpening_108 : decode cX2_takesInOpening 108 = .ok (.iconst 1, 1) := by decide +kernel
theorem dX2_takesInOpening_109 : decode cX2_takesInOpening 109 = .ok (.ireturn, 1) := by decide +kernel
theorem dX2_takesInSpeaker_0 : decode cX2_takesInSpeaker 0 = .ok (.aload_n 0, 1) := by decide +kernel
theorem dX2_takesInSpeaker_1 : decode cX2_takesInSpeaker 1 = .ok (.getfield 22, 3) := by decide +kernel
theorem dX2_takesInSpeaker_4 : decode cX2_takesInSpeaker 4 = .ok (.lookupswitch 49 #[(0, 28), (1, 40)], 28) := by decide +kernel
theorem dX2_takesInSpeaker_32 : decode cX2_takesInSpeaker 32 = .ok (.aload_n 0, 1) := by decide +kernel
theorem dX2_takesInSpeaker_33 : decode cX2_takesInSpeaker 33 = .ok (.ldc 62, 2) := by decide +kernel
theorem dX2_takesInSpeaker_35 : decode cX2_takesInSpeaker 35 = .ok (.iload_n 1, 1) := by decide +kernel
theorem dX2_takesInSpeaker_36 : decode cX2_takesInSpeaker 36 = .ok (.i2c, 1) := by decide +kernel
theorem dX2_takesInSpeaker_37 : decode cX2_takesInSpeaker 37 = .ok (.invokevirtual 64, 3) := by decide +kernel
theorem dX2_takesInSpeaker_40 : decode cX2_takesInSpeaker 40 = .ok (.invokevirtual 70, 3) := by decide +kernel
theorem dX2_takesInSpeaker_43 : decode cX2_takesInSpeaker 43 = .ok (.ireturn, 1) := by decide +kernel
theorem dX2_takesInSpeaker_44 : decode cX2_takesInSpeaker 44 = .ok (.aload_n 0, 1) := by decide +kernel
theorem dX2_takesInSpeaker_45 : decode cX2_takesInSpeaker 45 = .ok (.iload_n 1, 1) := by decide +kernel
theorem dX2_takesInSpeaker_46 : decode cX2_takesInSpeaker 46 = .ok (.bipush 97, 2) := by decide +kernel
theorem dX2_takesInSpeaker_48 : decode cX2_takesInSpeaker 48 = .ok (.isub, 1) := by decide +kernel
theorem dX2_takesInSpeaker_49 : decode cX2_takesInSpeaker 49 = .ok (.invokevirtual 73, 3) := by decide +kernel
theorem dX2_takesInSpeaker_52 : decode cX2_takesInSpeaker 52 = .ok (.ireturn, 1) := by decide +kernel
theorem dX2_takesInSpeaker_53 : decode cX2_takesInSpeaker 53 = .ok (.aload_n 0, 1) := by decide +kernel
theorem dX2_takesInSpeaker_54 : decode cX2_takesInSpeaker 54 = .ok (.iload_n 1, 1) := by decide +kernel
theorem dX2_takesInSpeaker_55 : decode cX2_takesInSpeaker 55 = .ok (.invokevirtual 76, 3) := by decide +kernel
theorem dX2_takesInSpeaker_58 : decode cX2_takesInSpeaker 58 = .ok (.ireturn, 1) := by decide +kernel
theorem dX2_takesKind_0 : decode cX2_takesKind 0 = .ok (.iload_n 1, 1) := by decide +kernel
theorem dX2_takesKind_1 : decode cX2_takesKind 1 = .ok (.ifCond .lt 14, 3) := by decide +kernel
theorem dX2_takesKind_4 : decode cX2_takesKind 4 = .ok (.aload_n 0, 1) := by decide +kernel
theorem dX2_takesKind_5 : decode cX2_takesKind 5 = .ok (.getfield 12, 3) := by decide +kernel
theorem dX2_takesKind_8 : decode cX2_takesKind 8 = .ok (.getfield 47, 3) := by decide +kernel
theorem dX2_takesKind_11 : decode cX2_takesKind 11 = .ok (.iconst 4, 1) := by decide +kernel
theorem dX2_takesKind_12 : decode cX2_takesKind 12 = .ok (.if_icmp .lt 5, 3) := by decide +kernel
theorem dX2_takesKind_15 : decode cX2_takesKind 15 = .ok (.iconst 0, 1) := by decide +kernel
theorem dX2_takesKind_16 : decode cX2_takesKind 16 = .ok (.ireturn, 1) := by decide +kernel
theorem dX2_takesKind_17 : decode cX2_takesKind 17 = .ok (.aload_n 0, 1) := by decide +kernel
theorem dX2_takesKind_18 : decode cX2_takesKind 18 = .ok (.getfield 12, 3) := by decide +kernel
theorem dX2_takesKind_21 : decode cX2_takesKind 21 = .ok (.getfield 79, 3) := by decide +kernel
theorem dX2_takesKind_24 : decode cX2_takesKind 24 = .ok (.aload_n 0, 1) := by decide +kernel
theorem dX2_takesKind_25 : decode cX2_takesKind 25 = .ok (.getfield 12, 3) := by decide +kernel
theorem dX2_takesKind_28 : decode cX2_takesKind 28 = .ok (.getfield 47, 3) := by decide +kernel
theorem dX2_takesKind_31 : decode cX2_takesKind 31 = .ok (.iload_n 1, 1) := by decide +kernel
theorem dX2_takesKind_32 : decode cX2_takesKind 32 = .ok (.iastore, 1) := by decide +kernel
theorem dX2_takesKind_33 : decode cX2_takesKind 33 = .ok (.aload_n 0, 1) := by decide +kernel
theorem dX2_takesKind_34 : decode cX2_takesKind 34 = .ok (.dup, 1) := by decide +kernel
theorem dX2_takesKind_35 : decode cX2_takesKind 35 = .ok (.getfield 22, 3) := by decide +kernel
theorem dX2_takesKind_38 : decode cX2_takesKind 38 = .ok (.iconst 1, 1) := by decide +kernel
theorem dX2_takesKind_39 : decode cX2_takesKind 39 = .ok (.iadd, 1) := by decide +kernel
theorem dX2_takesKind_40 : decode cX2_takesKind 40 = .ok (.putfield 22, 3) := by decide +kernel
theorem dX2_takesKind_43 : decode cX2_takesKind 43 = .ok (.iconst 1, 1) := by decide +kernel
theorem dX2_takesKind_44 : decode cX2_takesKind 44 = .ok (.ireturn, 1) := by decide +kernel
theorem dX2_takesWant_0 : decode cX2_takesWant 0 = .ok (.iload_n 1, 1) := by decide +kernel
theorem dX2_takesWant_1 : decode cX2_takesWant 1 = .ok (.invokestatic 56, 3) := by decide +kernel
theorem dX2_takesWant_4 : decode cX2_takesWant 4 = .ok (.ifCond .eq 14, 3) := by decide +kernel
theorem dX2_takesWant_7 : decode cX2_takesWant 7 = .ok (.aload_n 0, 1) := by decide +kernel
theorem dX2_takesWant_8 : decode cX2_takesWant 8 = .ok (.getfield 12, 3) := by decide +kernel
theorem dX2_takesWant_11 : decode cX2_takesWant 11 = .ok (.getfield 47, 3) := by decide +kernel
theorem dX2_takesWant_14 : decode cX2_takesWant 14 = .ok (.iconst 4, 1) := by decide +kernel
theorem dX2_takesWant_15 : decode cX2_takesWant 15 = .ok (.if_icmp .lt 5, 3) := by decide +kernel
theorem dX2_takesWant_18 : decode cX2_takesWant 18 = .ok (.iconst 0, 1) := by decide +kernel
theorem dX2_takesWant_19 : decode cX2_takesWant 19 = .ok (.ireturn, 1) := by decide +kernel
theorem dX2_takesWant_20 : decode cX2_takesWant 20 = .ok (.aload_n 0, 1) := by decide +kernel
theorem dX2_takesWant_21 : decode cX2_takesWant 21 = .ok (.getfield 12, 3) := by decide +kernel
theorem dX2_takesWant_24 : decode cX2_takesWant 24 = .ok (.getfield 82, 3) := by decide +kernel
theorem dX2_takesWant_27 : decode cX2_takesWant 27 = .ok (.aload_n 0, 1) := by decide +kernel
theorem dX2_takesWant_28 : decode cX2_takesWant 28 = .ok (.getfield 12, 3) := by decide +kernel
theorem dX2_takesWant_31 : decode cX2_takesWant 31 = .ok (.getfield 47, 3) := by decide +kernel
theorem dX2_takesWant_34 : decode cX2_takesWant 34 = .ok (.iload_n 1, 1) := by decide +kernel
theorem dX2_takesWant_35 : decode cX2_takesWant 35 = .ok (.iastore, 1) := by decide +kernel
theorem dX2_takesWant_36 : decode cX2_takesWant 36 = .ok (.aload_n 0, 1) := by decide +kernel
theorem dX2_takesWant_37 : decode cX2_takesWant 37 = .ok (.getfield 12, 3) := by decide +kernel
theorem dX2_takesWant_40 : decode cX2_takesWant 40 = .ok (.dup, 1) := by decide +kernel
theorem dX2_takesWant_41 : decode cX2_takesWant 41 = .ok (.getfield 47, 3) := by decide +kernel
theorem dX2_takesWant_44 : decode cX2_takesWant 44 = .ok (.iconst 1, 1) := by decide +kernel
theorem dX2_takesWant_45 : decode cX2_takesWant 45 = .ok (.iadd, 1) := by decide +kernel
theorem dX2_takesWant_46 : decode cX2_takesWant 46 = .ok (.putfield 47, 3) := by decide +kernel
theorem dX2_takesWant_49 : decode cX2_takesWant 49 = .ok (.aload_n 0, 1) := by decide +kernel
theorem dX2_takesWant_50 : decode cX2_takesWant 50 = .ok (.dup, 1) := by decide +kernel
theorem dX2_takesWant_51 : decode cX2_takesWant 51 = .ok (.getfield 22, 3) := by decide +kernel
theorem dX2_takesWant_54 : decode cX2_takesWant 54 = .ok (.iconst 1, 1) := by decide +kernel
theorem dX2_takesWant_55 : decode cX2_takesWant 55 = .ok (.iadd, 1) := by decide +kernel
theorem dX2_takesWant_56 : decode cX2_takesWant 56 = .ok (.putfield 22, 3) := by decide +kernel
theorem dX2_takesWant_59 : decode cX2_takesWant 59 = .ok (.iconst 1, 1) := by decide +kernel
theorem dX2_takesWant_60 : decode cX2_takesWant 60 = .ok (.ireturn, 1) := by decide +kernel
theorem dX2_takesNextSpeaker_0 : decode cX2_takesNextSpeaker 0 = .ok (.iload_n 1, 1) := by decide +kernel
theorem dX2_takesNextSpeaker_1 : decode cX2_takesNextSpeaker 1 = .ok (.bipush 44, 2) := by decide +kernel
theorem dX2_takesNextSpeaker_3 : decode cX2_takesNextSpeaker 3 = .ok (.if_icmp .ne 14, 3) := by decide +kernel
theorem dX2_takesNextSpeaker_6 : decode cX2_takesNextSpeaker 6 = .ok (.aload_n 0, 1) := by decide +kernel
theorem dX2_takesNextSpeaker_7 : decode cX2_takesNextSpeaker 7 = .ok (.getfield 12, 3) := by decide +kernel
theorem dX2_takesNextSpeaker_10 : decode cX2_takesNextSpeaker 10 = .ok (.getfield 47, 3) := by decide +kernel
theorem dX2_takesNextSpeaker_13 : decode cX2_takesNextSpeaker 13 = .ok (.iconst 4, 1) := by decide +kernel
theorem dX2_takesNextSpeaker_14 : decode cX2_takesNextSpeaker 14 = .ok (.if_icmp .lt 5, 3) := by decide +kernel
theorem dX2_takesNextSpeaker_17 : decode cX2_takesNextSpeaker 17 = .ok (.iconst 0, 1) := by decide +kernel
theorem dX2_takesNextSpeaker_18 : decode cX2_takesNextSpeaker 18 = .ok (.ireturn, 1) := by decide +kernel
theorem dX2_takesNextSpeaker_19 : decode cX2_takesNextSpeaker 19 = .ok (.aload_n 0, 1) := by decide +kernel
theorem dX2_takesNextSpeaker_20 : decode cX2_takesNextSpeaker 20 = .ok (.invokevirtual 31, 3) := by decide +kernel
theorem dX2_takesNextSpeaker_23 : decode cX2_takesNextSpeaker 23 = .ok (.iconst 1, 1) := by decide +kernel
theorem dX2_takesNextSpeaker_24 : decode cX2_takesNextSpeaker 24 = .ok (.ireturn, 1) := by decide +kernel
theorem dX2_startPart_0 : decode cX2_startPart 0 = .ok (.aload_n 0, 1) := by decide +kernel
theorem dX2_startPart_1 : decode cX2_startPart 1 = .ok (.iconst 0, 1) := by decide +kernel
theorem dX2_startPart_2 : decode cX2_startPart 2 = .ok (.putfield 22, 3) := by decide +kernel
theorem dX2_startPart_5 : decode cX2_startPart 5 = .ok (.aload_n 0, 1) := by decide +kernel
theorem dX2_startPart_6 : decode cX2_startPart 6 = .ok (.iconst 0, 1) := by decide +kernel
theorem dX2_startPart_7 : decode cX2_startPart 7 = .ok (.putfield 25, 3) := by decide +kernel
theorem dX2_startPart_10 : decode cX2_startPart 10 = .ok (.return_, 1) := by decide +kernel
theorem dX3_init_0 : decode cX3_init 0 = .ok (.aload_n 0, 1) := by decide +kernel
theorem dX3_init_1 : decode cX3_init 1 = .ok (.invokespecial 3, 3) := by decide +kernel
theorem dX3_init_4 : decode cX3_init 4 = .ok (.aload_n 0, 1) := by decide +kernel
theorem dX3_init_5 : decode cX3_init 5 = .ok (.iconst 4, 1) := by decide +kernel
theorem dX3_init_6 : decode cX3_init 6 = .ok (.newarray .int, 2) := by decide +kernel
theorem dX3_init_8 : decode cX3_init 8 = .ok (.putfield 9, 3) := by decide +kernel
theorem dX3_init_11 : decode cX3_init 11 = .ok (.aload_n 0, 1) := by decide +kernel
theorem dX3_init_12 : decode cX3_init 12 = .ok (.iconst 4, 1) := by decide +kernel
theorem dX3_init_13 : decode cX3_init 13 = .ok (.newarray .int, 2) := by decide +kernel
theorem dX3_init_15 : decode cX3_init 15 = .ok (.putfield 15, 3) := by decide +kernel
theorem dX3_init_18 : decode cX3_init 18 = .ok (.aload_n 0, 1) := by decide +kernel
theorem dX3_init_19 : decode cX3_init 19 = .ok (.iconst 4, 1) := by decide +kernel
theorem dX3_init_20 : decode cX3_init 20 = .ok (.newarray .int, 2) := by decide +kernel
theorem dX3_init_22 : decode cX3_init 22 = .ok (.putfield 18, 3) := by decide +kernel
theorem dX3_init_25 : decode cX3_init 25 = .ok (.aload_n 0, 1) := by decide +kernel
theorem dX3_init_26 : decode cX3_init 26 = .ok (.iconst 0, 1) := by decide +kernel
theorem dX3_init_27 : decode cX3_init 27 = .ok (.putfield 21, 3) := by decide +kernel
theorem dX3_init_30 : decode cX3_init 30 = .ok (.return_, 1) := by decide +kernel
theorem dX3_clear_0 : decode cX3_clear 0 = .ok (.iconst 0, 1) := by decide +kernel
theorem dX3_clear_1 : decode cX3_clear 1 = .ok (.istore_n 1, 1) := by decide +kernel
theorem dX3_clear_2 : decode cX3_clear 2 = .ok (.iload_n 1, 1) := by decide +kernel
theorem dX3_clear_3 : decode cX3_clear 3 = .ok (.iconst 4, 1) := by decide +kernel
theorem dX3_clear_4 : decode cX3_clear 4 = .ok (.if_icmp .ge 16, 3) := by decide +kernel
theorem dX3_clear_7 : decode cX3_clear 7 = .ok (.aload_n 0, 1) := by decide +kernel
theorem dX3_clear_8 : decode cX3_clear 8 = .ok (.getfield 9, 3) := by decide +kernel
theorem dX3_clear_11 : decode cX3_clear 11 = .ok (.iload_n 1, 1) := by decide +kernel
theorem dX3_clear_12 : decode cX3_clear 12 = .ok (.iconst 0, 1) := by decide +kernel
theorem dX3_clear_13 : decode cX3_clear 13 = .ok (.iastore, 1) := by decide +kernel
theorem dX3_clear_14 : decode cX3_clear 14 = .ok (.iinc 1 1, 3) := by decide +kernel
theorem dX3_clear_17 : decode cX3_clear 17 = .ok (.goto (-15), 3) := by decide +kernel
theorem dX3_clear_20 : decode cX3_clear 20 = .ok (.aload_n 0, 1) := by decide +kernel
theorem dX3_clear_21 : decode cX3_clear 21 = .ok (.iconst 0, 1) := by decide +kernel
theorem dX3_clear_22 : decode cX3_clear 22 = .ok (.putfield 21, 3) := by decide +kernel
theorem dX3_clear_25 : decode cX3_clear 25 = .ok (.return_, 1) := by decide +kernel
theorem dX3_copyFrom_0 : decode cX3_copyFrom 0 = .ok (.aload_n 1, 1) := by decide +kernel
theorem dX3_copyFrom_1 : decode cX3_copyFrom 1 = .ok (.getfield 9, 3) := by decide +kernel
theorem dX3_copyFrom_4 : decode cX3_copyFrom 4 = .ok (.iconst 0, 1) := by decide +kernel
theorem dX3_copyFrom_5 : decode cX3_copyFrom 5 = .ok (.aload_n 0, 1) := by decide +kernel
theorem dX3_copyFrom_6 : decode cX3_copyFrom 6 = .ok (.getfield 9, 3) := by decide +kernel
theorem dX3_copyFrom_9 : decode cX3_copyFrom 9 = .ok (.iconst 0, 1) := by decide +kernel
theorem dX3_copyFrom_10 : decode cX3_copyFrom 10 = .ok (.iconst 4, 1) := by decide +kernel
theorem dX3_copyFrom_11 : decode cX3_copyFrom 11 = .ok (.invokestatic 25, 3) := by decide +kernel
theorem dX3_copyFrom_14 : decode cX3_copyFrom 14 = .ok (.aload_n 1, 1) := by decide +kernel
theorem dX3_copyFrom_15 : decode cX3_copyFrom 15 = .ok (.getfield 15, 3) := by decide +kernel
theorem dX3_copyFrom_18 : decode cX3_copyFrom 18 = .ok (.iconst 0, 1) := by decide +kernel
theorem dX3_copyFrom_19 : decode cX3_copyFrom 19 = .ok (.aload_n 0, 1) := by decide +kernel
theorem dX3_copyFrom_20 : decode cX3_copyFrom 20 = .ok (.getfield 15, 3) := by decide +kernel
theorem dX3_copyFrom_23 : decode cX3_copyFrom 23 = .ok (.iconst 0, 1) := by decide +kernel
theorem dX3_copyFrom_24 : decode cX3_copyFrom 24 = .ok (.iconst 4, 1) := by decide +kernel
theorem dX3_copyFrom_25 : decode cX3_copyFrom 25 = .ok (.invokestatic 25, 3) := by decide +kernel
theorem dX3_copyFrom_28 : decode cX3_copyFrom 28 = .ok (.aload_n 1, 1) := by decide +kernel
theorem dX3_copyFrom_29 : decode cX3_copyFrom 29 = .ok (.getfield 18, 3) := by decide +kernel
theorem dX3_copyFrom_32 : decode cX3_copyFrom 32 = .ok (.iconst 0, 1) := by decide +kernel
theorem dX3_copyFrom_33 : decode cX3_copyFrom 33 = .ok (.aload_n 0, 1) := by decide +kernel
theorem dX3_copyFrom_34 : decode cX3_copyFrom 34 = .ok (.getfield 18, 3) := by decide +kernel
theorem dX3_copyFrom_37 : decode cX3_copyFrom 37 = .ok (.iconst 0, 1) := by decide +kernel
theorem dX3_copyFrom_38 : decode cX3_copyFrom 38 = .ok (.iconst 4, 1) := by decide +kernel
theorem dX3_copyFrom_39 : decode cX3_copyFrom 39 = .ok (.invokestatic 25, 3) := by decide +kernel
theorem dX3_copyFrom_42 : decode cX3_copyFrom 42 = .ok (.aload_n 0, 1) := by decide +kernel
theorem dX3_copyFrom_43 : decode cX3_copyFrom 43 = .ok (.aload_n 1, 1) := by decide +kernel
theorem dX3_copyFrom_44 : decode cX3_copyFrom 44 = .ok (.getfield 21, 3) := by decide +kernel
theorem dX3_copyFrom_47 : decode cX3_copyFrom 47 = .ok (.putfield 21, 3) := by decide +kernel
theorem dX3_copyFrom_50 : decode cX3_copyFrom 50 = .ok (.return_, 1) := by decide +kernel
theorem dX4_init_0 : decode cX4_init 0 = .ok (.aload_n 0, 1) := by decide +kernel
theorem dX4_init_1 : decode cX4_init 1 = .ok (.invokespecial 3, 3) := by decide +kernel
theorem dX4_init_4 : decode cX4_init 4 = .ok (.aload_n 0, 1) := by decide +kernel
theorem dX4_init_5 : decode cX4_init 5 = .ok (.iconst 4, 1) := by decide +kernel
theorem dX4_init_6 : decode cX4_init 6 = .ok (.newarray .int, 2) := by decide +kernel
theorem dX4_init_8 : decode cX4_init 8 = .ok (.putfield 9, 3) := by decide +kernel
theorem dX4_init_11 : decode cX4_init 11 = .ok (.aload_n 0, 1) := by decide +kernel
theorem dX4_init_12 : decode cX4_init 12 = .ok (.bipush 8, 2) := by decide +kernel
theorem dX4_init_14 : decode cX4_init 14 = .ok (.newarray .int, 2) := by decide +kernel
theorem dX4_init_16 : decode cX4_init 16 = .ok (.putfield 15, 3) := by decide +kernel
theorem dX4_init_19 : decode cX4_init 19 = .ok (.aload_n 0, 1) := by decide +kernel
theorem dX4_init_20 : decode cX4_init 20 = .ok (.bipush 8, 2) := by decide +kernel
theorem dX4_init_22 : decode cX4_init 22 = .ok (.newarray .int, 2) := by decide +kernel
theorem dX4_init_24 : decode cX4_init 24 = .ok (.putfield 18, 3) := by decide +kernel
theorem dX4_init_27 : decode cX4_init 27 = .ok (.aload_n 0, 1) := by decide +kernel
theorem dX4_init_28 : decode cX4_init 28 = .ok (.bipush 8, 2) := by decide +kernel
theorem dX4_init_30 : decode cX4_init 30 = .ok (.newarray .int, 2) := by decide +kernel
theorem dX4_init_32 : decode cX4_init 32 = .ok (.putfield 21, 3) := by decide +kernel
theorem dX4_init_35 : decode cX4_init 35 = .ok (.aload_n 0, 1) := by decide +kernel
theorem dX4_init_36 : decode cX4_init 36 = .ok (.bipush 8, 2) := by decide +kernel
theorem dX4_init_38 : decode cX4_init 38 = .ok (.newarray .int, 2) := by decide +kernel
theorem dX4_init_40 : decode cX4_init 40 = .ok (.putfield 24, 3) := by decide +kernel
theorem dX4_init_43 : decode cX4_init 43 = .ok (.aload_n 0, 1) := by decide +kernel
theorem dX4_init_44 : decode cX4_init 44 = .ok (.iconst 0, 1) := by decide +kernel
theorem dX4_init_45 : decode cX4_init 45 = .ok (.putfield 27, 3) := by decide +kernel
theorem dX4_init_48 : decode cX4_init 48 = .ok (.aload_n 0, 1) := by decide +kernel
theorem dX4_init_49 : decode cX4_init 49 = .ok (.bipush 8, 2) := by decide +kernel
theorem dX4_init_51 : decode cX4_init 51 = .ok (.newarray .int, 2) := by decide +kernel
theorem dX4_init_53 : decode cX4_init 53 = .ok (.putfield 31, 3) := by decide +kernel
theorem dX4_init_56 : decode cX4_init 56 = .ok (.aload_n 0, 1) := by decide +kernel
theorem dX4_init_57 : decode cX4_init 57 = .ok (.bipush 8, 2) := by decide +kernel
theorem dX4_init_59 : decode cX4_init 59 = .ok (.newarray .int, 2) := by decide +kernel
theorem dX4_init_61 : decode cX4_init 61 = .ok (.putfield 34, 3) := by decide +kernel
theorem dX4_init_64 : decode cX4_init 64 = .ok (.aload_n 0, 1) := by decide +kernel
theorem dX4_init_65 : decode cX4_init 65 = .ok (.bipush 8, 2) := by decide +kernel
theorem dX4_init_67 : decode cX4_init 67 = .ok (.newarray .int, 2) := by decide +kernel
theorem dX4_init_69 : decode cX4_init 69 = .ok (.putfield 37, 3) := by decide +kernel
theorem dX4_init_72 : decode cX4_init 72 = .ok (.aload_n 0, 1) := by decide +kernel
theorem dX4_init_73 : decode cX4_init 73 = .ok (.iconst 0, 1) := by decide +kernel
theorem dX4_init_74 : decode cX4_init 74 = .ok (.putfield 40, 3) := by decide +kernel
theorem dX4_init_77 : decode cX4_init 77 = .ok (.aload_n 0, 1) := by decide +kernel
theorem dX4_init_78 : decode cX4_init 78 = .ok (.iconst 0, 1) := by decide +kernel
theorem dX4_init_79 : decode cX4_init 79 = .ok (.putfield 43, 3) := by decide +kernel
theorem dX4_init_82 : decode cX4_init 82 = .ok (.return_, 1) := by decide +kernel
theorem dX4_start_0 : decode cX4_start 0 = .ok (.aload_n 1, 1) := by decide +kernel
theorem dX4_start_1 : decode cX4_start 1 = .ok (.iconst 0, 1) := by decide +kernel
theorem dX4_start_2 : decode cX4_start 2 = .ok (.aload_n 0, 1) := by decide +kernel
theorem dX4_start_3 : decode cX4_start 3 = .ok (.getfield 9, 3) := by decide +kernel
theorem dX4_start_6 : decode cX4_start 6 = .ok (.iconst 0, 1) := by decide +kernel
theorem dX4_start_7 : decode cX4_start 7 = .ok (.iconst 4, 1) := by decide +kernel
theorem dX4_start_8 : decode cX4_start 8 = .ok (.invokestatic 46, 3) := by decide +kernel
theorem dX4_start_11 : decode cX4_start 11 = .ok (.aload_n 0, 1) := by decide +kernel
theorem dX4_start_12 : decode cX4_start 12 = .ok (.iconst 0, 1) := by decide +kernel
theorem dX4_start_13 : decode cX4_start 13 = .ok (.putfield 27, 3) := by decide +kernel
theorem dX4_start_16 : decode cX4_start 16 = .ok (.aload_n 0, 1) := by decide +kernel
theorem dX4_start_17 : decode cX4_start 17 = .ok (.iconst 0, 1) := by decide +kernel
theorem dX4_start_18 : decode cX4_start 18 = .ok (.putfield 40, 3) := by decide +kernel
theorem dX4_start_21 : decode cX4_start 21 = .ok (.aload_n 0, 1) := by decide +kernel
theorem dX4_start_22 : decode cX4_start 22 = .ok (.iconst 0, 1) := by decide +kernel
theorem dX4_start_23 : decode cX4_start 23 = .ok (.putfield 43, 3) := by decide +kernel
theorem dX4_start_26 : decode cX4_start 26 = .ok (.return_, 1) := by decide +kernel
theorem dX4_copyFrom_0 : decode cX4_copyFrom 0 = .ok (.aload_n 1, 1) := by decide +kernel
theorem dX4_copyFrom_1 : decode cX4_copyFrom 1 = .ok (.getfield 9, 3) := by decide +kernel
theorem dX4_copyFrom_4 : decode cX4_copyFrom 4 = .ok (.iconst 0, 1) := by decide +kernel
theorem dX4_copyFrom_5 : decode cX4_copyFrom 5 = .ok (.aload_n 0, 1) := by decide +kernel
theorem dX4_copyFrom_6 : decode cX4_copyFrom 6 = .ok (.getfield 9, 3) := by decide +kernel
theorem dX4_copyFrom_9 : decode cX4_copyFrom 9 = .ok (.iconst 0, 1) := by decide +kernel
theorem dX4_copyFrom_10 : decode cX4_copyFrom 10 = .ok (.iconst 4, 1) := by decide +kernel
theorem dX4_copyFrom_11 : decode cX4_copyFrom 11 = .ok (.invokestatic 46, 3) := by decide +kernel
theorem dX4_copyFrom_14 : decode cX4_copyFrom 14 = .ok (.aload_n 1, 1) := by decide +kernel
theorem dX4_copyFrom_15 : decode cX4_copyFrom 15 = .ok (.getfield 15, 3) := by decide +kernel
theorem dX4_copyFrom_18 : decode cX4_copyFrom 18 = .ok (.iconst 0, 1) := by decide +kernel
theorem dX4_copyFrom_19 : decode cX4_copyFrom 19 = .ok (.aload_n 0, 1) := by decide +kernel
theorem dX4_copyFrom_20 : decode cX4_copyFrom 20 = .ok (.getfield 15, 3) := by decide +kernel
theorem dX4_copyFrom_23 : decode cX4_copyFrom 23 = .ok (.iconst 0, 1) := by decide +kernel
theorem dX4_copyFrom_24 : decode cX4_copyFrom 24 = .ok (.bipush 8, 2) := by decide +kernel
theorem dX4_copyFrom_26 : decode cX4_copyFrom 26 = .ok (.invokestatic 46, 3) := by decide +kernel
theorem dX4_copyFrom_29 : decode cX4_copyFrom 29 = .ok (.aload_n 1, 1) := by decide +kernel
theorem dX4_copyFrom_30 : decode cX4_copyFrom 30 = .ok (.getfield 18, 3) := by decide +kernel
theorem dX4_copyFrom_33 : decode cX4_copyFrom 33 = .ok (.iconst 0, 1) := by decide +kernel
theorem dX4_copyFrom_34 : decode cX4_copyFrom 34 = .ok (.aload_n 0, 1) := by decide +kernel
theorem dX4_copyFrom_35 : decode cX4_copyFrom 35 = .ok (.getfield 18, 3) := by decide +kernel
theorem dX4_copyFrom_38 : decode cX4_copyFrom 38 = .ok (.iconst 0, 1) := by decide +kernel
theorem dX4_copyFrom_39 : decode cX4_copyFrom 39 = .ok (.bipush 8, 2) := by decide +kernel
theorem dX4_copyFrom_41 : decode cX4_copyFrom 41 = .ok (.invokestatic 46, 3) := by decide +kernel
theorem dX4_copyFrom_44 : decode cX4_copyFrom 44 = .ok (.aload_n 1, 1) := by decide +kernel
theorem dX4_copyFrom_45 : decode cX4_copyFrom 45 = .ok (.getfield 21, 3) := by decide +kernel
theorem dX4_copyFrom_48 : decode cX4_copyFrom 48 = .ok (.iconst 0, 1) := by decide +kernel
theorem dX4_copyFrom_49 : decode cX4_copyFrom 49 = .ok (.aload_n 0, 1) := by decide +kernel
theorem dX4_copyFrom_50 : decode cX4_copyFrom 50 = .ok (.getfield 21, 3) := by decide +kernel
theorem dX4_copyFrom_53 : decode cX4_copyFrom 53 = .ok (.iconst 0, 1) := by decide +kernel
theorem dX4_copyFrom_54 : decode cX4_copyFrom 54 = .ok (.bipush 8, 2) := by decide +kernel
theorem dX4_copyFrom_56 : decode cX4_copyFrom 56 = .ok (.invokestatic 46, 3) := by decide +kernel
theorem dX4_copyFrom_59 : decode cX4_copyFrom 59 = .ok (.aload_n 1, 1) := by decide +kernel
theorem dX4_copyFrom_60 : decode cX4_copyFrom 60 = .ok (.getfield 24, 3) := by decide +kernel
theorem dX4_copyFrom_63 : decode cX4_copyFrom 63 = .ok (.iconst 0, 1) := by decide +kernel
theorem dX4_copyFrom_64 : decode cX4_copyFrom 64 = .ok (.aload_n 0, 1) := by decide +kernel
theorem dX4_copyFrom_65 : decode cX4_copyFrom 65 = .ok (.getfield 24, 3) := by decide +kernel
theorem dX4_copyFrom_68 : decode cX4_copyFrom 68 = .ok (.iconst 0, 1) := by decide +kernel
theorem dX4_copyFrom_69 : decode cX4_copyFrom 69 = .ok (.bipush 8, 2) := by decide +kernel
theorem dX4_copyFrom_71 : decode cX4_copyFrom 71 = .ok (.invokestatic 46, 3) := by decide +kernel
theorem dX4_copyFrom_74 : decode cX4_copyFrom 74 = .ok (.aload_n 1, 1) := by decide +kernel
theorem dX4_copyFrom_75 : decode cX4_copyFrom 75 = .ok (.getfield 31, 3) := by decide +kernel
theorem dX4_copyFrom_78 : decode cX4_copyFrom 78 = .ok (.iconst 0, 1) := by decide +kernel
theorem dX4_copyFrom_79 : decode cX4_copyFrom 79 = .ok (.aload_n 0, 1) := by decide +kernel
theorem dX4_copyFrom_80 : decode cX4_copyFrom 80 = .ok (.getfield 31, 3) := by decide +kernel
theorem dX4_copyFrom_83 : decode cX4_copyFrom 83 = .ok (.iconst 0, 1) := by decide +kernel
theorem dX4_copyFrom_84 : decode cX4_copyFrom 84 = .ok (.bipush 8, 2) := by decide +kernel
theorem dX4_copyFrom_86 : decode cX4_copyFrom 86 = .ok (.invokestatic 46, 3) := by decide +kernel
theorem dX4_copyFrom_89 : decode cX4_copyFrom 89 = .ok (.aload_n 1, 1) := by decide +kernel
theorem dX4_copyFrom_90 : decode cX4_copyFrom 90 = .ok (.getfield 34, 3) := by decide +kernel
theorem dX4_copyFrom_93 : decode cX4_copyFrom 93 = .ok (.iconst 0, 1) := by decide +kernel
theorem dX4_copyFrom_94 : decode cX4_copyFrom 94 = .ok (.aload_n 0, 1) := by decide +kernel
theorem dX4_copyFrom_95 : decode cX4_copyFrom 95 = .ok (.getfield 34, 3) := by decide +kernel
theorem dX4_copyFrom_98 : decode cX4_copyFrom 98 = .ok (.iconst 0, 1) := by decide +kernel
theorem dX4_copyFrom_99 : decode cX4_copyFrom 99 = .ok (.bipush 8, 2) := by decide +kernel
theorem dX4_copyFrom_101 : decode cX4_copyFrom 101 = .ok (.invokestatic 46, 3) := by decide +kernel
theorem dX4_copyFrom_104 : decode cX4_copyFrom 104 = .ok (.aload_n 1, 1) := by decide +kernel
theorem dX4_copyFrom_105 : decode cX4_copyFrom 105 = .ok (.getfield 37, 3) := by decide +kernel
theorem dX4_copyFrom_108 : decode cX4_copyFrom 108 = .ok (.iconst 0, 1) := by decide +kernel
theorem dX4_copyFrom_109 : decode cX4_copyFrom 109 = .ok (.aload_n 0, 1) := by decide +kernel
theorem dX4_copyFrom_110 : decode cX4_copyFrom 110 = .ok (.getfield 37, 3) := by decide +kernel
theorem dX4_copyFrom_113 : decode cX4_copyFrom 113 = .ok (.iconst 0, 1) := by decide +kernel
theorem dX4_copyFrom_114 : decode cX4_copyFrom 114 = .ok (.bipush 8, 2) := by decide +kernel
theorem dX4_copyFrom_116 : decode cX4_copyFrom 116 = .ok (.invokestatic 46, 3) := by decide +kernel
theorem dX4_copyFrom_119 : decode cX4_copyFrom 119 = .ok (.aload_n 0, 1) := by decide +kernel
theorem dX4_copyFrom_120 : decode cX4_copyFrom 120 = .ok (.aload_n 1, 1) := by decide +kernel
theorem dX4_copyFrom_121 : decode cX4_copyFrom 121 = .ok (.getfield 27, 3) := by decide +kernel
theorem dX4_copyFrom_124 : decode cX4_copyFrom 124 = .ok (.putfield 27, 3) := by decide +kernel
theorem dX4_copyFrom_127 : decode cX4_copyFrom 127 = .ok (.aload_n 0, 1) := by decide +kernel
theorem dX4_copyFrom_128 : decode cX4_copyFrom 128 = .ok (.aload_n 1, 1) := by decide +kernel
theorem dX4_copyFrom_129 : decode cX4_copyFrom 129 = .ok (.getfield 40, 3) := by decide +kernel
theorem dX4_copyFrom_132 : decode cX4_copyFrom 132 = .ok (.putfield 40, 3) := by decide +kernel
theorem dX4_copyFrom_135 : decode cX4_copyFrom 135 = .ok (.aload_n 0, 1) := by decide +kernel
theorem dX4_copyFrom_136 : decode cX4_copyFrom 136 = .ok (.aload_n 1, 1) := by decide +kernel
theorem dX4_copyFrom_137 : decode cX4_copyFrom 137 = .ok (.getfield 43, 3) := by decide +kernel
theorem dX4_copyFrom_140 : decode cX4_copyFrom 140 = .ok (.putfield 43, 3) := by decide +kernel
theorem dX4_copyFrom_143 : decode cX4_copyFrom 143 = .ok (.return_, 1) := by decide +kernel
theorem dX4_addSentence_0 : decode cX4_addSentence 0 = .ok (.aload_n 0, 1) := by decide +kernel
theorem dX4_addSentence_1 : decode cX4_addSentence 1 = .ok (.getfield 27, 3) := by decide +kernel
theorem dX4_addSentence_4 : decode cX4_addSentence 4 = .ok (.istore_n 3, 1) := by decide +kernel
theorem dX4_addSentence_5 : decode cX4_addSentence 5 = .ok (.iload_n 3, 1) := by decide +kernel
theorem dX4_addSentence_6 : decode cX4_addSentence 6 = .ok (.bipush 8, 2) := by decide +kernel
theorem dX4_addSentence_8 : decode cX4_addSentence 8 = .ok (.if_icmp .ge 41, 3) := by decide +kernel
theorem dX4_addSentence_11 : decode cX4_addSentence 11 = .ok (.aload_n 0, 1) := by decide +kernel
theorem dX4_addSentence_12 : decode cX4_addSentence 12 = .ok (.getfield 15, 3) := by decide +kernel
theorem dX4_addSentence_15 : decode cX4_addSentence 15 = .ok (.iload_n 3, 1) := by decide +kernel
theorem dX4_addSentence_16 : decode cX4_addSentence 16 = .ok (.iload_n 1, 1) := by decide +kernel
theorem dX4_addSentence_17 : decode cX4_addSentence 17 = .ok (.iastore, 1) := by decide +kernel
theorem dX4_addSentence_18 : decode cX4_addSentence 18 = .ok (.aload_n 0, 1) := by decide +kernel
theorem dX4_addSentence_19 : decode cX4_addSentence 19 = .ok (.getfield 18, 3) := by decide +kernel
theorem dX4_addSentence_22 : decode cX4_addSentence 22 = .ok (.iload_n 3, 1) := by decide +kernel
theorem dX4_addSentence_23 : decode cX4_addSentence 23 = .ok (.iload_n 2, 1) := by decide +kernel
theorem dX4_addSentence_24 : decode cX4_addSentence 24 = .ok (.iastore, 1) := by decide +kernel
theorem dX4_addSentence_25 : decode cX4_addSentence 25 = .ok (.aload_n 0, 1) := by decide +kernel
theorem dX4_addSentence_26 : decode cX4_addSentence 26 = .ok (.getfield 21, 3) := by decide +kernel
theorem dX4_addSentence_29 : decode cX4_addSentence 29 = .ok (.iload_n 3, 1) := by decide +kernel
theorem dX4_addSentence_30 : decode cX4_addSentence 30 = .ok (.iconst (-1), 1) := by decide +kernel
theorem dX4_addSentence_31 : decode cX4_addSentence 31 = .ok (.iastore, 1) := by decide +kernel
theorem dX4_addSentence_32 : decode cX4_addSentence 32 = .ok (.aload_n 0, 1) := by decide +kernel
theorem dX4_addSentence_33 : decode cX4_addSentence 33 = .ok (.getfield 24, 3) := by decide +kernel
theorem dX4_addSentence_36 : decode cX4_addSentence 36 = .ok (.iload_n 3, 1) := by decide +kernel
theorem dX4_addSentence_37 : decode cX4_addSentence 37 = .ok (.iconst (-1), 1) := by decide +kernel
theorem dX4_addSentence_38 : decode cX4_addSentence 38 = .ok (.iastore, 1) := by decide +kernel
theorem dX4_addSentence_39 : decode cX4_addSentence 39 = .ok (.aload_n 0, 1) := by decide +kernel
theorem dX4_addSentence_40 : decode cX4_addSentence 40 = .ok (.dup, 1) := by decide +kernel
theorem dX4_addSentence_41 : decode cX4_addSentence 41 = .ok (.getfield 27, 3) := by decide +kernel
theorem dX4_addSentence_44 : decode cX4_addSentence 44 = .ok (.iconst 1, 1) := by decide +kernel
theorem dX4_addSentence_45 : decode cX4_addSentence 45 = .ok (.iadd, 1) := by decide +kernel
theorem dX4_addSentence_46 : decode cX4_addSentence 46 = .ok (.putfield 27, 3) := by decide +kernel
theorem dX4_addSentence_49 : decode cX4_addSentence 49 = .ok (.iload_n 3, 1) := by decide +kernel
theorem dX4_addSentence_50 : decode cX4_addSentence 50 = .ok (.ireturn, 1) := by decide +kernel
theorem dX4_addHeard_0 : decode cX4_addHeard 0 = .ok (.aload_n 0, 1) := by decide +kernel
theorem dX4_addHeard_1 : decode cX4_addHeard 1 = .ok (.getfield 40, 3) := by decide +kernel
theorem dX4_addHeard_4 : decode cX4_addHeard 4 = .ok (.bipush 8, 2) := by decide +kernel
theorem dX4_addHeard_6 : decode cX4_addHeard 6 = .ok (.if_icmp .ge 43, 3) := by decide +kernel
theorem dX4_addHeard_9 : decode cX4_addHeard 9 = .ok (.aload_n 0, 1) := by decide +kernel
theorem dX4_addHeard_10 : decode cX4_addHeard 10 = .ok (.getfield 31, 3) := by decide +kernel
theorem dX4_addHeard_13 : decode cX4_addHeard 13 = .ok (.aload_n 0, 1) := by decide +kernel
theorem dX4_addHeard_14 : decode cX4_addHeard 14 = .ok (.getfield 40, 3) := by decide +kernel
theorem dX4_addHeard_17 : decode cX4_addHeard 17 = .ok (.iload_n 1, 1) := by decide +kernel
theorem dX4_addHeard_18 : decode cX4_addHeard 18 = .ok (.iastore, 1) := by decide +kernel
theorem dX4_addHeard_19 : decode cX4_addHeard 19 = .ok (.aload_n 0, 1) := by decide +kernel
theorem dX4_addHeard_20 : decode cX4_addHeard 20 = .ok (.getfield 34, 3) := by decide +kernel
theorem dX4_addHeard_23 : decode cX4_addHeard 23 = .ok (.aload_n 0, 1) := by decide +kernel
theorem dX4_addHeard_24 : decode cX4_addHeard 24 = .ok (.getfield 40, 3) := by decide +kernel
theorem dX4_addHeard_27 : decode cX4_addHeard 27 = .ok (.iload_n 2, 1) := by decide +kernel
theorem dX4_addHeard_28 : decode cX4_addHeard 28 = .ok (.iastore, 1) := by decide +kernel
theorem dX4_addHeard_29 : decode cX4_addHeard 29 = .ok (.aload_n 0, 1) := by decide +kernel
theorem dX4_addHeard_30 : decode cX4_addHeard 30 = .ok (.getfield 37, 3) := by decide +kernel
theorem dX4_addHeard_33 : decode cX4_addHeard 33 = .ok (.aload_n 0, 1) := by decide +kernel
theorem dX4_addHeard_34 : decode cX4_addHeard 34 = .ok (.getfield 40, 3) := by decide +kernel
theorem dX4_addHeard_37 : decode cX4_addHeard 37 = .ok (.iload_n 3, 1) := by decide +kernel
theorem dX4_addHeard_38 : decode cX4_addHeard 38 = .ok (.iastore, 1) := by decide +kernel
theorem dX4_addHeard_39 : decode cX4_addHeard 39 = .ok (.aload_n 0, 1) := by decide +kernel
theorem dX4_addHeard_40 : decode cX4_addHeard 40 = .ok (.dup, 1) := by decide +kernel
theorem dX4_addHeard_41 : decode cX4_addHeard 41 = .ok (.getfield 40, 3) := by decide +kernel
theorem dX4_addHeard_44 : decode cX4_addHeard 44 = .ok (.iconst 1, 1) := by decide +kernel
theorem dX4_addHeard_45 : decode cX4_addHeard 45 = .ok (.iadd, 1) := by decide +kernel
theorem dX4_addHeard_46 : decode cX4_addHeard 46 = .ok (.putfield 40, 3) := by decide +kernel
theorem dX4_addHeard_49 : decode cX4_addHeard 49 = .ok (.return_, 1) := by decide +kernel
theorem dX4_isOpen_0 : decode cX4_isOpen 0 = .ok (.aload_n 0, 1) := by decide +kernel
theorem dX4_isOpen_1 : decode cX4_isOpen 1 = .ok (.getfield 21, 3) := by decide +kernel
theorem dX4_isOpen_4 : decode cX4_isOpen 4 = .ok (.iload_n 1, 1) := by decide +kernel
theorem dX4_isOpen_5 : decode cX4_isOpen 5 = .ok (.iaload, 1) := by decide +kernel
theorem dX4_isOpen_6 : decode cX4_isOpen 6 = .ok (.iconst (-1), 1) := by decide +kernel
theorem dX4_isOpen_7 : decode cX4_isOpen 7 = .ok (.if_icmp .ne 7, 3) := by decide +kernel
theorem dX4_isOpen_10 : decode cX4_isOpen 10 = .ok (.iconst 1, 1) := by decide +kernel
theorem dX4_isOpen_11 : decode cX4_isOpen 11 = .ok (.goto 4, 3) := by decide +kernel
theorem dX4_isOpen_14 : decode cX4_isOpen 14 = .ok (.iconst 0, 1) := by decide +kernel
theorem dX4_isOpen_15 : decode cX4_isOpen 15 = .ok (.ireturn, 1) := by decide +kernel
theorem dX4_isAsWanted_0 : decode cX4_isAsWanted 0 = .ok (.aload_n 0, 1) := by decide +kernel
theorem dX4_isAsWanted_1 : decode cX4_isAsWanted 1 = .ok (.iload_n 1, 1) := by decide +kernel
theorem dX4_isAsWanted_2 : decode cX4_isAsWanted 2 = .ok (.invokevirtual 52, 3) := by decide +kernel
theorem dX4_isAsWanted_5 : decode cX4_isAsWanted 5 = .ok (.ifCond .ne 27, 3) := by decide +kernel
theorem dX4_isAsWanted_8 : decode cX4_isAsWanted 8 = .ok (.aload_n 0, 1) := by decide +kernel
theorem dX4_isAsWanted_9 : decode cX4_isAsWanted 9 = .ok (.getfield 24, 3) := by decide +kernel
theorem dX4_isAsWanted_12 : decode cX4_isAsWanted 12 = .ok (.iload_n 1, 1) := by decide +kernel
theorem dX4_isAsWanted_13 : decode cX4_isAsWanted 13 = .ok (.iaload, 1) := by decide +kernel
theorem dX4_isAsWanted_14 : decode cX4_isAsWanted 14 = .ok (.aload_n 0, 1) := by decide +kernel
theorem dX4_isAsWanted_15 : decode cX4_isAsWanted 15 = .ok (.getfield 9, 3) := by decide +kernel
theorem dX4_isAsWanted_18 : decode cX4_isAsWanted 18 = .ok (.aload_n 0, 1) := by decide +kernel
theorem dX4_isAsWanted_19 : decode cX4_isAsWanted 19 = .ok (.getfield 15, 3) := by decide +kernel
theorem dX4_isAsWanted_22 : decode cX4_isAsWanted 22 = .ok (.iload_n 1, 1) := by decide +kernel
theorem dX4_isAsWanted_23 : decode cX4_isAsWanted 23 = .ok (.iaload, 1) := by decide +kernel
theorem dX4_isAsWanted_24 : decode cX4_isAsWanted 24 = .ok (.iaload, 1) := by decide +kernel
theorem dX4_isAsWanted_25 : decode cX4_isAsWanted 25 = .ok (.if_icmp .ne 7, 3) := by decide +kernel
theorem dX4_isAsWanted_28 : decode cX4_isAsWanted 28 = .ok (.iconst 1, 1) := by decide +kernel
theorem dX4_isAsWanted_29 : decode cX4_isAsWanted 29 = .ok (.goto 4, 3) := by decide +kernel
theorem dX4_isAsWanted_32 : decode cX4_isAsWanted 32 = .ok (.iconst 0, 1) := by decide +kernel
theorem dX4_isAsWanted_33 : decode cX4_isAsWanted 33 = .ok (.ireturn, 1) := by decide +kernel
theorem dX4_openOf_0 : decode cX4_openOf 0 = .ok (.iconst 0, 1) := by decide +kernel
theorem dX4_openOf_1 : decode cX4_openOf 1 = .ok (.istore_n 2, 1) := by decide +kernel
theorem dX4_openOf_2 : decode cX4_openOf 2 = .ok (.iload_n 2, 1) := by decide +kernel
theorem dX4_openOf_3 : decode cX4_openOf 3 = .ok (.aload_n 0, 1) := by decide +kernel
theorem dX4_openOf_4 : decode cX4_openOf 4 = .ok (.getfield 27, 3) := by decide +kernel
theorem dX4_openOf_7 : decode cX4_openOf 7 = .ok (.if_icmp .ge 29, 3) := by decide +kernel
theorem dX4_openOf_10 : decode cX4_openOf 10 = .ok (.aload_n 0, 1) := by decide +kernel
theorem dX4_openOf_11 : decode cX4_openOf 11 = .ok (.getfield 15, 3) := by decide +kernel
theorem dX4_openOf_14 : decode cX4_openOf 14 = .ok (.iload_n 2, 1) := by decide +kernel
theorem dX4_openOf_15 : decode cX4_openOf 15 = .ok (.iaload, 1) := by decide +kernel
theorem dX4_openOf_16 : decode cX4_openOf 16 = .ok (.iload_n 1, 1) := by decide +kernel
theorem dX4_openOf_17 : decode cX4_openOf 17 = .ok (.if_icmp .ne 13, 3) := by decide +kernel
theorem dX4_openOf_20 : decode cX4_openOf 20 = .ok (.aload_n 0, 1) := by decide +kernel
theorem dX4_openOf_21 : decode cX4_openOf 21 = .ok (.iload_n 2, 1) := by decide +kernel
theorem dX4_openOf_22 : decode cX4_openOf 22 = .ok (.invokevirtual 52, 3) := by decide +kernel
theorem dX4_openOf_25 : decode cX4_openOf 25 = .ok (.ifCond .eq 5, 3) := by decide +kernel
theorem dX4_openOf_28 : decode cX4_openOf 28 = .ok (.iload_n 2, 1) := by decide +kernel
theorem dX4_openOf_29 : decode cX4_openOf 29 = .ok (.ireturn, 1) := by decide +kernel
theorem dX4_openOf_30 : decode cX4_openOf 30 = .ok (.iinc 2 1, 3) := by decide +kernel
theorem dX4_openOf_33 : decode cX4_openOf 33 = .ok (.goto (-31), 3) := by decide +kernel
theorem dX4_openOf_36 : decode cX4_openOf 36 = .ok (.iconst (-1), 1) := by decide +kernel
theorem dX4_openOf_37 : decode cX4_openOf 37 = .ok (.ireturn, 1) := by decide +kernel
theorem dX4_usedBy_0 : decode cX4_usedBy 0 = .ok (.iconst 0, 1) := by decide +kernel
theorem dX4_usedBy_1 : decode cX4_usedBy 1 = .ok (.istore_n 2, 1) := by decide +kernel
theorem dX4_usedBy_2 : decode cX4_usedBy 2 = .ok (.iconst 0, 1) := by decide +kernel
theorem dX4_usedBy_3 : decode cX4_usedBy 3 = .ok (.istore_n 3, 1) := by decide +kernel
theorem dX4_usedBy_4 : decode cX4_usedBy 4 = .ok (.iload_n 3, 1) := by decide +kernel
theorem dX4_usedBy_5 : decode cX4_usedBy 5 = .ok (.aload_n 0, 1) := by decide +kernel
theorem dX4_usedBy_6 : decode cX4_usedBy 6 = .ok (.getfield 27, 3) := by decide +kernel
theorem dX4_usedBy_9 : decode cX4_usedBy 9 = .ok (.if_icmp .ge 30, 3) := by decide +kernel
theorem dX4_usedBy_12 : decode cX4_usedBy 12 = .ok (.aload_n 0, 1) := by decide +kernel
theorem dX4_usedBy_13 : decode cX4_usedBy 13 = .ok (.getfield 21, 3) := by decide +kernel
theorem dX4_usedBy_16 : decode cX4_usedBy 16 = .ok (.iload_n 3, 1) := by decide +kernel
theorem dX4_usedBy_17 : decode cX4_usedBy 17 = .ok (.iaload, 1) := by decide +kernel
theorem dX4_usedBy_18 : decode cX4_usedBy 18 = .ok (.iload_n 1, 1) := by decide +kernel
theorem dX4_usedBy_19 : decode cX4_usedBy 19 = .ok (.if_icmp .ne 14, 3) := by decide +kernel
theorem dX4_usedBy_22 : decode cX4_usedBy 22 = .ok (.iload_n 2, 1) := by decide +kernel
theorem dX4_usedBy_23 : decode cX4_usedBy 23 = .ok (.iconst 1, 1) := by decide +kernel
theorem dX4_usedBy_24 : decode cX4_usedBy 24 = .ok (.aload_n 0, 1) := by decide +kernel
theorem dX4_usedBy_25 : decode cX4_usedBy 25 = .ok (.getfield 24, 3) := by decide +kernel
theorem dX4_usedBy_28 : decode cX4_usedBy 28 = .ok (.iload_n 3, 1) := by decide +kernel
theorem dX4_usedBy_29 : decode cX4_usedBy 29 = .ok (.iaload, 1) := by decide +kernel
theorem dX4_usedBy_30 : decode cX4_usedBy 30 = .ok (.ishl, 1) := by decide +kernel
theorem dX4_usedBy_31 : decode cX4_usedBy 31 = .ok (.ior, 1) := by decide +kernel
theorem dX4_usedBy_32 : decode cX4_usedBy 32 = .ok (.istore_n 2, 1) := by decide +kernel
theorem dX4_usedBy_33 : decode cX4_usedBy 33 = .ok (.iinc 3 1, 3) := by decide +kernel
theorem dX4_usedBy_36 : decode cX4_usedBy 36 = .ok (.goto (-32), 3) := by decide +kernel
theorem dX4_usedBy_39 : decode cX4_usedBy 39 = .ok (.iload_n 2, 1) := by decide +kernel
theorem dX4_usedBy_40 : decode cX4_usedBy 40 = .ok (.ireturn, 1) := by decide +kernel
theorem dX4_howManyBegunBy_0 : decode cX4_howManyBegunBy 0 = .ok (.iconst 0, 1) := by decide +kernel
theorem dX4_howManyBegunBy_1 : decode cX4_howManyBegunBy 1 = .ok (.istore_n 2, 1) := by decide +kernel
theorem dX4_howManyBegunBy_2 : decode cX4_howManyBegunBy 2 = .ok (.iconst 0, 1) := by decide +kernel
theorem dX4_howManyBegunBy_3 : decode cX4_howManyBegunBy 3 = .ok (.istore_n 3, 1) := by decide +kernel
theorem dX4_howManyBegunBy_4 : decode cX4_howManyBegunBy 4 = .ok (.iload_n 3, 1) := by decide +kernel
theorem dX4_howManyBegunBy_5 : decode cX4_howManyBegunBy 5 = .ok (.aload_n 0, 1) := by decide +kernel
theorem dX4_howManyBegunBy_6 : decode cX4_howManyBegunBy 6 = .ok (.getfield 27, 3) := by decide +kernel
theorem dX4_howManyBegunBy_9 : decode cX4_howManyBegunBy 9 = .ok (.if_icmp .ge 27, 3) := by decide +kernel
theorem dX4_howManyBegunBy_12 : decode cX4_howManyBegunBy 12 = .ok (.iload_n 2, 1) := by decide +kernel
theorem dX4_howManyBegunBy_13 : decode cX4_howManyBegunBy 13 = .ok (.aload_n 0, 1) := by decide +kernel
theorem dX4_howManyBegunBy_14 : decode cX4_howManyBegunBy 14 = .ok (.getfield 15, 3) := by decide +kernel
theorem dX4_howManyBegunBy_17 : decode cX4_howManyBegunBy 17 = .ok (.iload_n 3, 1) := by decide +kernel
theorem dX4_howManyBegunBy_18 : decode cX4_howManyBegunBy 18 = .ok (.iaload, 1) := by decide +kernel
theorem dX4_howManyBegunBy_19 : decode cX4_howManyBegunBy 19 = .ok (.iload_n 1, 1) := by decide +kernel
theorem dX4_howManyBegunBy_20 : decode cX4_howManyBegunBy 20 = .ok (.if_icmp .ne 7, 3) := by decide +kernel
theorem dX4_howManyBegunBy_23 : decode cX4_howManyBegunBy 23 = .ok (.iconst 1, 1) := by decide +kernel
theorem dX4_howManyBegunBy_24 : decode cX4_howManyBegunBy 24 = .ok (.goto 4, 3) := by decide +kernel
theorem dX4_howManyBegunBy_27 : decode cX4_howManyBegunBy 27 = .ok (.iconst 0, 1) := by decide +kernel
theorem dX4_howManyBegunBy_28 : decode cX4_howManyBegunBy 28 = .ok (.iadd, 1) := by decide +kernel
theorem dX4_howManyBegunBy_29 : decode cX4_howManyBegunBy 29 = .ok (.istore_n 2, 1) := by decide +kernel
theorem dX4_howManyBegunBy_30 : decode cX4_howManyBegunBy 30 = .ok (.iinc 3 1, 3) := by decide +kernel
theorem dX4_howManyBegunBy_33 : decode cX4_howManyBegunBy 33 = .ok (.goto (-29), 3) := by decide +kernel
theorem dX4_howManyBegunBy_36 : decode cX4_howManyBegunBy 36 = .ok (.iload_n 2, 1) := by decide +kernel
theorem dX4_howManyBegunBy_37 : decode cX4_howManyBegunBy 37 = .ok (.ireturn, 1) := by decide +kernel
theorem dX4_howManyEndedBy_0 : decode cX4_howManyEndedBy 0 = .ok (.iconst 0, 1) := by decide +kernel
theorem dX4_howManyEndedBy_1 : decode cX4_howManyEndedBy 1 = .ok (.istore_n 2, 1) := by decide +kernel
theorem dX4_howManyEndedBy_2 : decode cX4_howManyEndedBy 2 = .ok (.iconst 0, 1) := by decide +kernel
theorem dX4_howManyEndedBy_3 : decode cX4_howManyEndedBy 3 = .ok (.istore_n 3, 1) := by decide +kernel
theorem dX4_howManyEndedBy_4 : decode cX4_howManyEndedBy 4 = .ok (.iload_n 3, 1) := by decide +kernel
theorem dX4_howManyEndedBy_5 : decode cX4_howManyEndedBy 5 = .ok (.aload_n 0, 1) := by decide +kernel
theorem dX4_howManyEndedBy_6 : decode cX4_howManyEndedBy 6 = .ok (.getfield 27, 3) := by decide +kernel
theorem dX4_howManyEndedBy_9 : decode cX4_howManyEndedBy 9 = .ok (.if_icmp .ge 27, 3) := by decide +kernel
theorem dX4_howManyEndedBy_12 : decode cX4_howManyEndedBy 12 = .ok (.iload_n 2, 1) := by decide +kernel
theorem dX4_howManyEndedBy_13 : decode cX4_howManyEndedBy 13 = .ok (.aload_n 0, 1) := by decide +kernel
theorem dX4_howManyEndedBy_14 : decode cX4_howManyEndedBy 14 = .ok (.getfield 21, 3) := by decide +kernel
theorem dX4_howManyEndedBy_17 : decode cX4_howManyEndedBy 17 = .ok (.iload_n 3, 1) := by decide +kernel
theorem dX4_howManyEndedBy_18 : decode cX4_howManyEndedBy 18 = .ok (.iaload, 1) := by decide +kernel
theorem dX4_howManyEndedBy_19 : decode cX4_howManyEndedBy 19 = .ok (.iload_n 1, 1) := by decide +kernel
theorem dX4_howManyEndedBy_20 : decode cX4_howManyEndedBy 20 = .ok (.if_icmp .ne 7, 3) := by decide +kernel
theorem dX4_howManyEndedBy_23 : decode cX4_howManyEndedBy 23 = .ok (.iconst 1, 1) := by decide +kernel
theorem dX4_howManyEndedBy_24 : decode cX4_howManyEndedBy 24 = .ok (.goto 4, 3) := by decide +kernel
theorem dX4_howManyEndedBy_27 : decode cX4_howManyEndedBy 27 = .ok (.iconst 0, 1) := by decide +kernel
theorem dX4_howManyEndedBy_28 : decode cX4_howManyEndedBy 28 = .ok (.iadd, 1) := by decide +kernel
theorem dX4_howManyEndedBy_29 : decode cX4_howManyEndedBy 29 = .ok (.istore_n 2, 1) := by decide +kernel
theorem dX4_howManyEndedBy_30 : decode cX4_howManyEndedBy 30 = .ok (.iinc 3 1, 3) := by decide +kernel
theorem dX4_howManyEndedBy_33 : decode cX4_howManyEndedBy 33 = .ok (.goto (-29), 3) := by decide +kernel
theorem dX4_howManyEndedBy_36 : decode cX4_howManyEndedBy 36 = .ok (.iload_n 2, 1) := by decide +kernel
theorem dX4_howManyEndedBy_37 : decode cX4_howManyEndedBy 37 = .ok (.ireturn, 1) := by decide +kernel
theorem dX4_howManyOpen_0 : decode cX4_howManyOpen 0 = .ok (.aload_n 0, 1) := by decide +kernel
theorem dX4_howManyOpen_1 : decode cX4_howManyOpen 1 = .ok (.iconst (-1), 1) := by decide +kernel
theorem dX4_howManyOpen_2 : decode cX4_howManyOpen 2 = .ok (.invokevirtual 56, 3) := by decide +kernel
theorem dX4_howManyOpen_5 : decode cX4_howManyOpen 5 = .ok (.ireturn, 1) := by decide +kernel
theorem dX4_howManyAsWanted_0 : decode cX4_howManyAsWanted 0 = .ok (.iconst 0, 1) := by decide +kernel
theorem dX4_howManyAsWanted_1 : decode cX4_howManyAsWanted 1 = .ok (.istore_n 1, 1) := by decide +kernel
theorem dX4_howManyAsWanted_2 : decode cX4_howManyAsWanted 2 = .ok (.iconst 0, 1) := by decide +kernel
theorem dX4_howManyAsWanted_3 : decode cX4_howManyAsWanted 3 = .ok (.istore_n 2, 1) := by decide +kernel
theorem dX4_howManyAsWanted_4 : decode cX4_howManyAsWanted 4 = .ok (.iload_n 2, 1) := by decide +kernel
theorem dX4_howManyAsWanted_5 : decode cX4_howManyAsWanted 5 = .ok (.aload_n 0, 1) := by decide +kernel
theorem dX4_howManyAsWanted_6 : decode cX4_howManyAsWanted 6 = .ok (.getfield 27, 3) := by decide +kernel
theorem dX4_howManyAsWanted_9 : decode cX4_howManyAsWanted 9 = .ok (.if_icmp .ge 25, 3) := by decide +kernel
theorem dX4_howManyAsWanted_12 : decode cX4_howManyAsWanted 12 = .ok (.iload_n 1, 1) := by decide +kernel
theorem dX4_howManyAsWanted_13 : decode cX4_howManyAsWanted 13 = .ok (.aload_n 0, 1) := by decide +kernel
theorem dX4_howManyAsWanted_14 : decode cX4_howManyAsWanted 14 = .ok (.iload_n 2, 1) := by decide +kernel
theorem dX4_howManyAsWanted_15 : decode cX4_howManyAsWanted 15 = .ok (.invokevirtual 60, 3) := by decide +kernel
theorem dX4_howManyAsWanted_18 : decode cX4_howManyAsWanted 18 = .ok (.ifCond .eq 7, 3) := by decide +kernel
theorem dX4_howManyAsWanted_21 : decode cX4_howManyAsWanted 21 = .ok (.iconst 1, 1) := by decide +kernel
theorem dX4_howManyAsWanted_22 : decode cX4_howManyAsWanted 22 = .ok (.goto 4, 3) := by decide +kernel
theorem dX4_howManyAsWanted_25 : decode cX4_howManyAsWanted 25 = .ok (.iconst 0, 1) := by decide +kernel
theorem dX4_howManyAsWanted_26 : decode cX4_howManyAsWanted 26 = .ok (.iadd, 1) := by decide +kernel
theorem dX4_howManyAsWanted_27 : decode cX4_howManyAsWanted 27 = .ok (.istore_n 1, 1) := by decide +kernel
theorem dX4_howManyAsWanted_28 : decode cX4_howManyAsWanted 28 = .ok (.iinc 2 1, 3) := by decide +kernel
theorem dX4_howManyAsWanted_31 : decode cX4_howManyAsWanted 31 = .ok (.goto (-27), 3) := by decide +kernel
theorem dX4_howManyAsWanted_34 : decode cX4_howManyAsWanted 34 = .ok (.iload_n 1, 1) := by decide +kernel
theorem dX4_howManyAsWanted_35 : decode cX4_howManyAsWanted 35 = .ok (.ireturn, 1) := by decide +kernel
theorem dX4_howManyUnlikeEndings_0 : decode cX4_howManyUnlikeEndings 0 = .ok (.iconst 0, 1) := by decide +kernel
theorem dX4_howManyUnlikeEndings_1 : decode cX4_howManyUnlikeEndings 1 = .ok (.istore_n 1, 1) := by decide +kernel
theorem dX4_howManyUnlikeEndings_2 : decode cX4_howManyUnlikeEndings 2 = .ok (.iconst 0, 1) := by decide +kernel
theorem dX4_howManyUnlikeEndings_3 : decode cX4_howManyUnlikeEndings 3 = .ok (.istore_n 2, 1) := by decide +kernel
theorem dX4_howManyUnlikeEndings_4 : decode cX4_howManyUnlikeEndings 4 = .ok (.iload_n 2, 1) := by decide +kernel
theorem dX4_howManyUnlikeEndings_5 : decode cX4_howManyUnlikeEndings 5 = .ok (.iconst 4, 1) := by decide +kernel
theorem dX4_howManyUnlikeEndings_6 : decode cX4_howManyUnlikeEndings 6 = .ok (.if_icmp .ge 17, 3) := by decide +kernel
theorem dX4_howManyUnlikeEndings_9 : decode cX4_howManyUnlikeEndings 9 = .ok (.iload_n 1, 1) := by decide +kernel
theorem dX4_howManyUnlikeEndings_10 : decode cX4_howManyUnlikeEndings 10 = .ok (.aload_n 0, 1) := by decide +kernel
theorem dX4_howManyUnlikeEndings_11 : decode cX4_howManyUnlikeEndings 11 = .ok (.iload_n 2, 1) := by decide +kernel
theorem dX4_howManyUnlikeEndings_12 : decode cX4_howManyUnlikeEndings 12 = .ok (.invokevirtual 63, 3) := by decide +kernel
theorem dX4_howManyUnlikeEndings_15 : decode cX4_howManyUnlikeEndings 15 = .ok (.ior, 1) := by decide +kernel
theorem dX4_howManyUnlikeEndings_16 : decode cX4_howManyUnlikeEndings 16 = .ok (.istore_n 1, 1) := by decide +kernel
theorem dX4_howManyUnlikeEndings_17 : decode cX4_howManyUnlikeEndings 17 = .ok (.iinc 2 1, 3) := by decide +kernel
theorem dX4_howManyUnlikeEndings_20 : decode cX4_howManyUnlikeEndings 20 = .ok (.goto (-16), 3) := by decide +kernel
theorem dX4_howManyUnlikeEndings_23 : decode cX4_howManyUnlikeEndings 23 = .ok (.iload_n 1, 1) := by decide +kernel
theorem dX4_howManyUnlikeEndings_24 : decode cX4_howManyUnlikeEndings 24 = .ok (.invokestatic 66, 3) := by decide +kernel
theorem dX4_howManyUnlikeEndings_27 : decode cX4_howManyUnlikeEndings 27 = .ok (.ireturn, 1) := by decide +kernel
theorem dX5_init_0 : decode cX5_init 0 = .ok (.aload_n 0, 1) := by decide +kernel
theorem dX5_init_1 : decode cX5_init 1 = .ok (.invokespecial 3, 3) := by decide +kernel
theorem dX5_init_4 : decode cX5_init 4 = .ok (.aload_n 0, 1) := by decide +kernel
theorem dX5_init_5 : decode cX5_init 5 = .ok (.iconst 4, 1) := by decide +kernel
theorem dX5_init_6 : decode cX5_init 6 = .ok (.newarray .int, 2) := by decide +kernel
theorem dX5_init_8 : decode cX5_init 8 = .ok (.putfield 9, 3) := by decide +kernel
theorem dX5_init_11 : decode cX5_init 11 = .ok (.aload_n 0, 1) := by decide +kernel
theorem dX5_init_12 : decode cX5_init 12 = .ok (.lconst 0, 1) := by decide +kernel
theorem dX5_init_13 : decode cX5_init 13 = .ok (.putfield 15, 3) := by decide +kernel
theorem dX5_init_16 : decode cX5_init 16 = .ok (.aload_n 0, 1) := by decide +kernel
theorem dX5_init_17 : decode cX5_init 17 = .ok (.iconst 0, 1) := by decide +kernel
theorem dX5_init_18 : decode cX5_init 18 = .ok (.putfield 19, 3) := by decide +kernel
theorem dX5_init_21 : decode cX5_init 21 = .ok (.aload_n 0, 1) := by decide +kernel
theorem dX5_init_22 : decode cX5_init 22 = .ok (.iconst 0, 1) := by decide +kernel
theorem dX5_init_23 : decode cX5_init 23 = .ok (.putfield 23, 3) := by decide +kernel
theorem dX5_init_26 : decode cX5_init 26 = .ok (.return_, 1) := by decide +kernel
theorem dX5_run_0 : decode cX5_run 0 = .ok (.aload_n 0, 1) := by decide +kernel
theorem dX5_run_1 : decode cX5_run 1 = .ok (.iload 4, 2) := by decide +kernel
theorem dX5_run_3 : decode cX5_run 3 = .ok (.i2l, 1) := by decide +kernel
theorem dX5_run_4 : decode cX5_run 4 = .ok (.putfield 15, 3) := by decide +kernel
theorem dX5_run_7 : decode cX5_run 7 = .ok (.aload_n 0, 1) := by decide +kernel
theorem dX5_run_8 : decode cX5_run 8 = .ok (.iconst 0, 1) := by decide +kernel
theorem dX5_run_9 : decode cX5_run 9 = .ok (.putfield 19, 3) := by decide +kernel
theorem dX5_run_12 : decode cX5_run 12 = .ok (.aload_n 0, 1) := by decide +kernel
theorem dX5_run_13 : decode cX5_run 13 = .ok (.iconst 0, 1) := by decide +kernel
theorem dX5_run_14 : decode cX5_run 14 = .ok (.putfield 23, 3) := by decide +kernel
theorem dX5_run_17 : decode cX5_run 17 = .ok (.iconst 0, 1) := by decide +kernel
theorem dX5_run_18 : decode cX5_run 18 = .ok (.istore 5, 2) := by decide +kernel
theorem dX5_run_20 : decode cX5_run 20 = .ok (.iload 5, 2) := by decide +kernel
theorem dX5_run_22 : decode cX5_run 22 = .ok (.iconst 4, 1) := by decide +kernel
theorem dX5_run_23 : decode cX5_run 23 = .ok (.if_icmp .ge 22, 3) := by decide +kernel
theorem dX5_run_26 : decode cX5_run 26 = .ok (.aload_n 0, 1) := by decide +kernel
theorem dX5_run_27 : decode cX5_run 27 = .ok (.getfield 9, 3) := by decide +kernel
theorem dX5_run_30 : decode cX5_run 30 = .ok (.iload 5, 2) := by decide +kernel
theorem dX5_run_32 : decode cX5_run 32 = .ok (.aload_n 2, 1) := by decide +kernel
theorem dX5_run_33 : decode cX5_run 33 = .ok (.iload 5, 2) := by decide +kernel
theorem dX5_run_35 : decode cX5_run 35 = .ok (.invokevirtual 26, 3) := by decide +kernel
theorem dX5_run_38 : decode cX5_run 38 = .ok (.iastore, 1) := by decide +kernel
theorem dX5_run_39 : decode cX5_run 39 = .ok (.iinc 5 1, 3) := by decide +kernel
theorem dX5_run_42 : decode cX5_run 42 = .ok (.goto (-22), 3) := by decide +kernel
theorem dX5_run_45 : decode cX5_run 45 = .ok (.iconst 0, 1) := by decide +kernel
theorem dX5_run_46 : decode cX5_run 46 = .ok (.istore 5, 2) := by decide +kernel
theorem dX5_run_48 : decode cX5_run 48 = .ok (.iload 5, 2) := by decide +kernel
theorem dX5_run_50 : decode cX5_run 50 = .ok (.iload_n 3, 1) := by decide +kernel
theorem dX5_run_51 : decode cX5_run 51 = .ok (.if_icmp .ge 15, 3) := by decide +kernel
theorem dX5_run_54 : decode cX5_run 54 = .ok (.aload_n 0, 1) := by decide +kernel
theorem dX5_run_55 : decode cX5_run 55 = .ok (.aload_n 1, 1) := by decide +kernel
theorem dX5_run_56 : decode cX5_run 56 = .ok (.aload_n 2, 1) := by decide +kernel
theorem dX5_run_57 : decode cX5_run 57 = .ok (.invokevirtual 32, 3) := by decide +kernel
theorem dX5_run_60 : decode cX5_run 60 = .ok (.iinc 5 1, 3) := by decide +kernel
theorem dX5_run_63 : decode cX5_run 63 = .ok (.goto (-15), 3) := by decide +kernel
theorem dX5_run_66 : decode cX5_run 66 = .ok (.return_, 1) := by decide +kernel
theorem dX5_talkOnce_0 : decode cX5_talkOnce 0 = .ok (.aload_n 0, 1) := by decide +kernel
theorem dX5_talkOnce_1 : decode cX5_talkOnce 1 = .ok (.aload_n 1, 1) := by decide +kernel
theorem dX5_talkOnce_2 : decode cX5_talkOnce 2 = .ok (.getfield 36, 3) := by decide +kernel
theorem dX5_talkOnce_5 : decode cX5_talkOnce 5 = .ok (.invokevirtual 41, 3) := by decide +kernel
theorem dX5_talkOnce_8 : decode cX5_talkOnce 8 = .ok (.istore_n 3, 1) := by decide +kernel
theorem dX5_talkOnce_9 : decode cX5_talkOnce 9 = .ok (.aload_n 0, 1) := by decide +kernel
theorem dX5_talkOnce_10 : decode cX5_talkOnce 10 = .ok (.iconst 4, 1) := by decide +kernel
theorem dX5_talkOnce_11 : decode cX5_talkOnce 11 = .ok (.invokevirtual 41, 3) := by decide +kernel
theorem dX5_talkOnce_14 : decode cX5_talkOnce 14 = .ok (.istore 4, 2) := by decide +kernel
theorem dX5_talkOnce_16 : decode cX5_talkOnce 16 = .ok (.aload_n 0, 1) := by decide +kernel
theorem dX5_talkOnce_17 : decode cX5_talkOnce 17 = .ok (.aload_n 1, 1) := by decide +kernel
theorem dX5_talkOnce_18 : decode cX5_talkOnce 18 = .ok (.getfield 36, 3) := by decide +kernel
theorem dX5_talkOnce_21 : decode cX5_talkOnce 21 = .ok (.invokevirtual 41, 3) := by decide +kernel
theorem dX5_talkOnce_24 : decode cX5_talkOnce 24 = .ok (.istore 5, 2) := by decide +kernel
theorem dX5_talkOnce_26 : decode cX5_talkOnce 26 = .ok (.iload 5, 2) := by decide +kernel
theorem dX5_talkOnce_28 : decode cX5_talkOnce 28 = .ok (.iload_n 3, 1) := by decide +kernel
theorem dX5_talkOnce_29 : decode cX5_talkOnce 29 = .ok (.if_icmp .ne 4, 3) := by decide +kernel
theorem dX5_talkOnce_32 : decode cX5_talkOnce 32 = .ok (.return_, 1) := by decide +kernel
theorem dX5_talkOnce_33 : decode cX5_talkOnce 33 = .ok (.aload_n 1, 1) := by decide +kernel
theorem dX5_talkOnce_34 : decode cX5_talkOnce 34 = .ok (.getfield 44, 3) := by decide +kernel
theorem dX5_talkOnce_37 : decode cX5_talkOnce 37 = .ok (.iload 5, 2) := by decide +kernel
theorem dX5_talkOnce_39 : decode cX5_talkOnce 39 = .ok (.iaload, 1) := by decide +kernel
theorem dX5_talkOnce_40 : decode cX5_talkOnce 40 = .ok (.aload_n 1, 1) := by decide +kernel
theorem dX5_talkOnce_41 : decode cX5_talkOnce 41 = .ok (.getfield 47, 3) := by decide +kernel
theorem dX5_talkOnce_44 : decode cX5_talkOnce 44 = .ok (.iload 4, 2) := by decide +kernel
theorem dX5_talkOnce_46 : decode cX5_talkOnce 46 = .ok (.iaload, 1) := by decide +kernel
theorem dX5_talkOnce_47 : decode cX5_talkOnce 47 = .ok (.aload_n 2, 1) := by decide +kernel
theorem dX5_talkOnce_48 : decode cX5_talkOnce 48 = .ok (.getfield 50, 3) := by decide +kernel
theorem dX5_talkOnce_51 : decode cX5_talkOnce 51 = .ok (.iload 5, 2) := by decide +kernel
theorem dX5_talkOnce_53 : decode cX5_talkOnce 53 = .ok (.iaload, 1) := by decide +kernel
theorem dX5_talkOnce_54 : decode cX5_talkOnce 54 = .ok (.aload_n 0, 1) := by decide +kernel
theorem dX5_talkOnce_55 : decode cX5_talkOnce 55 = .ok (.getfield 9, 3) := by decide +kernel
theorem dX5_talkOnce_58 : decode cX5_talkOnce 58 = .ok (.iload 5, 2) := by decide +kernel
theorem dX5_talkOnce_60 : decode cX5_talkOnce 60 = .ok (.iaload, 1) := by decide +kernel
theorem dX5_talkOnce_61 : decode cX5_talkOnce 61 = .ok (.invokestatic 53, 3) := by decide +kernel
theorem dX5_talkOnce_64 : decode cX5_talkOnce 64 = .ok (.istore 6, 2) := by decide +kernel
theorem dX5_talkOnce_66 : decode cX5_talkOnce 66 = .ok (.iload 6, 2) := by decide +kernel
theorem dX5_talkOnce_68 : decode cX5_talkOnce 68 = .ok (.iconst (-1), 1) := by decide +kernel
theorem dX5_talkOnce_69 : decode cX5_talkOnce 69 = .ok (.if_icmp .ne 4, 3) := by decide +kernel
theorem dX5_talkOnce_72 : decode cX5_talkOnce 72 = .ok (.return_, 1) := by decide +kernel
theorem dX5_talkOnce_73 : decode cX5_talkOnce 73 = .ok (.aload_n 0, 1) := by decide +kernel
theorem dX5_talkOnce_74 : decode cX5_talkOnce 74 = .ok (.getfield 9, 3) := by decide +kernel
theorem dX5_talkOnce_77 : decode cX5_talkOnce 77 = .ok (.iload 5, 2) := by decide +kernel
theorem dX5_talkOnce_79 : decode cX5_talkOnce 79 = .ok (.dup2, 1) := by decide +kernel
theorem dX5_talkOnce_80 : decode cX5_talkOnce 80 = .ok (.iaload, 1) := by decide +kernel
theorem dX5_talkOnce_81 : decode cX5_talkOnce 81 = .ok (.iconst 1, 1) := by decide +kernel
theorem dX5_talkOnce_82 : decode cX5_talkOnce 82 = .ok (.iload 6, 2) := by decide +kernel
theorem dX5_talkOnce_84 : decode cX5_talkOnce 84 = .ok (.ishl, 1) := by decide +kernel
theorem dX5_talkOnce_85 : decode cX5_talkOnce 85 = .ok (.ior, 1) := by decide +kernel
theorem dX5_talkOnce_86 : decode cX5_talkOnce 86 = .ok (.iastore, 1) := by decide +kernel
theorem dX5_talkOnce_87 : decode cX5_talkOnce 87 = .ok (.aload_n 0, 1) := by decide +kernel
theorem dX5_talkOnce_88 : decode cX5_talkOnce 88 = .ok (.dup, 1) := by decide +kernel
theorem dX5_talkOnce_89 : decode cX5_talkOnce 89 = .ok (.getfield 19, 3) := by decide +kernel
theorem dX5_talkOnce_92 : decode cX5_talkOnce 92 = .ok (.iconst 1, 1) := by decide +kernel
theorem dX5_talkOnce_93 : decode cX5_talkOnce 93 = .ok (.iadd, 1) := by decide +kernel
theorem dX5_talkOnce_94 : decode cX5_talkOnce 94 = .ok (.putfield 19, 3) := by decide +kernel
theorem dX5_talkOnce_97 : decode cX5_talkOnce 97 = .ok (.aload_n 0, 1) := by decide +kernel
theorem dX5_talkOnce_98 : decode cX5_talkOnce 98 = .ok (.dup, 1) := by decide +kernel
theorem dX5_talkOnce_99 : decode cX5_talkOnce 99 = .ok (.getfield 23, 3) := by decide +kernel
theorem dX5_talkOnce_102 : decode cX5_talkOnce 102 = .ok (.iload 6, 2) := by decide +kernel
theorem dX5_talkOnce_104 : decode cX5_talkOnce 104 = .ok (.aload_n 2, 1) := by decide +kernel
theorem dX5_talkOnce_105 : decode cX5_talkOnce 105 = .ok (.getfield 50, 3) := by decide +kernel
theorem dX5_talkOnce_108 : decode cX5_talkOnce 108 = .ok (.iload_n 3, 1) := by decide +kernel
theorem dX5_talkOnce_109 : decode cX5_talkOnce 109 = .ok (.iaload, 1) := by decide +kernel
theorem dX5_talkOnce_110 : decode cX5_talkOnce 110 = .ok (.if_icmp .ne 7, 3) := by decide +kernel
theorem dX5_talkOnce_113 : decode cX5_talkOnce 113 = .ok (.iconst 1, 1) := by decide +kernel
theorem dX5_talkOnce_114 : decode cX5_talkOnce 114 = .ok (.goto 4, 3) := by decide +kernel
theorem dX5_talkOnce_117 : decode cX5_talkOnce 117 = .ok (.iconst 0, 1) := by decide +kernel
theorem dX5_talkOnce_118 : decode cX5_talkOnce 118 = .ok (.iadd, 1) := by decide +kernel
theorem dX5_talkOnce_119 : decode cX5_talkOnce 119 = .ok (.putfield 23, 3) := by decide +kernel
theorem dX5_talkOnce_122 : decode cX5_talkOnce 122 = .ok (.return_, 1) := by decide +kernel
theorem dX5_draw_0 : decode cX5_draw 0 = .ok (.aload_n 0, 1) := by decide +kernel
theorem dX5_draw_1 : decode cX5_draw 1 = .ok (.ldc2_w 57, 3) := by decide +kernel
theorem dX5_draw_4 : decode cX5_draw 4 = .ok (.aload_n 0, 1) := by decide +kernel
theorem dX5_draw_5 : decode cX5_draw 5 = .ok (.getfield 15, 3) := by decide +kernel
theorem dX5_draw_8 : decode cX5_draw 8 = .ok (.lmul, 1) := by decide +kernel
theorem dX5_draw_9 : decode cX5_draw 9 = .ok (.ldc2_w 59, 3) := by decide +kernel
theorem dX5_draw_12 : decode cX5_draw 12 = .ok (.ladd, 1) := by decide +kernel
theorem dX5_draw_13 : decode cX5_draw 13 = .ok (.ldc2_w 61, 3) := by decide +kernel
theorem dX5_draw_16 : decode cX5_draw 16 = .ok (.lrem, 1) := by decide +kernel
theorem dX5_draw_17 : decode cX5_draw 17 = .ok (.putfield 15, 3) := by decide +kernel
theorem dX5_draw_20 : decode cX5_draw 20 = .ok (.iload_n 1, 1) := by decide +kernel
theorem dX5_draw_21 : decode cX5_draw 21 = .ok (.iconst 1, 1) := by decide +kernel
theorem dX5_draw_22 : decode cX5_draw 22 = .ok (.if_icmp .ge 7, 3) := by decide +kernel
theorem dX5_draw_25 : decode cX5_draw 25 = .ok (.iconst 0, 1) := by decide +kernel
theorem dX5_draw_26 : decode cX5_draw 26 = .ok (.goto 15, 3) := by decide +kernel
theorem dX5_draw_29 : decode cX5_draw 29 = .ok (.aload_n 0, 1) := by decide +kernel
theorem dX5_draw_30 : decode cX5_draw 30 = .ok (.getfield 15, 3) := by decide +kernel
theorem dX5_draw_33 : decode cX5_draw 33 = .ok (.ldc2_w 63, 3) := by decide +kernel
theorem dX5_draw_36 : decode cX5_draw 36 = .ok (.ldiv, 1) := by decide +kernel
theorem dX5_draw_37 : decode cX5_draw 37 = .ok (.iload_n 1, 1) := by decide +kernel
theorem dX5_draw_38 : decode cX5_draw 38 = .ok (.i2l, 1) := by decide +kernel
theorem dX5_draw_39 : decode cX5_draw 39 = .ok (.lrem, 1) := by decide +kernel
theorem dX5_draw_40 : decode cX5_draw 40 = .ok (.l2i, 1) := by decide +kernel
theorem dX5_draw_41 : decode cX5_draw 41 = .ok (.ireturn, 1) := by decide +kernel
theorem dX6_init_0 : decode cX6_init 0 = .ok (.aload_n 0, 1) := by decide +kernel
theorem dX6_init_1 : decode cX6_init 1 = .ok (.invokespecial 1, 3) := by decide +kernel
theorem dX6_init_4 : decode cX6_init 4 = .ok (.aload_n 0, 1) := by decide +kernel
theorem dX6_init_5 : decode cX6_init 5 = .ok (.new 7, 3) := by decide +kernel
theorem dX6_init_8 : decode cX6_init 8 = .ok (.dup, 1) := by decide +kernel
theorem dX6_init_9 : decode cX6_init 9 = .ok (.invokespecial 9, 3) := by decide +kernel
theorem dX6_init_12 : decode cX6_init 12 = .ok (.putfield 10, 3) := by decide +kernel
theorem dX6_init_15 : decode cX6_init 15 = .ok (.aload_n 0, 1) := by decide +kernel
theorem dX6_init_16 : decode cX6_init 16 = .ok (.new 16, 3) := by decide +kernel
theorem dX6_init_19 : decode cX6_init 19 = .ok (.dup, 1) := by decide +kernel
theorem dX6_init_20 : decode cX6_init 20 = .ok (.invokespecial 18, 3) := by decide +kernel
theorem dX6_init_23 : decode cX6_init 23 = .ok (.putfield 19, 3) := by decide +kernel
theorem dX6_init_26 : decode cX6_init 26 = .ok (.aload_n 0, 1) := by decide +kernel
theorem dX6_init_27 : decode cX6_init 27 = .ok (.new 23, 3) := by decide +kernel
theorem dX6_init_30 : decode cX6_init 30 = .ok (.dup, 1) := by decide +kernel
theorem dX6_init_31 : decode cX6_init 31 = .ok (.invokespecial 25, 3) := by decide +kernel
theorem dX6_init_34 : decode cX6_init 34 = .ok (.putfield 26, 3) := by decide +kernel
theorem dX6_init_37 : decode cX6_init 37 = .ok (.aload_n 0, 1) := by decide +kernel
theorem dX6_init_38 : decode cX6_init 38 = .ok (.new 30, 3) := by decide +kernel
theorem dX6_init_41 : decode cX6_init 41 = .ok (.dup, 1) := by decide +kernel
theorem dX6_init_42 : decode cX6_init 42 = .ok (.invokespecial 32, 3) := by decide +kernel
theorem dX6_init_45 : decode cX6_init 45 = .ok (.putfield 33, 3) := by decide +kernel
theorem dX6_init_48 : decode cX6_init 48 = .ok (.aload_n 0, 1) := by decide +kernel
theorem dX6_init_49 : decode cX6_init 49 = .ok (.new 30, 3) := by decide +kernel
theorem dX6_init_52 : decode cX6_init 52 = .ok (.dup, 1) := by decide +kernel
theorem dX6_init_53 : decode cX6_init 53 = .ok (.invokespecial 32, 3) := by decide +kernel
theorem dX6_init_56 : decode cX6_init 56 = .ok (.putfield 37, 3) := by decide +kernel
theorem dX6_init_59 : decode cX6_init 59 = .ok (.aload_n 0, 1) := by decide +kernel
theorem dX6_init_60 : decode cX6_init 60 = .ok (.new 40, 3) := by decide +kernel
theorem dX6_init_63 : decode cX6_init 63 = .ok (.dup, 1) := by decide +kernel
theorem dX6_init_64 : decode cX6_init 64 = .ok (.invokespecial 42, 3) := by decide +kernel
theorem dX6_init_67 : decode cX6_init 67 = .ok (.putfield 43, 3) := by decide +kernel
theorem dX6_init_70 : decode cX6_init 70 = .ok (.aload_n 0, 1) := by decide +kernel
theorem dX6_init_71 : decode cX6_init 71 = .ok (.new 47, 3) := by decide +kernel
theorem dX6_init_74 : decode cX6_init 74 = .ok (.dup, 1) := by decide +kernel
theorem dX6_init_75 : decode cX6_init 75 = .ok (.invokespecial 49, 3) := by decide +kernel
theorem dX6_init_78 : decode cX6_init 78 = .ok (.putfield 50, 3) := by decide +kernel
theorem dX6_init_81 : decode cX6_init 81 = .ok (.aload_n 0, 1) := by decide +kernel
theorem dX6_init_82 : decode cX6_init 82 = .ok (.iconst 0, 1) := by decide +kernel
theorem dX6_init_83 : decode cX6_init 83 = .ok (.putfield 54, 3) := by decide +kernel
theorem dX6_init_86 : decode cX6_init 86 = .ok (.aload_n 0, 1) := by decide +kernel
theorem dX6_init_87 : decode cX6_init 87 = .ok (.iconst 0, 1) := by decide +kernel
theorem dX6_init_88 : decode cX6_init 88 = .ok (.putfield 58, 3) := by decide +kernel
theorem dX6_init_91 : decode cX6_init 91 = .ok (.return_, 1) := by decide +kernel
theorem dX6_letter_0 : decode cX6_letter 0 = .ok (.iload_n 1, 1) := by decide +kernel
theorem dX6_letter_1 : decode cX6_letter 1 = .ok (.iconst 1, 1) := by decide +kernel
theorem dX6_letter_2 : decode cX6_letter 2 = .ok (.if_icmp .lt 9, 3) := by decide +kernel
theorem dX6_letter_5 : decode cX6_letter 5 = .ok (.iload_n 1, 1) := by decide +kernel
theorem dX6_letter_6 : decode cX6_letter 6 = .ok (.bipush 126, 2) := by decide +kernel
theorem dX6_letter_8 : decode cX6_letter 8 = .ok (.if_icmp .le 6, 3) := by decide +kernel
theorem dX6_letter_11 : decode cX6_letter 11 = .ok (.bipush (-102), 2) := by decide +kernel
theorem dX6_letter_13 : decode cX6_letter 13 = .ok (.ireturn, 1) := by decide +kernel
theorem dX6_letter_14 : decode cX6_letter 14 = .ok (.aload_n 0, 1) := by decide +kernel
theorem dX6_letter_15 : decode cX6_letter 15 = .ok (.getfield 10, 3) := by decide +kernel
theorem dX6_letter_18 : decode cX6_letter 18 = .ok (.getfield 62, 3) := by decide +kernel
theorem dX6_letter_21 : decode cX6_letter 21 = .ok (.bipush 30, 2) := by decide +kernel
theorem dX6_letter_23 : decode cX6_letter 23 = .ok (.if_icmp .lt 6, 3) := by decide +kernel
theorem dX6_letter_26 : decode cX6_letter 26 = .ok (.bipush (-104), 2) := by decide +kernel
theorem dX6_letter_28 : decode cX6_letter 28 = .ok (.ireturn, 1) := by decide +kernel
theorem dX6_letter_29 : decode cX6_letter 29 = .ok (.aload_n 0, 1) := by decide +kernel
theorem dX6_letter_30 : decode cX6_letter 30 = .ok (.getfield 10, 3) := by decide +kernel
theorem dX6_letter_33 : decode cX6_letter 33 = .ok (.iload_n 1, 1) := by decide +kernel
theorem dX6_letter_34 : decode cX6_letter 34 = .ok (.invokevirtual 65, 3) := by decide +kernel
theorem dX6_letter_37 : decode cX6_letter 37 = .ok (.aload_n 0, 1) := by decide +kernel
theorem dX6_letter_38 : decode cX6_letter 38 = .ok (.getfield 10, 3) := by decide +kernel
theorem dX6_letter_41 : decode cX6_letter 41 = .ok (.getfield 62, 3) := by decide +kernel
theorem dX6_letter_44 : decode cX6_letter 44 = .ok (.ireturn, 1) := by decide +kernel
theorem dX6_blank_0 : decode cX6_blank 0 = .ok (.aload_n 0, 1) := by decide +kernel
theorem dX6_blank_1 : decode cX6_blank 1 = .ok (.getfield 10, 3) := by decide +kernel
theorem dX6_blank_4 : decode cX6_blank 4 = .ok (.getfield 62, 3) := by decide +kernel
theorem dX6_blank_7 : decode cX6_blank 7 = .ok (.istore_n 1, 1) := by decide +kernel
theorem dX6_blank_8 : decode cX6_blank 8 = .ok (.aload_n 0, 1) := by decide +kernel
theorem dX6_blank_9 : decode cX6_blank 9 = .ok (.getfield 10, 3) := by decide +kernel
theorem dX6_blank_12 : decode cX6_blank 12 = .ok (.iconst 0, 1) := by decide +kernel
theorem dX6_blank_13 : decode cX6_blank 13 = .ok (.putfield 62, 3) := by decide +kernel
theorem dX6_blank_16 : decode cX6_blank 16 = .ok (.iload_n 1, 1) := by decide +kernel
theorem dX6_blank_17 : decode cX6_blank 17 = .ok (.ireturn, 1) := by decide +kernel
theorem dX6_fault_0 : decode cX6_fault 0 = .ok (.aload_n 0, 1) := by decide +kernel
theorem dX6_fault_1 : decode cX6_fault 1 = .ok (.getfield 19, 3) := by decide +kernel
theorem dX6_fault_4 : decode cX6_fault 4 = .ok (.aload_n 0, 1) := by decide +kernel
theorem dX6_fault_5 : decode cX6_fault 5 = .ok (.getfield 10, 3) := by decide +kernel
theorem dX6_fault_8 : decode cX6_fault 8 = .ok (.invokevirtual 69, 3) := by decide +kernel
theorem dX6_fault_11 : decode cX6_fault 11 = .ok (.ireturn, 1) := by decide +kernel
theorem dX6_room_0 : decode cX6_room 0 = .ok (.aload_n 0, 1) := by decide +kernel
theorem dX6_room_1 : decode cX6_room 1 = .ok (.getfield 19, 3) := by decide +kernel
theorem dX6_room_4 : decode cX6_room 4 = .ok (.aload_n 0, 1) := by decide +kernel
theorem dX6_room_5 : decode cX6_room 5 = .ok (.getfield 10, 3) := by decide +kernel
theorem dX6_room_8 : decode cX6_room 8 = .ok (.invokevirtual 69, 3) := by decide +kernel
theorem dX6_room_11 : decode cX6_room 11 = .ok (.aload_n 0, 1) := by decide +kernel
theorem dX6_room_12 : decode cX6_room 12 = .ok (.getfield 10, 3) := by decide +kernel
theorem dX6_room_15 : decode cX6_room 15 = .ok (.getfield 62, 3) := by decide +kernel
theorem dX6_room_18 : decode cX6_room 18 = .ok (.if_icmp .lt 13, 3) := by decide +kernel
theorem dX6_room_21 : decode cX6_room 21 = .ok (.aload_n 0, 1) := by decide +kernel
theorem dX6_room_22 : decode cX6_room 22 = .ok (.getfield 19, 3) := by decide +kernel
theorem dX6_room_25 : decode cX6_room 25 = .ok (.invokevirtual 73, 3) := by decide +kernel
theorem dX6_room_28 : decode cX6_room 28 = .ok (.ifCond .ne 6, 3) := by decide +kernel
theorem dX6_room_31 : decode cX6_room 31 = .ok (.bipush (-103), 2) := by decide +kernel
theorem dX6_room_33 : decode cX6_room 33 = .ok (.ireturn, 1) := by decide +kernel
theorem dX6_room_34 : decode cX6_room 34 = .ok (.aload_n 0, 1) := by decide +kernel
theorem dX6_room_35 : decode cX6_room 35 = .ok (.getfield 26, 3) := by decide +kernel
theorem dX6_room_38 : decode cX6_room 38 = .ok (.aload_n 0, 1) := by decide +kernel
theorem dX6_room_39 : decode cX6_room 39 = .ok (.getfield 19, 3) := by decide +kernel
theorem dX6_room_42 : decode cX6_room 42 = .ok (.getfield 77, 3) := by decide +kernel
theorem dX6_room_45 : decode cX6_room 45 = .ok (.invokevirtual 80, 3) := by decide +kernel
theorem dX6_room_48 : decode cX6_room 48 = .ok (.aload_n 0, 1) := by decide +kernel
theorem dX6_room_49 : decode cX6_room 49 = .ok (.getfield 33, 3) := by decide +kernel
theorem dX6_room_52 : decode cX6_room 52 = .ok (.aload_n 0, 1) := by decide +kernel
theorem dX6_room_53 : decode cX6_room 53 = .ok (.getfield 26, 3) := by decide +kernel
theorem dX6_room_56 : decode cX6_room 56 = .ok (.getfield 84, 3) := by decide +kernel
theorem dX6_room_59 : decode cX6_room 59 = .ok (.invokevirtual 88, 3) := by decide +kernel
theorem dX6_room_62 : decode cX6_room 62 = .ok (.aload_n 0, 1) := by decide +kernel
theorem dX6_room_63 : decode cX6_room 63 = .ok (.iconst 0, 1) := by decide +kernel
theorem dX6_room_64 : decode cX6_room 64 = .ok (.putfield 54, 3) := by decide +kernel
theorem dX6_room_67 : decode cX6_room 67 = .ok (.aload_n 0, 1) := by decide +kernel
theorem dX6_room_68 : decode cX6_room 68 = .ok (.dup, 1) := by decide +kernel
theorem dX6_room_69 : decode cX6_room 69 = .ok (.getfield 58, 3) := by decide +kernel
theorem dX6_room_72 : decode cX6_room 72 = .ok (.iconst 1, 1) := by decide +kernel
theorem dX6_room_73 : decode cX6_room 73 = .ok (.iadd, 1) := by decide +kernel
theorem dX6_room_74 : decode cX6_room 74 = .ok (.putfield 58, 3) := by decide +kernel
theorem dX6_room_77 : decode cX6_room 77 = .ok (.aload_n 0, 1) := by decide +kernel
theorem dX6_room_78 : decode cX6_room 78 = .ok (.getfield 10, 3) := by decide +kernel
theorem dX6_room_81 : decode cX6_room 81 = .ok (.iconst 0, 1) := by decide +kernel
theorem dX6_room_82 : decode cX6_room 82 = .ok (.putfield 62, 3) := by decide +kernel
theorem dX6_room_85 : decode cX6_room 85 = .ok (.aload_n 0, 1) := by decide +kernel
theorem dX6_room_86 : decode cX6_room 86 = .ok (.getfield 26, 3) := by decide +kernel
theorem dX6_room_89 : decode cX6_room 89 = .ok (.getfield 92, 3) := by decide +kernel
theorem dX6_room_92 : decode cX6_room 92 = .ok (.ireturn, 1) := by decide +kernel
theorem dX6_fits_0 : decode cX6_fits 0 = .ok (.aload_n 0, 1) := by decide +kernel
theorem dX6_fits_1 : decode cX6_fits 1 = .ok (.getfield 26, 3) := by decide +kernel
theorem dX6_fits_4 : decode cX6_fits 4 = .ok (.getfield 92, 3) := by decide +kernel
theorem dX6_fits_7 : decode cX6_fits 7 = .ok (.ifCond .le 22, 3) := by decide +kernel
theorem dX6_fits_10 : decode cX6_fits 10 = .ok (.iload_n 1, 1) := by decide +kernel
theorem dX6_fits_11 : decode cX6_fits 11 = .ok (.invokestatic 95, 3) := by decide +kernel
theorem dX6_fits_14 : decode cX6_fits 14 = .ok (.ifCond .eq 15, 3) := by decide +kernel
theorem dX6_fits_17 : decode cX6_fits 17 = .ok (.aload_n 0, 1) := by decide +kernel
theorem dX6_fits_18 : decode cX6_fits 18 = .ok (.getfield 26, 3) := by decide +kernel
theorem dX6_fits_21 : decode cX6_fits 21 = .ok (.getfield 99, 3) := by decide +kernel
theorem dX6_fits_24 : decode cX6_fits 24 = .ok (.iload_n 1, 1) := by decide +kernel
theorem dX6_fits_25 : decode cX6_fits 25 = .ok (.iaload, 1) := by decide +kernel
theorem dX6_fits_26 : decode cX6_fits 26 = .ok (.goto 5, 3) := by decide +kernel
theorem dX6_fits_29 : decode cX6_fits 29 = .ok (.bipush (-101), 2) := by decide +kernel
theorem dX6_fits_31 : decode cX6_fits 31 = .ok (.ireturn, 1) := by decide +kernel
theorem dX6_about_0 : decode cX6_about 0 = .ok (.aload_n 0, 1) := by decide +kernel
theorem dX6_about_1 : decode cX6_about 1 = .ok (.iload_n 1, 1) := by decide +kernel
theorem dX6_about_2 : decode cX6_about 2 = .ok (.invokevirtual 102, 3) := by decide +kernel
theorem dX6_about_5 : decode cX6_about 5 = .ok (.ifCond .ne 6, 3) := by decide +kernel
theorem dX6_about_8 : decode cX6_about 8 = .ok (.bipush (-101), 2) := by decide +kernel
theorem dX6_about_10 : decode cX6_about 10 = .ok (.ireturn, 1) := by decide +kernel
theorem dX6_about_11 : decode cX6_about 11 = .ok (.iload_n 2, 1) := by decide +kernel
theorem dX6_about_12 : decode cX6_about 12 = .ok (.tableswitch 131 0 8 #[52, 62, 72, 81, 90, 99, 108, 114, 120], 52) := by decide +kernel
theorem dX6_about_64 : decode cX6_about 64 = .ok (.aload_n 0, 1) := by decide +kernel
theorem dX6_about_65 : decode cX6_about 65 = .ok (.getfield 26, 3) := by decide +kernel
theorem dX6_about_68 : decode cX6_about 68 = .ok (.getfield 105, 3) := by decide +kernel
theorem dX6_about_71 : decode cX6_about 71 = .ok (.iload_n 1, 1) := by decide +kernel
theorem dX6_about_72 : decode cX6_about 72 = .ok (.iaload, 1) := by decide +kernel
theorem dX6_about_73 : decode cX6_about 73 = .ok (.ireturn, 1) := by decide +kernel
theorem dX6_about_74 : decode cX6_about 74 = .ok (.aload_n 0, 1) := by decide +kernel
theorem dX6_about_75 : decode cX6_about 75 = .ok (.getfield 33, 3) := by decide +kernel
theorem dX6_about_78 : decode cX6_about 78 = .ok (.getfield 108, 3) := by decide +kernel
theorem dX6_about_81 : decode cX6_about 81 = .ok (.iload_n 1, 1) := by decide +kernel
theorem dX6_about_82 : decode cX6_about 82 = .ok (.iaload, 1) := by decide +kernel
theorem dX6_about_83 : decode cX6_about 83 = .ok (.ireturn, 1) := by decide +kernel
theorem dX6_about_84 : decode cX6_about 84 = .ok (.aload_n 0, 1) := by decide +kernel
theorem dX6_about_85 : decode cX6_about 85 = .ok (.getfield 33, 3) := by decide +kernel
theorem dX6_about_88 : decode cX6_about 88 = .ok (.iload_n 1, 1) := by decide +kernel
theorem dX6_about_89 : decode cX6_about 89 = .ok (.invokevirtual 109, 3) := by decide +kernel
theorem dX6_about_92 : decode cX6_about 92 = .ok (.ireturn, 1) := by decide +kernel
theorem dX6_about_93 : decode cX6_about 93 = .ok (.aload_n 0, 1) := by decide +kernel
theorem dX6_about_94 : decode cX6_about 94 = .ok (.getfield 33, 3) := by decide +kernel
theorem dX6_about_97 : decode cX6_about 97 = .ok (.iload_n 1, 1) := by decide +kernel
theorem dX6_about_98 : decode cX6_about 98 = .ok (.invokevirtual 113, 3) := by decide +kernel
theorem dX6_about_101 : decode cX6_about 101 = .ok (.ireturn, 1) := by decide +kernel
theorem dX6_about_102 : decode cX6_about 102 = .ok (.aload_n 0, 1) := by decide +kernel
theorem dX6_about_103 : decode cX6_about 103 = .ok (.getfield 33, 3) := by decide +kernel
theorem dX6_about_106 : decode cX6_about 106 = .ok (.iload_n 1, 1) := by decide +kernel
theorem dX6_about_107 : decode cX6_about 107 = .ok (.invokevirtual 116, 3) := by decide +kernel
theorem dX6_about_110 : decode cX6_about 110 = .ok (.ireturn, 1) := by decide +kernel
theorem dX6_about_111 : decode cX6_about 111 = .ok (.aload_n 0, 1) := by decide +kernel
theorem dX6_about_112 : decode cX6_about 112 = .ok (.getfield 33, 3) := by decide +kernel
theorem dX6_about_115 : decode cX6_about 115 = .ok (.iload_n 1, 1) := by decide +kernel
theorem dX6_about_116 : decode cX6_about 116 = .ok (.invokevirtual 119, 3) := by decide +kernel
theorem dX6_about_119 : decode cX6_about 119 = .ok (.ireturn, 1) := by decide +kernel
theorem dX6_about_120 : decode cX6_about 120 = .ok (.aload_n 0, 1) := by decide +kernel
theorem dX6_about_121 : decode cX6_about 121 = .ok (.iload_n 1, 1) := by decide +kernel
theorem dX6_about_122 : decode cX6_about 122 = .ok (.invokevirtual 122, 3) := by decide +kernel
theorem dX6_about_125 : decode cX6_about 125 = .ok (.ireturn, 1) := by decide +kernel
theorem dX6_about_126 : decode cX6_about 126 = .ok (.aload_n 0, 1) := by decide +kernel
theorem dX6_about_127 : decode cX6_about 127 = .ok (.iload_n 1, 1) := by decide +kernel
theorem dX6_about_128 : decode cX6_about 128 = .ok (.invokevirtual 125, 3) := by decide +kernel
theorem dX6_about_131 : decode cX6_about 131 = .ok (.ireturn, 1) := by decide +kernel
theorem dX6_about_132 : decode cX6_about 132 = .ok (.aload_n 0, 1) := by decide +kernel
theorem dX6_about_133 : decode cX6_about 133 = .ok (.iload_n 1, 1) := by decide +kernel
theorem dX6_about_134 : decode cX6_about 134 = .ok (.aload_n 0, 1) := by decide +kernel
theorem dX6_about_135 : decode cX6_about 135 = .ok (.iload_n 1, 1) := by decide +kernel
theorem dX6_about_136 : decode cX6_about 136 = .ok (.invokevirtual 125, 3) := by decide +kernel
theorem dX6_about_139 : decode cX6_about 139 = .ok (.invokevirtual 128, 3) := by decide +kernel
theorem dX6_about_142 : decode cX6_about 142 = .ok (.ireturn, 1) := by decide +kernel
theorem dX6_about_143 : decode cX6_about 143 = .ok (.bipush (-102), 2) := by decide +kernel
theorem dX6_about_145 : decode cX6_about 145 = .ok (.ireturn, 1) := by decide +kernel
theorem dX6_as_0 : decode cX6_as 0 = .ok (.aload_n 0, 1) := by decide +kernel
theorem dX6_as_1 : decode cX6_as 1 = .ok (.iload_n 1, 1) := by decide +kernel
theorem dX6_as_2 : decode cX6_as 2 = .ok (.invokevirtual 102, 3) := by decide +kernel
theorem dX6_as_5 : decode cX6_as 5 = .ok (.ifCond .ne 6, 3) := by decide +kernel
theorem dX6_as_8 : decode cX6_as 8 = .ok (.bipush (-101), 2) := by decide +kernel
theorem dX6_as_10 : decode cX6_as 10 = .ok (.ireturn, 1) := by decide +kernel
theorem dX6_as_11 : decode cX6_as 11 = .ok (.iload_n 2, 1) := by decide +kernel
theorem dX6_as_12 : decode cX6_as 12 = .ok (.ifCond .lt 8, 3) := by decide +kernel
theorem dX6_as_15 : decode cX6_as 15 = .ok (.iload_n 2, 1) := by decide +kernel
theorem dX6_as_16 : decode cX6_as 16 = .ok (.iconst 5, 1) := by decide +kernel
theorem dX6_as_17 : decode cX6_as 17 = .ok (.if_icmp .lt 6, 3) := by decide +kernel
theorem dX6_as_20 : decode cX6_as 20 = .ok (.bipush (-102), 2) := by decide +kernel
theorem dX6_as_22 : decode cX6_as 22 = .ok (.ireturn, 1) := by decide +kernel
theorem dX6_as_23 : decode cX6_as 23 = .ok (.aload_n 0, 1) := by decide +kernel
theorem dX6_as_24 : decode cX6_as 24 = .ok (.getfield 26, 3) := by decide +kernel
theorem dX6_as_27 : decode cX6_as 27 = .ok (.getfield 105, 3) := by decide +kernel
theorem dX6_as_30 : decode cX6_as 30 = .ok (.iload_n 1, 1) := by decide +kernel
theorem dX6_as_31 : decode cX6_as 31 = .ok (.iaload, 1) := by decide +kernel
theorem dX6_as_32 : decode cX6_as 32 = .ok (.iload_n 2, 1) := by decide +kernel
theorem dX6_as_33 : decode cX6_as 33 = .ok (.invokestatic 132, 3) := by decide +kernel
theorem dX6_as_36 : decode cX6_as 36 = .ok (.ifCond .eq 7, 3) := by decide +kernel
theorem dX6_as_39 : decode cX6_as 39 = .ok (.iload_n 1, 1) := by decide +kernel
theorem dX6_as_40 : decode cX6_as 40 = .ok (.goto 4, 3) := by decide +kernel
theorem dX6_as_43 : decode cX6_as 43 = .ok (.iconst (-1), 1) := by decide +kernel
theorem dX6_as_44 : decode cX6_as 44 = .ok (.ireturn, 1) := by decide +kernel
theorem dX6_want_0 : decode cX6_want 0 = .ok (.aload_n 0, 1) := by decide +kernel
theorem dX6_want_1 : decode cX6_want 1 = .ok (.iload_n 1, 1) := by decide +kernel
theorem dX6_want_2 : decode cX6_want 2 = .ok (.invokevirtual 102, 3) := by decide +kernel
theorem dX6_want_5 : decode cX6_want 5 = .ok (.ifCond .ne 6, 3) := by decide +kernel
theorem dX6_want_8 : decode cX6_want 8 = .ok (.bipush (-101), 2) := by decide +kernel
theorem dX6_want_10 : decode cX6_want 10 = .ok (.ireturn, 1) := by decide +kernel
theorem dX6_want_11 : decode cX6_want 11 = .ok (.iload_n 2, 1) := by decide +kernel
theorem dX6_want_12 : decode cX6_want 12 = .ok (.invokestatic 136, 3) := by decide +kernel
theorem dX6_want_15 : decode cX6_want 15 = .ok (.ifCond .ne 6, 3) := by decide +kernel
theorem dX6_want_18 : decode cX6_want 18 = .ok (.bipush (-102), 2) := by decide +kernel
theorem dX6_want_20 : decode cX6_want 20 = .ok (.ireturn, 1) := by decide +kernel
theorem dX6_want_21 : decode cX6_want 21 = .ok (.aload_n 0, 1) := by decide +kernel
theorem dX6_want_22 : decode cX6_want 22 = .ok (.getfield 33, 3) := by decide +kernel
theorem dX6_want_25 : decode cX6_want 25 = .ok (.getfield 108, 3) := by decide +kernel
theorem dX6_want_28 : decode cX6_want 28 = .ok (.iload_n 1, 1) := by decide +kernel
theorem dX6_want_29 : decode cX6_want 29 = .ok (.iaload, 1) := by decide +kernel
theorem dX6_want_30 : decode cX6_want 30 = .ok (.istore_n 3, 1) := by decide +kernel
theorem dX6_want_31 : decode cX6_want 31 = .ok (.aload_n 0, 1) := by decide +kernel
theorem dX6_want_32 : decode cX6_want 32 = .ok (.getfield 33, 3) := by decide +kernel
theorem dX6_want_35 : decode cX6_want 35 = .ok (.getfield 108, 3) := by decide +kernel
theorem dX6_want_38 : decode cX6_want 38 = .ok (.iload_n 1, 1) := by decide +kernel
theorem dX6_want_39 : decode cX6_want 39 = .ok (.iload_n 2, 1) := by decide +kernel
theorem dX6_want_40 : decode cX6_want 40 = .ok (.iastore, 1) := by decide +kernel
theorem dX6_want_41 : decode cX6_want 41 = .ok (.aload_n 0, 1) := by decide +kernel
theorem dX6_want_42 : decode cX6_want 42 = .ok (.getfield 33, 3) := by decide +kernel
theorem dX6_want_45 : decode cX6_want 45 = .ok (.dup, 1) := by decide +kernel
theorem dX6_want_46 : decode cX6_want 46 = .ok (.getfield 139, 3) := by decide +kernel
theorem dX6_want_49 : decode cX6_want 49 = .ok (.iconst 1, 1) := by decide +kernel
theorem dX6_want_50 : decode cX6_want 50 = .ok (.iadd, 1) := by decide +kernel
theorem dX6_want_51 : decode cX6_want 51 = .ok (.putfield 139, 3) := by decide +kernel
theorem dX6_want_54 : decode cX6_want 54 = .ok (.iload_n 3, 1) := by decide +kernel
theorem dX6_want_55 : decode cX6_want 55 = .ok (.ireturn, 1) := by decide +kernel
theorem dX6_would_0 : decode cX6_would 0 = .ok (.aload_n 0, 1) := by decide +kernel
theorem dX6_would_1 : decode cX6_would 1 = .ok (.iload_n 1, 1) := by decide +kernel
theorem dX6_would_2 : decode cX6_would 2 = .ok (.invokevirtual 102, 3) := by decide +kernel
theorem dX6_would_5 : decode cX6_would 5 = .ok (.ifCond .eq 10, 3) := by decide +kernel
theorem dX6_would_8 : decode cX6_would 8 = .ok (.iload_n 2, 1) := by decide +kernel
theorem dX6_would_9 : decode cX6_would 9 = .ok (.invokestatic 95, 3) := by decide +kernel
theorem dX6_would_12 : decode cX6_would 12 = .ok (.ifCond .ne 6, 3) := by decide +kernel
theorem dX6_would_15 : decode cX6_would 15 = .ok (.bipush (-101), 2) := by decide +kernel
theorem dX6_would_17 : decode cX6_would 17 = .ok (.ireturn, 1) := by decide +kernel
theorem dX6_would_18 : decode cX6_would 18 = .ok (.aload_n 0, 1) := by decide +kernel
theorem dX6_would_19 : decode cX6_would 19 = .ok (.iload_n 1, 1) := by decide +kernel
theorem dX6_would_20 : decode cX6_would 20 = .ok (.iload_n 2, 1) := by decide +kernel
theorem dX6_would_21 : decode cX6_would 21 = .ok (.invokevirtual 142, 3) := by decide +kernel
theorem dX6_would_24 : decode cX6_would 24 = .ok (.ireturn, 1) := by decide +kernel
theorem dX6_begin_0 : decode cX6_begin 0 = .ok (.aload_n 0, 1) := by decide +kernel
theorem dX6_begin_1 : decode cX6_begin 1 = .ok (.iload_n 1, 1) := by decide +kernel
theorem dX6_begin_2 : decode cX6_begin 2 = .ok (.invokevirtual 102, 3) := by decide +kernel
theorem dX6_begin_5 : decode cX6_begin 5 = .ok (.ifCond .eq 10, 3) := by decide +kernel
theorem dX6_begin_8 : decode cX6_begin 8 = .ok (.iload_n 2, 1) := by decide +kernel
theorem dX6_begin_9 : decode cX6_begin 9 = .ok (.invokestatic 95, 3) := by decide +kernel
theorem dX6_begin_12 : decode cX6_begin 12 = .ok (.ifCond .ne 6, 3) := by decide +kernel
theorem dX6_begin_15 : decode cX6_begin 15 = .ok (.bipush (-101), 2) := by decide +kernel
theorem dX6_begin_17 : decode cX6_begin 17 = .ok (.ireturn, 1) := by decide +kernel
theorem dX6_begin_18 : decode cX6_begin 18 = .ok (.aload_n 0, 1) := by decide +kernel
theorem dX6_begin_19 : decode cX6_begin 19 = .ok (.getfield 33, 3) := by decide +kernel
theorem dX6_begin_22 : decode cX6_begin 22 = .ok (.iload_n 1, 1) := by decide +kernel
theorem dX6_begin_23 : decode cX6_begin 23 = .ok (.invokevirtual 113, 3) := by decide +kernel
theorem dX6_begin_26 : decode cX6_begin 26 = .ok (.iconst (-1), 1) := by decide +kernel
theorem dX6_begin_27 : decode cX6_begin 27 = .ok (.if_icmp .eq 6, 3) := by decide +kernel
theorem dX6_begin_30 : decode cX6_begin 30 = .ok (.bipush (-103), 2) := by decide +kernel
theorem dX6_begin_32 : decode cX6_begin 32 = .ok (.ireturn, 1) := by decide +kernel
theorem dX6_begin_33 : decode cX6_begin 33 = .ok (.aload_n 0, 1) := by decide +kernel
theorem dX6_begin_34 : decode cX6_begin 34 = .ok (.getfield 33, 3) := by decide +kernel
theorem dX6_begin_37 : decode cX6_begin 37 = .ok (.getfield 145, 3) := by decide +kernel
theorem dX6_begin_40 : decode cX6_begin 40 = .ok (.bipush 8, 2) := by decide +kernel
theorem dX6_begin_42 : decode cX6_begin 42 = .ok (.if_icmp .lt 6, 3) := by decide +kernel
theorem dX6_begin_45 : decode cX6_begin 45 = .ok (.bipush (-104), 2) := by decide +kernel
theorem dX6_begin_47 : decode cX6_begin 47 = .ok (.ireturn, 1) := by decide +kernel
theorem dX6_begin_48 : decode cX6_begin 48 = .ok (.aload_n 0, 1) := by decide +kernel
theorem dX6_begin_49 : decode cX6_begin 49 = .ok (.getfield 33, 3) := by decide +kernel
theorem dX6_begin_52 : decode cX6_begin 52 = .ok (.iload_n 1, 1) := by decide +kernel
theorem dX6_begin_53 : decode cX6_begin 53 = .ok (.iload_n 2, 1) := by decide +kernel
theorem dX6_begin_54 : decode cX6_begin 54 = .ok (.invokevirtual 148, 3) := by decide +kernel
theorem dX6_begin_57 : decode cX6_begin 57 = .ok (.ireturn, 1) := by decide +kernel
theorem dX6_end_0 : decode cX6_end 0 = .ok (.aload_n 0, 1) := by decide +kernel
theorem dX6_end_1 : decode cX6_end 1 = .ok (.iload_n 1, 1) := by decide +kernel
theorem dX6_end_2 : decode cX6_end 2 = .ok (.invokevirtual 151, 3) := by decide +kernel
theorem dX6_end_5 : decode cX6_end 5 = .ok (.ifCond .eq 11, 3) := by decide +kernel
theorem dX6_end_8 : decode cX6_end 8 = .ok (.aload_n 0, 1) := by decide +kernel
theorem dX6_end_9 : decode cX6_end 9 = .ok (.iload_n 2, 1) := by decide +kernel
theorem dX6_end_10 : decode cX6_end 10 = .ok (.invokevirtual 102, 3) := by decide +kernel
theorem dX6_end_13 : decode cX6_end 13 = .ok (.ifCond .ne 6, 3) := by decide +kernel
theorem dX6_end_16 : decode cX6_end 16 = .ok (.bipush (-101), 2) := by decide +kernel
theorem dX6_end_18 : decode cX6_end 18 = .ok (.ireturn, 1) := by decide +kernel
theorem dX6_end_19 : decode cX6_end 19 = .ok (.aload_n 0, 1) := by decide +kernel
theorem dX6_end_20 : decode cX6_end 20 = .ok (.getfield 33, 3) := by decide +kernel
theorem dX6_end_23 : decode cX6_end 23 = .ok (.iload_n 1, 1) := by decide +kernel
theorem dX6_end_24 : decode cX6_end 24 = .ok (.invokevirtual 154, 3) := by decide +kernel
theorem dX6_end_27 : decode cX6_end 27 = .ok (.ifCond .eq 16, 3) := by decide +kernel
theorem dX6_end_30 : decode cX6_end 30 = .ok (.aload_n 0, 1) := by decide +kernel
theorem dX6_end_31 : decode cX6_end 31 = .ok (.getfield 33, 3) := by decide +kernel
theorem dX6_end_34 : decode cX6_end 34 = .ok (.getfield 157, 3) := by decide +kernel
theorem dX6_end_37 : decode cX6_end 37 = .ok (.iload_n 1, 1) := by decide +kernel
theorem dX6_end_38 : decode cX6_end 38 = .ok (.iaload, 1) := by decide +kernel
theorem dX6_end_39 : decode cX6_end 39 = .ok (.iload_n 2, 1) := by decide +kernel
theorem dX6_end_40 : decode cX6_end 40 = .ok (.if_icmp .ne 6, 3) := by decide +kernel
theorem dX6_end_43 : decode cX6_end 43 = .ok (.bipush (-103), 2) := by decide +kernel
theorem dX6_end_45 : decode cX6_end 45 = .ok (.ireturn, 1) := by decide +kernel
theorem dX6_end_46 : decode cX6_end 46 = .ok (.aload_n 0, 1) := by decide +kernel
theorem dX6_end_47 : decode cX6_end 47 = .ok (.iload_n 2, 1) := by decide +kernel
theorem dX6_end_48 : decode cX6_end 48 = .ok (.aload_n 0, 1) := by decide +kernel
theorem dX6_end_49 : decode cX6_end 49 = .ok (.getfield 33, 3) := by decide +kernel
theorem dX6_end_52 : decode cX6_end 52 = .ok (.getfield 160, 3) := by decide +kernel
theorem dX6_end_55 : decode cX6_end 55 = .ok (.iload_n 1, 1) := by decide +kernel
theorem dX6_end_56 : decode cX6_end 56 = .ok (.iaload, 1) := by decide +kernel
theorem dX6_end_57 : decode cX6_end 57 = .ok (.invokevirtual 142, 3) := by decide +kernel
theorem dX6_end_60 : decode cX6_end 60 = .ok (.istore_n 3, 1) := by decide +kernel
theorem dX6_end_61 : decode cX6_end 61 = .ok (.iload_n 3, 1) := by decide +kernel
theorem dX6_end_62 : decode cX6_end 62 = .ok (.iconst (-1), 1) := by decide +kernel
theorem dX6_end_63 : decode cX6_end 63 = .ok (.if_icmp .eq 23, 3) := by decide +kernel
theorem dX6_end_66 : decode cX6_end 66 = .ok (.aload_n 0, 1) := by decide +kernel
theorem dX6_end_67 : decode cX6_end 67 = .ok (.getfield 33, 3) := by decide +kernel
theorem dX6_end_70 : decode cX6_end 70 = .ok (.getfield 163, 3) := by decide +kernel
theorem dX6_end_73 : decode cX6_end 73 = .ok (.iload_n 1, 1) := by decide +kernel
theorem dX6_end_74 : decode cX6_end 74 = .ok (.iload_n 2, 1) := by decide +kernel
theorem dX6_end_75 : decode cX6_end 75 = .ok (.iastore, 1) := by decide +kernel
theorem dX6_end_76 : decode cX6_end 76 = .ok (.aload_n 0, 1) := by decide +kernel
theorem dX6_end_77 : decode cX6_end 77 = .ok (.getfield 33, 3) := by decide +kernel
theorem dX6_end_80 : decode cX6_end 80 = .ok (.getfield 166, 3) := by decide +kernel
theorem dX6_end_83 : decode cX6_end 83 = .ok (.iload_n 1, 1) := by decide +kernel
theorem dX6_end_84 : decode cX6_end 84 = .ok (.iload_n 3, 1) := by decide +kernel
theorem dX6_end_85 : decode cX6_end 85 = .ok (.iastore, 1) := by decide +kernel
theorem dX6_end_86 : decode cX6_end 86 = .ok (.iload_n 3, 1) := by decide +kernel
theorem dX6_end_87 : decode cX6_end 87 = .ok (.ireturn, 1) := by decide +kernel
theorem dX6_sentence_0 : decode cX6_sentence 0 = .ok (.aload_n 0, 1) := by decide +kernel
theorem dX6_sentence_1 : decode cX6_sentence 1 = .ok (.iload_n 1, 1) := by decide +kernel
theorem dX6_sentence_2 : decode cX6_sentence 2 = .ok (.invokevirtual 151, 3) := by decide +kernel
theorem dX6_sentence_5 : decode cX6_sentence 5 = .ok (.ifCond .ne 6, 3) := by decide +kernel
theorem dX6_sentence_8 : decode cX6_sentence 8 = .ok (.bipush (-101), 2) := by decide +kernel
theorem dX6_sentence_10 : decode cX6_sentence 10 = .ok (.ireturn, 1) := by decide +kernel
theorem dX6_sentence_11 : decode cX6_sentence 11 = .ok (.iload_n 2, 1) := by decide +kernel
theorem dX6_sentence_12 : decode cX6_sentence 12 = .ok (.tableswitch 93 0 4 #[36, 46, 56, 66, 76], 36) := by decide +kernel
theorem dX6_sentence_48 : decode cX6_sentence 48 = .ok (.aload_n 0, 1) := by decide +kernel
theorem dX6_sentence_49 : decode cX6_sentence 49 = .ok (.getfield 33, 3) := by decide +kernel
theorem dX6_sentence_52 : decode cX6_sentence 52 = .ok (.getfield 157, 3) := by decide +kernel
theorem dX6_sentence_55 : decode cX6_sentence 55 = .ok (.iload_n 1, 1) := by decide +kernel
theorem dX6_sentence_56 : decode cX6_sentence 56 = .ok (.iaload, 1) := by decide +kernel
theorem dX6_sentence_57 : decode cX6_sentence 57 = .ok (.ireturn, 1) := by decide +kernel
theorem dX6_sentence_58 : decode cX6_sentence 58 = .ok (.aload_n 0, 1) := by decide +kernel
theorem dX6_sentence_59 : decode cX6_sentence 59 = .ok (.getfield 33, 3) := by decide +kernel
theorem dX6_sentence_62 : decode cX6_sentence 62 = .ok (.getfield 160, 3) := by decide +kernel
theorem dX6_sentence_65 : decode cX6_sentence 65 = .ok (.iload_n 1, 1) := by decide +kernel
theorem dX6_sentence_66 : decode cX6_sentence 66 = .ok (.iaload, 1) := by decide +kernel
theorem dX6_sentence_67 : decode cX6_sentence 67 = .ok (.ireturn, 1) := by decide +kernel
theorem dX6_sentence_68 : decode cX6_sentence 68 = .ok (.aload_n 0, 1) := by decide +kernel
theorem dX6_sentence_69 : decode cX6_sentence 69 = .ok (.getfield 33, 3) := by decide +kernel
theorem dX6_sentence_72 : decode cX6_sentence 72 = .ok (.getfield 163, 3) := by decide +kernel
theorem dX6_sentence_75 : decode cX6_sentence 75 = .ok (.iload_n 1, 1) := by decide +kernel
theorem dX6_sentence_76 : decode cX6_sentence 76 = .ok (.iaload, 1) := by decide +kernel
theorem dX6_sentence_77 : decode cX6_sentence 77 = .ok (.ireturn, 1) := by decide +kernel
theorem dX6_sentence_78 : decode cX6_sentence 78 = .ok (.aload_n 0, 1) := by decide +kernel
theorem dX6_sentence_79 : decode cX6_sentence 79 = .ok (.getfield 33, 3) := by decide +kernel
theorem dX6_sentence_82 : decode cX6_sentence 82 = .ok (.getfield 166, 3) := by decide +kernel
theorem dX6_sentence_85 : decode cX6_sentence 85 = .ok (.iload_n 1, 1) := by decide +kernel
theorem dX6_sentence_86 : decode cX6_sentence 86 = .ok (.iaload, 1) := by decide +kernel
theorem dX6_sentence_87 : decode cX6_sentence 87 = .ok (.ireturn, 1) := by decide +kernel
theorem dX6_sentence_88 : decode cX6_sentence 88 = .ok (.aload_n 0, 1) := by decide +kernel
theorem dX6_sentence_89 : decode cX6_sentence 89 = .ok (.getfield 33, 3) := by decide +kernel
theorem dX6_sentence_92 : decode cX6_sentence 92 = .ok (.iload_n 1, 1) := by decide +kernel
theorem dX6_sentence_93 : decode cX6_sentence 93 = .ok (.invokevirtual 169, 3) := by decide +kernel
theorem dX6_sentence_96 : decode cX6_sentence 96 = .ok (.ifCond .eq 7, 3) := by decide +kernel
theorem dX6_sentence_99 : decode cX6_sentence 99 = .ok (.iconst 1, 1) := by decide +kernel
theorem dX6_sentence_100 : decode cX6_sentence 100 = .ok (.goto 4, 3) := by decide +kernel
theorem dX6_sentence_103 : decode cX6_sentence 103 = .ok (.iconst 0, 1) := by decide +kernel
theorem dX6_sentence_104 : decode cX6_sentence 104 = .ok (.ireturn, 1) := by decide +kernel
theorem dX6_sentence_105 : decode cX6_sentence 105 = .ok (.bipush (-102), 2) := by decide +kernel
theorem dX6_sentence_107 : decode cX6_sentence 107 = .ok (.ireturn, 1) := by decide +kernel
theorem dX6_match_0 : decode cX6_match 0 = .ok (.iload_n 1, 1) := by decide +kernel
theorem dX6_match_1 : decode cX6_match 1 = .ok (.ifCond .ne 7, 3) := by decide +kernel
theorem dX6_match_4 : decode cX6_match 4 = .ok (.iconst 1, 1) := by decide +kernel
theorem dX6_match_5 : decode cX6_match 5 = .ok (.goto 4, 3) := by decide +kernel
theorem dX6_match_8 : decode cX6_match 8 = .ok (.iconst 0, 1) := by decide +kernel
theorem dX6_match_9 : decode cX6_match 9 = .ok (.istore_n 2, 1) := by decide +kernel
theorem dX6_match_10 : decode cX6_match 10 = .ok (.iload_n 1, 1) := by decide +kernel
theorem dX6_match_11 : decode cX6_match 11 = .ok (.bipush 10, 2) := by decide +kernel
theorem dX6_match_13 : decode cX6_match 13 = .ok (.if_icmp .lt 13, 3) := by decide +kernel
theorem dX6_match_16 : decode cX6_match 16 = .ok (.iload_n 1, 1) := by decide +kernel
theorem dX6_match_17 : decode cX6_match 17 = .ok (.bipush 14, 2) := by decide +kernel
theorem dX6_match_19 : decode cX6_match 19 = .ok (.if_icmp .ge 7, 3) := by decide +kernel
theorem dX6_match_22 : decode cX6_match 22 = .ok (.iconst 1, 1) := by decide +kernel
theorem dX6_match_23 : decode cX6_match 23 = .ok (.goto 4, 3) := by decide +kernel
theorem dX6_match_26 : decode cX6_match 26 = .ok (.iconst 0, 1) := by decide +kernel
theorem dX6_match_27 : decode cX6_match 27 = .ok (.istore_n 3, 1) := by decide +kernel
theorem dX6_match_28 : decode cX6_match 28 = .ok (.iload_n 2, 1) := by decide +kernel
theorem dX6_match_29 : decode cX6_match 29 = .ok (.ifCond .ne 10, 3) := by decide +kernel
theorem dX6_match_32 : decode cX6_match 32 = .ok (.iload_n 3, 1) := by decide +kernel
theorem dX6_match_33 : decode cX6_match 33 = .ok (.ifCond .ne 6, 3) := by decide +kernel
theorem dX6_match_36 : decode cX6_match 36 = .ok (.bipush (-102), 2) := by decide +kernel
theorem dX6_match_38 : decode cX6_match 38 = .ok (.ireturn, 1) := by decide +kernel
theorem dX6_match_39 : decode cX6_match 39 = .ok (.aload_n 0, 1) := by decide +kernel
theorem dX6_match_40 : decode cX6_match 40 = .ok (.getfield 26, 3) := by decide +kernel
theorem dX6_match_43 : decode cX6_match 43 = .ok (.getfield 92, 3) := by decide +kernel
theorem dX6_match_46 : decode cX6_match 46 = .ok (.ifCond .ne 6, 3) := by decide +kernel
theorem dX6_match_49 : decode cX6_match 49 = .ok (.bipush (-103), 2) := by decide +kernel
theorem dX6_match_51 : decode cX6_match 51 = .ok (.ireturn, 1) := by decide +kernel
theorem dX6_match_52 : decode cX6_match 52 = .ok (.aload_n 0, 1) := by decide +kernel
theorem dX6_match_53 : decode cX6_match 53 = .ok (.invokevirtual 172, 3) := by decide +kernel
theorem dX6_match_56 : decode cX6_match 56 = .ok (.aload_n 0, 1) := by decide +kernel
theorem dX6_match_57 : decode cX6_match 57 = .ok (.getfield 43, 3) := by decide +kernel
theorem dX6_match_60 : decode cX6_match 60 = .ok (.invokevirtual 175, 3) := by decide +kernel
theorem dX6_match_63 : decode cX6_match 63 = .ok (.iload_n 2, 1) := by decide +kernel
theorem dX6_match_64 : decode cX6_match 64 = .ok (.ifCond .eq 13, 3) := by decide +kernel
theorem dX6_match_67 : decode cX6_match 67 = .ok (.aload_n 0, 1) := by decide +kernel
theorem dX6_match_68 : decode cX6_match 68 = .ok (.getfield 43, 3) := by decide +kernel
theorem dX6_match_71 : decode cX6_match 71 = .ok (.getfield 178, 3) := by decide +kernel
theorem dX6_match_74 : decode cX6_match 74 = .ok (.goto 15, 3) := by decide +kernel
theorem dX6_match_77 : decode cX6_match 77 = .ok (.aload_n 0, 1) := by decide +kernel
theorem dX6_match_78 : decode cX6_match 78 = .ok (.getfield 43, 3) := by decide +kernel
theorem dX6_match_81 : decode cX6_match 81 = .ok (.getfield 181, 3) := by decide +kernel
theorem dX6_match_84 : decode cX6_match 84 = .ok (.iload_n 1, 1) := by decide +kernel
theorem dX6_match_85 : decode cX6_match 85 = .ok (.bipush 10, 2) := by decide +kernel
theorem dX6_match_87 : decode cX6_match 87 = .ok (.isub, 1) := by decide +kernel
theorem dX6_match_88 : decode cX6_match 88 = .ok (.iaload, 1) := by decide +kernel
theorem dX6_match_89 : decode cX6_match 89 = .ok (.ireturn, 1) := by decide +kernel
theorem dX6_hear_0 : decode cX6_hear 0 = .ok (.aload_n 0, 1) := by decide +kernel
theorem dX6_hear_1 : decode cX6_hear 1 = .ok (.iload_n 1, 1) := by decide +kernel
theorem dX6_hear_2 : decode cX6_hear 2 = .ok (.invokevirtual 102, 3) := by decide +kernel
theorem dX6_hear_5 : decode cX6_hear 5 = .ok (.ifCond .eq 10, 3) := by decide +kernel
theorem dX6_hear_8 : decode cX6_hear 8 = .ok (.iload_n 2, 1) := by decide +kernel
theorem dX6_hear_9 : decode cX6_hear 9 = .ok (.invokestatic 95, 3) := by decide +kernel
theorem dX6_hear_12 : decode cX6_hear 12 = .ok (.ifCond .ne 6, 3) := by decide +kernel
theorem dX6_hear_15 : decode cX6_hear 15 = .ok (.bipush (-101), 2) := by decide +kernel
theorem dX6_hear_17 : decode cX6_hear 17 = .ok (.ireturn, 1) := by decide +kernel
theorem dX6_hear_18 : decode cX6_hear 18 = .ok (.iload_n 3, 1) := by decide +kernel
theorem dX6_hear_19 : decode cX6_hear 19 = .ok (.invokestatic 136, 3) := by decide +kernel
theorem dX6_hear_22 : decode cX6_hear 22 = .ok (.ifCond .ne 11, 3) := by decide +kernel
theorem dX6_hear_25 : decode cX6_hear 25 = .ok (.iload_n 3, 1) := by decide +kernel
theorem dX6_hear_26 : decode cX6_hear 26 = .ok (.iconst (-1), 1) := by decide +kernel
theorem dX6_hear_27 : decode cX6_hear 27 = .ok (.if_icmp .eq 6, 3) := by decide +kernel
theorem dX6_hear_30 : decode cX6_hear 30 = .ok (.bipush (-102), 2) := by decide +kernel
theorem dX6_hear_32 : decode cX6_hear 32 = .ok (.ireturn, 1) := by decide +kernel
theorem dX6_hear_33 : decode cX6_hear 33 = .ok (.aload_n 0, 1) := by decide +kernel
theorem dX6_hear_34 : decode cX6_hear 34 = .ok (.getfield 33, 3) := by decide +kernel
theorem dX6_hear_37 : decode cX6_hear 37 = .ok (.getfield 184, 3) := by decide +kernel
theorem dX6_hear_40 : decode cX6_hear 40 = .ok (.bipush 8, 2) := by decide +kernel
theorem dX6_hear_42 : decode cX6_hear 42 = .ok (.if_icmp .lt 6, 3) := by decide +kernel
theorem dX6_hear_45 : decode cX6_hear 45 = .ok (.bipush (-104), 2) := by decide +kernel
theorem dX6_hear_47 : decode cX6_hear 47 = .ok (.ireturn, 1) := by decide +kernel
theorem dX6_hear_48 : decode cX6_hear 48 = .ok (.aload_n 0, 1) := by decide +kernel
theorem dX6_hear_49 : decode cX6_hear 49 = .ok (.getfield 33, 3) := by decide +kernel
theorem dX6_hear_52 : decode cX6_hear 52 = .ok (.iload_n 1, 1) := by decide +kernel
theorem dX6_hear_53 : decode cX6_hear 53 = .ok (.iload_n 2, 1) := by decide +kernel
theorem dX6_hear_54 : decode cX6_hear 54 = .ok (.iload_n 3, 1) := by decide +kernel
theorem dX6_hear_55 : decode cX6_hear 55 = .ok (.invokevirtual 187, 3) := by decide +kernel
theorem dX6_hear_58 : decode cX6_hear 58 = .ok (.aload_n 0, 1) := by decide +kernel
theorem dX6_hear_59 : decode cX6_hear 59 = .ok (.getfield 33, 3) := by decide +kernel
theorem dX6_hear_62 : decode cX6_hear 62 = .ok (.getfield 184, 3) := by decide +kernel
theorem dX6_hear_65 : decode cX6_hear 65 = .ok (.ireturn, 1) := by decide +kernel
theorem dX6_forget_0 : decode cX6_forget 0 = .ok (.aload_n 0, 1) := by decide +kernel
theorem dX6_forget_1 : decode cX6_forget 1 = .ok (.getfield 33, 3) := by decide +kernel
theorem dX6_forget_4 : decode cX6_forget 4 = .ok (.getfield 184, 3) := by decide +kernel
theorem dX6_forget_7 : decode cX6_forget 7 = .ok (.istore_n 1, 1) := by decide +kernel
theorem dX6_forget_8 : decode cX6_forget 8 = .ok (.aload_n 0, 1) := by decide +kernel
theorem dX6_forget_9 : decode cX6_forget 9 = .ok (.getfield 33, 3) := by decide +kernel
theorem dX6_forget_12 : decode cX6_forget 12 = .ok (.iconst 0, 1) := by decide +kernel
theorem dX6_forget_13 : decode cX6_forget 13 = .ok (.putfield 184, 3) := by decide +kernel
theorem dX6_forget_16 : decode cX6_forget 16 = .ok (.iload_n 1, 1) := by decide +kernel
theorem dX6_forget_17 : decode cX6_forget 17 = .ok (.ireturn, 1) := by decide +kernel
theorem dX6_talks_0 : decode cX6_talks 0 = .ok (.iload_n 1, 1) := by decide +kernel
theorem dX6_talks_1 : decode cX6_talks 1 = .ok (.iconst 1, 1) := by decide +kernel
theorem dX6_talks_2 : decode cX6_talks 2 = .ok (.if_icmp .lt 22, 3) := by decide +kernel
theorem dX6_talks_5 : decode cX6_talks 5 = .ok (.iload_n 1, 1) := by decide +kernel
theorem dX6_talks_6 : decode cX6_talks 6 = .ok (.bipush 60, 2) := by decide +kernel
theorem dX6_talks_8 : decode cX6_talks 8 = .ok (.if_icmp .gt 16, 3) := by decide +kernel
theorem dX6_talks_11 : decode cX6_talks 11 = .ok (.iload_n 2, 1) := by decide +kernel
theorem dX6_talks_12 : decode cX6_talks 12 = .ok (.ifCond .lt 12, 3) := by decide +kernel
theorem dX6_talks_15 : decode cX6_talks 15 = .ok (.iload_n 3, 1) := by decide +kernel
theorem dX6_talks_16 : decode cX6_talks 16 = .ok (.ifCond .lt 8, 3) := by decide +kernel
theorem dX6_talks_19 : decode cX6_talks 19 = .ok (.iload_n 3, 1) := by decide +kernel
theorem dX6_talks_20 : decode cX6_talks 20 = .ok (.iconst 3, 1) := by decide +kernel
theorem dX6_talks_21 : decode cX6_talks 21 = .ok (.if_icmp .lt 6, 3) := by decide +kernel
theorem dX6_talks_24 : decode cX6_talks 24 = .ok (.bipush (-102), 2) := by decide +kernel
theorem dX6_talks_26 : decode cX6_talks 26 = .ok (.ireturn, 1) := by decide +kernel
theorem dX6_talks_27 : decode cX6_talks 27 = .ok (.aload_n 0, 1) := by decide +kernel
theorem dX6_talks_28 : decode cX6_talks 28 = .ok (.getfield 26, 3) := by decide +kernel
theorem dX6_talks_31 : decode cX6_talks 31 = .ok (.getfield 92, 3) := by decide +kernel
theorem dX6_talks_34 : decode cX6_talks 34 = .ok (.ifCond .ne 6, 3) := by decide +kernel
theorem dX6_talks_37 : decode cX6_talks 37 = .ok (.bipush (-103), 2) := by decide +kernel
theorem dX6_talks_39 : decode cX6_talks 39 = .ok (.ireturn, 1) := by decide +kernel
theorem dX6_talks_40 : decode cX6_talks 40 = .ok (.aload_n 0, 1) := by decide +kernel
theorem dX6_talks_41 : decode cX6_talks 41 = .ok (.getfield 50, 3) := by decide +kernel
theorem dX6_talks_44 : decode cX6_talks 44 = .ok (.aload_n 0, 1) := by decide +kernel
theorem dX6_talks_45 : decode cX6_talks 45 = .ok (.getfield 26, 3) := by decide +kernel
theorem dX6_talks_48 : decode cX6_talks 48 = .ok (.aload_n 0, 1) := by decide +kernel
theorem dX6_talks_49 : decode cX6_talks 49 = .ok (.getfield 33, 3) := by decide +kernel
theorem dX6_talks_52 : decode cX6_talks 52 = .ok (.iload_n 1, 1) := by decide +kernel
theorem dX6_talks_53 : decode cX6_talks 53 = .ok (.iload_n 2, 1) := by decide +kernel
theorem dX6_talks_54 : decode cX6_talks 54 = .ok (.invokevirtual 191, 3) := by decide +kernel
theorem dX6_talks_57 : decode cX6_talks 57 = .ok (.iload_n 3, 1) := by decide +kernel
theorem dX6_talks_58 : decode cX6_talks 58 = .ok (.lookupswitch 42 #[(0, 26), (1, 34)], 26) := by decide +kernel
theorem dX6_talks_84 : decode cX6_talks 84 = .ok (.aload_n 0, 1) := by decide +kernel
theorem dX6_talks_85 : decode cX6_talks 85 = .ok (.getfield 50, 3) := by decide +kernel
theorem dX6_talks_88 : decode cX6_talks 88 = .ok (.getfield 195, 3) := by decide +kernel
theorem dX6_talks_91 : decode cX6_talks 91 = .ok (.ireturn, 1) := by decide +kernel
theorem dX6_talks_92 : decode cX6_talks 92 = .ok (.aload_n 0, 1) := by decide +kernel
theorem dX6_talks_93 : decode cX6_talks 93 = .ok (.getfield 50, 3) := by decide +kernel
theorem dX6_talks_96 : decode cX6_talks 96 = .ok (.getfield 196, 3) := by decide +kernel
theorem dX6_talks_99 : decode cX6_talks 99 = .ok (.ireturn, 1) := by decide +kernel
theorem dX6_talks_100 : decode cX6_talks 100 = .ok (.aload_n 0, 1) := by decide +kernel
theorem dX6_talks_101 : decode cX6_talks 101 = .ok (.getfield 50, 3) := by decide +kernel
theorem dX6_talks_104 : decode cX6_talks 104 = .ok (.getfield 199, 3) := by decide +kernel
theorem dX6_talks_107 : decode cX6_talks 107 = .ok (.l2i, 1) := by decide +kernel
theorem dX6_talks_108 : decode cX6_talks 108 = .ok (.ireturn, 1) := by decide +kernel
theorem dX6_image_0 : decode cX6_image 0 = .ok (.aload_n 0, 1) := by decide +kernel
theorem dX6_image_1 : decode cX6_image 1 = .ok (.getfield 26, 3) := by decide +kernel
theorem dX6_image_4 : decode cX6_image 4 = .ok (.getfield 92, 3) := by decide +kernel
theorem dX6_image_7 : decode cX6_image 7 = .ok (.ifCond .ne 6, 3) := by decide +kernel
theorem dX6_image_10 : decode cX6_image 10 = .ok (.bipush (-103), 2) := by decide +kernel
theorem dX6_image_12 : decode cX6_image 12 = .ok (.ireturn, 1) := by decide +kernel
theorem dX6_image_13 : decode cX6_image 13 = .ok (.aload_n 0, 1) := by decide +kernel
theorem dX6_image_14 : decode cX6_image 14 = .ok (.getfield 37, 3) := by decide +kernel
theorem dX6_image_17 : decode cX6_image 17 = .ok (.aload_n 0, 1) := by decide +kernel
theorem dX6_image_18 : decode cX6_image 18 = .ok (.getfield 33, 3) := by decide +kernel
theorem dX6_image_21 : decode cX6_image 21 = .ok (.invokevirtual 203, 3) := by decide +kernel
theorem dX6_image_24 : decode cX6_image 24 = .ok (.aload_n 0, 1) := by decide +kernel
theorem dX6_image_25 : decode cX6_image 25 = .ok (.iconst 1, 1) := by decide +kernel
theorem dX6_image_26 : decode cX6_image 26 = .ok (.putfield 54, 3) := by decide +kernel
theorem dX6_image_29 : decode cX6_image 29 = .ok (.aload_n 0, 1) := by decide +kernel
theorem dX6_image_30 : decode cX6_image 30 = .ok (.getfield 37, 3) := by decide +kernel
theorem dX6_image_33 : decode cX6_image 33 = .ok (.getfield 145, 3) := by decide +kernel
theorem dX6_image_36 : decode cX6_image 36 = .ok (.ireturn, 1) := by decide +kernel
theorem dX6_restore_0 : decode cX6_restore 0 = .ok (.aload_n 0, 1) := by decide +kernel
theorem dX6_restore_1 : decode cX6_restore 1 = .ok (.getfield 54, 3) := by decide +kernel
theorem dX6_restore_4 : decode cX6_restore 4 = .ok (.ifCond .ne 6, 3) := by decide +kernel
theorem dX6_restore_7 : decode cX6_restore 7 = .ok (.bipush (-103), 2) := by decide +kernel
theorem dX6_restore_9 : decode cX6_restore 9 = .ok (.ireturn, 1) := by decide +kernel
theorem dX6_restore_10 : decode cX6_restore 10 = .ok (.aload_n 0, 1) := by decide +kernel
theorem dX6_restore_11 : decode cX6_restore 11 = .ok (.getfield 33, 3) := by decide +kernel
theorem dX6_restore_14 : decode cX6_restore 14 = .ok (.aload_n 0, 1) := by decide +kernel
theorem dX6_restore_15 : decode cX6_restore 15 = .ok (.getfield 37, 3) := by decide +kernel
theorem dX6_restore_18 : decode cX6_restore 18 = .ok (.invokevirtual 203, 3) := by decide +kernel
theorem dX6_restore_21 : decode cX6_restore 21 = .ok (.aload_n 0, 1) := by decide +kernel
theorem dX6_restore_22 : decode cX6_restore 22 = .ok (.getfield 33, 3) := by decide +kernel
theorem dX6_restore_25 : decode cX6_restore 25 = .ok (.getfield 145, 3) := by decide +kernel
theorem dX6_restore_28 : decode cX6_restore 28 = .ok (.ireturn, 1) := by decide +kernel
theorem dX6_count_0 : decode cX6_count 0 = .ok (.iload_n 1, 1) := by decide +kernel
theorem dX6_count_1 : decode cX6_count 1 = .ok (.tableswitch 120 0 8 #[51, 59, 67, 75, 83, 91, 99, 107, 115], 51) := by decide +kernel
theorem dX6_count_52 : decode cX6_count 52 = .ok (.aload_n 0, 1) := by decide +kernel
theorem dX6_count_53 : decode cX6_count 53 = .ok (.getfield 26, 3) := by decide +kernel
theorem dX6_count_56 : decode cX6_count 56 = .ok (.getfield 92, 3) := by decide +kernel
theorem dX6_count_59 : decode cX6_count 59 = .ok (.ireturn, 1) := by decide +kernel
theorem dX6_count_60 : decode cX6_count 60 = .ok (.aload_n 0, 1) := by decide +kernel
theorem dX6_count_61 : decode cX6_count 61 = .ok (.getfield 33, 3) := by decide +kernel
theorem dX6_count_64 : decode cX6_count 64 = .ok (.getfield 145, 3) := by decide +kernel
theorem dX6_count_67 : decode cX6_count 67 = .ok (.ireturn, 1) := by decide +kernel
theorem dX6_count_68 : decode cX6_count 68 = .ok (.aload_n 0, 1) := by decide +kernel
theorem dX6_count_69 : decode cX6_count 69 = .ok (.getfield 33, 3) := by decide +kernel
theorem dX6_count_72 : decode cX6_count 72 = .ok (.invokevirtual 206, 3) := by decide +kernel
theorem dX6_count_75 : decode cX6_count 75 = .ok (.ireturn, 1) := by decide +kernel
theorem dX6_count_76 : decode cX6_count 76 = .ok (.aload_n 0, 1) := by decide +kernel
theorem dX6_count_77 : decode cX6_count 77 = .ok (.getfield 33, 3) := by decide +kernel
theorem dX6_count_80 : decode cX6_count 80 = .ok (.invokevirtual 210, 3) := by decide +kernel
theorem dX6_count_83 : decode cX6_count 83 = .ok (.ireturn, 1) := by decide +kernel
theorem dX6_count_84 : decode cX6_count 84 = .ok (.aload_n 0, 1) := by decide +kernel
theorem dX6_count_85 : decode cX6_count 85 = .ok (.getfield 33, 3) := by decide +kernel
theorem dX6_count_88 : decode cX6_count 88 = .ok (.invokevirtual 213, 3) := by decide +kernel
theorem dX6_count_91 : decode cX6_count 91 = .ok (.ireturn, 1) := by decide +kernel
theorem dX6_count_92 : decode cX6_count 92 = .ok (.aload_n 0, 1) := by decide +kernel
theorem dX6_count_93 : decode cX6_count 93 = .ok (.getfield 33, 3) := by decide +kernel
theorem dX6_count_96 : decode cX6_count 96 = .ok (.getfield 139, 3) := by decide +kernel
theorem dX6_count_99 : decode cX6_count 99 = .ok (.ireturn, 1) := by decide +kernel
theorem dX6_count_100 : decode cX6_count 100 = .ok (.aload_n 0, 1) := by decide +kernel
theorem dX6_count_101 : decode cX6_count 101 = .ok (.getfield 33, 3) := by decide +kernel
theorem dX6_count_104 : decode cX6_count 104 = .ok (.getfield 184, 3) := by decide +kernel
theorem dX6_count_107 : decode cX6_count 107 = .ok (.ireturn, 1) := by decide +kernel
theorem dX6_count_108 : decode cX6_count 108 = .ok (.aload_n 0, 1) := by decide +kernel
theorem dX6_count_109 : decode cX6_count 109 = .ok (.getfield 10, 3) := by decide +kernel
theorem dX6_count_112 : decode cX6_count 112 = .ok (.getfield 62, 3) := by decide +kernel
theorem dX6_count_115 : decode cX6_count 115 = .ok (.ireturn, 1) := by decide +kernel
theorem dX6_count_116 : decode cX6_count 116 = .ok (.aload_n 0, 1) := by decide +kernel
theorem dX6_count_117 : decode cX6_count 117 = .ok (.getfield 58, 3) := by decide +kernel
theorem dX6_count_120 : decode cX6_count 120 = .ok (.ireturn, 1) := by decide +kernel
theorem dX6_count_121 : decode cX6_count 121 = .ok (.bipush (-102), 2) := by decide +kernel
theorem dX6_count_123 : decode cX6_count 123 = .ok (.ireturn, 1) := by decide +kernel
theorem dX6_digest_0 : decode cX6_digest 0 = .ok (.ldc2_w 216, 3) := by decide +kernel
theorem dX6_digest_3 : decode cX6_digest 3 = .ok (.lstore_n 1, 1) := by decide +kernel
theorem dX6_digest_4 : decode cX6_digest 4 = .ok (.iconst 0, 1) := by decide +kernel
theorem dX6_digest_5 : decode cX6_digest 5 = .ok (.istore_n 3, 1) := by decide +kernel
theorem dX6_digest_6 : decode cX6_digest 6 = .ok (.aload_n 0, 1) := by decide +kernel
theorem dX6_digest_7 : decode cX6_digest 7 = .ok (.getfield 26, 3) := by decide +kernel
theorem dX6_digest_10 : decode cX6_digest 10 = .ok (.getfield 92, 3) := by decide +kernel
theorem dX6_digest_13 : decode cX6_digest 13 = .ok (.ifCond .le 29, 3) := by decide +kernel
theorem dX6_digest_16 : decode cX6_digest 16 = .ok (.iload_n 3, 1) := by decide +kernel
theorem dX6_digest_17 : decode cX6_digest 17 = .ok (.iconst 4, 1) := by decide +kernel
theorem dX6_digest_18 : decode cX6_digest 18 = .ok (.if_icmp .ge 24, 3) := by decide +kernel
theorem dX6_digest_21 : decode cX6_digest 21 = .ok (.lload_n 1, 1) := by decide +kernel
theorem dX6_digest_22 : decode cX6_digest 22 = .ok (.aload_n 0, 1) := by decide +kernel
theorem dX6_digest_23 : decode cX6_digest 23 = .ok (.getfield 26, 3) := by decide +kernel
theorem dX6_digest_26 : decode cX6_digest 26 = .ok (.getfield 99, 3) := by decide +kernel
theorem dX6_digest_29 : decode cX6_digest 29 = .ok (.iload_n 3, 1) := by decide +kernel
theorem dX6_digest_30 : decode cX6_digest 30 = .ok (.iaload, 1) := by decide +kernel
theorem dX6_digest_31 : decode cX6_digest 31 = .ok (.i2l, 1) := by decide +kernel
theorem dX6_digest_32 : decode cX6_digest 32 = .ok (.invokestatic 218, 3) := by decide +kernel
theorem dX6_digest_35 : decode cX6_digest 35 = .ok (.lstore_n 1, 1) := by decide +kernel
theorem dX6_digest_36 : decode cX6_digest 36 = .ok (.iinc 3 1, 3) := by decide +kernel
theorem dX6_digest_39 : decode cX6_digest 39 = .ok (.goto (-33), 3) := by decide +kernel
theorem dX6_digest_42 : decode cX6_digest 42 = .ok (.iconst 0, 1) := by decide +kernel
theorem dX6_digest_43 : decode cX6_digest 43 = .ok (.istore_n 3, 1) := by decide +kernel
theorem dX6_digest_44 : decode cX6_digest 44 = .ok (.iload_n 3, 1) := by decide +kernel
theorem dX6_digest_45 : decode cX6_digest 45 = .ok (.aload_n 0, 1) := by decide +kernel
theorem dX6_digest_46 : decode cX6_digest 46 = .ok (.getfield 26, 3) := by decide +kernel
theorem dX6_digest_49 : decode cX6_digest 49 = .ok (.getfield 92, 3) := by decide +kernel
theorem dX6_digest_52 : decode cX6_digest 52 = .ok (.if_icmp .ge 66, 3) := by decide +kernel
theorem dX6_digest_55 : decode cX6_digest 55 = .ok (.iconst 0, 1) := by decide +kernel
theorem dX6_digest_56 : decode cX6_digest 56 = .ok (.istore 4, 2) := by decide +kernel
theorem dX6_digest_58 : decode cX6_digest 58 = .ok (.iload 4, 2) := by decide +kernel
theorem dX6_digest_60 : decode cX6_digest 60 = .ok (.bipush 9, 2) := by decide +kernel
theorem dX6_digest_62 : decode cX6_digest 62 = .ok (.if_icmp .ge 22, 3) := by decide +kernel
theorem dX6_digest_65 : decode cX6_digest 65 = .ok (.lload_n 1, 1) := by decide +kernel
theorem dX6_digest_66 : decode cX6_digest 66 = .ok (.aload_n 0, 1) := by decide +kernel
theorem dX6_digest_67 : decode cX6_digest 67 = .ok (.iload_n 3, 1) := by decide +kernel
theorem dX6_digest_68 : decode cX6_digest 68 = .ok (.iload 4, 2) := by decide +kernel
theorem dX6_digest_70 : decode cX6_digest 70 = .ok (.invokevirtual 222, 3) := by decide +kernel
theorem dX6_digest_73 : decode cX6_digest 73 = .ok (.i2l, 1) := by decide +kernel
theorem dX6_digest_74 : decode cX6_digest 74 = .ok (.invokestatic 218, 3) := by decide +kernel
theorem dX6_digest_77 : decode cX6_digest 77 = .ok (.lstore_n 1, 1) := by decide +kernel
theorem dX6_digest_78 : decode cX6_digest 78 = .ok (.iinc 4 1, 3) := by decide +kernel
theorem dX6_digest_81 : decode cX6_digest 81 = .ok (.goto (-23), 3) := by decide +kernel
theorem dX6_digest_84 : decode cX6_digest 84 = .ok (.iconst 0, 1) := by decide +kernel
theorem dX6_digest_85 : decode cX6_digest 85 = .ok (.istore 4, 2) := by decide +kernel
theorem dX6_digest_87 : decode cX6_digest 87 = .ok (.iload 4, 2) := by decide +kernel
theorem dX6_digest_89 : decode cX6_digest 89 = .ok (.iconst 4, 1) := by decide +kernel
theorem dX6_digest_90 : decode cX6_digest 90 = .ok (.if_icmp .ge 22, 3) := by decide +kernel
theorem dX6_digest_93 : decode cX6_digest 93 = .ok (.lload_n 1, 1) := by decide +kernel
theorem dX6_digest_94 : decode cX6_digest 94 = .ok (.aload_n 0, 1) := by decide +kernel
theorem dX6_digest_95 : decode cX6_digest 95 = .ok (.iload_n 3, 1) := by decide +kernel
theorem dX6_digest_96 : decode cX6_digest 96 = .ok (.iload 4, 2) := by decide +kernel
theorem dX6_digest_98 : decode cX6_digest 98 = .ok (.invokevirtual 142, 3) := by decide +kernel
theorem dX6_digest_101 : decode cX6_digest 101 = .ok (.i2l, 1) := by decide +kernel
theorem dX6_digest_102 : decode cX6_digest 102 = .ok (.invokestatic 218, 3) := by decide +kernel
theorem dX6_digest_105 : decode cX6_digest 105 = .ok (.lstore_n 1, 1) := by decide +kernel
theorem dX6_digest_106 : decode cX6_digest 106 = .ok (.iinc 4 1, 3) := by decide +kernel
theorem dX6_digest_109 : decode cX6_digest 109 = .ok (.goto (-22), 3) := by decide +kernel
theorem dX6_digest_112 : decode cX6_digest 112 = .ok (.iinc 3 1, 3) := by decide +kernel
theorem dX6_digest_115 : decode cX6_digest 115 = .ok (.goto (-71), 3) := by decide +kernel
theorem dX6_digest_118 : decode cX6_digest 118 = .ok (.iconst 0, 1) := by decide +kernel
theorem dX6_digest_119 : decode cX6_digest 119 = .ok (.istore_n 3, 1) := by decide +kernel
theorem dX6_digest_120 : decode cX6_digest 120 = .ok (.iload_n 3, 1) := by decide +kernel
theorem dX6_digest_121 : decode cX6_digest 121 = .ok (.aload_n 0, 1) := by decide +kernel
theorem dX6_digest_122 : decode cX6_digest 122 = .ok (.getfield 33, 3) := by decide +kernel
theorem dX6_digest_125 : decode cX6_digest 125 = .ok (.getfield 145, 3) := by decide +kernel
theorem dX6_digest_128 : decode cX6_digest 128 = .ok (.if_icmp .ge 37, 3) := by decide +kernel
theorem dX6_digest_131 : decode cX6_digest 131 = .ok (.iconst 0, 1) := by decide +kernel
theorem dX6_digest_132 : decode cX6_digest 132 = .ok (.istore 4, 2) := by decide +kernel
theorem dX6_digest_134 : decode cX6_digest 134 = .ok (.iload 4, 2) := by decide +kernel
theorem dX6_digest_136 : decode cX6_digest 136 = .ok (.iconst 5, 1) := by decide +kernel
theorem dX6_digest_137 : decode cX6_digest 137 = .ok (.if_icmp .ge 22, 3) := by decide +kernel
theorem dX6_digest_140 : decode cX6_digest 140 = .ok (.lload_n 1, 1) := by decide +kernel
theorem dX6_digest_141 : decode cX6_digest 141 = .ok (.aload_n 0, 1) := by decide +kernel
theorem dX6_digest_142 : decode cX6_digest 142 = .ok (.iload_n 3, 1) := by decide +kernel
theorem dX6_digest_143 : decode cX6_digest 143 = .ok (.iload 4, 2) := by decide +kernel
theorem dX6_digest_145 : decode cX6_digest 145 = .ok (.invokevirtual 225, 3) := by decide +kernel
theorem dX6_digest_148 : decode cX6_digest 148 = .ok (.i2l, 1) := by decide +kernel
theorem dX6_digest_149 : decode cX6_digest 149 = .ok (.invokestatic 218, 3) := by decide +kernel
theorem dX6_digest_152 : decode cX6_digest 152 = .ok (.lstore_n 1, 1) := by decide +kernel
theorem dX6_digest_153 : decode cX6_digest 153 = .ok (.iinc 4 1, 3) := by decide +kernel
theorem dX6_digest_156 : decode cX6_digest 156 = .ok (.goto (-22), 3) := by decide +kernel
theorem dX6_digest_159 : decode cX6_digest 159 = .ok (.iinc 3 1, 3) := by decide +kernel
theorem dX6_digest_162 : decode cX6_digest 162 = .ok (.goto (-42), 3) := by decide +kernel
theorem dX6_digest_165 : decode cX6_digest 165 = .ok (.aload_n 0, 1) := by decide +kernel
theorem dX6_digest_166 : decode cX6_digest 166 = .ok (.getfield 26, 3) := by decide +kernel
theorem dX6_digest_169 : decode cX6_digest 169 = .ok (.getfield 92, 3) := by decide +kernel
theorem dX6_digest_172 : decode cX6_digest 172 = .ok (.ifCond .le 41, 3) := by decide +kernel
theorem dX6_digest_175 : decode cX6_digest 175 = .ok (.lload_n 1, 1) := by decide +kernel
theorem dX6_digest_176 : decode cX6_digest 176 = .ok (.aload_n 0, 1) := by decide +kernel
theorem dX6_digest_177 : decode cX6_digest 177 = .ok (.iconst 0, 1) := by decide +kernel
theorem dX6_digest_178 : decode cX6_digest 178 = .ok (.invokevirtual 228, 3) := by decide +kernel
theorem dX6_digest_181 : decode cX6_digest 181 = .ok (.i2l, 1) := by decide +kernel
theorem dX6_digest_182 : decode cX6_digest 182 = .ok (.invokestatic 218, 3) := by decide +kernel
theorem dX6_digest_185 : decode cX6_digest 185 = .ok (.lstore_n 1, 1) := by decide +kernel
theorem dX6_digest_186 : decode cX6_digest 186 = .ok (.iconst 0, 1) := by decide +kernel
theorem dX6_digest_187 : decode cX6_digest 187 = .ok (.istore_n 3, 1) := by decide +kernel
theorem dX6_digest_188 : decode cX6_digest 188 = .ok (.iload_n 3, 1) := by decide +kernel
theorem dX6_digest_189 : decode cX6_digest 189 = .ok (.iconst 4, 1) := by decide +kernel
theorem dX6_digest_190 : decode cX6_digest 190 = .ok (.if_icmp .ge 23, 3) := by decide +kernel
theorem dX6_digest_193 : decode cX6_digest 193 = .ok (.lload_n 1, 1) := by decide +kernel
theorem dX6_digest_194 : decode cX6_digest 194 = .ok (.aload_n 0, 1) := by decide +kernel
theorem dX6_digest_195 : decode cX6_digest 195 = .ok (.bipush 10, 2) := by decide +kernel
theorem dX6_digest_197 : decode cX6_digest 197 = .ok (.iload_n 3, 1) := by decide +kernel
theorem dX6_digest_198 : decode cX6_digest 198 = .ok (.iadd, 1) := by decide +kernel
theorem dX6_digest_199 : decode cX6_digest 199 = .ok (.invokevirtual 228, 3) := by decide +kernel
theorem dX6_digest_202 : decode cX6_digest 202 = .ok (.i2l, 1) := by decide +kernel
theorem dX6_digest_203 : decode cX6_digest 203 = .ok (.invokestatic 218, 3) := by decide +kernel
theorem dX6_digest_206 : decode cX6_digest 206 = .ok (.lstore_n 1, 1) := by decide +kernel
theorem dX6_digest_207 : decode cX6_digest 207 = .ok (.iinc 3 1, 3) := by decide +kernel
theorem dX6_digest_210 : decode cX6_digest 210 = .ok (.goto (-22), 3) := by decide +kernel
theorem dX6_digest_213 : decode cX6_digest 213 = .ok (.iconst 0, 1) := by decide +kernel
theorem dX6_digest_214 : decode cX6_digest 214 = .ok (.istore_n 3, 1) := by decide +kernel
theorem dX6_digest_215 : decode cX6_digest 215 = .ok (.iload_n 3, 1) := by decide +kernel
theorem dX6_digest_216 : decode cX6_digest 216 = .ok (.aload_n 0, 1) := by decide +kernel
theorem dX6_digest_217 : decode cX6_digest 217 = .ok (.getfield 10, 3) := by decide +kernel
theorem dX6_digest_220 : decode cX6_digest 220 = .ok (.getfield 62, 3) := by decide +kernel
theorem dX6_digest_223 : decode cX6_digest 223 = .ok (.if_icmp .ge 24, 3) := by decide +kernel
theorem dX6_digest_226 : decode cX6_digest 226 = .ok (.lload_n 1, 1) := by decide +kernel
theorem dX6_digest_227 : decode cX6_digest 227 = .ok (.aload_n 0, 1) := by decide +kernel
theorem dX6_digest_228 : decode cX6_digest 228 = .ok (.getfield 10, 3) := by decide +kernel
theorem dX6_digest_231 : decode cX6_digest 231 = .ok (.getfield 231, 3) := by decide +kernel
theorem dX6_digest_234 : decode cX6_digest 234 = .ok (.iload_n 3, 1) := by decide +kernel
theorem dX6_digest_235 : decode cX6_digest 235 = .ok (.iaload, 1) := by decide +kernel
theorem dX6_digest_236 : decode cX6_digest 236 = .ok (.i2l, 1) := by decide +kernel
theorem dX6_digest_237 : decode cX6_digest 237 = .ok (.invokestatic 218, 3) := by decide +kernel
theorem dX6_digest_240 : decode cX6_digest 240 = .ok (.lstore_n 1, 1) := by decide +kernel
theorem dX6_digest_241 : decode cX6_digest 241 = .ok (.iinc 3 1, 3) := by decide +kernel
theorem dX6_digest_244 : decode cX6_digest 244 = .ok (.goto (-29), 3) := by decide +kernel
theorem dX6_digest_247 : decode cX6_digest 247 = .ok (.iconst 0, 1) := by decide +kernel
theorem dX6_digest_248 : decode cX6_digest 248 = .ok (.istore_n 3, 1) := by decide +kernel
theorem dX6_digest_249 : decode cX6_digest 249 = .ok (.iload_n 3, 1) := by decide +kernel
theorem dX6_digest_250 : decode cX6_digest 250 = .ok (.bipush 9, 2) := by decide +kernel
theorem dX6_digest_252 : decode cX6_digest 252 = .ok (.if_icmp .ge 20, 3) := by decide +kernel
theorem dX6_digest_255 : decode cX6_digest 255 = .ok (.lload_n 1, 1) := by decide +kernel
theorem dX6_digest_256 : decode cX6_digest 256 = .ok (.aload_n 0, 1) := by decide +kernel
theorem dX6_digest_257 : decode cX6_digest 257 = .ok (.iload_n 3, 1) := by decide +kernel
theorem dX6_digest_258 : decode cX6_digest 258 = .ok (.invokevirtual 234, 3) := by decide +kernel
theorem dX6_digest_261 : decode cX6_digest 261 = .ok (.i2l, 1) := by decide +kernel
theorem dX6_digest_262 : decode cX6_digest 262 = .ok (.invokestatic 218, 3) := by decide +kernel
theorem dX6_digest_265 : decode cX6_digest 265 = .ok (.lstore_n 1, 1) := by decide +kernel
theorem dX6_digest_266 : decode cX6_digest 266 = .ok (.iinc 3 1, 3) := by decide +kernel
theorem dX6_digest_269 : decode cX6_digest 269 = .ok (.goto (-20), 3) := by decide +kernel
theorem dX6_digest_272 : decode cX6_digest 272 = .ok (.lload_n 1, 1) := by decide +kernel
theorem dX6_digest_273 : decode cX6_digest 273 = .ok (.lreturn, 1) := by decide +kernel
theorem dX6_mixed_0 : decode cX6_mixed 0 = .ok (.ldc2_w 237, 3) := by decide +kernel
theorem dX6_mixed_3 : decode cX6_mixed 3 = .ok (.lload_n 0, 1) := by decide +kernel
theorem dX6_mixed_4 : decode cX6_mixed 4 = .ok (.lmul, 1) := by decide +kernel
theorem dX6_mixed_5 : decode cX6_mixed 5 = .ok (.lload_n 2, 1) := by decide +kernel
theorem dX6_mixed_6 : decode cX6_mixed 6 = .ok (.ladd, 1) := by decide +kernel
theorem dX6_mixed_7 : decode cX6_mixed 7 = .ok (.lreturn, 1) := by decide +kernel
theorem dX6_isSpeaker_0 : decode cX6_isSpeaker 0 = .ok (.iload_n 1, 1) := by decide +kernel
theorem dX6_isSpeaker_1 : decode cX6_isSpeaker 1 = .ok (.ifCond .lt 18, 3) := by decide +kernel
theorem dX6_isSpeaker_4 : decode cX6_isSpeaker 4 = .ok (.iload_n 1, 1) := by decide +kernel
theorem dX6_isSpeaker_5 : decode cX6_isSpeaker 5 = .ok (.aload_n 0, 1) := by decide +kernel
theorem dX6_isSpeaker_6 : decode cX6_isSpeaker 6 = .ok (.getfield 26, 3) := by decide +kernel
theorem dX6_isSpeaker_9 : decode cX6_isSpeaker 9 = .ok (.getfield 92, 3) := by decide +kernel
theorem dX6_isSpeaker_12 : decode cX6_isSpeaker 12 = .ok (.if_icmp .ge 7, 3) := by decide +kernel
theorem dX6_isSpeaker_15 : decode cX6_isSpeaker 15 = .ok (.iconst 1, 1) := by decide +kernel
theorem dX6_isSpeaker_16 : decode cX6_isSpeaker 16 = .ok (.goto 4, 3) := by decide +kernel
theorem dX6_isSpeaker_19 : decode cX6_isSpeaker 19 = .ok (.iconst 0, 1) := by decide +kernel
theorem dX6_isSpeaker_20 : decode cX6_isSpeaker 20 = .ok (.ireturn, 1) := by decide +kernel
theorem dX6_isSentence_0 : decode cX6_isSentence 0 = .ok (.iload_n 1, 1) := by decide +kernel
theorem dX6_isSentence_1 : decode cX6_isSentence 1 = .ok (.ifCond .lt 18, 3) := by decide +kernel
theorem dX6_isSentence_4 : decode cX6_isSentence 4 = .ok (.iload_n 1, 1) := by decide +kernel
theorem dX6_isSentence_5 : decode cX6_isSentence 5 = .ok (.aload_n 0, 1) := by decide +kernel
theorem dX6_isSentence_6 : decode cX6_isSentence 6 = .ok (.getfield 33, 3) := by decide +kernel
theorem dX6_isSentence_9 : decode cX6_isSentence 9 = .ok (.getfield 145, 3) := by decide +kernel
theorem dX6_isSentence_12 : decode cX6_isSentence 12 = .ok (.if_icmp .ge 7, 3) := by decide +kernel
theorem dX6_isSentence_15 : decode cX6_isSentence 15 = .ok (.iconst 1, 1) := by decide +kernel
theorem dX6_isSentence_16 : decode cX6_isSentence 16 = .ok (.goto 4, 3) := by decide +kernel
theorem dX6_isSentence_19 : decode cX6_isSentence 19 = .ok (.iconst 0, 1) := by decide +kernel
theorem dX6_isSentence_20 : decode cX6_isSentence 20 = .ok (.ireturn, 1) := by decide +kernel
theorem dX6_isOpening_0 : decode cX6_isOpening 0 = .ok (.iload_n 0, 1) := by decide +kernel
theorem dX6_isOpening_1 : decode cX6_isOpening 1 = .ok (.ifCond .lt 12, 3) := by decide +kernel
theorem dX6_isOpening_4 : decode cX6_isOpening 4 = .ok (.iload_n 0, 1) := by decide +kernel
theorem dX6_isOpening_5 : decode cX6_isOpening 5 = .ok (.iconst 4, 1) := by decide +kernel
theorem dX6_isOpening_6 : decode cX6_isOpening 6 = .ok (.if_icmp .ge 7, 3) := by decide +kernel
theorem dX6_isOpening_9 : decode cX6_isOpening 9 = .ok (.iconst 1, 1) := by decide +kernel
theorem dX6_isOpening_10 : decode cX6_isOpening 10 = .ok (.goto 4, 3) := by decide +kernel
theorem dX6_isOpening_13 : decode cX6_isOpening 13 = .ok (.iconst 0, 1) := by decide +kernel
theorem dX6_isOpening_14 : decode cX6_isOpening 14 = .ok (.ireturn, 1) := by decide +kernel
theorem dX6_isEnding_0 : decode cX6_isEnding 0 = .ok (.iload_n 0, 1) := by decide +kernel
theorem dX6_isEnding_1 : decode cX6_isEnding 1 = .ok (.ifCond .lt 13, 3) := by decide +kernel
theorem dX6_isEnding_4 : decode cX6_isEnding 4 = .ok (.iload_n 0, 1) := by decide +kernel
theorem dX6_isEnding_5 : decode cX6_isEnding 5 = .ok (.bipush 6, 2) := by decide +kernel
theorem dX6_isEnding_7 : decode cX6_isEnding 7 = .ok (.if_icmp .ge 7, 3) := by decide +kernel
theorem dX6_isEnding_10 : decode cX6_isEnding 10 = .ok (.iconst 1, 1) := by decide +kernel
theorem dX6_isEnding_11 : decode cX6_isEnding 11 = .ok (.goto 4, 3) := by decide +kernel
theorem dX6_isEnding_14 : decode cX6_isEnding 14 = .ok (.iconst 0, 1) := by decide +kernel
theorem dX6_isEnding_15 : decode cX6_isEnding 15 = .ok (.ireturn, 1) := by decide +kernel
theorem dX6_isOfKind_0 : decode cX6_isOfKind 0 = .ok (.iload_n 1, 1) := by decide +kernel
theorem dX6_isOfKind_1 : decode cX6_isOfKind 1 = .ok (.ifCond .eq 18, 3) := by decide +kernel
theorem dX6_isOfKind_4 : decode cX6_isOfKind 4 = .ok (.iload_n 1, 1) := by decide +kernel
theorem dX6_isOfKind_5 : decode cX6_isOfKind 5 = .ok (.iload_n 0, 1) := by decide +kernel
theorem dX6_isOfKind_6 : decode cX6_isOfKind 6 = .ok (.if_icmp .eq 13, 3) := by decide +kernel
theorem dX6_isOfKind_9 : decode cX6_isOfKind 9 = .ok (.iload_n 1, 1) := by decide +kernel
theorem dX6_isOfKind_10 : decode cX6_isOfKind 10 = .ok (.iconst 3, 1) := by decide +kernel
theorem dX6_isOfKind_11 : decode cX6_isOfKind 11 = .ok (.if_icmp .ne 12, 3) := by decide +kernel
theorem dX6_isOfKind_14 : decode cX6_isOfKind 14 = .ok (.iload_n 0, 1) := by decide +kernel
theorem dX6_isOfKind_15 : decode cX6_isOfKind 15 = .ok (.iconst 4, 1) := by decide +kernel
theorem dX6_isOfKind_16 : decode cX6_isOfKind 16 = .ok (.if_icmp .ne 7, 3) := by decide +kernel
theorem dX6_isOfKind_19 : decode cX6_isOfKind 19 = .ok (.iconst 1, 1) := by decide +kernel
theorem dX6_isOfKind_20 : decode cX6_isOfKind 20 = .ok (.goto 4, 3) := by decide +kernel
theorem dX6_isOfKind_23 : decode cX6_isOfKind 23 = .ok (.iconst 0, 1) := by decide +kernel
theorem dX6_isOfKind_24 : decode cX6_isOfKind 24 = .ok (.ireturn, 1) := by decide +kernel
theorem dX6_endingBy_0 : decode cX6_endingBy 0 = .ok (.iload_n 1, 1) := by decide +kernel
theorem dX6_endingBy_1 : decode cX6_endingBy 1 = .ok (.iload_n 3, 1) := by decide +kernel
theorem dX6_endingBy_2 : decode cX6_endingBy 2 = .ok (.iconst (-1), 1) := by decide +kernel
theorem dX6_endingBy_3 : decode cX6_endingBy 3 = .ok (.ixor, 1) := by decide +kernel
theorem dX6_endingBy_4 : decode cX6_endingBy 4 = .ok (.iand, 1) := by decide +kernel
theorem dX6_endingBy_5 : decode cX6_endingBy 5 = .ok (.istore 4, 2) := by decide +kernel
theorem dX6_endingBy_7 : decode cX6_endingBy 7 = .ok (.iload_n 0, 1) := by decide +kernel
theorem dX6_endingBy_8 : decode cX6_endingBy 8 = .ok (.tableswitch 68 1 4 #[32, 46, 48, 53], 32) := by decide +kernel
theorem dX6_endingBy_40 : decode cX6_endingBy 40 = .ok (.iload_n 1, 1) := by decide +kernel
theorem dX6_endingBy_41 : decode cX6_endingBy 41 = .ok (.iload_n 2, 1) := by decide +kernel
theorem dX6_endingBy_42 : decode cX6_endingBy 42 = .ok (.invokestatic 239, 3) := by decide +kernel
theorem dX6_endingBy_45 : decode cX6_endingBy 45 = .ok (.ifCond .eq 7, 3) := by decide +kernel
theorem dX6_endingBy_48 : decode cX6_endingBy 48 = .ok (.iload_n 2, 1) := by decide +kernel
theorem dX6_endingBy_49 : decode cX6_endingBy 49 = .ok (.goto 4, 3) := by decide +kernel
theorem dX6_endingBy_52 : decode cX6_endingBy 52 = .ok (.iconst (-1), 1) := by decide +kernel
theorem dX6_endingBy_53 : decode cX6_endingBy 53 = .ok (.ireturn, 1) := by decide +kernel
theorem dX6_endingBy_54 : decode cX6_endingBy 54 = .ok (.iload_n 2, 1) := by decide +kernel
theorem dX6_endingBy_55 : decode cX6_endingBy 55 = .ok (.ireturn, 1) := by decide +kernel
theorem dX6_endingBy_56 : decode cX6_endingBy 56 = .ok (.iload_n 1, 1) := by decide +kernel
theorem dX6_endingBy_57 : decode cX6_endingBy 57 = .ok (.invokestatic 242, 3) := by decide +kernel
theorem dX6_endingBy_60 : decode cX6_endingBy 60 = .ok (.ireturn, 1) := by decide +kernel
theorem dX6_endingBy_61 : decode cX6_endingBy 61 = .ok (.iload 4, 2) := by decide +kernel
theorem dX6_endingBy_63 : decode cX6_endingBy 63 = .ok (.ifCond .eq 8, 3) := by decide +kernel
theorem dX6_endingBy_66 : decode cX6_endingBy 66 = .ok (.iload 4, 2) := by decide +kernel
theorem dX6_endingBy_68 : decode cX6_endingBy 68 = .ok (.goto 4, 3) := by decide +kernel
theorem dX6_endingBy_71 : decode cX6_endingBy 71 = .ok (.iload_n 1, 1) := by decide +kernel
theorem dX6_endingBy_72 : decode cX6_endingBy 72 = .ok (.invokestatic 242, 3) := by decide +kernel
theorem dX6_endingBy_75 : decode cX6_endingBy 75 = .ok (.ireturn, 1) := by decide +kernel
theorem dX6_endingBy_76 : decode cX6_endingBy 76 = .ok (.iload_n 1, 1) := by decide +kernel
theorem dX6_endingBy_77 : decode cX6_endingBy 77 = .ok (.iload_n 2, 1) := by decide +kernel
theorem dX6_endingBy_78 : decode cX6_endingBy 78 = .ok (.invokestatic 239, 3) := by decide +kernel
theorem dX6_endingBy_81 : decode cX6_endingBy 81 = .ok (.ifCond .eq 7, 3) := by decide +kernel
theorem dX6_endingBy_84 : decode cX6_endingBy 84 = .ok (.iload_n 2, 1) := by decide +kernel
theorem dX6_endingBy_85 : decode cX6_endingBy 85 = .ok (.goto 7, 3) := by decide +kernel
theorem dX6_endingBy_88 : decode cX6_endingBy 88 = .ok (.iload_n 1, 1) := by decide +kernel
theorem dX6_endingBy_89 : decode cX6_endingBy 89 = .ok (.invokestatic 245, 3) := by decide +kernel
theorem dX6_endingBy_92 : decode cX6_endingBy 92 = .ok (.ireturn, 1) := by decide +kernel
theorem dX6_endingNow_0 : decode cX6_endingNow 0 = .ok (.aload_n 0, 1) := by decide +kernel
theorem dX6_endingNow_1 : decode cX6_endingNow 1 = .ok (.getfield 26, 3) := by decide +kernel
theorem dX6_endingNow_4 : decode cX6_endingNow 4 = .ok (.getfield 105, 3) := by decide +kernel
theorem dX6_endingNow_7 : decode cX6_endingNow 7 = .ok (.iload_n 1, 1) := by decide +kernel
theorem dX6_endingNow_8 : decode cX6_endingNow 8 = .ok (.iaload, 1) := by decide +kernel
theorem dX6_endingNow_9 : decode cX6_endingNow 9 = .ok (.aload_n 0, 1) := by decide +kernel
theorem dX6_endingNow_10 : decode cX6_endingNow 10 = .ok (.getfield 26, 3) := by decide +kernel
theorem dX6_endingNow_13 : decode cX6_endingNow 13 = .ok (.getfield 99, 3) := by decide +kernel
theorem dX6_endingNow_16 : decode cX6_endingNow 16 = .ok (.iload_n 2, 1) := by decide +kernel
theorem dX6_endingNow_17 : decode cX6_endingNow 17 = .ok (.iaload, 1) := by decide +kernel
theorem dX6_endingNow_18 : decode cX6_endingNow 18 = .ok (.aload_n 0, 1) := by decide +kernel
theorem dX6_endingNow_19 : decode cX6_endingNow 19 = .ok (.getfield 33, 3) := by decide +kernel
theorem dX6_endingNow_22 : decode cX6_endingNow 22 = .ok (.getfield 108, 3) := by decide +kernel
theorem dX6_endingNow_25 : decode cX6_endingNow 25 = .ok (.iload_n 1, 1) := by decide +kernel
theorem dX6_endingNow_26 : decode cX6_endingNow 26 = .ok (.iaload, 1) := by decide +kernel
theorem dX6_endingNow_27 : decode cX6_endingNow 27 = .ok (.aload_n 0, 1) := by decide +kernel
theorem dX6_endingNow_28 : decode cX6_endingNow 28 = .ok (.getfield 33, 3) := by decide +kernel
theorem dX6_endingNow_31 : decode cX6_endingNow 31 = .ok (.iload_n 1, 1) := by decide +kernel
theorem dX6_endingNow_32 : decode cX6_endingNow 32 = .ok (.invokevirtual 109, 3) := by decide +kernel
theorem dX6_endingNow_35 : decode cX6_endingNow 35 = .ok (.invokestatic 248, 3) := by decide +kernel
theorem dX6_endingNow_38 : decode cX6_endingNow 38 = .ok (.ireturn, 1) := by decide +kernel
theorem dX6_has_0 : decode cX6_has 0 = .ok (.iload_n 0, 1) := by decide +kernel
theorem dX6_has_1 : decode cX6_has 1 = .ok (.iconst 1, 1) := by decide +kernel
theorem dX6_has_2 : decode cX6_has 2 = .ok (.iload_n 1, 1) := by decide +kernel
theorem dX6_has_3 : decode cX6_has 3 = .ok (.ishl, 1) := by decide +kernel
theorem dX6_has_4 : decode cX6_has 4 = .ok (.iand, 1) := by decide +kernel
theorem dX6_has_5 : decode cX6_has 5 = .ok (.ifCond .eq 7, 3) := by decide +kernel
theorem dX6_has_8 : decode cX6_has 8 = .ok (.iconst 1, 1) := by decide +kernel
theorem dX6_has_9 : decode cX6_has 9 = .ok (.goto 4, 3) := by decide +kernel
theorem dX6_has_12 : decode cX6_has 12 = .ok (.iconst 0, 1) := by decide +kernel
theorem dX6_has_13 : decode cX6_has 13 = .ok (.ireturn, 1) := by decide +kernel
theorem dX6_least_0 : decode cX6_least 0 = .ok (.iconst 0, 1) := by decide +kernel
theorem dX6_least_1 : decode cX6_least 1 = .ok (.istore_n 1, 1) := by decide +kernel
theorem dX6_least_2 : decode cX6_least 2 = .ok (.iload_n 1, 1) := by decide +kernel
theorem dX6_least_3 : decode cX6_least 3 = .ok (.bipush 6, 2) := by decide +kernel
theorem dX6_least_5 : decode cX6_least 5 = .ok (.if_icmp .ge 19, 3) := by decide +kernel
theorem dX6_least_8 : decode cX6_least 8 = .ok (.iload_n 0, 1) := by decide +kernel
theorem dX6_least_9 : decode cX6_least 9 = .ok (.iconst 1, 1) := by decide +kernel
theorem dX6_least_10 : decode cX6_least 10 = .ok (.iload_n 1, 1) := by decide +kernel
theorem dX6_least_11 : decode cX6_least 11 = .ok (.ishl, 1) := by decide +kernel
theorem dX6_least_12 : decode cX6_least 12 = .ok (.iand, 1) := by decide +kernel
theorem dX6_least_13 : decode cX6_least 13 = .ok (.ifCond .eq 5, 3) := by decide +kernel
theorem dX6_least_16 : decode cX6_least 16 = .ok (.iload_n 1, 1) := by decide +kernel
theorem dX6_least_17 : decode cX6_least 17 = .ok (.ireturn, 1) := by decide +kernel
theorem dX6_least_18 : decode cX6_least 18 = .ok (.iinc 1 1, 3) := by decide +kernel
theorem dX6_least_21 : decode cX6_least 21 = .ok (.goto (-19), 3) := by decide +kernel
theorem dX6_least_24 : decode cX6_least 24 = .ok (.iconst (-1), 1) := by decide +kernel
theorem dX6_least_25 : decode cX6_least 25 = .ok (.ireturn, 1) := by decide +kernel
theorem dX6_greatest_0 : decode cX6_greatest 0 = .ok (.iconst 5, 1) := by decide +kernel
theorem dX6_greatest_1 : decode cX6_greatest 1 = .ok (.istore_n 1, 1) := by decide +kernel
theorem dX6_greatest_2 : decode cX6_greatest 2 = .ok (.iload_n 1, 1) := by decide +kernel
theorem dX6_greatest_3 : decode cX6_greatest 3 = .ok (.ifCond .lt 19, 3) := by decide +kernel
theorem dX6_greatest_6 : decode cX6_greatest 6 = .ok (.iload_n 0, 1) := by decide +kernel
theorem dX6_greatest_7 : decode cX6_greatest 7 = .ok (.iconst 1, 1) := by decide +kernel
theorem dX6_greatest_8 : decode cX6_greatest 8 = .ok (.iload_n 1, 1) := by decide +kernel
theorem dX6_greatest_9 : decode cX6_greatest 9 = .ok (.ishl, 1) := by decide +kernel
theorem dX6_greatest_10 : decode cX6_greatest 10 = .ok (.iand, 1) := by decide +kernel
theorem dX6_greatest_11 : decode cX6_greatest 11 = .ok (.ifCond .eq 5, 3) := by decide +kernel
theorem dX6_greatest_14 : decode cX6_greatest 14 = .ok (.iload_n 1, 1) := by decide +kernel
theorem dX6_greatest_15 : decode cX6_greatest 15 = .ok (.ireturn, 1) := by decide +kernel
theorem dX6_greatest_16 : decode cX6_greatest 16 = .ok (.iinc 1 (-1), 3) := by decide +kernel
theorem dX6_greatest_19 : decode cX6_greatest 19 = .ok (.goto (-17), 3) := by decide +kernel
theorem dX6_greatest_22 : decode cX6_greatest 22 = .ok (.iconst (-1), 1) := by decide +kernel
theorem dX6_greatest_23 : decode cX6_greatest 23 = .ok (.ireturn, 1) := by decide +kernel
theorem dX6_sureOpening_0 : decode cX6_sureOpening 0 = .ok (.iconst 0, 1) := by decide +kernel
theorem dX6_sureOpening_1 : decode cX6_sureOpening 1 = .ok (.istore_n 2, 1) := by decide +kernel
theorem dX6_sureOpening_2 : decode cX6_sureOpening 2 = .ok (.iload_n 2, 1) := by decide +kernel
theorem dX6_sureOpening_3 : decode cX6_sureOpening 3 = .ok (.iconst 4, 1) := by decide +kernel
theorem dX6_sureOpening_4 : decode cX6_sureOpening 4 = .ok (.if_icmp .ge 20, 3) := by decide +kernel
theorem dX6_sureOpening_7 : decode cX6_sureOpening 7 = .ok (.aload_n 0, 1) := by decide +kernel
theorem dX6_sureOpening_8 : decode cX6_sureOpening 8 = .ok (.iload_n 1, 1) := by decide +kernel
theorem dX6_sureOpening_9 : decode cX6_sureOpening 9 = .ok (.iload_n 2, 1) := by decide +kernel
theorem dX6_sureOpening_10 : decode cX6_sureOpening 10 = .ok (.invokevirtual 252, 3) := by decide +kernel
theorem dX6_sureOpening_13 : decode cX6_sureOpening 13 = .ok (.ifCond .eq 5, 3) := by decide +kernel
theorem dX6_sureOpening_16 : decode cX6_sureOpening 16 = .ok (.iload_n 2, 1) := by decide +kernel
theorem dX6_sureOpening_17 : decode cX6_sureOpening 17 = .ok (.ireturn, 1) := by decide +kernel
theorem dX6_sureOpening_18 : decode cX6_sureOpening 18 = .ok (.iinc 2 1, 3) := by decide +kernel
theorem dX6_sureOpening_21 : decode cX6_sureOpening 21 = .ok (.goto (-19), 3) := by decide +kernel
theorem dX6_sureOpening_24 : decode cX6_sureOpening 24 = .ok (.iconst (-1), 1) := by decide +kernel
theorem dX6_sureOpening_25 : decode cX6_sureOpening 25 = .ok (.ireturn, 1) := by decide +kernel
theorem dX6_isSure_0 : decode cX6_isSure 0 = .ok (.iconst 0, 1) := by decide +kernel
theorem dX6_isSure_1 : decode cX6_isSure 1 = .ok (.istore_n 3, 1) := by decide +kernel
theorem dX6_isSure_2 : decode cX6_isSure 2 = .ok (.iconst 0, 1) := by decide +kernel
theorem dX6_isSure_3 : decode cX6_isSure 3 = .ok (.istore 4, 2) := by decide +kernel
theorem dX6_isSure_5 : decode cX6_isSure 5 = .ok (.iload 4, 2) := by decide +kernel
theorem dX6_isSure_7 : decode cX6_isSure 7 = .ok (.aload_n 0, 1) := by decide +kernel
theorem dX6_isSure_8 : decode cX6_isSure 8 = .ok (.getfield 26, 3) := by decide +kernel
theorem dX6_isSure_11 : decode cX6_isSure 11 = .ok (.getfield 92, 3) := by decide +kernel
theorem dX6_isSure_14 : decode cX6_isSure 14 = .ok (.if_icmp .ge 66, 3) := by decide +kernel
theorem dX6_isSure_17 : decode cX6_isSure 17 = .ok (.iload 4, 2) := by decide +kernel
theorem dX6_isSure_19 : decode cX6_isSure 19 = .ok (.iload_n 1, 1) := by decide +kernel
theorem dX6_isSure_20 : decode cX6_isSure 20 = .ok (.if_icmp .ne 7, 3) := by decide +kernel
theorem dX6_isSure_23 : decode cX6_isSure 23 = .ok (.iconst (-1), 1) := by decide +kernel
theorem dX6_isSure_24 : decode cX6_isSure 24 = .ok (.goto 10, 3) := by decide +kernel
theorem dX6_isSure_27 : decode cX6_isSure 27 = .ok (.aload_n 0, 1) := by decide +kernel
theorem dX6_isSure_28 : decode cX6_isSure 28 = .ok (.iload 4, 2) := by decide +kernel
theorem dX6_isSure_30 : decode cX6_isSure 30 = .ok (.iload_n 2, 1) := by decide +kernel
theorem dX6_isSure_31 : decode cX6_isSure 31 = .ok (.invokevirtual 142, 3) := by decide +kernel
theorem dX6_isSure_34 : decode cX6_isSure 34 = .ok (.istore 5, 2) := by decide +kernel
theorem dX6_isSure_36 : decode cX6_isSure 36 = .ok (.iload 5, 2) := by decide +kernel
theorem dX6_isSure_38 : decode cX6_isSure 38 = .ok (.iconst (-1), 1) := by decide +kernel
theorem dX6_isSure_39 : decode cX6_isSure 39 = .ok (.if_icmp .eq 19, 3) := by decide +kernel
theorem dX6_isSure_42 : decode cX6_isSure 42 = .ok (.iload 5, 2) := by decide +kernel
theorem dX6_isSure_44 : decode cX6_isSure 44 = .ok (.aload_n 0, 1) := by decide +kernel
theorem dX6_isSure_45 : decode cX6_isSure 45 = .ok (.getfield 33, 3) := by decide +kernel
theorem dX6_isSure_48 : decode cX6_isSure 48 = .ok (.getfield 108, 3) := by decide +kernel
theorem dX6_isSure_51 : decode cX6_isSure 51 = .ok (.iload_n 1, 1) := by decide +kernel
theorem dX6_isSure_52 : decode cX6_isSure 52 = .ok (.iaload, 1) := by decide +kernel
theorem dX6_isSure_53 : decode cX6_isSure 53 = .ok (.if_icmp .eq 5, 3) := by decide +kernel
theorem dX6_isSure_56 : decode cX6_isSure 56 = .ok (.iconst 0, 1) := by decide +kernel
theorem dX6_isSure_57 : decode cX6_isSure 57 = .ok (.ireturn, 1) := by decide +kernel
theorem dX6_isSure_58 : decode cX6_isSure 58 = .ok (.iload_n 3, 1) := by decide +kernel
theorem dX6_isSure_59 : decode cX6_isSure 59 = .ok (.ifCond .ne 9, 3) := by decide +kernel
theorem dX6_isSure_62 : decode cX6_isSure 62 = .ok (.iload 5, 2) := by decide +kernel
theorem dX6_isSure_64 : decode cX6_isSure 64 = .ok (.iconst (-1), 1) := by decide +kernel
theorem dX6_isSure_65 : decode cX6_isSure 65 = .ok (.if_icmp .eq 7, 3) := by decide +kernel
theorem dX6_isSure_68 : decode cX6_isSure 68 = .ok (.iconst 1, 1) := by decide +kernel
theorem dX6_isSure_69 : decode cX6_isSure 69 = .ok (.goto 4, 3) := by decide +kernel
theorem dX6_isSure_72 : decode cX6_isSure 72 = .ok (.iconst 0, 1) := by decide +kernel
theorem dX6_isSure_73 : decode cX6_isSure 73 = .ok (.istore_n 3, 1) := by decide +kernel
theorem dX6_isSure_74 : decode cX6_isSure 74 = .ok (.iinc 4 1, 3) := by decide +kernel
theorem dX6_isSure_77 : decode cX6_isSure 77 = .ok (.goto (-72), 3) := by decide +kernel
theorem dX6_isSure_80 : decode cX6_isSure 80 = .ok (.iload_n 3, 1) := by decide +kernel
theorem dX6_isSure_81 : decode cX6_isSure 81 = .ok (.ireturn, 1) := by decide +kernel
theorem dX6_possibleKinds_0 : decode cX6_possibleKinds 0 = .ok (.iconst 0, 1) := by decide +kernel
theorem dX6_possibleKinds_1 : decode cX6_possibleKinds 1 = .ok (.istore_n 2, 1) := by decide +kernel
theorem dX6_possibleKinds_2 : decode cX6_possibleKinds 2 = .ok (.iconst 0, 1) := by decide +kernel
theorem dX6_possibleKinds_3 : decode cX6_possibleKinds 3 = .ok (.istore_n 3, 1) := by decide +kernel
theorem dX6_possibleKinds_4 : decode cX6_possibleKinds 4 = .ok (.iload_n 3, 1) := by decide +kernel
theorem dX6_possibleKinds_5 : decode cX6_possibleKinds 5 = .ok (.iconst 5, 1) := by decide +kernel
theorem dX6_possibleKinds_6 : decode cX6_possibleKinds 6 = .ok (.if_icmp .ge 24, 3) := by decide +kernel
theorem dX6_possibleKinds_9 : decode cX6_possibleKinds 9 = .ok (.aload_n 0, 1) := by decide +kernel
theorem dX6_possibleKinds_10 : decode cX6_possibleKinds 10 = .ok (.iload_n 1, 1) := by decide +kernel
theorem dX6_possibleKinds_11 : decode cX6_possibleKinds 11 = .ok (.iload_n 3, 1) := by decide +kernel
theorem dX6_possibleKinds_12 : decode cX6_possibleKinds 12 = .ok (.invokevirtual 255, 3) := by decide +kernel
theorem dX6_possibleKinds_15 : decode cX6_possibleKinds 15 = .ok (.ifCond .eq 9, 3) := by decide +kernel
theorem dX6_possibleKinds_18 : decode cX6_possibleKinds 18 = .ok (.iload_n 2, 1) := by decide +kernel
theorem dX6_possibleKinds_19 : decode cX6_possibleKinds 19 = .ok (.iconst 1, 1) := by decide +kernel
theorem dX6_possibleKinds_20 : decode cX6_possibleKinds 20 = .ok (.iload_n 3, 1) := by decide +kernel
theorem dX6_possibleKinds_21 : decode cX6_possibleKinds 21 = .ok (.ishl, 1) := by decide +kernel
theorem dX6_possibleKinds_22 : decode cX6_possibleKinds 22 = .ok (.ior, 1) := by decide +kernel
theorem dX6_possibleKinds_23 : decode cX6_possibleKinds 23 = .ok (.istore_n 2, 1) := by decide +kernel
theorem dX6_possibleKinds_24 : decode cX6_possibleKinds 24 = .ok (.iinc 3 1, 3) := by decide +kernel
theorem dX6_possibleKinds_27 : decode cX6_possibleKinds 27 = .ok (.goto (-23), 3) := by decide +kernel
theorem dX6_possibleKinds_30 : decode cX6_possibleKinds 30 = .ok (.iload_n 2, 1) := by decide +kernel
theorem dX6_possibleKinds_31 : decode cX6_possibleKinds 31 = .ok (.ireturn, 1) := by decide +kernel
theorem dX6_agreesWithHeard_0 : decode cX6_agreesWithHeard 0 = .ok (.iconst 0, 1) := by decide +kernel
theorem dX6_agreesWithHeard_1 : decode cX6_agreesWithHeard 1 = .ok (.istore_n 3, 1) := by decide +kernel
theorem dX6_agreesWithHeard_2 : decode cX6_agreesWithHeard 2 = .ok (.iload_n 3, 1) := by decide +kernel
theorem dX6_agreesWithHeard_3 : decode cX6_agreesWithHeard 3 = .ok (.aload_n 0, 1) := by decide +kernel
theorem dX6_agreesWithHeard_4 : decode cX6_agreesWithHeard 4 = .ok (.getfield 33, 3) := by decide +kernel
theorem dX6_agreesWithHeard_7 : decode cX6_agreesWithHeard 7 = .ok (.getfield 184, 3) := by decide +kernel
theorem dX6_agreesWithHeard_10 : decode cX6_agreesWithHeard 10 = .ok (.if_icmp .ge 71, 3) := by decide +kernel
theorem dX6_agreesWithHeard_13 : decode cX6_agreesWithHeard 13 = .ok (.aload_n 0, 1) := by decide +kernel
theorem dX6_agreesWithHeard_14 : decode cX6_agreesWithHeard 14 = .ok (.getfield 33, 3) := by decide +kernel
theorem dX6_agreesWithHeard_17 : decode cX6_agreesWithHeard 17 = .ok (.getfield 258, 3) := by decide +kernel
theorem dX6_agreesWithHeard_20 : decode cX6_agreesWithHeard 20 = .ok (.iload_n 3, 1) := by decide +kernel
theorem dX6_agreesWithHeard_21 : decode cX6_agreesWithHeard 21 = .ok (.iaload, 1) := by decide +kernel
theorem dX6_agreesWithHeard_22 : decode cX6_agreesWithHeard 22 = .ok (.iload_n 1, 1) := by decide +kernel
theorem dX6_agreesWithHeard_23 : decode cX6_agreesWithHeard 23 = .ok (.if_icmp .ne 52, 3) := by decide +kernel
theorem dX6_agreesWithHeard_26 : decode cX6_agreesWithHeard 26 = .ok (.aload_n 0, 1) := by decide +kernel
theorem dX6_agreesWithHeard_27 : decode cX6_agreesWithHeard 27 = .ok (.getfield 26, 3) := by decide +kernel
theorem dX6_agreesWithHeard_30 : decode cX6_agreesWithHeard 30 = .ok (.getfield 99, 3) := by decide +kernel
theorem dX6_agreesWithHeard_33 : decode cX6_agreesWithHeard 33 = .ok (.aload_n 0, 1) := by decide +kernel
theorem dX6_agreesWithHeard_34 : decode cX6_agreesWithHeard 34 = .ok (.getfield 33, 3) := by decide +kernel
theorem dX6_agreesWithHeard_37 : decode cX6_agreesWithHeard 37 = .ok (.getfield 261, 3) := by decide +kernel
theorem dX6_agreesWithHeard_40 : decode cX6_agreesWithHeard 40 = .ok (.iload_n 3, 1) := by decide +kernel
theorem dX6_agreesWithHeard_41 : decode cX6_agreesWithHeard 41 = .ok (.iaload, 1) := by decide +kernel
theorem dX6_agreesWithHeard_42 : decode cX6_agreesWithHeard 42 = .ok (.iaload, 1) := by decide +kernel
theorem dX6_agreesWithHeard_43 : decode cX6_agreesWithHeard 43 = .ok (.istore 4, 2) := by decide +kernel
theorem dX6_agreesWithHeard_45 : decode cX6_agreesWithHeard 45 = .ok (.iload_n 2, 1) := by decide +kernel
theorem dX6_agreesWithHeard_46 : decode cX6_agreesWithHeard 46 = .ok (.iload 4, 2) := by decide +kernel
theorem dX6_agreesWithHeard_48 : decode cX6_agreesWithHeard 48 = .ok (.aload_n 0, 1) := by decide +kernel
theorem dX6_agreesWithHeard_49 : decode cX6_agreesWithHeard 49 = .ok (.getfield 33, 3) := by decide +kernel
theorem dX6_agreesWithHeard_52 : decode cX6_agreesWithHeard 52 = .ok (.getfield 108, 3) := by decide +kernel
theorem dX6_agreesWithHeard_55 : decode cX6_agreesWithHeard 55 = .ok (.iload_n 1, 1) := by decide +kernel
theorem dX6_agreesWithHeard_56 : decode cX6_agreesWithHeard 56 = .ok (.iaload, 1) := by decide +kernel
theorem dX6_agreesWithHeard_57 : decode cX6_agreesWithHeard 57 = .ok (.iconst 0, 1) := by decide +kernel
theorem dX6_agreesWithHeard_58 : decode cX6_agreesWithHeard 58 = .ok (.invokestatic 248, 3) := by decide +kernel
theorem dX6_agreesWithHeard_61 : decode cX6_agreesWithHeard 61 = .ok (.aload_n 0, 1) := by decide +kernel
theorem dX6_agreesWithHeard_62 : decode cX6_agreesWithHeard 62 = .ok (.getfield 33, 3) := by decide +kernel
theorem dX6_agreesWithHeard_65 : decode cX6_agreesWithHeard 65 = .ok (.getfield 264, 3) := by decide +kernel
theorem dX6_agreesWithHeard_68 : decode cX6_agreesWithHeard 68 = .ok (.iload_n 3, 1) := by decide +kernel
theorem dX6_agreesWithHeard_69 : decode cX6_agreesWithHeard 69 = .ok (.iaload, 1) := by decide +kernel
theorem dX6_agreesWithHeard_70 : decode cX6_agreesWithHeard 70 = .ok (.if_icmp .eq 5, 3) := by decide +kernel
theorem dX6_agreesWithHeard_73 : decode cX6_agreesWithHeard 73 = .ok (.iconst 0, 1) := by decide +kernel
theorem dX6_agreesWithHeard_74 : decode cX6_agreesWithHeard 74 = .ok (.ireturn, 1) := by decide +kernel
theorem dX6_agreesWithHeard_75 : decode cX6_agreesWithHeard 75 = .ok (.iinc 3 1, 3) := by decide +kernel
theorem dX6_agreesWithHeard_78 : decode cX6_agreesWithHeard 78 = .ok (.goto (-76), 3) := by decide +kernel
theorem dX6_agreesWithHeard_81 : decode cX6_agreesWithHeard 81 = .ok (.iconst 1, 1) := by decide +kernel
theorem dX6_agreesWithHeard_82 : decode cX6_agreesWithHeard 82 = .ok (.ireturn, 1) := by decide +kernel
theorem dX6_tellingOpening_0 : decode cX6_tellingOpening 0 = .ok (.iload_n 2, 1) := by decide +kernel
theorem dX6_tellingOpening_1 : decode cX6_tellingOpening 1 = .ok (.ifCond .ne 5, 3) := by decide +kernel
theorem dX6_tellingOpening_4 : decode cX6_tellingOpening 4 = .ok (.iconst (-1), 1) := by decide +kernel
theorem dX6_tellingOpening_5 : decode cX6_tellingOpening 5 = .ok (.ireturn, 1) := by decide +kernel
theorem dX6_tellingOpening_6 : decode cX6_tellingOpening 6 = .ok (.iconst (-1), 1) := by decide +kernel
theorem dX6_tellingOpening_7 : decode cX6_tellingOpening 7 = .ok (.istore_n 3, 1) := by decide +kernel
theorem dX6_tellingOpening_8 : decode cX6_tellingOpening 8 = .ok (.bipush 6, 2) := by decide +kernel
theorem dX6_tellingOpening_10 : decode cX6_tellingOpening 10 = .ok (.istore 4, 2) := by decide +kernel
theorem dX6_tellingOpening_12 : decode cX6_tellingOpening 12 = .ok (.iconst 0, 1) := by decide +kernel
theorem dX6_tellingOpening_13 : decode cX6_tellingOpening 13 = .ok (.istore 5, 2) := by decide +kernel
theorem dX6_tellingOpening_15 : decode cX6_tellingOpening 15 = .ok (.iload 5, 2) := by decide +kernel
theorem dX6_tellingOpening_17 : decode cX6_tellingOpening 17 = .ok (.iconst 4, 1) := by decide +kernel
theorem dX6_tellingOpening_18 : decode cX6_tellingOpening 18 = .ok (.if_icmp .ge 33, 3) := by decide +kernel
theorem dX6_tellingOpening_21 : decode cX6_tellingOpening 21 = .ok (.aload_n 0, 1) := by decide +kernel
theorem dX6_tellingOpening_22 : decode cX6_tellingOpening 22 = .ok (.iload_n 1, 1) := by decide +kernel
theorem dX6_tellingOpening_23 : decode cX6_tellingOpening 23 = .ok (.iload 5, 2) := by decide +kernel
theorem dX6_tellingOpening_25 : decode cX6_tellingOpening 25 = .ok (.iload_n 2, 1) := by decide +kernel
theorem dX6_tellingOpening_26 : decode cX6_tellingOpening 26 = .ok (.invokevirtual 267, 3) := by decide +kernel
theorem dX6_tellingOpening_29 : decode cX6_tellingOpening 29 = .ok (.istore 6, 2) := by decide +kernel
theorem dX6_tellingOpening_31 : decode cX6_tellingOpening 31 = .ok (.iload 6, 2) := by decide +kernel
theorem dX6_tellingOpening_33 : decode cX6_tellingOpening 33 = .ok (.iload 4, 2) := by decide +kernel
theorem dX6_tellingOpening_35 : decode cX6_tellingOpening 35 = .ok (.if_icmp .ge 10, 3) := by decide +kernel
theorem dX6_tellingOpening_38 : decode cX6_tellingOpening 38 = .ok (.iload 6, 2) := by decide +kernel
theorem dX6_tellingOpening_40 : decode cX6_tellingOpening 40 = .ok (.istore 4, 2) := by decide +kernel
theorem dX6_tellingOpening_42 : decode cX6_tellingOpening 42 = .ok (.iload 5, 2) := by decide +kernel
theorem dX6_tellingOpening_44 : decode cX6_tellingOpening 44 = .ok (.istore_n 3, 1) := by decide +kernel
theorem dX6_tellingOpening_45 : decode cX6_tellingOpening 45 = .ok (.iinc 5 1, 3) := by decide +kernel
theorem dX6_tellingOpening_48 : decode cX6_tellingOpening 48 = .ok (.goto (-33), 3) := by decide +kernel
theorem dX6_tellingOpening_51 : decode cX6_tellingOpening 51 = .ok (.iload_n 3, 1) := by decide +kernel
theorem dX6_tellingOpening_52 : decode cX6_tellingOpening 52 = .ok (.ireturn, 1) := by decide +kernel
theorem dX6_mostKindsLeft_0 : decode cX6_mostKindsLeft 0 = .ok (.aload_n 0, 1) := by decide +kernel
theorem dX6_mostKindsLeft_1 : decode cX6_mostKindsLeft 1 = .ok (.getfield 26, 3) := by decide +kernel
theorem dX6_mostKindsLeft_4 : decode cX6_mostKindsLeft 4 = .ok (.getfield 99, 3) := by decide +kernel
theorem dX6_mostKindsLeft_7 : decode cX6_mostKindsLeft 7 = .ok (.iload_n 2, 1) := by decide +kernel
theorem dX6_mostKindsLeft_8 : decode cX6_mostKindsLeft 8 = .ok (.iaload, 1) := by decide +kernel
theorem dX6_mostKindsLeft_9 : decode cX6_mostKindsLeft 9 = .ok (.istore 4, 2) := by decide +kernel
theorem dX6_mostKindsLeft_11 : decode cX6_mostKindsLeft 11 = .ok (.aload_n 0, 1) := by decide +kernel
theorem dX6_mostKindsLeft_12 : decode cX6_mostKindsLeft 12 = .ok (.getfield 33, 3) := by decide +kernel
theorem dX6_mostKindsLeft_15 : decode cX6_mostKindsLeft 15 = .ok (.getfield 108, 3) := by decide +kernel
theorem dX6_mostKindsLeft_18 : decode cX6_mostKindsLeft 18 = .ok (.iload_n 1, 1) := by decide +kernel
theorem dX6_mostKindsLeft_19 : decode cX6_mostKindsLeft 19 = .ok (.iaload, 1) := by decide +kernel
theorem dX6_mostKindsLeft_20 : decode cX6_mostKindsLeft 20 = .ok (.istore 5, 2) := by decide +kernel
theorem dX6_mostKindsLeft_22 : decode cX6_mostKindsLeft 22 = .ok (.iconst 0, 1) := by decide +kernel
theorem dX6_mostKindsLeft_23 : decode cX6_mostKindsLeft 23 = .ok (.istore 6, 2) := by decide +kernel
theorem dX6_mostKindsLeft_25 : decode cX6_mostKindsLeft 25 = .ok (.iconst (-1), 1) := by decide +kernel
theorem dX6_mostKindsLeft_26 : decode cX6_mostKindsLeft 26 = .ok (.istore 7, 2) := by decide +kernel
theorem dX6_mostKindsLeft_28 : decode cX6_mostKindsLeft 28 = .ok (.iload 7, 2) := by decide +kernel
theorem dX6_mostKindsLeft_30 : decode cX6_mostKindsLeft 30 = .ok (.bipush 6, 2) := by decide +kernel
theorem dX6_mostKindsLeft_32 : decode cX6_mostKindsLeft 32 = .ok (.if_icmp .ge 63, 3) := by decide +kernel
theorem dX6_mostKindsLeft_35 : decode cX6_mostKindsLeft 35 = .ok (.iconst 0, 1) := by decide +kernel
theorem dX6_mostKindsLeft_36 : decode cX6_mostKindsLeft 36 = .ok (.istore 8, 2) := by decide +kernel
theorem dX6_mostKindsLeft_38 : decode cX6_mostKindsLeft 38 = .ok (.iconst 0, 1) := by decide +kernel
theorem dX6_mostKindsLeft_39 : decode cX6_mostKindsLeft 39 = .ok (.istore 9, 2) := by decide +kernel
theorem dX6_mostKindsLeft_41 : decode cX6_mostKindsLeft 41 = .ok (.iload 9, 2) := by decide +kernel
theorem dX6_mostKindsLeft_43 : decode cX6_mostKindsLeft 43 = .ok (.iconst 5, 1) := by decide +kernel
theorem dX6_mostKindsLeft_44 : decode cX6_mostKindsLeft 44 = .ok (.if_icmp .ge 36, 3) := by decide +kernel
theorem dX6_mostKindsLeft_47 : decode cX6_mostKindsLeft 47 = .ok (.iload_n 3, 1) := by decide +kernel
theorem dX6_mostKindsLeft_48 : decode cX6_mostKindsLeft 48 = .ok (.iload 9, 2) := by decide +kernel
theorem dX6_mostKindsLeft_50 : decode cX6_mostKindsLeft 50 = .ok (.invokestatic 239, 3) := by decide +kernel
theorem dX6_mostKindsLeft_53 : decode cX6_mostKindsLeft 53 = .ok (.ifCond .eq 21, 3) := by decide +kernel
theorem dX6_mostKindsLeft_56 : decode cX6_mostKindsLeft 56 = .ok (.iload 9, 2) := by decide +kernel
theorem dX6_mostKindsLeft_58 : decode cX6_mostKindsLeft 58 = .ok (.iload 4, 2) := by decide +kernel
theorem dX6_mostKindsLeft_60 : decode cX6_mostKindsLeft 60 = .ok (.iload 5, 2) := by decide +kernel
theorem dX6_mostKindsLeft_62 : decode cX6_mostKindsLeft 62 = .ok (.iconst 0, 1) := by decide +kernel
theorem dX6_mostKindsLeft_63 : decode cX6_mostKindsLeft 63 = .ok (.invokestatic 248, 3) := by decide +kernel
theorem dX6_mostKindsLeft_66 : decode cX6_mostKindsLeft 66 = .ok (.iload 7, 2) := by decide +kernel
theorem dX6_mostKindsLeft_68 : decode cX6_mostKindsLeft 68 = .ok (.if_icmp .ne 6, 3) := by decide +kernel
theorem dX6_mostKindsLeft_71 : decode cX6_mostKindsLeft 71 = .ok (.iinc 8 1, 3) := by decide +kernel
theorem dX6_mostKindsLeft_74 : decode cX6_mostKindsLeft 74 = .ok (.iinc 9 1, 3) := by decide +kernel
theorem dX6_mostKindsLeft_77 : decode cX6_mostKindsLeft 77 = .ok (.goto (-36), 3) := by decide +kernel
theorem dX6_mostKindsLeft_80 : decode cX6_mostKindsLeft 80 = .ok (.iload 6, 2) := by decide +kernel
theorem dX6_mostKindsLeft_82 : decode cX6_mostKindsLeft 82 = .ok (.iload 8, 2) := by decide +kernel
theorem dX6_mostKindsLeft_84 : decode cX6_mostKindsLeft 84 = .ok (.invokestatic 271, 3) := by decide +kernel
theorem dX6_mostKindsLeft_87 : decode cX6_mostKindsLeft 87 = .ok (.istore 6, 2) := by decide +kernel
theorem dX6_mostKindsLeft_89 : decode cX6_mostKindsLeft 89 = .ok (.iinc 7 1, 3) := by decide +kernel
theorem dX6_mostKindsLeft_92 : decode cX6_mostKindsLeft 92 = .ok (.goto (-64), 3) := by decide +kernel
theorem dX6_mostKindsLeft_95 : decode cX6_mostKindsLeft 95 = .ok (.iload 6, 2) := by decide +kernel
theorem dX6_mostKindsLeft_97 : decode cX6_mostKindsLeft 97 = .ok (.ireturn, 1) := by decide +kernel
theorem dX6_findPleasing_0 : decode cX6_findPleasing 0 = .ok (.iconst 0, 1) := by decide +kernel
theorem dX6_findPleasing_1 : decode cX6_findPleasing 1 = .ok (.istore_n 1, 1) := by decide +kernel
theorem dX6_findPleasing_2 : decode cX6_findPleasing 2 = .ok (.iload_n 1, 1) := by decide +kernel
theorem dX6_findPleasing_3 : decode cX6_findPleasing 3 = .ok (.iconst 4, 1) := by decide +kernel
theorem dX6_findPleasing_4 : decode cX6_findPleasing 4 = .ok (.if_icmp .ge 70, 3) := by decide +kernel
theorem dX6_findPleasing_7 : decode cX6_findPleasing 7 = .ok (.aload_n 0, 1) := by decide +kernel
theorem dX6_findPleasing_8 : decode cX6_findPleasing 8 = .ok (.getfield 43, 3) := by decide +kernel
theorem dX6_findPleasing_11 : decode cX6_findPleasing 11 = .ok (.getfield 276, 3) := by decide +kernel
theorem dX6_findPleasing_14 : decode cX6_findPleasing 14 = .ok (.iload_n 1, 1) := by decide +kernel
theorem dX6_findPleasing_15 : decode cX6_findPleasing 15 = .ok (.iconst 0, 1) := by decide +kernel
theorem dX6_findPleasing_16 : decode cX6_findPleasing 16 = .ok (.iastore, 1) := by decide +kernel
theorem dX6_findPleasing_17 : decode cX6_findPleasing 17 = .ok (.iconst 0, 1) := by decide +kernel
theorem dX6_findPleasing_18 : decode cX6_findPleasing 18 = .ok (.istore_n 2, 1) := by decide +kernel
theorem dX6_findPleasing_19 : decode cX6_findPleasing 19 = .ok (.aload_n 0, 1) := by decide +kernel
theorem dX6_findPleasing_20 : decode cX6_findPleasing 20 = .ok (.iload_n 1, 1) := by decide +kernel
theorem dX6_findPleasing_21 : decode cX6_findPleasing 21 = .ok (.invokevirtual 102, 3) := by decide +kernel
theorem dX6_findPleasing_24 : decode cX6_findPleasing 24 = .ok (.ifCond .eq 44, 3) := by decide +kernel
theorem dX6_findPleasing_27 : decode cX6_findPleasing 27 = .ok (.iload_n 2, 1) := by decide +kernel
theorem dX6_findPleasing_28 : decode cX6_findPleasing 28 = .ok (.aload_n 0, 1) := by decide +kernel
theorem dX6_findPleasing_29 : decode cX6_findPleasing 29 = .ok (.getfield 33, 3) := by decide +kernel
theorem dX6_findPleasing_32 : decode cX6_findPleasing 32 = .ok (.getfield 145, 3) := by decide +kernel
theorem dX6_findPleasing_35 : decode cX6_findPleasing 35 = .ok (.if_icmp .ge 33, 3) := by decide +kernel
theorem dX6_findPleasing_38 : decode cX6_findPleasing 38 = .ok (.aload_n 0, 1) := by decide +kernel
theorem dX6_findPleasing_39 : decode cX6_findPleasing 39 = .ok (.iload_n 1, 1) := by decide +kernel
theorem dX6_findPleasing_40 : decode cX6_findPleasing 40 = .ok (.iload_n 2, 1) := by decide +kernel
theorem dX6_findPleasing_41 : decode cX6_findPleasing 41 = .ok (.invokevirtual 279, 3) := by decide +kernel
theorem dX6_findPleasing_44 : decode cX6_findPleasing 44 = .ok (.ifCond .eq 18, 3) := by decide +kernel
theorem dX6_findPleasing_47 : decode cX6_findPleasing 47 = .ok (.aload_n 0, 1) := by decide +kernel
theorem dX6_findPleasing_48 : decode cX6_findPleasing 48 = .ok (.getfield 43, 3) := by decide +kernel
theorem dX6_findPleasing_51 : decode cX6_findPleasing 51 = .ok (.getfield 276, 3) := by decide +kernel
theorem dX6_findPleasing_54 : decode cX6_findPleasing 54 = .ok (.iload_n 1, 1) := by decide +kernel
theorem dX6_findPleasing_55 : decode cX6_findPleasing 55 = .ok (.dup2, 1) := by decide +kernel
theorem dX6_findPleasing_56 : decode cX6_findPleasing 56 = .ok (.iaload, 1) := by decide +kernel
theorem dX6_findPleasing_57 : decode cX6_findPleasing 57 = .ok (.iconst 1, 1) := by decide +kernel
theorem dX6_findPleasing_58 : decode cX6_findPleasing 58 = .ok (.iload_n 2, 1) := by decide +kernel
theorem dX6_findPleasing_59 : decode cX6_findPleasing 59 = .ok (.ishl, 1) := by decide +kernel
theorem dX6_findPleasing_60 : decode cX6_findPleasing 60 = .ok (.ior, 1) := by decide +kernel
theorem dX6_findPleasing_61 : decode cX6_findPleasing 61 = .ok (.iastore, 1) := by decide +kernel
theorem dX6_findPleasing_62 : decode cX6_findPleasing 62 = .ok (.iinc 2 1, 3) := by decide +kernel
theorem dX6_findPleasing_65 : decode cX6_findPleasing 65 = .ok (.goto (-46), 3) := by decide +kernel
theorem dX6_findPleasing_68 : decode cX6_findPleasing 68 = .ok (.iinc 1 1, 3) := by decide +kernel
theorem dX6_findPleasing_71 : decode cX6_findPleasing 71 = .ok (.goto (-69), 3) := by decide +kernel
theorem dX6_findPleasing_74 : decode cX6_findPleasing 74 = .ok (.return_, 1) := by decide +kernel
theorem dX6_wouldPlease_0 : decode cX6_wouldPlease 0 = .ok (.aload_n 0, 1) := by decide +kernel
theorem dX6_wouldPlease_1 : decode cX6_wouldPlease 1 = .ok (.getfield 33, 3) := by decide +kernel
theorem dX6_wouldPlease_4 : decode cX6_wouldPlease 4 = .ok (.getfield 157, 3) := by decide +kernel
theorem dX6_wouldPlease_7 : decode cX6_wouldPlease 7 = .ok (.iload_n 2, 1) := by decide +kernel
theorem dX6_wouldPlease_8 : decode cX6_wouldPlease 8 = .ok (.iaload, 1) := by decide +kernel
theorem dX6_wouldPlease_9 : decode cX6_wouldPlease 9 = .ok (.istore_n 3, 1) := by decide +kernel
theorem dX6_wouldPlease_10 : decode cX6_wouldPlease 10 = .ok (.aload_n 0, 1) := by decide +kernel
theorem dX6_wouldPlease_11 : decode cX6_wouldPlease 11 = .ok (.getfield 33, 3) := by decide +kernel
theorem dX6_wouldPlease_14 : decode cX6_wouldPlease 14 = .ok (.iload_n 2, 1) := by decide +kernel
theorem dX6_wouldPlease_15 : decode cX6_wouldPlease 15 = .ok (.invokevirtual 154, 3) := by decide +kernel
theorem dX6_wouldPlease_18 : decode cX6_wouldPlease 18 = .ok (.ifCond .eq 38, 3) := by decide +kernel
theorem dX6_wouldPlease_21 : decode cX6_wouldPlease 21 = .ok (.iload_n 3, 1) := by decide +kernel
theorem dX6_wouldPlease_22 : decode cX6_wouldPlease 22 = .ok (.iload_n 1, 1) := by decide +kernel
theorem dX6_wouldPlease_23 : decode cX6_wouldPlease 23 = .ok (.if_icmp .eq 33, 3) := by decide +kernel
theorem dX6_wouldPlease_26 : decode cX6_wouldPlease 26 = .ok (.aload_n 0, 1) := by decide +kernel
theorem dX6_wouldPlease_27 : decode cX6_wouldPlease 27 = .ok (.iload_n 1, 1) := by decide +kernel
theorem dX6_wouldPlease_28 : decode cX6_wouldPlease 28 = .ok (.aload_n 0, 1) := by decide +kernel
theorem dX6_wouldPlease_29 : decode cX6_wouldPlease 29 = .ok (.getfield 33, 3) := by decide +kernel
theorem dX6_wouldPlease_32 : decode cX6_wouldPlease 32 = .ok (.getfield 160, 3) := by decide +kernel
theorem dX6_wouldPlease_35 : decode cX6_wouldPlease 35 = .ok (.iload_n 2, 1) := by decide +kernel
theorem dX6_wouldPlease_36 : decode cX6_wouldPlease 36 = .ok (.iaload, 1) := by decide +kernel
theorem dX6_wouldPlease_37 : decode cX6_wouldPlease 37 = .ok (.invokevirtual 142, 3) := by decide +kernel
theorem dX6_wouldPlease_40 : decode cX6_wouldPlease 40 = .ok (.aload_n 0, 1) := by decide +kernel
theorem dX6_wouldPlease_41 : decode cX6_wouldPlease 41 = .ok (.getfield 33, 3) := by decide +kernel
theorem dX6_wouldPlease_44 : decode cX6_wouldPlease 44 = .ok (.getfield 108, 3) := by decide +kernel
theorem dX6_wouldPlease_47 : decode cX6_wouldPlease 47 = .ok (.iload_n 3, 1) := by decide +kernel
theorem dX6_wouldPlease_48 : decode cX6_wouldPlease 48 = .ok (.iaload, 1) := by decide +kernel
theorem dX6_wouldPlease_49 : decode cX6_wouldPlease 49 = .ok (.if_icmp .ne 7, 3) := by decide +kernel
theorem dX6_wouldPlease_52 : decode cX6_wouldPlease 52 = .ok (.iconst 1, 1) := by decide +kernel
theorem dX6_wouldPlease_53 : decode cX6_wouldPlease 53 = .ok (.goto 4, 3) := by decide +kernel
theorem dX6_wouldPlease_56 : decode cX6_wouldPlease 56 = .ok (.iconst 0, 1) := by decide +kernel
theorem dX6_wouldPlease_57 : decode cX6_wouldPlease 57 = .ok (.ireturn, 1) := by decide +kernel
end
section
theorem dX7_init_0 : decode cX7_init 0 = .ok (.aload_n 0, 1) := by decide +kernel
theorem dX7_init_1 : decode cX7_init 1 = .ok (.invokespecial 1, 3) := by decide +kernel
theorem dX7_init_4 : decode cX7_init 4 = .ok (.aload_n 0, 1) := by decide +kernel
theorem dX7_init_5 : decode cX7_init 5 = .ok (.bipush 30, 2) := by decide +kernel
theorem dX7_init_7 : decode cX7_init 7 = .ok (.newarray .int, 2) := by decide +kernel
theorem dX7_init_9 : decode cX7_init 9 = .ok (.putfield 7, 3) := by decide +kernel
theorem dX7_init_12 : decode cX7_init 12 = .ok (.aload_n 0, 1) := by decide +kernel
theorem dX7_init_13 : decode cX7_init 13 = .ok (.iconst 4, 1) := by decide +kernel
theorem dX7_init_14 : decode cX7_init 14 = .ok (.newarray .int, 2) := by decide +kernel
theorem dX7_init_16 : decode cX7_init 16 = .ok (.putfield 13, 3) := by decide +kernel
theorem dX7_init_19 : decode cX7_init 19 = .ok (.aload_n 0, 1) := by decide +kernel
theorem dX7_init_20 : decode cX7_init 20 = .ok (.bipush 8, 2) := by decide +kernel
theorem dX7_init_22 : decode cX7_init 22 = .ok (.newarray .int, 2) := by decide +kernel
theorem dX7_init_24 : decode cX7_init 24 = .ok (.putfield 16, 3) := by decide +kernel
theorem dX7_init_27 : decode cX7_init 27 = .ok (.aload_n 0, 1) := by decide +kernel
theorem dX7_init_28 : decode cX7_init 28 = .ok (.iconst 4, 1) := by decide +kernel
theorem dX7_init_29 : decode cX7_init 29 = .ok (.newarray .int, 2) := by decide +kernel
theorem dX7_init_31 : decode cX7_init 31 = .ok (.putfield 19, 3) := by decide +kernel
theorem dX7_init_34 : decode cX7_init 34 = .ok (.aload_n 0, 1) := by decide +kernel
theorem dX7_init_35 : decode cX7_init 35 = .ok (.bipush 12, 2) := by decide +kernel
theorem dX7_init_37 : decode cX7_init 37 = .ok (.newarray .int, 2) := by decide +kernel
theorem dX7_init_39 : decode cX7_init 39 = .ok (.putfield 22, 3) := by decide +kernel
theorem dX7_init_42 : decode cX7_init 42 = .ok (.aload_n 0, 1) := by decide +kernel
theorem dX7_init_43 : decode cX7_init 43 = .ok (.bipush 32, 2) := by decide +kernel
theorem dX7_init_45 : decode cX7_init 45 = .ok (.newarray .int, 2) := by decide +kernel
theorem dX7_init_47 : decode cX7_init 47 = .ok (.putfield 25, 3) := by decide +kernel
theorem dX7_init_50 : decode cX7_init 50 = .ok (.aload_n 0, 1) := by decide +kernel
theorem dX7_init_51 : decode cX7_init 51 = .ok (.iconst 4, 1) := by decide +kernel
theorem dX7_init_52 : decode cX7_init 52 = .ok (.newarray .int, 2) := by decide +kernel
theorem dX7_init_54 : decode cX7_init 54 = .ok (.putfield 28, 3) := by decide +kernel
theorem dX7_init_57 : decode cX7_init 57 = .ok (.aload_n 0, 1) := by decide +kernel
theorem dX7_init_58 : decode cX7_init 58 = .ok (.iconst 4, 1) := by decide +kernel
theorem dX7_init_59 : decode cX7_init 59 = .ok (.newarray .int, 2) := by decide +kernel
theorem dX7_init_61 : decode cX7_init 61 = .ok (.putfield 31, 3) := by decide +kernel
theorem dX7_init_64 : decode cX7_init 64 = .ok (.aload_n 0, 1) := by decide +kernel
theorem dX7_init_65 : decode cX7_init 65 = .ok (.bipush 24, 2) := by decide +kernel
theorem dX7_init_67 : decode cX7_init 67 = .ok (.newarray .int, 2) := by decide +kernel
theorem dX7_init_69 : decode cX7_init 69 = .ok (.putfield 34, 3) := by decide +kernel
theorem dX7_init_72 : decode cX7_init 72 = .ok (.aload_n 0, 1) := by decide +kernel
theorem dX7_init_73 : decode cX7_init 73 = .ok (.bipush 7, 2) := by decide +kernel
theorem dX7_init_75 : decode cX7_init 75 = .ok (.newarray .int, 2) := by decide +kernel
theorem dX7_init_77 : decode cX7_init 77 = .ok (.putfield 37, 3) := by decide +kernel
theorem dX7_init_80 : decode cX7_init 80 = .ok (.aload_n 0, 1) := by decide +kernel
theorem dX7_init_81 : decode cX7_init 81 = .ok (.bipush 12, 2) := by decide +kernel
theorem dX7_init_83 : decode cX7_init 83 = .ok (.newarray .int, 2) := by decide +kernel
theorem dX7_init_85 : decode cX7_init 85 = .ok (.putfield 40, 3) := by decide +kernel
theorem dX7_init_88 : decode cX7_init 88 = .ok (.aload_n 0, 1) := by decide +kernel
theorem dX7_init_89 : decode cX7_init 89 = .ok (.bipush 12, 2) := by decide +kernel
theorem dX7_init_91 : decode cX7_init 91 = .ok (.newarray .int, 2) := by decide +kernel
theorem dX7_init_93 : decode cX7_init 93 = .ok (.putfield 43, 3) := by decide +kernel
theorem dX7_init_96 : decode cX7_init 96 = .ok (.aload_n 0, 1) := by decide +kernel
theorem dX7_init_97 : decode cX7_init 97 = .ok (.bipush 32, 2) := by decide +kernel
theorem dX7_init_99 : decode cX7_init 99 = .ok (.newarray .int, 2) := by decide +kernel
theorem dX7_init_101 : decode cX7_init 101 = .ok (.putfield 46, 3) := by decide +kernel
theorem dX7_init_104 : decode cX7_init 104 = .ok (.aload_n 0, 1) := by decide +kernel
theorem dX7_init_105 : decode cX7_init 105 = .ok (.bipush 24, 2) := by decide +kernel
theorem dX7_init_107 : decode cX7_init 107 = .ok (.newarray .int, 2) := by decide +kernel
theorem dX7_init_109 : decode cX7_init 109 = .ok (.putfield 49, 3) := by decide +kernel
theorem dX7_init_112 : decode cX7_init 112 = .ok (.aload_n 0, 1) := by decide +kernel
theorem dX7_init_113 : decode cX7_init 113 = .ok (.iconst (-1), 1) := by decide +kernel
theorem dX7_init_114 : decode cX7_init 114 = .ok (.putfield 52, 3) := by decide +kernel
theorem dX7_init_117 : decode cX7_init 117 = .ok (.return_, 1) := by decide +kernel
theorem dX7_in_0 : decode cX7_in 0 = .ok (.lload_n 0, 1) := by decide +kernel
theorem dX7_in_1 : decode cX7_in 1 = .ok (.lload_n 2, 1) := by decide +kernel
theorem dX7_in_2 : decode cX7_in 2 = .ok (.lcmp, 1) := by decide +kernel
theorem dX7_in_3 : decode cX7_in 3 = .ok (.ifCond .lt 14, 3) := by decide +kernel
theorem dX7_in_6 : decode cX7_in 6 = .ok (.lload_n 0, 1) := by decide +kernel
theorem dX7_in_7 : decode cX7_in 7 = .ok (.lload 4, 2) := by decide +kernel
theorem dX7_in_9 : decode cX7_in 9 = .ok (.lcmp, 1) := by decide +kernel
theorem dX7_in_10 : decode cX7_in 10 = .ok (.ifCond .gt 7, 3) := by decide +kernel
theorem dX7_in_13 : decode cX7_in 13 = .ok (.iconst 1, 1) := by decide +kernel
theorem dX7_in_14 : decode cX7_in 14 = .ok (.goto 4, 3) := by decide +kernel
theorem dX7_in_17 : decode cX7_in 17 = .ok (.iconst 0, 1) := by decide +kernel
theorem dX7_in_18 : decode cX7_in 18 = .ok (.ireturn, 1) := by decide +kernel
theorem dX7_copy_0 : decode cX7_copy 0 = .ok (.iconst 0, 1) := by decide +kernel
theorem dX7_copy_1 : decode cX7_copy 1 = .ok (.istore_n 2, 1) := by decide +kernel
theorem dX7_copy_2 : decode cX7_copy 2 = .ok (.iload_n 2, 1) := by decide +kernel
theorem dX7_copy_3 : decode cX7_copy 3 = .ok (.aload_n 0, 1) := by decide +kernel
theorem dX7_copy_4 : decode cX7_copy 4 = .ok (.arraylength, 1) := by decide +kernel
theorem dX7_copy_5 : decode cX7_copy 5 = .ok (.if_icmp .ge 15, 3) := by decide +kernel
theorem dX7_copy_8 : decode cX7_copy 8 = .ok (.aload_n 1, 1) := by decide +kernel
theorem dX7_copy_9 : decode cX7_copy 9 = .ok (.iload_n 2, 1) := by decide +kernel
theorem dX7_copy_10 : decode cX7_copy 10 = .ok (.aload_n 0, 1) := by decide +kernel
theorem dX7_copy_11 : decode cX7_copy 11 = .ok (.iload_n 2, 1) := by decide +kernel
theorem dX7_copy_12 : decode cX7_copy 12 = .ok (.iaload, 1) := by decide +kernel
theorem dX7_copy_13 : decode cX7_copy 13 = .ok (.iastore, 1) := by decide +kernel
theorem dX7_copy_14 : decode cX7_copy 14 = .ok (.iinc 2 1, 3) := by decide +kernel
theorem dX7_copy_17 : decode cX7_copy 17 = .ok (.goto (-15), 3) := by decide +kernel
theorem dX7_copy_20 : decode cX7_copy 20 = .ok (.return_, 1) := by decide +kernel
theorem dX7_letter_0 : decode cX7_letter 0 = .ok (.iload_n 1, 1) := by decide +kernel
theorem dX7_letter_1 : decode cX7_letter 1 = .ok (.i2l, 1) := by decide +kernel
theorem dX7_letter_2 : decode cX7_letter 2 = .ok (.lconst 1, 1) := by decide +kernel
theorem dX7_letter_3 : decode cX7_letter 3 = .ok (.ldc2_w 56, 3) := by decide +kernel
theorem dX7_letter_6 : decode cX7_letter 6 = .ok (.invokestatic 58, 3) := by decide +kernel
theorem dX7_letter_9 : decode cX7_letter 9 = .ok (.ifCond .ne 6, 3) := by decide +kernel
theorem dX7_letter_12 : decode cX7_letter 12 = .ok (.bipush (-102), 2) := by decide +kernel
theorem dX7_letter_14 : decode cX7_letter 14 = .ok (.ireturn, 1) := by decide +kernel
theorem dX7_letter_15 : decode cX7_letter 15 = .ok (.aload_n 0, 1) := by decide +kernel
theorem dX7_letter_16 : decode cX7_letter 16 = .ok (.getfield 62, 3) := by decide +kernel
theorem dX7_letter_19 : decode cX7_letter 19 = .ok (.bipush 30, 2) := by decide +kernel
theorem dX7_letter_21 : decode cX7_letter 21 = .ok (.if_icmp .ne 6, 3) := by decide +kernel
theorem dX7_letter_24 : decode cX7_letter 24 = .ok (.bipush (-104), 2) := by decide +kernel
theorem dX7_letter_26 : decode cX7_letter 26 = .ok (.ireturn, 1) := by decide +kernel
theorem dX7_letter_27 : decode cX7_letter 27 = .ok (.aload_n 0, 1) := by decide +kernel
theorem dX7_letter_28 : decode cX7_letter 28 = .ok (.getfield 7, 3) := by decide +kernel
theorem dX7_letter_31 : decode cX7_letter 31 = .ok (.aload_n 0, 1) := by decide +kernel
theorem dX7_letter_32 : decode cX7_letter 32 = .ok (.getfield 62, 3) := by decide +kernel
theorem dX7_letter_35 : decode cX7_letter 35 = .ok (.iload_n 1, 1) := by decide +kernel
theorem dX7_letter_36 : decode cX7_letter 36 = .ok (.iastore, 1) := by decide +kernel
theorem dX7_letter_37 : decode cX7_letter 37 = .ok (.aload_n 0, 1) := by decide +kernel
theorem dX7_letter_38 : decode cX7_letter 38 = .ok (.dup, 1) := by decide +kernel
theorem dX7_letter_39 : decode cX7_letter 39 = .ok (.getfield 62, 3) := by decide +kernel
theorem dX7_letter_42 : decode cX7_letter 42 = .ok (.iconst 1, 1) := by decide +kernel
theorem dX7_letter_43 : decode cX7_letter 43 = .ok (.iadd, 1) := by decide +kernel
theorem dX7_letter_44 : decode cX7_letter 44 = .ok (.putfield 62, 3) := by decide +kernel
theorem dX7_letter_47 : decode cX7_letter 47 = .ok (.aload_n 0, 1) := by decide +kernel
theorem dX7_letter_48 : decode cX7_letter 48 = .ok (.getfield 62, 3) := by decide +kernel
theorem dX7_letter_51 : decode cX7_letter 51 = .ok (.ireturn, 1) := by decide +kernel
theorem dX7_blank_0 : decode cX7_blank 0 = .ok (.aload_n 0, 1) := by decide +kernel
theorem dX7_blank_1 : decode cX7_blank 1 = .ok (.getfield 62, 3) := by decide +kernel
theorem dX7_blank_4 : decode cX7_blank 4 = .ok (.istore_n 1, 1) := by decide +kernel
theorem dX7_blank_5 : decode cX7_blank 5 = .ok (.aload_n 0, 1) := by decide +kernel
theorem dX7_blank_6 : decode cX7_blank 6 = .ok (.iconst 0, 1) := by decide +kernel
theorem dX7_blank_7 : decode cX7_blank 7 = .ok (.putfield 62, 3) := by decide +kernel
theorem dX7_blank_10 : decode cX7_blank 10 = .ok (.iload_n 1, 1) := by decide +kernel
theorem dX7_blank_11 : decode cX7_blank 11 = .ok (.ireturn, 1) := by decide +kernel
theorem dX7_kindBy_0 : decode cX7_kindBy 0 = .ok (.iload_n 0, 1) := by decide +kernel
theorem dX7_kindBy_1 : decode cX7_kindBy 1 = .ok (.bipush 115, 2) := by decide +kernel
theorem dX7_kindBy_3 : decode cX7_kindBy 3 = .ok (.if_icmp .ne 7, 3) := by decide +kernel
theorem dX7_kindBy_6 : decode cX7_kindBy 6 = .ok (.iconst 0, 1) := by decide +kernel
theorem dX7_kindBy_7 : decode cX7_kindBy 7 = .ok (.goto 44, 3) := by decide +kernel
theorem dX7_kindBy_10 : decode cX7_kindBy 10 = .ok (.iload_n 0, 1) := by decide +kernel
theorem dX7_kindBy_11 : decode cX7_kindBy 11 = .ok (.bipush 104, 2) := by decide +kernel
theorem dX7_kindBy_13 : decode cX7_kindBy 13 = .ok (.if_icmp .ne 7, 3) := by decide +kernel
theorem dX7_kindBy_16 : decode cX7_kindBy 16 = .ok (.iconst 1, 1) := by decide +kernel
theorem dX7_kindBy_17 : decode cX7_kindBy 17 = .ok (.goto 34, 3) := by decide +kernel
theorem dX7_kindBy_20 : decode cX7_kindBy 20 = .ok (.iload_n 0, 1) := by decide +kernel
theorem dX7_kindBy_21 : decode cX7_kindBy 21 = .ok (.bipush 116, 2) := by decide +kernel
theorem dX7_kindBy_23 : decode cX7_kindBy 23 = .ok (.if_icmp .ne 7, 3) := by decide +kernel
theorem dX7_kindBy_26 : decode cX7_kindBy 26 = .ok (.iconst 2, 1) := by decide +kernel
theorem dX7_kindBy_27 : decode cX7_kindBy 27 = .ok (.goto 24, 3) := by decide +kernel
theorem dX7_kindBy_30 : decode cX7_kindBy 30 = .ok (.iload_n 0, 1) := by decide +kernel
theorem dX7_kindBy_31 : decode cX7_kindBy 31 = .ok (.bipush 99, 2) := by decide +kernel
theorem dX7_kindBy_33 : decode cX7_kindBy 33 = .ok (.if_icmp .ne 7, 3) := by decide +kernel
theorem dX7_kindBy_36 : decode cX7_kindBy 36 = .ok (.iconst 3, 1) := by decide +kernel
theorem dX7_kindBy_37 : decode cX7_kindBy 37 = .ok (.goto 14, 3) := by decide +kernel
theorem dX7_kindBy_40 : decode cX7_kindBy 40 = .ok (.iload_n 0, 1) := by decide +kernel
theorem dX7_kindBy_41 : decode cX7_kindBy 41 = .ok (.bipush 112, 2) := by decide +kernel
theorem dX7_kindBy_43 : decode cX7_kindBy 43 = .ok (.if_icmp .ne 7, 3) := by decide +kernel
theorem dX7_kindBy_46 : decode cX7_kindBy 46 = .ok (.iconst 4, 1) := by decide +kernel
theorem dX7_kindBy_47 : decode cX7_kindBy 47 = .ok (.goto 4, 3) := by decide +kernel
theorem dX7_kindBy_50 : decode cX7_kindBy 50 = .ok (.iconst (-1), 1) := by decide +kernel
theorem dX7_kindBy_51 : decode cX7_kindBy 51 = .ok (.ireturn, 1) := by decide +kernel
theorem dX7_goOpening_0 : decode cX7_goOpening 0 = .ok (.iload_n 1, 1) := by decide +kernel
theorem dX7_goOpening_1 : decode cX7_goOpening 1 = .ok (.bipush 97, 2) := by decide +kernel
theorem dX7_goOpening_3 : decode cX7_goOpening 3 = .ok (.isub, 1) := by decide +kernel
theorem dX7_goOpening_4 : decode cX7_goOpening 4 = .ok (.istore_n 2, 1) := by decide +kernel
theorem dX7_goOpening_5 : decode cX7_goOpening 5 = .ok (.iload_n 1, 1) := by decide +kernel
theorem dX7_goOpening_6 : decode cX7_goOpening 6 = .ok (.bipush 44, 2) := by decide +kernel
theorem dX7_goOpening_8 : decode cX7_goOpening 8 = .ok (.if_icmp .eq 9, 3) := by decide +kernel
theorem dX7_goOpening_11 : decode cX7_goOpening 11 = .ok (.iload_n 1, 1) := by decide +kernel
theorem dX7_goOpening_12 : decode cX7_goOpening 12 = .ok (.bipush 59, 2) := by decide +kernel
theorem dX7_goOpening_14 : decode cX7_goOpening 14 = .ok (.if_icmp .ne 65, 3) := by decide +kernel
theorem dX7_goOpening_17 : decode cX7_goOpening 17 = .ok (.aload_n 0, 1) := by decide +kernel
theorem dX7_goOpening_18 : decode cX7_goOpening 18 = .ok (.getfield 65, 3) := by decide +kernel
theorem dX7_goOpening_21 : decode cX7_goOpening 21 = .ok (.ifCond .le 34, 3) := by decide +kernel
theorem dX7_goOpening_24 : decode cX7_goOpening 24 = .ok (.iload_n 1, 1) := by decide +kernel
theorem dX7_goOpening_25 : decode cX7_goOpening 25 = .ok (.bipush 59, 2) := by decide +kernel
theorem dX7_goOpening_27 : decode cX7_goOpening 27 = .ok (.if_icmp .ne 7, 3) := by decide +kernel
theorem dX7_goOpening_30 : decode cX7_goOpening 30 = .ok (.iconst 1, 1) := by decide +kernel
theorem dX7_goOpening_31 : decode cX7_goOpening 31 = .ok (.goto 4, 3) := by decide +kernel
theorem dX7_goOpening_34 : decode cX7_goOpening 34 = .ok (.iconst 0, 1) := by decide +kernel
theorem dX7_goOpening_35 : decode cX7_goOpening 35 = .ok (.aload_n 0, 1) := by decide +kernel
theorem dX7_goOpening_36 : decode cX7_goOpening 36 = .ok (.getfield 68, 3) := by decide +kernel
theorem dX7_goOpening_39 : decode cX7_goOpening 39 = .ok (.iconst 3, 1) := by decide +kernel
theorem dX7_goOpening_40 : decode cX7_goOpening 40 = .ok (.if_icmp .ne 7, 3) := by decide +kernel
theorem dX7_goOpening_43 : decode cX7_goOpening 43 = .ok (.iconst 1, 1) := by decide +kernel
theorem dX7_goOpening_44 : decode cX7_goOpening 44 = .ok (.goto 4, 3) := by decide +kernel
theorem dX7_goOpening_47 : decode cX7_goOpening 47 = .ok (.iconst 0, 1) := by decide +kernel
theorem dX7_goOpening_48 : decode cX7_goOpening 48 = .ok (.if_icmp .ne 7, 3) := by decide +kernel
theorem dX7_goOpening_51 : decode cX7_goOpening 51 = .ok (.iconst 1, 1) := by decide +kernel
theorem dX7_goOpening_52 : decode cX7_goOpening 52 = .ok (.goto 4, 3) := by decide +kernel
theorem dX7_goOpening_55 : decode cX7_goOpening 55 = .ok (.iconst 0, 1) := by decide +kernel
theorem dX7_goOpening_56 : decode cX7_goOpening 56 = .ok (.istore_n 3, 1) := by decide +kernel
theorem dX7_goOpening_57 : decode cX7_goOpening 57 = .ok (.aload_n 0, 1) := by decide +kernel
theorem dX7_goOpening_58 : decode cX7_goOpening 58 = .ok (.dup, 1) := by decide +kernel
theorem dX7_goOpening_59 : decode cX7_goOpening 59 = .ok (.getfield 68, 3) := by decide +kernel
theorem dX7_goOpening_62 : decode cX7_goOpening 62 = .ok (.iconst 1, 1) := by decide +kernel
theorem dX7_goOpening_63 : decode cX7_goOpening 63 = .ok (.iadd, 1) := by decide +kernel
theorem dX7_goOpening_64 : decode cX7_goOpening 64 = .ok (.putfield 68, 3) := by decide +kernel
theorem dX7_goOpening_67 : decode cX7_goOpening 67 = .ok (.aload_n 0, 1) := by decide +kernel
theorem dX7_goOpening_68 : decode cX7_goOpening 68 = .ok (.iconst 0, 1) := by decide +kernel
theorem dX7_goOpening_69 : decode cX7_goOpening 69 = .ok (.putfield 65, 3) := by decide +kernel
theorem dX7_goOpening_72 : decode cX7_goOpening 72 = .ok (.aload_n 0, 1) := by decide +kernel
theorem dX7_goOpening_73 : decode cX7_goOpening 73 = .ok (.iconst (-1), 1) := by decide +kernel
theorem dX7_goOpening_74 : decode cX7_goOpening 74 = .ok (.putfield 71, 3) := by decide +kernel
theorem dX7_goOpening_77 : decode cX7_goOpening 77 = .ok (.iload_n 3, 1) := by decide +kernel
theorem dX7_goOpening_78 : decode cX7_goOpening 78 = .ok (.ireturn, 1) := by decide +kernel
theorem dX7_goOpening_79 : decode cX7_goOpening 79 = .ok (.iload_n 2, 1) := by decide +kernel
theorem dX7_goOpening_80 : decode cX7_goOpening 80 = .ok (.i2l, 1) := by decide +kernel
theorem dX7_goOpening_81 : decode cX7_goOpening 81 = .ok (.lconst 0, 1) := by decide +kernel
theorem dX7_goOpening_82 : decode cX7_goOpening 82 = .ok (.ldc2_w 74, 3) := by decide +kernel
theorem dX7_goOpening_85 : decode cX7_goOpening 85 = .ok (.invokestatic 58, 3) := by decide +kernel
theorem dX7_goOpening_88 : decode cX7_goOpening 88 = .ok (.ifCond .eq 19, 3) := by decide +kernel
theorem dX7_goOpening_91 : decode cX7_goOpening 91 = .ok (.aload_n 0, 1) := by decide +kernel
theorem dX7_goOpening_92 : decode cX7_goOpening 92 = .ok (.getfield 65, 3) := by decide +kernel
theorem dX7_goOpening_95 : decode cX7_goOpening 95 = .ok (.iconst 3, 1) := by decide +kernel
theorem dX7_goOpening_96 : decode cX7_goOpening 96 = .ok (.if_icmp .eq 11, 3) := by decide +kernel
theorem dX7_goOpening_99 : decode cX7_goOpening 99 = .ok (.iload_n 2, 1) := by decide +kernel
theorem dX7_goOpening_100 : decode cX7_goOpening 100 = .ok (.aload_n 0, 1) := by decide +kernel
theorem dX7_goOpening_101 : decode cX7_goOpening 101 = .ok (.getfield 71, 3) := by decide +kernel
theorem dX7_goOpening_104 : decode cX7_goOpening 104 = .ok (.if_icmp .gt 5, 3) := by decide +kernel
theorem dX7_goOpening_107 : decode cX7_goOpening 107 = .ok (.iconst 0, 1) := by decide +kernel
theorem dX7_goOpening_108 : decode cX7_goOpening 108 = .ok (.ireturn, 1) := by decide +kernel
theorem dX7_goOpening_109 : decode cX7_goOpening 109 = .ok (.aload_n 0, 1) := by decide +kernel
theorem dX7_goOpening_110 : decode cX7_goOpening 110 = .ok (.getfield 13, 3) := by decide +kernel
theorem dX7_goOpening_113 : decode cX7_goOpening 113 = .ok (.aload_n 0, 1) := by decide +kernel
theorem dX7_goOpening_114 : decode cX7_goOpening 114 = .ok (.getfield 68, 3) := by decide +kernel
theorem dX7_goOpening_117 : decode cX7_goOpening 117 = .ok (.aload_n 0, 1) := by decide +kernel
theorem dX7_goOpening_118 : decode cX7_goOpening 118 = .ok (.getfield 65, 3) := by decide +kernel
theorem dX7_goOpening_121 : decode cX7_goOpening 121 = .ok (.ifCond .ne 9, 3) := by decide +kernel
theorem dX7_goOpening_124 : decode cX7_goOpening 124 = .ok (.iconst 1, 1) := by decide +kernel
theorem dX7_goOpening_125 : decode cX7_goOpening 125 = .ok (.iload_n 2, 1) := by decide +kernel
theorem dX7_goOpening_126 : decode cX7_goOpening 126 = .ok (.ishl, 1) := by decide +kernel
theorem dX7_goOpening_127 : decode cX7_goOpening 127 = .ok (.goto 16, 3) := by decide +kernel
theorem dX7_goOpening_130 : decode cX7_goOpening 130 = .ok (.aload_n 0, 1) := by decide +kernel
theorem dX7_goOpening_131 : decode cX7_goOpening 131 = .ok (.getfield 13, 3) := by decide +kernel
theorem dX7_goOpening_134 : decode cX7_goOpening 134 = .ok (.aload_n 0, 1) := by decide +kernel
theorem dX7_goOpening_135 : decode cX7_goOpening 135 = .ok (.getfield 68, 3) := by decide +kernel
theorem dX7_goOpening_138 : decode cX7_goOpening 138 = .ok (.iaload, 1) := by decide +kernel
theorem dX7_goOpening_139 : decode cX7_goOpening 139 = .ok (.iconst 1, 1) := by decide +kernel
theorem dX7_goOpening_140 : decode cX7_goOpening 140 = .ok (.iload_n 2, 1) := by decide +kernel
theorem dX7_goOpening_141 : decode cX7_goOpening 141 = .ok (.ishl, 1) := by decide +kernel
theorem dX7_goOpening_142 : decode cX7_goOpening 142 = .ok (.ior, 1) := by decide +kernel
theorem dX7_goOpening_143 : decode cX7_goOpening 143 = .ok (.iastore, 1) := by decide +kernel
theorem dX7_goOpening_144 : decode cX7_goOpening 144 = .ok (.aload_n 0, 1) := by decide +kernel
theorem dX7_goOpening_145 : decode cX7_goOpening 145 = .ok (.dup, 1) := by decide +kernel
theorem dX7_goOpening_146 : decode cX7_goOpening 146 = .ok (.getfield 65, 3) := by decide +kernel
theorem dX7_goOpening_149 : decode cX7_goOpening 149 = .ok (.iconst 1, 1) := by decide +kernel
theorem dX7_goOpening_150 : decode cX7_goOpening 150 = .ok (.iadd, 1) := by decide +kernel
theorem dX7_goOpening_151 : decode cX7_goOpening 151 = .ok (.putfield 65, 3) := by decide +kernel
theorem dX7_goOpening_154 : decode cX7_goOpening 154 = .ok (.aload_n 0, 1) := by decide +kernel
theorem dX7_goOpening_155 : decode cX7_goOpening 155 = .ok (.iload_n 2, 1) := by decide +kernel
theorem dX7_goOpening_156 : decode cX7_goOpening 156 = .ok (.putfield 71, 3) := by decide +kernel
theorem dX7_goOpening_159 : decode cX7_goOpening 159 = .ok (.iconst 1, 1) := by decide +kernel
theorem dX7_goOpening_160 : decode cX7_goOpening 160 = .ok (.ireturn, 1) := by decide +kernel
theorem dX7_goSpeaker_0 : decode cX7_goSpeaker 0 = .ok (.aload_n 0, 1) := by decide +kernel
theorem dX7_goSpeaker_1 : decode cX7_goSpeaker 1 = .ok (.getfield 76, 3) := by decide +kernel
theorem dX7_goSpeaker_4 : decode cX7_goSpeaker 4 = .ok (.istore_n 2, 1) := by decide +kernel
theorem dX7_goSpeaker_5 : decode cX7_goSpeaker 5 = .ok (.aload_n 0, 1) := by decide +kernel
theorem dX7_goSpeaker_6 : decode cX7_goSpeaker 6 = .ok (.aload_n 0, 1) := by decide +kernel
theorem dX7_goSpeaker_7 : decode cX7_goSpeaker 7 = .ok (.getfield 76, 3) := by decide +kernel
theorem dX7_goSpeaker_10 : decode cX7_goSpeaker 10 = .ok (.iconst 1, 1) := by decide +kernel
theorem dX7_goSpeaker_11 : decode cX7_goSpeaker 11 = .ok (.iadd, 1) := by decide +kernel
theorem dX7_goSpeaker_12 : decode cX7_goSpeaker 12 = .ok (.iconst 3, 1) := by decide +kernel
theorem dX7_goSpeaker_13 : decode cX7_goSpeaker 13 = .ok (.irem, 1) := by decide +kernel
theorem dX7_goSpeaker_14 : decode cX7_goSpeaker 14 = .ok (.putfield 76, 3) := by decide +kernel
theorem dX7_goSpeaker_17 : decode cX7_goSpeaker 17 = .ok (.iload_n 2, 1) := by decide +kernel
theorem dX7_goSpeaker_18 : decode cX7_goSpeaker 18 = .ok (.ifCond .ne 32, 3) := by decide +kernel
theorem dX7_goSpeaker_21 : decode cX7_goSpeaker 21 = .ok (.aload_n 0, 1) := by decide +kernel
theorem dX7_goSpeaker_22 : decode cX7_goSpeaker 22 = .ok (.getfield 16, 3) := by decide +kernel
theorem dX7_goSpeaker_25 : decode cX7_goSpeaker 25 = .ok (.iconst 2, 1) := by decide +kernel
theorem dX7_goSpeaker_26 : decode cX7_goSpeaker 26 = .ok (.aload_n 0, 1) := by decide +kernel
theorem dX7_goSpeaker_27 : decode cX7_goSpeaker 27 = .ok (.getfield 79, 3) := by decide +kernel
theorem dX7_goSpeaker_30 : decode cX7_goSpeaker 30 = .ok (.imul, 1) := by decide +kernel
theorem dX7_goSpeaker_31 : decode cX7_goSpeaker 31 = .ok (.iload_n 1, 1) := by decide +kernel
theorem dX7_goSpeaker_32 : decode cX7_goSpeaker 32 = .ok (.invokestatic 82, 3) := by decide +kernel
theorem dX7_goSpeaker_35 : decode cX7_goSpeaker 35 = .ok (.iastore, 1) := by decide +kernel
theorem dX7_goSpeaker_36 : decode cX7_goSpeaker 36 = .ok (.iload_n 1, 1) := by decide +kernel
theorem dX7_goSpeaker_37 : decode cX7_goSpeaker 37 = .ok (.invokestatic 82, 3) := by decide +kernel
theorem dX7_goSpeaker_40 : decode cX7_goSpeaker 40 = .ok (.iconst (-1), 1) := by decide +kernel
theorem dX7_goSpeaker_41 : decode cX7_goSpeaker 41 = .ok (.if_icmp .eq 7, 3) := by decide +kernel
theorem dX7_goSpeaker_44 : decode cX7_goSpeaker 44 = .ok (.iconst 1, 1) := by decide +kernel
theorem dX7_goSpeaker_45 : decode cX7_goSpeaker 45 = .ok (.goto 4, 3) := by decide +kernel
theorem dX7_goSpeaker_48 : decode cX7_goSpeaker 48 = .ok (.iconst 0, 1) := by decide +kernel
theorem dX7_goSpeaker_49 : decode cX7_goSpeaker 49 = .ok (.ireturn, 1) := by decide +kernel
theorem dX7_goSpeaker_50 : decode cX7_goSpeaker 50 = .ok (.iload_n 2, 1) := by decide +kernel
theorem dX7_goSpeaker_51 : decode cX7_goSpeaker 51 = .ok (.iconst 1, 1) := by decide +kernel
theorem dX7_goSpeaker_52 : decode cX7_goSpeaker 52 = .ok (.if_icmp .ne 42, 3) := by decide +kernel
theorem dX7_goSpeaker_55 : decode cX7_goSpeaker 55 = .ok (.aload_n 0, 1) := by decide +kernel
theorem dX7_goSpeaker_56 : decode cX7_goSpeaker 56 = .ok (.getfield 16, 3) := by decide +kernel
theorem dX7_goSpeaker_59 : decode cX7_goSpeaker 59 = .ok (.iconst 2, 1) := by decide +kernel
theorem dX7_goSpeaker_60 : decode cX7_goSpeaker 60 = .ok (.aload_n 0, 1) := by decide +kernel
theorem dX7_goSpeaker_61 : decode cX7_goSpeaker 61 = .ok (.getfield 79, 3) := by decide +kernel
theorem dX7_goSpeaker_64 : decode cX7_goSpeaker 64 = .ok (.imul, 1) := by decide +kernel
theorem dX7_goSpeaker_65 : decode cX7_goSpeaker 65 = .ok (.iconst 1, 1) := by decide +kernel
theorem dX7_goSpeaker_66 : decode cX7_goSpeaker 66 = .ok (.iadd, 1) := by decide +kernel
theorem dX7_goSpeaker_67 : decode cX7_goSpeaker 67 = .ok (.iload_n 1, 1) := by decide +kernel
theorem dX7_goSpeaker_68 : decode cX7_goSpeaker 68 = .ok (.bipush 97, 2) := by decide +kernel
theorem dX7_goSpeaker_70 : decode cX7_goSpeaker 70 = .ok (.isub, 1) := by decide +kernel
theorem dX7_goSpeaker_71 : decode cX7_goSpeaker 71 = .ok (.iastore, 1) := by decide +kernel
theorem dX7_goSpeaker_72 : decode cX7_goSpeaker 72 = .ok (.aload_n 0, 1) := by decide +kernel
theorem dX7_goSpeaker_73 : decode cX7_goSpeaker 73 = .ok (.dup, 1) := by decide +kernel
theorem dX7_goSpeaker_74 : decode cX7_goSpeaker 74 = .ok (.getfield 79, 3) := by decide +kernel
theorem dX7_goSpeaker_77 : decode cX7_goSpeaker 77 = .ok (.iconst 1, 1) := by decide +kernel
theorem dX7_goSpeaker_78 : decode cX7_goSpeaker 78 = .ok (.iadd, 1) := by decide +kernel
theorem dX7_goSpeaker_79 : decode cX7_goSpeaker 79 = .ok (.putfield 79, 3) := by decide +kernel
theorem dX7_goSpeaker_82 : decode cX7_goSpeaker 82 = .ok (.iload_n 1, 1) := by decide +kernel
theorem dX7_goSpeaker_83 : decode cX7_goSpeaker 83 = .ok (.i2l, 1) := by decide +kernel
theorem dX7_goSpeaker_84 : decode cX7_goSpeaker 84 = .ok (.ldc2_w 86, 3) := by decide +kernel
theorem dX7_goSpeaker_87 : decode cX7_goSpeaker 87 = .ok (.ldc2_w 88, 3) := by decide +kernel
theorem dX7_goSpeaker_90 : decode cX7_goSpeaker 90 = .ok (.invokestatic 58, 3) := by decide +kernel
theorem dX7_goSpeaker_93 : decode cX7_goSpeaker 93 = .ok (.ireturn, 1) := by decide +kernel
theorem dX7_goSpeaker_94 : decode cX7_goSpeaker 94 = .ok (.iload_n 1, 1) := by decide +kernel
theorem dX7_goSpeaker_95 : decode cX7_goSpeaker 95 = .ok (.bipush 44, 2) := by decide +kernel
theorem dX7_goSpeaker_97 : decode cX7_goSpeaker 97 = .ok (.if_icmp .ne 15, 3) := by decide +kernel
theorem dX7_goSpeaker_100 : decode cX7_goSpeaker 100 = .ok (.aload_n 0, 1) := by decide +kernel
theorem dX7_goSpeaker_101 : decode cX7_goSpeaker 101 = .ok (.getfield 79, 3) := by decide +kernel
theorem dX7_goSpeaker_104 : decode cX7_goSpeaker 104 = .ok (.iconst 4, 1) := by decide +kernel
theorem dX7_goSpeaker_105 : decode cX7_goSpeaker 105 = .ok (.if_icmp .ge 7, 3) := by decide +kernel
theorem dX7_goSpeaker_108 : decode cX7_goSpeaker 108 = .ok (.iconst 1, 1) := by decide +kernel
theorem dX7_goSpeaker_109 : decode cX7_goSpeaker 109 = .ok (.goto 4, 3) := by decide +kernel
theorem dX7_goSpeaker_112 : decode cX7_goSpeaker 112 = .ok (.iconst 0, 1) := by decide +kernel
theorem dX7_goSpeaker_113 : decode cX7_goSpeaker 113 = .ok (.ireturn, 1) := by decide +kernel
theorem dX7_faultOf_0 : decode cX7_faultOf 0 = .ok (.aload_n 0, 1) := by decide +kernel
theorem dX7_faultOf_1 : decode cX7_faultOf 1 = .ok (.iconst 0, 1) := by decide +kernel
theorem dX7_faultOf_2 : decode cX7_faultOf 2 = .ok (.putfield 68, 3) := by decide +kernel
theorem dX7_faultOf_5 : decode cX7_faultOf 5 = .ok (.aload_n 0, 1) := by decide +kernel
theorem dX7_faultOf_6 : decode cX7_faultOf 6 = .ok (.iconst 0, 1) := by decide +kernel
theorem dX7_faultOf_7 : decode cX7_faultOf 7 = .ok (.putfield 65, 3) := by decide +kernel
theorem dX7_faultOf_10 : decode cX7_faultOf 10 = .ok (.aload_n 0, 1) := by decide +kernel
theorem dX7_faultOf_11 : decode cX7_faultOf 11 = .ok (.iconst (-1), 1) := by decide +kernel
theorem dX7_faultOf_12 : decode cX7_faultOf 12 = .ok (.putfield 71, 3) := by decide +kernel
theorem dX7_faultOf_15 : decode cX7_faultOf 15 = .ok (.aload_n 0, 1) := by decide +kernel
theorem dX7_faultOf_16 : decode cX7_faultOf 16 = .ok (.iconst 0, 1) := by decide +kernel
theorem dX7_faultOf_17 : decode cX7_faultOf 17 = .ok (.putfield 79, 3) := by decide +kernel
theorem dX7_faultOf_20 : decode cX7_faultOf 20 = .ok (.aload_n 0, 1) := by decide +kernel
theorem dX7_faultOf_21 : decode cX7_faultOf 21 = .ok (.iconst 0, 1) := by decide +kernel
theorem dX7_faultOf_22 : decode cX7_faultOf 22 = .ok (.putfield 76, 3) := by decide +kernel
theorem dX7_faultOf_25 : decode cX7_faultOf 25 = .ok (.iconst 0, 1) := by decide +kernel
theorem dX7_faultOf_26 : decode cX7_faultOf 26 = .ok (.istore_n 1, 1) := by decide +kernel
theorem dX7_faultOf_27 : decode cX7_faultOf 27 = .ok (.iload_n 1, 1) := by decide +kernel
theorem dX7_faultOf_28 : decode cX7_faultOf 28 = .ok (.aload_n 0, 1) := by decide +kernel
theorem dX7_faultOf_29 : decode cX7_faultOf 29 = .ok (.getfield 62, 3) := by decide +kernel
theorem dX7_faultOf_32 : decode cX7_faultOf 32 = .ok (.if_icmp .ge 46, 3) := by decide +kernel
theorem dX7_faultOf_35 : decode cX7_faultOf 35 = .ok (.aload_n 0, 1) := by decide +kernel
theorem dX7_faultOf_36 : decode cX7_faultOf 36 = .ok (.getfield 68, 3) := by decide +kernel
theorem dX7_faultOf_39 : decode cX7_faultOf 39 = .ok (.iconst 4, 1) := by decide +kernel
theorem dX7_faultOf_40 : decode cX7_faultOf 40 = .ok (.if_icmp .ge 19, 3) := by decide +kernel
theorem dX7_faultOf_43 : decode cX7_faultOf 43 = .ok (.aload_n 0, 1) := by decide +kernel
theorem dX7_faultOf_44 : decode cX7_faultOf 44 = .ok (.aload_n 0, 1) := by decide +kernel
theorem dX7_faultOf_45 : decode cX7_faultOf 45 = .ok (.getfield 7, 3) := by decide +kernel
theorem dX7_faultOf_48 : decode cX7_faultOf 48 = .ok (.iload_n 1, 1) := by decide +kernel
theorem dX7_faultOf_49 : decode cX7_faultOf 49 = .ok (.iaload, 1) := by decide +kernel
theorem dX7_faultOf_50 : decode cX7_faultOf 50 = .ok (.invokevirtual 90, 3) := by decide +kernel
theorem dX7_faultOf_53 : decode cX7_faultOf 53 = .ok (.ifCond .eq 25, 3) := by decide +kernel
theorem dX7_faultOf_56 : decode cX7_faultOf 56 = .ok (.goto 16, 3) := by decide +kernel
theorem dX7_faultOf_59 : decode cX7_faultOf 59 = .ok (.aload_n 0, 1) := by decide +kernel
theorem dX7_faultOf_60 : decode cX7_faultOf 60 = .ok (.aload_n 0, 1) := by decide +kernel
theorem dX7_faultOf_61 : decode cX7_faultOf 61 = .ok (.getfield 7, 3) := by decide +kernel
theorem dX7_faultOf_64 : decode cX7_faultOf 64 = .ok (.iload_n 1, 1) := by decide +kernel
theorem dX7_faultOf_65 : decode cX7_faultOf 65 = .ok (.iaload, 1) := by decide +kernel
theorem dX7_faultOf_66 : decode cX7_faultOf 66 = .ok (.invokevirtual 94, 3) := by decide +kernel
theorem dX7_faultOf_69 : decode cX7_faultOf 69 = .ok (.ifCond .eq 9, 3) := by decide +kernel
theorem dX7_faultOf_72 : decode cX7_faultOf 72 = .ok (.iinc 1 1, 3) := by decide +kernel
theorem dX7_faultOf_75 : decode cX7_faultOf 75 = .ok (.goto (-48), 3) := by decide +kernel
theorem dX7_faultOf_78 : decode cX7_faultOf 78 = .ok (.iload_n 1, 1) := by decide +kernel
theorem dX7_faultOf_79 : decode cX7_faultOf 79 = .ok (.ireturn, 1) := by decide +kernel
theorem dX7_fault_0 : decode cX7_fault 0 = .ok (.aload_n 0, 1) := by decide +kernel
theorem dX7_fault_1 : decode cX7_fault 1 = .ok (.invokevirtual 97, 3) := by decide +kernel
theorem dX7_fault_4 : decode cX7_fault 4 = .ok (.ireturn, 1) := by decide +kernel
theorem dX7_room_0 : decode cX7_room 0 = .ok (.aload_n 0, 1) := by decide +kernel
theorem dX7_room_1 : decode cX7_room 1 = .ok (.invokevirtual 97, 3) := by decide +kernel
theorem dX7_room_4 : decode cX7_room 4 = .ok (.aload_n 0, 1) := by decide +kernel
theorem dX7_room_5 : decode cX7_room 5 = .ok (.getfield 62, 3) := by decide +kernel
theorem dX7_room_8 : decode cX7_room 8 = .ok (.if_icmp .lt 19, 3) := by decide +kernel
theorem dX7_room_11 : decode cX7_room 11 = .ok (.aload_n 0, 1) := by decide +kernel
theorem dX7_room_12 : decode cX7_room 12 = .ok (.getfield 76, 3) := by decide +kernel
theorem dX7_room_15 : decode cX7_room 15 = .ok (.iconst 2, 1) := by decide +kernel
theorem dX7_room_16 : decode cX7_room 16 = .ok (.if_icmp .ne 11, 3) := by decide +kernel
theorem dX7_room_19 : decode cX7_room 19 = .ok (.aload_n 0, 1) := by decide +kernel
theorem dX7_room_20 : decode cX7_room 20 = .ok (.getfield 79, 3) := by decide +kernel
theorem dX7_room_23 : decode cX7_room 23 = .ok (.iconst 2, 1) := by decide +kernel
theorem dX7_room_24 : decode cX7_room 24 = .ok (.if_icmp .ge 6, 3) := by decide +kernel
theorem dX7_room_27 : decode cX7_room 27 = .ok (.bipush (-103), 2) := by decide +kernel
theorem dX7_room_29 : decode cX7_room 29 = .ok (.ireturn, 1) := by decide +kernel
theorem dX7_room_30 : decode cX7_room 30 = .ok (.aload_n 0, 1) := by decide +kernel
theorem dX7_room_31 : decode cX7_room 31 = .ok (.aload_n 0, 1) := by decide +kernel
theorem dX7_room_32 : decode cX7_room 32 = .ok (.getfield 79, 3) := by decide +kernel
theorem dX7_room_35 : decode cX7_room 35 = .ok (.putfield 101, 3) := by decide +kernel
theorem dX7_room_38 : decode cX7_room 38 = .ok (.aload_n 0, 1) := by decide +kernel
theorem dX7_room_39 : decode cX7_room 39 = .ok (.getfield 13, 3) := by decide +kernel
theorem dX7_room_42 : decode cX7_room 42 = .ok (.aload_n 0, 1) := by decide +kernel
theorem dX7_room_43 : decode cX7_room 43 = .ok (.getfield 19, 3) := by decide +kernel
theorem dX7_room_46 : decode cX7_room 46 = .ok (.invokestatic 104, 3) := by decide +kernel
theorem dX7_room_49 : decode cX7_room 49 = .ok (.iconst 0, 1) := by decide +kernel
theorem dX7_room_50 : decode cX7_room 50 = .ok (.istore_n 1, 1) := by decide +kernel
theorem dX7_room_51 : decode cX7_room 51 = .ok (.iload_n 1, 1) := by decide +kernel
theorem dX7_room_52 : decode cX7_room 52 = .ok (.aload_n 0, 1) := by decide +kernel
theorem dX7_room_53 : decode cX7_room 53 = .ok (.getfield 101, 3) := by decide +kernel
theorem dX7_room_56 : decode cX7_room 56 = .ok (.if_icmp .ge 56, 3) := by decide +kernel
theorem dX7_room_59 : decode cX7_room 59 = .ok (.aload_n 0, 1) := by decide +kernel
theorem dX7_room_60 : decode cX7_room 60 = .ok (.getfield 22, 3) := by decide +kernel
theorem dX7_room_63 : decode cX7_room 63 = .ok (.iconst 3, 1) := by decide +kernel
theorem dX7_room_64 : decode cX7_room 64 = .ok (.iload_n 1, 1) := by decide +kernel
theorem dX7_room_65 : decode cX7_room 65 = .ok (.imul, 1) := by decide +kernel
theorem dX7_room_66 : decode cX7_room 66 = .ok (.aload_n 0, 1) := by decide +kernel
theorem dX7_room_67 : decode cX7_room 67 = .ok (.getfield 16, 3) := by decide +kernel
theorem dX7_room_70 : decode cX7_room 70 = .ok (.iconst 2, 1) := by decide +kernel
theorem dX7_room_71 : decode cX7_room 71 = .ok (.iload_n 1, 1) := by decide +kernel
theorem dX7_room_72 : decode cX7_room 72 = .ok (.imul, 1) := by decide +kernel
theorem dX7_room_73 : decode cX7_room 73 = .ok (.iaload, 1) := by decide +kernel
theorem dX7_room_74 : decode cX7_room 74 = .ok (.iastore, 1) := by decide +kernel
theorem dX7_room_75 : decode cX7_room 75 = .ok (.aload_n 0, 1) := by decide +kernel
theorem dX7_room_76 : decode cX7_room 76 = .ok (.getfield 22, 3) := by decide +kernel
theorem dX7_room_79 : decode cX7_room 79 = .ok (.iconst 3, 1) := by decide +kernel
theorem dX7_room_80 : decode cX7_room 80 = .ok (.iload_n 1, 1) := by decide +kernel
theorem dX7_room_81 : decode cX7_room 81 = .ok (.imul, 1) := by decide +kernel
theorem dX7_room_82 : decode cX7_room 82 = .ok (.iconst 1, 1) := by decide +kernel
theorem dX7_room_83 : decode cX7_room 83 = .ok (.iadd, 1) := by decide +kernel
theorem dX7_room_84 : decode cX7_room 84 = .ok (.aload_n 0, 1) := by decide +kernel
theorem dX7_room_85 : decode cX7_room 85 = .ok (.getfield 16, 3) := by decide +kernel
theorem dX7_room_88 : decode cX7_room 88 = .ok (.iconst 2, 1) := by decide +kernel
theorem dX7_room_89 : decode cX7_room 89 = .ok (.iload_n 1, 1) := by decide +kernel
theorem dX7_room_90 : decode cX7_room 90 = .ok (.imul, 1) := by decide +kernel
theorem dX7_room_91 : decode cX7_room 91 = .ok (.iconst 1, 1) := by decide +kernel
theorem dX7_room_92 : decode cX7_room 92 = .ok (.iadd, 1) := by decide +kernel
theorem dX7_room_93 : decode cX7_room 93 = .ok (.iaload, 1) := by decide +kernel
theorem dX7_room_94 : decode cX7_room 94 = .ok (.iastore, 1) := by decide +kernel
theorem dX7_room_95 : decode cX7_room 95 = .ok (.aload_n 0, 1) := by decide +kernel
theorem dX7_room_96 : decode cX7_room 96 = .ok (.getfield 22, 3) := by decide +kernel
theorem dX7_room_99 : decode cX7_room 99 = .ok (.iconst 3, 1) := by decide +kernel
theorem dX7_room_100 : decode cX7_room 100 = .ok (.iload_n 1, 1) := by decide +kernel
theorem dX7_room_101 : decode cX7_room 101 = .ok (.imul, 1) := by decide +kernel
theorem dX7_room_102 : decode cX7_room 102 = .ok (.iconst 2, 1) := by decide +kernel
theorem dX7_room_103 : decode cX7_room 103 = .ok (.iadd, 1) := by decide +kernel
theorem dX7_room_104 : decode cX7_room 104 = .ok (.iconst 0, 1) := by decide +kernel
theorem dX7_room_105 : decode cX7_room 105 = .ok (.iastore, 1) := by decide +kernel
theorem dX7_room_106 : decode cX7_room 106 = .ok (.iinc 1 1, 3) := by decide +kernel
theorem dX7_room_109 : decode cX7_room 109 = .ok (.goto (-58), 3) := by decide +kernel
theorem dX7_room_112 : decode cX7_room 112 = .ok (.aload_n 0, 1) := by decide +kernel
theorem dX7_room_113 : decode cX7_room 113 = .ok (.iconst 0, 1) := by decide +kernel
theorem dX7_room_114 : decode cX7_room 114 = .ok (.putfield 108, 3) := by decide +kernel
theorem dX7_room_117 : decode cX7_room 117 = .ok (.aload_n 0, 1) := by decide +kernel
theorem dX7_room_118 : decode cX7_room 118 = .ok (.iconst 0, 1) := by decide +kernel
theorem dX7_room_119 : decode cX7_room 119 = .ok (.putfield 111, 3) := by decide +kernel
theorem dX7_room_122 : decode cX7_room 122 = .ok (.aload_n 0, 1) := by decide +kernel
theorem dX7_room_123 : decode cX7_room 123 = .ok (.iconst 0, 1) := by decide +kernel
theorem dX7_room_124 : decode cX7_room 124 = .ok (.putfield 114, 3) := by decide +kernel
theorem dX7_room_127 : decode cX7_room 127 = .ok (.aload_n 0, 1) := by decide +kernel
theorem dX7_room_128 : decode cX7_room 128 = .ok (.dup, 1) := by decide +kernel
theorem dX7_room_129 : decode cX7_room 129 = .ok (.getfield 117, 3) := by decide +kernel
theorem dX7_room_132 : decode cX7_room 132 = .ok (.iconst 1, 1) := by decide +kernel
theorem dX7_room_133 : decode cX7_room 133 = .ok (.iadd, 1) := by decide +kernel
theorem dX7_room_134 : decode cX7_room 134 = .ok (.putfield 117, 3) := by decide +kernel
theorem dX7_room_137 : decode cX7_room 137 = .ok (.aload_n 0, 1) := by decide +kernel
theorem dX7_room_138 : decode cX7_room 138 = .ok (.iconst 0, 1) := by decide +kernel
theorem dX7_room_139 : decode cX7_room 139 = .ok (.putfield 62, 3) := by decide +kernel
theorem dX7_room_142 : decode cX7_room 142 = .ok (.aload_n 0, 1) := by decide +kernel
theorem dX7_room_143 : decode cX7_room 143 = .ok (.getfield 101, 3) := by decide +kernel
theorem dX7_room_146 : decode cX7_room 146 = .ok (.ireturn, 1) := by decide +kernel
theorem dX7_lacks_0 : decode cX7_lacks 0 = .ok (.aload_n 0, 1) := by decide +kernel
theorem dX7_lacks_1 : decode cX7_lacks 1 = .ok (.getfield 101, 3) := by decide +kernel
theorem dX7_lacks_4 : decode cX7_lacks 4 = .ok (.ifCond .ne 7, 3) := by decide +kernel
theorem dX7_lacks_7 : decode cX7_lacks 7 = .ok (.iconst 1, 1) := by decide +kernel
theorem dX7_lacks_8 : decode cX7_lacks 8 = .ok (.goto 4, 3) := by decide +kernel
theorem dX7_lacks_11 : decode cX7_lacks 11 = .ok (.iconst 0, 1) := by decide +kernel
theorem dX7_lacks_12 : decode cX7_lacks 12 = .ok (.ireturn, 1) := by decide +kernel
theorem dX7_isOpening_0 : decode cX7_isOpening 0 = .ok (.aload_n 0, 1) := by decide +kernel
theorem dX7_isOpening_1 : decode cX7_isOpening 1 = .ok (.invokevirtual 120, 3) := by decide +kernel
theorem dX7_isOpening_4 : decode cX7_isOpening 4 = .ok (.ifCond .ne 19, 3) := by decide +kernel
theorem dX7_isOpening_7 : decode cX7_isOpening 7 = .ok (.iload_n 1, 1) := by decide +kernel
theorem dX7_isOpening_8 : decode cX7_isOpening 8 = .ok (.i2l, 1) := by decide +kernel
theorem dX7_isOpening_9 : decode cX7_isOpening 9 = .ok (.lconst 0, 1) := by decide +kernel
theorem dX7_isOpening_10 : decode cX7_isOpening 10 = .ok (.ldc2_w 124, 3) := by decide +kernel
theorem dX7_isOpening_13 : decode cX7_isOpening 13 = .ok (.invokestatic 58, 3) := by decide +kernel
theorem dX7_isOpening_16 : decode cX7_isOpening 16 = .ok (.ifCond .eq 7, 3) := by decide +kernel
theorem dX7_isOpening_19 : decode cX7_isOpening 19 = .ok (.iconst 1, 1) := by decide +kernel
theorem dX7_isOpening_20 : decode cX7_isOpening 20 = .ok (.goto 4, 3) := by decide +kernel
theorem dX7_isOpening_23 : decode cX7_isOpening 23 = .ok (.iconst 0, 1) := by decide +kernel
theorem dX7_isOpening_24 : decode cX7_isOpening 24 = .ok (.ireturn, 1) := by decide +kernel
theorem dX7_isSpeaker_0 : decode cX7_isSpeaker 0 = .ok (.iload_n 1, 1) := by decide +kernel
theorem dX7_isSpeaker_1 : decode cX7_isSpeaker 1 = .ok (.i2l, 1) := by decide +kernel
theorem dX7_isSpeaker_2 : decode cX7_isSpeaker 2 = .ok (.lconst 0, 1) := by decide +kernel
theorem dX7_isSpeaker_3 : decode cX7_isSpeaker 3 = .ok (.aload_n 0, 1) := by decide +kernel
theorem dX7_isSpeaker_4 : decode cX7_isSpeaker 4 = .ok (.getfield 101, 3) := by decide +kernel
theorem dX7_isSpeaker_7 : decode cX7_isSpeaker 7 = .ok (.iconst 1, 1) := by decide +kernel
theorem dX7_isSpeaker_8 : decode cX7_isSpeaker 8 = .ok (.isub, 1) := by decide +kernel
theorem dX7_isSpeaker_9 : decode cX7_isSpeaker 9 = .ok (.i2l, 1) := by decide +kernel
theorem dX7_isSpeaker_10 : decode cX7_isSpeaker 10 = .ok (.invokestatic 58, 3) := by decide +kernel
theorem dX7_isSpeaker_13 : decode cX7_isSpeaker 13 = .ok (.ireturn, 1) := by decide +kernel
theorem dX7_fits_0 : decode cX7_fits 0 = .ok (.aload_n 0, 1) := by decide +kernel
theorem dX7_fits_1 : decode cX7_fits 1 = .ok (.iload_n 1, 1) := by decide +kernel
theorem dX7_fits_2 : decode cX7_fits 2 = .ok (.invokevirtual 126, 3) := by decide +kernel
theorem dX7_fits_5 : decode cX7_fits 5 = .ok (.ifCond .eq 12, 3) := by decide +kernel
theorem dX7_fits_8 : decode cX7_fits 8 = .ok (.aload_n 0, 1) := by decide +kernel
theorem dX7_fits_9 : decode cX7_fits 9 = .ok (.getfield 19, 3) := by decide +kernel
theorem dX7_fits_12 : decode cX7_fits 12 = .ok (.iload_n 1, 1) := by decide +kernel
theorem dX7_fits_13 : decode cX7_fits 13 = .ok (.iaload, 1) := by decide +kernel
theorem dX7_fits_14 : decode cX7_fits 14 = .ok (.goto 5, 3) := by decide +kernel
theorem dX7_fits_17 : decode cX7_fits 17 = .ok (.bipush (-101), 2) := by decide +kernel
theorem dX7_fits_19 : decode cX7_fits 19 = .ok (.ireturn, 1) := by decide +kernel
theorem dX7_leastOf_0 : decode cX7_leastOf 0 = .ok (.iconst (-1), 1) := by decide +kernel
theorem dX7_leastOf_1 : decode cX7_leastOf 1 = .ok (.istore_n 1, 1) := by decide +kernel
theorem dX7_leastOf_2 : decode cX7_leastOf 2 = .ok (.iconst 5, 1) := by decide +kernel
theorem dX7_leastOf_3 : decode cX7_leastOf 3 = .ok (.istore_n 2, 1) := by decide +kernel
theorem dX7_leastOf_4 : decode cX7_leastOf 4 = .ok (.iload_n 2, 1) := by decide +kernel
theorem dX7_leastOf_5 : decode cX7_leastOf 5 = .ok (.ifCond .lt 24, 3) := by decide +kernel
theorem dX7_leastOf_8 : decode cX7_leastOf 8 = .ok (.iload_n 0, 1) := by decide +kernel
theorem dX7_leastOf_9 : decode cX7_leastOf 9 = .ok (.iload_n 2, 1) := by decide +kernel
theorem dX7_leastOf_10 : decode cX7_leastOf 10 = .ok (.ishr, 1) := by decide +kernel
theorem dX7_leastOf_11 : decode cX7_leastOf 11 = .ok (.iconst 1, 1) := by decide +kernel
theorem dX7_leastOf_12 : decode cX7_leastOf 12 = .ok (.iand, 1) := by decide +kernel
theorem dX7_leastOf_13 : decode cX7_leastOf 13 = .ok (.iconst 1, 1) := by decide +kernel
theorem dX7_leastOf_14 : decode cX7_leastOf 14 = .ok (.if_icmp .ne 7, 3) := by decide +kernel
theorem dX7_leastOf_17 : decode cX7_leastOf 17 = .ok (.iload_n 2, 1) := by decide +kernel
theorem dX7_leastOf_18 : decode cX7_leastOf 18 = .ok (.goto 4, 3) := by decide +kernel
theorem dX7_leastOf_21 : decode cX7_leastOf 21 = .ok (.iload_n 1, 1) := by decide +kernel
theorem dX7_leastOf_22 : decode cX7_leastOf 22 = .ok (.istore_n 1, 1) := by decide +kernel
theorem dX7_leastOf_23 : decode cX7_leastOf 23 = .ok (.iinc 2 (-1), 3) := by decide +kernel
theorem dX7_leastOf_26 : decode cX7_leastOf 26 = .ok (.goto (-22), 3) := by decide +kernel
theorem dX7_leastOf_29 : decode cX7_leastOf 29 = .ok (.iload_n 1, 1) := by decide +kernel
theorem dX7_leastOf_30 : decode cX7_leastOf 30 = .ok (.ireturn, 1) := by decide +kernel
theorem dX7_greatestOf_0 : decode cX7_greatestOf 0 = .ok (.iconst (-1), 1) := by decide +kernel
theorem dX7_greatestOf_1 : decode cX7_greatestOf 1 = .ok (.istore_n 1, 1) := by decide +kernel
theorem dX7_greatestOf_2 : decode cX7_greatestOf 2 = .ok (.iconst 0, 1) := by decide +kernel
theorem dX7_greatestOf_3 : decode cX7_greatestOf 3 = .ok (.istore_n 2, 1) := by decide +kernel
theorem dX7_greatestOf_4 : decode cX7_greatestOf 4 = .ok (.iload_n 2, 1) := by decide +kernel
theorem dX7_greatestOf_5 : decode cX7_greatestOf 5 = .ok (.bipush 6, 2) := by decide +kernel
theorem dX7_greatestOf_7 : decode cX7_greatestOf 7 = .ok (.if_icmp .ge 24, 3) := by decide +kernel
theorem dX7_greatestOf_10 : decode cX7_greatestOf 10 = .ok (.iload_n 0, 1) := by decide +kernel
theorem dX7_greatestOf_11 : decode cX7_greatestOf 11 = .ok (.iload_n 2, 1) := by decide +kernel
theorem dX7_greatestOf_12 : decode cX7_greatestOf 12 = .ok (.ishr, 1) := by decide +kernel
theorem dX7_greatestOf_13 : decode cX7_greatestOf 13 = .ok (.iconst 1, 1) := by decide +kernel
theorem dX7_greatestOf_14 : decode cX7_greatestOf 14 = .ok (.iand, 1) := by decide +kernel
theorem dX7_greatestOf_15 : decode cX7_greatestOf 15 = .ok (.iconst 1, 1) := by decide +kernel
theorem dX7_greatestOf_16 : decode cX7_greatestOf 16 = .ok (.if_icmp .ne 7, 3) := by decide +kernel
theorem dX7_greatestOf_19 : decode cX7_greatestOf 19 = .ok (.iload_n 2, 1) := by decide +kernel
theorem dX7_greatestOf_20 : decode cX7_greatestOf 20 = .ok (.goto 4, 3) := by decide +kernel
theorem dX7_greatestOf_23 : decode cX7_greatestOf 23 = .ok (.iload_n 1, 1) := by decide +kernel
theorem dX7_greatestOf_24 : decode cX7_greatestOf 24 = .ok (.istore_n 1, 1) := by decide +kernel
theorem dX7_greatestOf_25 : decode cX7_greatestOf 25 = .ok (.iinc 2 1, 3) := by decide +kernel
theorem dX7_greatestOf_28 : decode cX7_greatestOf 28 = .ok (.goto (-24), 3) := by decide +kernel
theorem dX7_greatestOf_31 : decode cX7_greatestOf 31 = .ok (.iload_n 1, 1) := by decide +kernel
theorem dX7_greatestOf_32 : decode cX7_greatestOf 32 = .ok (.ireturn, 1) := by decide +kernel
theorem dX7_ones_0 : decode cX7_ones 0 = .ok (.iconst 0, 1) := by decide +kernel
theorem dX7_ones_1 : decode cX7_ones 1 = .ok (.istore_n 1, 1) := by decide +kernel
theorem dX7_ones_2 : decode cX7_ones 2 = .ok (.iconst 0, 1) := by decide +kernel
theorem dX7_ones_3 : decode cX7_ones 3 = .ok (.istore_n 2, 1) := by decide +kernel
theorem dX7_ones_4 : decode cX7_ones 4 = .ok (.iload_n 2, 1) := by decide +kernel
theorem dX7_ones_5 : decode cX7_ones 5 = .ok (.bipush 6, 2) := by decide +kernel
theorem dX7_ones_7 : decode cX7_ones 7 = .ok (.if_icmp .ge 17, 3) := by decide +kernel
theorem dX7_ones_10 : decode cX7_ones 10 = .ok (.iload_n 1, 1) := by decide +kernel
theorem dX7_ones_11 : decode cX7_ones 11 = .ok (.iload_n 0, 1) := by decide +kernel
theorem dX7_ones_12 : decode cX7_ones 12 = .ok (.iload_n 2, 1) := by decide +kernel
theorem dX7_ones_13 : decode cX7_ones 13 = .ok (.ishr, 1) := by decide +kernel
theorem dX7_ones_14 : decode cX7_ones 14 = .ok (.iconst 1, 1) := by decide +kernel
theorem dX7_ones_15 : decode cX7_ones 15 = .ok (.iand, 1) := by decide +kernel
theorem dX7_ones_16 : decode cX7_ones 16 = .ok (.iadd, 1) := by decide +kernel
theorem dX7_ones_17 : decode cX7_ones 17 = .ok (.istore_n 1, 1) := by decide +kernel
theorem dX7_ones_18 : decode cX7_ones 18 = .ok (.iinc 2 1, 3) := by decide +kernel
theorem dX7_ones_21 : decode cX7_ones 21 = .ok (.goto (-17), 3) := by decide +kernel
theorem dX7_ones_24 : decode cX7_ones 24 = .ok (.iload_n 1, 1) := by decide +kernel
theorem dX7_ones_25 : decode cX7_ones 25 = .ok (.ireturn, 1) := by decide +kernel
theorem dX7_endsBy_0 : decode cX7_endsBy 0 = .ok (.aload_n 0, 1) := by decide +kernel
theorem dX7_endsBy_1 : decode cX7_endsBy 1 = .ok (.getfield 19, 3) := by decide +kernel
theorem dX7_endsBy_4 : decode cX7_endsBy 4 = .ok (.iload 4, 2) := by decide +kernel
theorem dX7_endsBy_6 : decode cX7_endsBy 6 = .ok (.iaload, 1) := by decide +kernel
theorem dX7_endsBy_7 : decode cX7_endsBy 7 = .ok (.istore 5, 2) := by decide +kernel
theorem dX7_endsBy_9 : decode cX7_endsBy 9 = .ok (.iload 5, 2) := by decide +kernel
theorem dX7_endsBy_11 : decode cX7_endsBy 11 = .ok (.iload_n 2, 1) := by decide +kernel
theorem dX7_endsBy_12 : decode cX7_endsBy 12 = .ok (.ishr, 1) := by decide +kernel
theorem dX7_endsBy_13 : decode cX7_endsBy 13 = .ok (.iconst 1, 1) := by decide +kernel
theorem dX7_endsBy_14 : decode cX7_endsBy 14 = .ok (.iand, 1) := by decide +kernel
theorem dX7_endsBy_15 : decode cX7_endsBy 15 = .ok (.iconst 1, 1) := by decide +kernel
theorem dX7_endsBy_16 : decode cX7_endsBy 16 = .ok (.if_icmp .ne 7, 3) := by decide +kernel
theorem dX7_endsBy_19 : decode cX7_endsBy 19 = .ok (.iconst 1, 1) := by decide +kernel
theorem dX7_endsBy_20 : decode cX7_endsBy 20 = .ok (.goto 4, 3) := by decide +kernel
theorem dX7_endsBy_23 : decode cX7_endsBy 23 = .ok (.iconst 0, 1) := by decide +kernel
theorem dX7_endsBy_24 : decode cX7_endsBy 24 = .ok (.istore 6, 2) := by decide +kernel
theorem dX7_endsBy_26 : decode cX7_endsBy 26 = .ok (.iload 5, 2) := by decide +kernel
theorem dX7_endsBy_28 : decode cX7_endsBy 28 = .ok (.iload_n 3, 1) := by decide +kernel
theorem dX7_endsBy_29 : decode cX7_endsBy 29 = .ok (.iconst (-1), 1) := by decide +kernel
theorem dX7_endsBy_30 : decode cX7_endsBy 30 = .ok (.ixor, 1) := by decide +kernel
theorem dX7_endsBy_31 : decode cX7_endsBy 31 = .ok (.iand, 1) := by decide +kernel
theorem dX7_endsBy_32 : decode cX7_endsBy 32 = .ok (.istore 7, 2) := by decide +kernel
theorem dX7_endsBy_34 : decode cX7_endsBy 34 = .ok (.iload_n 1, 1) := by decide +kernel
theorem dX7_endsBy_35 : decode cX7_endsBy 35 = .ok (.tableswitch 64 1 4 #[29, 40, 42, 48], 29) := by decide +kernel
theorem dX7_endsBy_64 : decode cX7_endsBy 64 = .ok (.iload 6, 2) := by decide +kernel
theorem dX7_endsBy_66 : decode cX7_endsBy 66 = .ok (.ifCond .eq 7, 3) := by decide +kernel
theorem dX7_endsBy_69 : decode cX7_endsBy 69 = .ok (.iload_n 2, 1) := by decide +kernel
theorem dX7_endsBy_70 : decode cX7_endsBy 70 = .ok (.goto 4, 3) := by decide +kernel
theorem dX7_endsBy_73 : decode cX7_endsBy 73 = .ok (.iconst (-1), 1) := by decide +kernel
theorem dX7_endsBy_74 : decode cX7_endsBy 74 = .ok (.ireturn, 1) := by decide +kernel
theorem dX7_endsBy_75 : decode cX7_endsBy 75 = .ok (.iload_n 2, 1) := by decide +kernel
theorem dX7_endsBy_76 : decode cX7_endsBy 76 = .ok (.ireturn, 1) := by decide +kernel
theorem dX7_endsBy_77 : decode cX7_endsBy 77 = .ok (.iload 5, 2) := by decide +kernel
theorem dX7_endsBy_79 : decode cX7_endsBy 79 = .ok (.invokestatic 129, 3) := by decide +kernel
theorem dX7_endsBy_82 : decode cX7_endsBy 82 = .ok (.ireturn, 1) := by decide +kernel
theorem dX7_endsBy_83 : decode cX7_endsBy 83 = .ok (.iload 7, 2) := by decide +kernel
theorem dX7_endsBy_85 : decode cX7_endsBy 85 = .ok (.ifCond .ne 8, 3) := by decide +kernel
theorem dX7_endsBy_88 : decode cX7_endsBy 88 = .ok (.iload 5, 2) := by decide +kernel
theorem dX7_endsBy_90 : decode cX7_endsBy 90 = .ok (.goto 5, 3) := by decide +kernel
theorem dX7_endsBy_93 : decode cX7_endsBy 93 = .ok (.iload 7, 2) := by decide +kernel
theorem dX7_endsBy_95 : decode cX7_endsBy 95 = .ok (.invokestatic 129, 3) := by decide +kernel
theorem dX7_endsBy_98 : decode cX7_endsBy 98 = .ok (.ireturn, 1) := by decide +kernel
theorem dX7_endsBy_99 : decode cX7_endsBy 99 = .ok (.iload 6, 2) := by decide +kernel
theorem dX7_endsBy_101 : decode cX7_endsBy 101 = .ok (.ifCond .eq 7, 3) := by decide +kernel
theorem dX7_endsBy_104 : decode cX7_endsBy 104 = .ok (.iload_n 2, 1) := by decide +kernel
theorem dX7_endsBy_105 : decode cX7_endsBy 105 = .ok (.goto 8, 3) := by decide +kernel
theorem dX7_endsBy_108 : decode cX7_endsBy 108 = .ok (.iload 5, 2) := by decide +kernel
theorem dX7_endsBy_110 : decode cX7_endsBy 110 = .ok (.invokestatic 132, 3) := by decide +kernel
theorem dX7_endsBy_113 : decode cX7_endsBy 113 = .ok (.ireturn, 1) := by decide +kernel
theorem dX7_wouldOf_0 : decode cX7_wouldOf 0 = .ok (.aload_n 0, 1) := by decide +kernel
theorem dX7_wouldOf_1 : decode cX7_wouldOf 1 = .ok (.aload_n 0, 1) := by decide +kernel
theorem dX7_wouldOf_2 : decode cX7_wouldOf 2 = .ok (.getfield 22, 3) := by decide +kernel
theorem dX7_wouldOf_5 : decode cX7_wouldOf 5 = .ok (.iconst 3, 1) := by decide +kernel
theorem dX7_wouldOf_6 : decode cX7_wouldOf 6 = .ok (.iload_n 1, 1) := by decide +kernel
theorem dX7_wouldOf_7 : decode cX7_wouldOf 7 = .ok (.imul, 1) := by decide +kernel
theorem dX7_wouldOf_8 : decode cX7_wouldOf 8 = .ok (.iaload, 1) := by decide +kernel
theorem dX7_wouldOf_9 : decode cX7_wouldOf 9 = .ok (.aload_n 0, 1) := by decide +kernel
theorem dX7_wouldOf_10 : decode cX7_wouldOf 10 = .ok (.getfield 22, 3) := by decide +kernel
theorem dX7_wouldOf_13 : decode cX7_wouldOf 13 = .ok (.iconst 3, 1) := by decide +kernel
theorem dX7_wouldOf_14 : decode cX7_wouldOf 14 = .ok (.iload_n 1, 1) := by decide +kernel
theorem dX7_wouldOf_15 : decode cX7_wouldOf 15 = .ok (.imul, 1) := by decide +kernel
theorem dX7_wouldOf_16 : decode cX7_wouldOf 16 = .ok (.iconst 1, 1) := by decide +kernel
theorem dX7_wouldOf_17 : decode cX7_wouldOf 17 = .ok (.iadd, 1) := by decide +kernel
theorem dX7_wouldOf_18 : decode cX7_wouldOf 18 = .ok (.iaload, 1) := by decide +kernel
theorem dX7_wouldOf_19 : decode cX7_wouldOf 19 = .ok (.aload_n 0, 1) := by decide +kernel
theorem dX7_wouldOf_20 : decode cX7_wouldOf 20 = .ok (.getfield 22, 3) := by decide +kernel
theorem dX7_wouldOf_23 : decode cX7_wouldOf 23 = .ok (.iconst 3, 1) := by decide +kernel
theorem dX7_wouldOf_24 : decode cX7_wouldOf 24 = .ok (.iload_n 1, 1) := by decide +kernel
theorem dX7_wouldOf_25 : decode cX7_wouldOf 25 = .ok (.imul, 1) := by decide +kernel
theorem dX7_wouldOf_26 : decode cX7_wouldOf 26 = .ok (.iconst 2, 1) := by decide +kernel
theorem dX7_wouldOf_27 : decode cX7_wouldOf 27 = .ok (.iadd, 1) := by decide +kernel
theorem dX7_wouldOf_28 : decode cX7_wouldOf 28 = .ok (.iaload, 1) := by decide +kernel
theorem dX7_wouldOf_29 : decode cX7_wouldOf 29 = .ok (.iload_n 2, 1) := by decide +kernel
theorem dX7_wouldOf_30 : decode cX7_wouldOf 30 = .ok (.invokevirtual 135, 3) := by decide +kernel
theorem dX7_wouldOf_33 : decode cX7_wouldOf 33 = .ok (.ireturn, 1) := by decide +kernel
theorem dX7_openOf_0 : decode cX7_openOf 0 = .ok (.iconst (-1), 1) := by decide +kernel
theorem dX7_openOf_1 : decode cX7_openOf 1 = .ok (.istore_n 2, 1) := by decide +kernel
theorem dX7_openOf_2 : decode cX7_openOf 2 = .ok (.iconst 0, 1) := by decide +kernel
theorem dX7_openOf_3 : decode cX7_openOf 3 = .ok (.istore_n 3, 1) := by decide +kernel
theorem dX7_openOf_4 : decode cX7_openOf 4 = .ok (.iload_n 3, 1) := by decide +kernel
theorem dX7_openOf_5 : decode cX7_openOf 5 = .ok (.aload_n 0, 1) := by decide +kernel
theorem dX7_openOf_6 : decode cX7_openOf 6 = .ok (.getfield 111, 3) := by decide +kernel
theorem dX7_openOf_9 : decode cX7_openOf 9 = .ok (.if_icmp .ge 41, 3) := by decide +kernel
theorem dX7_openOf_12 : decode cX7_openOf 12 = .ok (.aload_n 0, 1) := by decide +kernel
theorem dX7_openOf_13 : decode cX7_openOf 13 = .ok (.getfield 25, 3) := by decide +kernel
theorem dX7_openOf_16 : decode cX7_openOf 16 = .ok (.iconst 4, 1) := by decide +kernel
theorem dX7_openOf_17 : decode cX7_openOf 17 = .ok (.iload_n 3, 1) := by decide +kernel
theorem dX7_openOf_18 : decode cX7_openOf 18 = .ok (.imul, 1) := by decide +kernel
theorem dX7_openOf_19 : decode cX7_openOf 19 = .ok (.iaload, 1) := by decide +kernel
theorem dX7_openOf_20 : decode cX7_openOf 20 = .ok (.iload_n 1, 1) := by decide +kernel
theorem dX7_openOf_21 : decode cX7_openOf 21 = .ok (.if_icmp .ne 21, 3) := by decide +kernel
theorem dX7_openOf_24 : decode cX7_openOf 24 = .ok (.aload_n 0, 1) := by decide +kernel
theorem dX7_openOf_25 : decode cX7_openOf 25 = .ok (.getfield 25, 3) := by decide +kernel
theorem dX7_openOf_28 : decode cX7_openOf 28 = .ok (.iconst 4, 1) := by decide +kernel
theorem dX7_openOf_29 : decode cX7_openOf 29 = .ok (.iload_n 3, 1) := by decide +kernel
theorem dX7_openOf_30 : decode cX7_openOf 30 = .ok (.imul, 1) := by decide +kernel
theorem dX7_openOf_31 : decode cX7_openOf 31 = .ok (.iconst 2, 1) := by decide +kernel
theorem dX7_openOf_32 : decode cX7_openOf 32 = .ok (.iadd, 1) := by decide +kernel
theorem dX7_openOf_33 : decode cX7_openOf 33 = .ok (.iaload, 1) := by decide +kernel
theorem dX7_openOf_34 : decode cX7_openOf 34 = .ok (.iconst (-1), 1) := by decide +kernel
theorem dX7_openOf_35 : decode cX7_openOf 35 = .ok (.if_icmp .ne 7, 3) := by decide +kernel
theorem dX7_openOf_38 : decode cX7_openOf 38 = .ok (.iload_n 3, 1) := by decide +kernel
theorem dX7_openOf_39 : decode cX7_openOf 39 = .ok (.goto 4, 3) := by decide +kernel
theorem dX7_openOf_42 : decode cX7_openOf 42 = .ok (.iload_n 2, 1) := by decide +kernel
theorem dX7_openOf_43 : decode cX7_openOf 43 = .ok (.istore_n 2, 1) := by decide +kernel
theorem dX7_openOf_44 : decode cX7_openOf 44 = .ok (.iinc 3 1, 3) := by decide +kernel
theorem dX7_openOf_47 : decode cX7_openOf 47 = .ok (.goto (-43), 3) := by decide +kernel
theorem dX7_openOf_50 : decode cX7_openOf 50 = .ok (.iload_n 2, 1) := by decide +kernel
theorem dX7_openOf_51 : decode cX7_openOf 51 = .ok (.ireturn, 1) := by decide +kernel
theorem dX7_saidBy_0 : decode cX7_saidBy 0 = .ok (.iconst 0, 1) := by decide +kernel
theorem dX7_saidBy_1 : decode cX7_saidBy 1 = .ok (.istore_n 3, 1) := by decide +kernel
theorem dX7_saidBy_2 : decode cX7_saidBy 2 = .ok (.iconst 0, 1) := by decide +kernel
theorem dX7_saidBy_3 : decode cX7_saidBy 3 = .ok (.istore 4, 2) := by decide +kernel
theorem dX7_saidBy_5 : decode cX7_saidBy 5 = .ok (.iload 4, 2) := by decide +kernel
theorem dX7_saidBy_7 : decode cX7_saidBy 7 = .ok (.aload_n 0, 1) := by decide +kernel
theorem dX7_saidBy_8 : decode cX7_saidBy 8 = .ok (.getfield 111, 3) := by decide +kernel
theorem dX7_saidBy_11 : decode cX7_saidBy 11 = .ok (.if_icmp .ge 32, 3) := by decide +kernel
theorem dX7_saidBy_14 : decode cX7_saidBy 14 = .ok (.iload_n 3, 1) := by decide +kernel
theorem dX7_saidBy_15 : decode cX7_saidBy 15 = .ok (.aload_n 0, 1) := by decide +kernel
theorem dX7_saidBy_16 : decode cX7_saidBy 16 = .ok (.getfield 25, 3) := by decide +kernel
theorem dX7_saidBy_19 : decode cX7_saidBy 19 = .ok (.iconst 4, 1) := by decide +kernel
theorem dX7_saidBy_20 : decode cX7_saidBy 20 = .ok (.iload 4, 2) := by decide +kernel
theorem dX7_saidBy_22 : decode cX7_saidBy 22 = .ok (.imul, 1) := by decide +kernel
theorem dX7_saidBy_23 : decode cX7_saidBy 23 = .ok (.iload_n 1, 1) := by decide +kernel
theorem dX7_saidBy_24 : decode cX7_saidBy 24 = .ok (.iadd, 1) := by decide +kernel
theorem dX7_saidBy_25 : decode cX7_saidBy 25 = .ok (.iaload, 1) := by decide +kernel
theorem dX7_saidBy_26 : decode cX7_saidBy 26 = .ok (.iload_n 2, 1) := by decide +kernel
theorem dX7_saidBy_27 : decode cX7_saidBy 27 = .ok (.if_icmp .ne 7, 3) := by decide +kernel
theorem dX7_saidBy_30 : decode cX7_saidBy 30 = .ok (.iconst 1, 1) := by decide +kernel
theorem dX7_saidBy_31 : decode cX7_saidBy 31 = .ok (.goto 4, 3) := by decide +kernel
theorem dX7_saidBy_34 : decode cX7_saidBy 34 = .ok (.iconst 0, 1) := by decide +kernel
theorem dX7_saidBy_35 : decode cX7_saidBy 35 = .ok (.iadd, 1) := by decide +kernel
theorem dX7_saidBy_36 : decode cX7_saidBy 36 = .ok (.istore_n 3, 1) := by decide +kernel
theorem dX7_saidBy_37 : decode cX7_saidBy 37 = .ok (.iinc 4 1, 3) := by decide +kernel
theorem dX7_saidBy_40 : decode cX7_saidBy 40 = .ok (.goto (-35), 3) := by decide +kernel
theorem dX7_saidBy_43 : decode cX7_saidBy 43 = .ok (.iload_n 3, 1) := by decide +kernel
theorem dX7_saidBy_44 : decode cX7_saidBy 44 = .ok (.ireturn, 1) := by decide +kernel
theorem dX7_sureOf_0 : decode cX7_sureOf 0 = .ok (.iconst (-1), 1) := by decide +kernel
theorem dX7_sureOf_1 : decode cX7_sureOf 1 = .ok (.istore_n 2, 1) := by decide +kernel
theorem dX7_sureOf_2 : decode cX7_sureOf 2 = .ok (.iconst 3, 1) := by decide +kernel
theorem dX7_sureOf_3 : decode cX7_sureOf 3 = .ok (.istore_n 3, 1) := by decide +kernel
theorem dX7_sureOf_4 : decode cX7_sureOf 4 = .ok (.iload_n 3, 1) := by decide +kernel
theorem dX7_sureOf_5 : decode cX7_sureOf 5 = .ok (.ifCond .lt 117, 3) := by decide +kernel
theorem dX7_sureOf_8 : decode cX7_sureOf 8 = .ok (.iconst 1, 1) := by decide +kernel
theorem dX7_sureOf_9 : decode cX7_sureOf 9 = .ok (.istore 4, 2) := by decide +kernel
theorem dX7_sureOf_11 : decode cX7_sureOf 11 = .ok (.iconst 0, 1) := by decide +kernel
theorem dX7_sureOf_12 : decode cX7_sureOf 12 = .ok (.istore 5, 2) := by decide +kernel
theorem dX7_sureOf_14 : decode cX7_sureOf 14 = .ok (.iconst 0, 1) := by decide +kernel
theorem dX7_sureOf_15 : decode cX7_sureOf 15 = .ok (.istore 6, 2) := by decide +kernel
theorem dX7_sureOf_17 : decode cX7_sureOf 17 = .ok (.iload 6, 2) := by decide +kernel
theorem dX7_sureOf_19 : decode cX7_sureOf 19 = .ok (.aload_n 0, 1) := by decide +kernel
theorem dX7_sureOf_20 : decode cX7_sureOf 20 = .ok (.getfield 101, 3) := by decide +kernel
theorem dX7_sureOf_23 : decode cX7_sureOf 23 = .ok (.if_icmp .ge 77, 3) := by decide +kernel
theorem dX7_sureOf_26 : decode cX7_sureOf 26 = .ok (.iload 6, 2) := by decide +kernel
theorem dX7_sureOf_28 : decode cX7_sureOf 28 = .ok (.iload_n 1, 1) := by decide +kernel
theorem dX7_sureOf_29 : decode cX7_sureOf 29 = .ok (.if_icmp .ne 7, 3) := by decide +kernel
theorem dX7_sureOf_32 : decode cX7_sureOf 32 = .ok (.iconst (-1), 1) := by decide +kernel
theorem dX7_sureOf_33 : decode cX7_sureOf 33 = .ok (.goto 10, 3) := by decide +kernel
theorem dX7_sureOf_36 : decode cX7_sureOf 36 = .ok (.aload_n 0, 1) := by decide +kernel
theorem dX7_sureOf_37 : decode cX7_sureOf 37 = .ok (.iload 6, 2) := by decide +kernel
theorem dX7_sureOf_39 : decode cX7_sureOf 39 = .ok (.iload_n 3, 1) := by decide +kernel
theorem dX7_sureOf_40 : decode cX7_sureOf 40 = .ok (.invokevirtual 139, 3) := by decide +kernel
theorem dX7_sureOf_43 : decode cX7_sureOf 43 = .ok (.istore 7, 2) := by decide +kernel
theorem dX7_sureOf_45 : decode cX7_sureOf 45 = .ok (.iload 4, 2) := by decide +kernel
theorem dX7_sureOf_47 : decode cX7_sureOf 47 = .ok (.ifCond .eq 28, 3) := by decide +kernel
theorem dX7_sureOf_50 : decode cX7_sureOf 50 = .ok (.iload 7, 2) := by decide +kernel
theorem dX7_sureOf_52 : decode cX7_sureOf 52 = .ok (.iconst (-1), 1) := by decide +kernel
theorem dX7_sureOf_53 : decode cX7_sureOf 53 = .ok (.if_icmp .eq 18, 3) := by decide +kernel
theorem dX7_sureOf_56 : decode cX7_sureOf 56 = .ok (.iload 7, 2) := by decide +kernel
theorem dX7_sureOf_58 : decode cX7_sureOf 58 = .ok (.aload_n 0, 1) := by decide +kernel
theorem dX7_sureOf_59 : decode cX7_sureOf 59 = .ok (.getfield 22, 3) := by decide +kernel
theorem dX7_sureOf_62 : decode cX7_sureOf 62 = .ok (.iconst 3, 1) := by decide +kernel
theorem dX7_sureOf_63 : decode cX7_sureOf 63 = .ok (.iload_n 1, 1) := by decide +kernel
theorem dX7_sureOf_64 : decode cX7_sureOf 64 = .ok (.imul, 1) := by decide +kernel
theorem dX7_sureOf_65 : decode cX7_sureOf 65 = .ok (.iconst 1, 1) := by decide +kernel
theorem dX7_sureOf_66 : decode cX7_sureOf 66 = .ok (.iadd, 1) := by decide +kernel
theorem dX7_sureOf_67 : decode cX7_sureOf 67 = .ok (.iaload, 1) := by decide +kernel
theorem dX7_sureOf_68 : decode cX7_sureOf 68 = .ok (.if_icmp .ne 7, 3) := by decide +kernel
theorem dX7_sureOf_71 : decode cX7_sureOf 71 = .ok (.iconst 1, 1) := by decide +kernel
theorem dX7_sureOf_72 : decode cX7_sureOf 72 = .ok (.goto 4, 3) := by decide +kernel
theorem dX7_sureOf_75 : decode cX7_sureOf 75 = .ok (.iconst 0, 1) := by decide +kernel
theorem dX7_sureOf_76 : decode cX7_sureOf 76 = .ok (.istore 4, 2) := by decide +kernel
theorem dX7_sureOf_78 : decode cX7_sureOf 78 = .ok (.iload 5, 2) := by decide +kernel
theorem dX7_sureOf_80 : decode cX7_sureOf 80 = .ok (.iload 7, 2) := by decide +kernel
theorem dX7_sureOf_82 : decode cX7_sureOf 82 = .ok (.iconst (-1), 1) := by decide +kernel
theorem dX7_sureOf_83 : decode cX7_sureOf 83 = .ok (.if_icmp .ne 7, 3) := by decide +kernel
theorem dX7_sureOf_86 : decode cX7_sureOf 86 = .ok (.iconst 0, 1) := by decide +kernel
theorem dX7_sureOf_87 : decode cX7_sureOf 87 = .ok (.goto 4, 3) := by decide +kernel
theorem dX7_sureOf_90 : decode cX7_sureOf 90 = .ok (.iconst 1, 1) := by decide +kernel
theorem dX7_sureOf_91 : decode cX7_sureOf 91 = .ok (.iadd, 1) := by decide +kernel
theorem dX7_sureOf_92 : decode cX7_sureOf 92 = .ok (.istore 5, 2) := by decide +kernel
theorem dX7_sureOf_94 : decode cX7_sureOf 94 = .ok (.iinc 6 1, 3) := by decide +kernel
theorem dX7_sureOf_97 : decode cX7_sureOf 97 = .ok (.goto (-80), 3) := by decide +kernel
theorem dX7_sureOf_100 : decode cX7_sureOf 100 = .ok (.iload 4, 2) := by decide +kernel
theorem dX7_sureOf_102 : decode cX7_sureOf 102 = .ok (.ifCond .eq 12, 3) := by decide +kernel
theorem dX7_sureOf_105 : decode cX7_sureOf 105 = .ok (.iload 5, 2) := by decide +kernel
theorem dX7_sureOf_107 : decode cX7_sureOf 107 = .ok (.ifCond .le 7, 3) := by decide +kernel
theorem dX7_sureOf_110 : decode cX7_sureOf 110 = .ok (.iload_n 3, 1) := by decide +kernel
theorem dX7_sureOf_111 : decode cX7_sureOf 111 = .ok (.goto 4, 3) := by decide +kernel
theorem dX7_sureOf_114 : decode cX7_sureOf 114 = .ok (.iload_n 2, 1) := by decide +kernel
theorem dX7_sureOf_115 : decode cX7_sureOf 115 = .ok (.istore_n 2, 1) := by decide +kernel
theorem dX7_sureOf_116 : decode cX7_sureOf 116 = .ok (.iinc 3 (-1), 3) := by decide +kernel
theorem dX7_sureOf_119 : decode cX7_sureOf 119 = .ok (.goto (-115), 3) := by decide +kernel
theorem dX7_sureOf_122 : decode cX7_sureOf 122 = .ok (.iload_n 2, 1) := by decide +kernel
theorem dX7_sureOf_123 : decode cX7_sureOf 123 = .ok (.ireturn, 1) := by decide +kernel
theorem dX7_tell_0 : decode cX7_tell 0 = .ok (.iload_n 2, 1) := by decide +kernel
theorem dX7_tell_1 : decode cX7_tell 1 = .ok (.tableswitch 100 0 8 #[51, 51, 51, 62, 68, 75, 82, 88, 94], 51) := by decide +kernel
theorem dX7_tell_52 : decode cX7_tell 52 = .ok (.aload_n 0, 1) := by decide +kernel
theorem dX7_tell_53 : decode cX7_tell 53 = .ok (.getfield 22, 3) := by decide +kernel
theorem dX7_tell_56 : decode cX7_tell 56 = .ok (.iconst 3, 1) := by decide +kernel
theorem dX7_tell_57 : decode cX7_tell 57 = .ok (.iload_n 1, 1) := by decide +kernel
theorem dX7_tell_58 : decode cX7_tell 58 = .ok (.imul, 1) := by decide +kernel
theorem dX7_tell_59 : decode cX7_tell 59 = .ok (.iload_n 2, 1) := by decide +kernel
theorem dX7_tell_60 : decode cX7_tell 60 = .ok (.iadd, 1) := by decide +kernel
theorem dX7_tell_61 : decode cX7_tell 61 = .ok (.iaload, 1) := by decide +kernel
theorem dX7_tell_62 : decode cX7_tell 62 = .ok (.ireturn, 1) := by decide +kernel
theorem dX7_tell_63 : decode cX7_tell 63 = .ok (.aload_n 0, 1) := by decide +kernel
theorem dX7_tell_64 : decode cX7_tell 64 = .ok (.iload_n 1, 1) := by decide +kernel
theorem dX7_tell_65 : decode cX7_tell 65 = .ok (.invokevirtual 143, 3) := by decide +kernel
theorem dX7_tell_68 : decode cX7_tell 68 = .ok (.ireturn, 1) := by decide +kernel
theorem dX7_tell_69 : decode cX7_tell 69 = .ok (.aload_n 0, 1) := by decide +kernel
theorem dX7_tell_70 : decode cX7_tell 70 = .ok (.iconst 0, 1) := by decide +kernel
theorem dX7_tell_71 : decode cX7_tell 71 = .ok (.iload_n 1, 1) := by decide +kernel
theorem dX7_tell_72 : decode cX7_tell 72 = .ok (.invokevirtual 146, 3) := by decide +kernel
theorem dX7_tell_75 : decode cX7_tell 75 = .ok (.ireturn, 1) := by decide +kernel
theorem dX7_tell_76 : decode cX7_tell 76 = .ok (.aload_n 0, 1) := by decide +kernel
theorem dX7_tell_77 : decode cX7_tell 77 = .ok (.iconst 2, 1) := by decide +kernel
theorem dX7_tell_78 : decode cX7_tell 78 = .ok (.iload_n 1, 1) := by decide +kernel
theorem dX7_tell_79 : decode cX7_tell 79 = .ok (.invokevirtual 146, 3) := by decide +kernel
theorem dX7_tell_82 : decode cX7_tell 82 = .ok (.ireturn, 1) := by decide +kernel
theorem dX7_tell_83 : decode cX7_tell 83 = .ok (.aload_n 0, 1) := by decide +kernel
theorem dX7_tell_84 : decode cX7_tell 84 = .ok (.iload_n 1, 1) := by decide +kernel
theorem dX7_tell_85 : decode cX7_tell 85 = .ok (.invokevirtual 149, 3) := by decide +kernel
theorem dX7_tell_88 : decode cX7_tell 88 = .ok (.ireturn, 1) := by decide +kernel
theorem dX7_tell_89 : decode cX7_tell 89 = .ok (.aload_n 0, 1) := by decide +kernel
theorem dX7_tell_90 : decode cX7_tell 90 = .ok (.iload_n 1, 1) := by decide +kernel
theorem dX7_tell_91 : decode cX7_tell 91 = .ok (.invokevirtual 152, 3) := by decide +kernel
theorem dX7_tell_94 : decode cX7_tell 94 = .ok (.ireturn, 1) := by decide +kernel
theorem dX7_tell_95 : decode cX7_tell 95 = .ok (.aload_n 0, 1) := by decide +kernel
theorem dX7_tell_96 : decode cX7_tell 96 = .ok (.iload_n 1, 1) := by decide +kernel
theorem dX7_tell_97 : decode cX7_tell 97 = .ok (.invokevirtual 155, 3) := by decide +kernel
theorem dX7_tell_100 : decode cX7_tell 100 = .ok (.ireturn, 1) := by decide +kernel
theorem dX7_tell_101 : decode cX7_tell 101 = .ok (.bipush (-102), 2) := by decide +kernel
theorem dX7_tell_103 : decode cX7_tell 103 = .ok (.ireturn, 1) := by decide +kernel
theorem dX7_about_0 : decode cX7_about 0 = .ok (.aload_n 0, 1) := by decide +kernel
theorem dX7_about_1 : decode cX7_about 1 = .ok (.iload_n 1, 1) := by decide +kernel
theorem dX7_about_2 : decode cX7_about 2 = .ok (.invokevirtual 158, 3) := by decide +kernel
theorem dX7_about_5 : decode cX7_about 5 = .ok (.ifCond .eq 12, 3) := by decide +kernel
theorem dX7_about_8 : decode cX7_about 8 = .ok (.aload_n 0, 1) := by decide +kernel
theorem dX7_about_9 : decode cX7_about 9 = .ok (.iload_n 1, 1) := by decide +kernel
theorem dX7_about_10 : decode cX7_about 10 = .ok (.iload_n 2, 1) := by decide +kernel
theorem dX7_about_11 : decode cX7_about 11 = .ok (.invokevirtual 161, 3) := by decide +kernel
theorem dX7_about_14 : decode cX7_about 14 = .ok (.goto 5, 3) := by decide +kernel
theorem dX7_about_17 : decode cX7_about 17 = .ok (.bipush (-101), 2) := by decide +kernel
theorem dX7_about_19 : decode cX7_about 19 = .ok (.ireturn, 1) := by decide +kernel
theorem dX7_as_0 : decode cX7_as 0 = .ok (.aload_n 0, 1) := by decide +kernel
theorem dX7_as_1 : decode cX7_as 1 = .ok (.iload_n 1, 1) := by decide +kernel
theorem dX7_as_2 : decode cX7_as 2 = .ok (.invokevirtual 158, 3) := by decide +kernel
theorem dX7_as_5 : decode cX7_as 5 = .ok (.ifCond .ne 6, 3) := by decide +kernel
theorem dX7_as_8 : decode cX7_as 8 = .ok (.bipush (-101), 2) := by decide +kernel
theorem dX7_as_10 : decode cX7_as 10 = .ok (.ireturn, 1) := by decide +kernel
theorem dX7_as_11 : decode cX7_as 11 = .ok (.iload_n 2, 1) := by decide +kernel
theorem dX7_as_12 : decode cX7_as 12 = .ok (.i2l, 1) := by decide +kernel
theorem dX7_as_13 : decode cX7_as 13 = .ok (.lconst 0, 1) := by decide +kernel
theorem dX7_as_14 : decode cX7_as 14 = .ok (.ldc2_w 164, 3) := by decide +kernel
theorem dX7_as_17 : decode cX7_as 17 = .ok (.invokestatic 58, 3) := by decide +kernel
theorem dX7_as_20 : decode cX7_as 20 = .ok (.ifCond .ne 6, 3) := by decide +kernel
theorem dX7_as_23 : decode cX7_as 23 = .ok (.bipush (-102), 2) := by decide +kernel
theorem dX7_as_25 : decode cX7_as 25 = .ok (.ireturn, 1) := by decide +kernel
theorem dX7_as_26 : decode cX7_as 26 = .ok (.aload_n 0, 1) := by decide +kernel
theorem dX7_as_27 : decode cX7_as 27 = .ok (.getfield 22, 3) := by decide +kernel
theorem dX7_as_30 : decode cX7_as 30 = .ok (.iconst 3, 1) := by decide +kernel
theorem dX7_as_31 : decode cX7_as 31 = .ok (.iload_n 1, 1) := by decide +kernel
theorem dX7_as_32 : decode cX7_as 32 = .ok (.imul, 1) := by decide +kernel
theorem dX7_as_33 : decode cX7_as 33 = .ok (.iaload, 1) := by decide +kernel
theorem dX7_as_34 : decode cX7_as 34 = .ok (.istore_n 3, 1) := by decide +kernel
theorem dX7_as_35 : decode cX7_as 35 = .ok (.iload_n 2, 1) := by decide +kernel
theorem dX7_as_36 : decode cX7_as 36 = .ok (.ifCond .eq 18, 3) := by decide +kernel
theorem dX7_as_39 : decode cX7_as 39 = .ok (.iload_n 2, 1) := by decide +kernel
theorem dX7_as_40 : decode cX7_as 40 = .ok (.iload_n 3, 1) := by decide +kernel
theorem dX7_as_41 : decode cX7_as 41 = .ok (.if_icmp .eq 13, 3) := by decide +kernel
theorem dX7_as_44 : decode cX7_as 44 = .ok (.iload_n 2, 1) := by decide +kernel
theorem dX7_as_45 : decode cX7_as 45 = .ok (.iconst 3, 1) := by decide +kernel
theorem dX7_as_46 : decode cX7_as 46 = .ok (.if_icmp .ne 12, 3) := by decide +kernel
theorem dX7_as_49 : decode cX7_as 49 = .ok (.iload_n 3, 1) := by decide +kernel
theorem dX7_as_50 : decode cX7_as 50 = .ok (.iconst 4, 1) := by decide +kernel
theorem dX7_as_51 : decode cX7_as 51 = .ok (.if_icmp .ne 7, 3) := by decide +kernel
theorem dX7_as_54 : decode cX7_as 54 = .ok (.iconst 1, 1) := by decide +kernel
theorem dX7_as_55 : decode cX7_as 55 = .ok (.goto 4, 3) := by decide +kernel
theorem dX7_as_58 : decode cX7_as 58 = .ok (.iconst 0, 1) := by decide +kernel
theorem dX7_as_59 : decode cX7_as 59 = .ok (.istore 4, 2) := by decide +kernel
theorem dX7_as_61 : decode cX7_as 61 = .ok (.iload 4, 2) := by decide +kernel
theorem dX7_as_63 : decode cX7_as 63 = .ok (.ifCond .eq 7, 3) := by decide +kernel
theorem dX7_as_66 : decode cX7_as 66 = .ok (.iload_n 1, 1) := by decide +kernel
theorem dX7_as_67 : decode cX7_as 67 = .ok (.goto 4, 3) := by decide +kernel
theorem dX7_as_70 : decode cX7_as 70 = .ok (.iconst (-1), 1) := by decide +kernel
theorem dX7_as_71 : decode cX7_as 71 = .ok (.ireturn, 1) := by decide +kernel
theorem dX7_want_0 : decode cX7_want 0 = .ok (.aload_n 0, 1) := by decide +kernel
theorem dX7_want_1 : decode cX7_want 1 = .ok (.iload_n 1, 1) := by decide +kernel
theorem dX7_want_2 : decode cX7_want 2 = .ok (.invokevirtual 158, 3) := by decide +kernel
theorem dX7_want_5 : decode cX7_want 5 = .ok (.ifCond .ne 6, 3) := by decide +kernel
theorem dX7_want_8 : decode cX7_want 8 = .ok (.bipush (-101), 2) := by decide +kernel
theorem dX7_want_10 : decode cX7_want 10 = .ok (.ireturn, 1) := by decide +kernel
theorem dX7_want_11 : decode cX7_want 11 = .ok (.iload_n 2, 1) := by decide +kernel
theorem dX7_want_12 : decode cX7_want 12 = .ok (.i2l, 1) := by decide +kernel
theorem dX7_want_13 : decode cX7_want 13 = .ok (.lconst 0, 1) := by decide +kernel
theorem dX7_want_14 : decode cX7_want 14 = .ok (.ldc2_w 74, 3) := by decide +kernel
theorem dX7_want_17 : decode cX7_want 17 = .ok (.invokestatic 58, 3) := by decide +kernel
theorem dX7_want_20 : decode cX7_want 20 = .ok (.ifCond .ne 6, 3) := by decide +kernel
theorem dX7_want_23 : decode cX7_want 23 = .ok (.bipush (-102), 2) := by decide +kernel
theorem dX7_want_25 : decode cX7_want 25 = .ok (.ireturn, 1) := by decide +kernel
theorem dX7_want_26 : decode cX7_want 26 = .ok (.aload_n 0, 1) := by decide +kernel
theorem dX7_want_27 : decode cX7_want 27 = .ok (.getfield 22, 3) := by decide +kernel
theorem dX7_want_30 : decode cX7_want 30 = .ok (.iconst 3, 1) := by decide +kernel
theorem dX7_want_31 : decode cX7_want 31 = .ok (.iload_n 1, 1) := by decide +kernel
theorem dX7_want_32 : decode cX7_want 32 = .ok (.imul, 1) := by decide +kernel
theorem dX7_want_33 : decode cX7_want 33 = .ok (.iconst 1, 1) := by decide +kernel
theorem dX7_want_34 : decode cX7_want 34 = .ok (.iadd, 1) := by decide +kernel
theorem dX7_want_35 : decode cX7_want 35 = .ok (.iaload, 1) := by decide +kernel
theorem dX7_want_36 : decode cX7_want 36 = .ok (.istore_n 3, 1) := by decide +kernel
theorem dX7_want_37 : decode cX7_want 37 = .ok (.aload_n 0, 1) := by decide +kernel
theorem dX7_want_38 : decode cX7_want 38 = .ok (.getfield 22, 3) := by decide +kernel
theorem dX7_want_41 : decode cX7_want 41 = .ok (.iconst 3, 1) := by decide +kernel
theorem dX7_want_42 : decode cX7_want 42 = .ok (.iload_n 1, 1) := by decide +kernel
theorem dX7_want_43 : decode cX7_want 43 = .ok (.imul, 1) := by decide +kernel
theorem dX7_want_44 : decode cX7_want 44 = .ok (.iconst 1, 1) := by decide +kernel
theorem dX7_want_45 : decode cX7_want 45 = .ok (.iadd, 1) := by decide +kernel
theorem dX7_want_46 : decode cX7_want 46 = .ok (.iload_n 2, 1) := by decide +kernel
theorem dX7_want_47 : decode cX7_want 47 = .ok (.iastore, 1) := by decide +kernel
theorem dX7_want_48 : decode cX7_want 48 = .ok (.aload_n 0, 1) := by decide +kernel
theorem dX7_want_49 : decode cX7_want 49 = .ok (.dup, 1) := by decide +kernel
theorem dX7_want_50 : decode cX7_want 50 = .ok (.getfield 108, 3) := by decide +kernel
theorem dX7_want_53 : decode cX7_want 53 = .ok (.iconst 1, 1) := by decide +kernel
theorem dX7_want_54 : decode cX7_want 54 = .ok (.iadd, 1) := by decide +kernel
theorem dX7_want_55 : decode cX7_want 55 = .ok (.putfield 108, 3) := by decide +kernel
theorem dX7_want_58 : decode cX7_want 58 = .ok (.iload_n 3, 1) := by decide +kernel
theorem dX7_want_59 : decode cX7_want 59 = .ok (.ireturn, 1) := by decide +kernel
theorem dX7_would_0 : decode cX7_would 0 = .ok (.aload_n 0, 1) := by decide +kernel
theorem dX7_would_1 : decode cX7_would 1 = .ok (.iload_n 1, 1) := by decide +kernel
theorem dX7_would_2 : decode cX7_would 2 = .ok (.invokevirtual 158, 3) := by decide +kernel
theorem dX7_would_5 : decode cX7_would 5 = .ok (.ifCond .eq 20, 3) := by decide +kernel
theorem dX7_would_8 : decode cX7_would 8 = .ok (.aload_n 0, 1) := by decide +kernel
theorem dX7_would_9 : decode cX7_would 9 = .ok (.iload_n 2, 1) := by decide +kernel
theorem dX7_would_10 : decode cX7_would 10 = .ok (.invokevirtual 126, 3) := by decide +kernel
theorem dX7_would_13 : decode cX7_would 13 = .ok (.ifCond .eq 12, 3) := by decide +kernel
theorem dX7_would_16 : decode cX7_would 16 = .ok (.aload_n 0, 1) := by decide +kernel
theorem dX7_would_17 : decode cX7_would 17 = .ok (.iload_n 1, 1) := by decide +kernel
theorem dX7_would_18 : decode cX7_would 18 = .ok (.iload_n 2, 1) := by decide +kernel
theorem dX7_would_19 : decode cX7_would 19 = .ok (.invokevirtual 139, 3) := by decide +kernel
theorem dX7_would_22 : decode cX7_would 22 = .ok (.goto 5, 3) := by decide +kernel
theorem dX7_would_25 : decode cX7_would 25 = .ok (.bipush (-101), 2) := by decide +kernel
theorem dX7_would_27 : decode cX7_would 27 = .ok (.ireturn, 1) := by decide +kernel
theorem dX7_isSentence_0 : decode cX7_isSentence 0 = .ok (.iload_n 1, 1) := by decide +kernel
theorem dX7_isSentence_1 : decode cX7_isSentence 1 = .ok (.i2l, 1) := by decide +kernel
theorem dX7_isSentence_2 : decode cX7_isSentence 2 = .ok (.lconst 0, 1) := by decide +kernel
theorem dX7_isSentence_3 : decode cX7_isSentence 3 = .ok (.aload_n 0, 1) := by decide +kernel
theorem dX7_isSentence_4 : decode cX7_isSentence 4 = .ok (.getfield 111, 3) := by decide +kernel
theorem dX7_isSentence_7 : decode cX7_isSentence 7 = .ok (.iconst 1, 1) := by decide +kernel
theorem dX7_isSentence_8 : decode cX7_isSentence 8 = .ok (.isub, 1) := by decide +kernel
theorem dX7_isSentence_9 : decode cX7_isSentence 9 = .ok (.i2l, 1) := by decide +kernel
theorem dX7_isSentence_10 : decode cX7_isSentence 10 = .ok (.invokestatic 58, 3) := by decide +kernel
theorem dX7_isSentence_13 : decode cX7_isSentence 13 = .ok (.ireturn, 1) := by decide +kernel
theorem dX7_begin_0 : decode cX7_begin 0 = .ok (.aload_n 0, 1) := by decide +kernel
theorem dX7_begin_1 : decode cX7_begin 1 = .ok (.iload_n 1, 1) := by decide +kernel
theorem dX7_begin_2 : decode cX7_begin 2 = .ok (.invokevirtual 158, 3) := by decide +kernel
theorem dX7_begin_5 : decode cX7_begin 5 = .ok (.ifCond .eq 11, 3) := by decide +kernel
theorem dX7_begin_8 : decode cX7_begin 8 = .ok (.aload_n 0, 1) := by decide +kernel
theorem dX7_begin_9 : decode cX7_begin 9 = .ok (.iload_n 2, 1) := by decide +kernel
theorem dX7_begin_10 : decode cX7_begin 10 = .ok (.invokevirtual 126, 3) := by decide +kernel
theorem dX7_begin_13 : decode cX7_begin 13 = .ok (.ifCond .ne 6, 3) := by decide +kernel
theorem dX7_begin_16 : decode cX7_begin 16 = .ok (.bipush (-101), 2) := by decide +kernel
theorem dX7_begin_18 : decode cX7_begin 18 = .ok (.ireturn, 1) := by decide +kernel
theorem dX7_begin_19 : decode cX7_begin 19 = .ok (.aload_n 0, 1) := by decide +kernel
theorem dX7_begin_20 : decode cX7_begin 20 = .ok (.iload_n 1, 1) := by decide +kernel
theorem dX7_begin_21 : decode cX7_begin 21 = .ok (.invokevirtual 143, 3) := by decide +kernel
theorem dX7_begin_24 : decode cX7_begin 24 = .ok (.iconst (-1), 1) := by decide +kernel
theorem dX7_begin_25 : decode cX7_begin 25 = .ok (.if_icmp .eq 6, 3) := by decide +kernel
theorem dX7_begin_28 : decode cX7_begin 28 = .ok (.bipush (-103), 2) := by decide +kernel
theorem dX7_begin_30 : decode cX7_begin 30 = .ok (.ireturn, 1) := by decide +kernel
theorem dX7_begin_31 : decode cX7_begin 31 = .ok (.aload_n 0, 1) := by decide +kernel
theorem dX7_begin_32 : decode cX7_begin 32 = .ok (.getfield 111, 3) := by decide +kernel
theorem dX7_begin_35 : decode cX7_begin 35 = .ok (.bipush 8, 2) := by decide +kernel
theorem dX7_begin_37 : decode cX7_begin 37 = .ok (.if_icmp .ne 6, 3) := by decide +kernel
theorem dX7_begin_40 : decode cX7_begin 40 = .ok (.bipush (-104), 2) := by decide +kernel
theorem dX7_begin_42 : decode cX7_begin 42 = .ok (.ireturn, 1) := by decide +kernel
theorem dX7_begin_43 : decode cX7_begin 43 = .ok (.aload_n 0, 1) := by decide +kernel
theorem dX7_begin_44 : decode cX7_begin 44 = .ok (.getfield 25, 3) := by decide +kernel
theorem dX7_begin_47 : decode cX7_begin 47 = .ok (.iconst 4, 1) := by decide +kernel
theorem dX7_begin_48 : decode cX7_begin 48 = .ok (.aload_n 0, 1) := by decide +kernel
theorem dX7_begin_49 : decode cX7_begin 49 = .ok (.getfield 111, 3) := by decide +kernel
theorem dX7_begin_52 : decode cX7_begin 52 = .ok (.imul, 1) := by decide +kernel
theorem dX7_begin_53 : decode cX7_begin 53 = .ok (.iload_n 1, 1) := by decide +kernel
theorem dX7_begin_54 : decode cX7_begin 54 = .ok (.iastore, 1) := by decide +kernel
theorem dX7_begin_55 : decode cX7_begin 55 = .ok (.aload_n 0, 1) := by decide +kernel
theorem dX7_begin_56 : decode cX7_begin 56 = .ok (.getfield 25, 3) := by decide +kernel
theorem dX7_begin_59 : decode cX7_begin 59 = .ok (.iconst 4, 1) := by decide +kernel
theorem dX7_begin_60 : decode cX7_begin 60 = .ok (.aload_n 0, 1) := by decide +kernel
theorem dX7_begin_61 : decode cX7_begin 61 = .ok (.getfield 111, 3) := by decide +kernel
theorem dX7_begin_64 : decode cX7_begin 64 = .ok (.imul, 1) := by decide +kernel
theorem dX7_begin_65 : decode cX7_begin 65 = .ok (.iconst 1, 1) := by decide +kernel
theorem dX7_begin_66 : decode cX7_begin 66 = .ok (.iadd, 1) := by decide +kernel
theorem dX7_begin_67 : decode cX7_begin 67 = .ok (.iload_n 2, 1) := by decide +kernel
theorem dX7_begin_68 : decode cX7_begin 68 = .ok (.iastore, 1) := by decide +kernel
theorem dX7_begin_69 : decode cX7_begin 69 = .ok (.aload_n 0, 1) := by decide +kernel
theorem dX7_begin_70 : decode cX7_begin 70 = .ok (.getfield 25, 3) := by decide +kernel
theorem dX7_begin_73 : decode cX7_begin 73 = .ok (.iconst 4, 1) := by decide +kernel
theorem dX7_begin_74 : decode cX7_begin 74 = .ok (.aload_n 0, 1) := by decide +kernel
theorem dX7_begin_75 : decode cX7_begin 75 = .ok (.getfield 111, 3) := by decide +kernel
theorem dX7_begin_78 : decode cX7_begin 78 = .ok (.imul, 1) := by decide +kernel
theorem dX7_begin_79 : decode cX7_begin 79 = .ok (.iconst 2, 1) := by decide +kernel
theorem dX7_begin_80 : decode cX7_begin 80 = .ok (.iadd, 1) := by decide +kernel
theorem dX7_begin_81 : decode cX7_begin 81 = .ok (.iconst (-1), 1) := by decide +kernel
theorem dX7_begin_82 : decode cX7_begin 82 = .ok (.iastore, 1) := by decide +kernel
theorem dX7_begin_83 : decode cX7_begin 83 = .ok (.aload_n 0, 1) := by decide +kernel
theorem dX7_begin_84 : decode cX7_begin 84 = .ok (.getfield 25, 3) := by decide +kernel
theorem dX7_begin_87 : decode cX7_begin 87 = .ok (.iconst 4, 1) := by decide +kernel
theorem dX7_begin_88 : decode cX7_begin 88 = .ok (.aload_n 0, 1) := by decide +kernel
theorem dX7_begin_89 : decode cX7_begin 89 = .ok (.getfield 111, 3) := by decide +kernel
theorem dX7_begin_92 : decode cX7_begin 92 = .ok (.imul, 1) := by decide +kernel
theorem dX7_begin_93 : decode cX7_begin 93 = .ok (.iconst 3, 1) := by decide +kernel
theorem dX7_begin_94 : decode cX7_begin 94 = .ok (.iadd, 1) := by decide +kernel
theorem dX7_begin_95 : decode cX7_begin 95 = .ok (.iconst (-1), 1) := by decide +kernel
theorem dX7_begin_96 : decode cX7_begin 96 = .ok (.iastore, 1) := by decide +kernel
theorem dX7_begin_97 : decode cX7_begin 97 = .ok (.aload_n 0, 1) := by decide +kernel
theorem dX7_begin_98 : decode cX7_begin 98 = .ok (.dup, 1) := by decide +kernel
theorem dX7_begin_99 : decode cX7_begin 99 = .ok (.getfield 111, 3) := by decide +kernel
theorem dX7_begin_102 : decode cX7_begin 102 = .ok (.iconst 1, 1) := by decide +kernel
theorem dX7_begin_103 : decode cX7_begin 103 = .ok (.iadd, 1) := by decide +kernel
theorem dX7_begin_104 : decode cX7_begin 104 = .ok (.putfield 111, 3) := by decide +kernel
theorem dX7_begin_107 : decode cX7_begin 107 = .ok (.aload_n 0, 1) := by decide +kernel
theorem dX7_begin_108 : decode cX7_begin 108 = .ok (.getfield 111, 3) := by decide +kernel
theorem dX7_begin_111 : decode cX7_begin 111 = .ok (.iconst 1, 1) := by decide +kernel
theorem dX7_begin_112 : decode cX7_begin 112 = .ok (.isub, 1) := by decide +kernel
theorem dX7_begin_113 : decode cX7_begin 113 = .ok (.ireturn, 1) := by decide +kernel
theorem dX7_end_0 : decode cX7_end 0 = .ok (.aload_n 0, 1) := by decide +kernel
theorem dX7_end_1 : decode cX7_end 1 = .ok (.iload_n 1, 1) := by decide +kernel
theorem dX7_end_2 : decode cX7_end 2 = .ok (.invokevirtual 166, 3) := by decide +kernel
theorem dX7_end_5 : decode cX7_end 5 = .ok (.ifCond .eq 11, 3) := by decide +kernel
theorem dX7_end_8 : decode cX7_end 8 = .ok (.aload_n 0, 1) := by decide +kernel
theorem dX7_end_9 : decode cX7_end 9 = .ok (.iload_n 2, 1) := by decide +kernel
theorem dX7_end_10 : decode cX7_end 10 = .ok (.invokevirtual 158, 3) := by decide +kernel
theorem dX7_end_13 : decode cX7_end 13 = .ok (.ifCond .ne 6, 3) := by decide +kernel
theorem dX7_end_16 : decode cX7_end 16 = .ok (.bipush (-101), 2) := by decide +kernel
theorem dX7_end_18 : decode cX7_end 18 = .ok (.ireturn, 1) := by decide +kernel
theorem dX7_end_19 : decode cX7_end 19 = .ok (.aload_n 0, 1) := by decide +kernel
theorem dX7_end_20 : decode cX7_end 20 = .ok (.getfield 25, 3) := by decide +kernel
theorem dX7_end_23 : decode cX7_end 23 = .ok (.iconst 4, 1) := by decide +kernel
theorem dX7_end_24 : decode cX7_end 24 = .ok (.iload_n 1, 1) := by decide +kernel
theorem dX7_end_25 : decode cX7_end 25 = .ok (.imul, 1) := by decide +kernel
theorem dX7_end_26 : decode cX7_end 26 = .ok (.iconst 2, 1) := by decide +kernel
theorem dX7_end_27 : decode cX7_end 27 = .ok (.iadd, 1) := by decide +kernel
theorem dX7_end_28 : decode cX7_end 28 = .ok (.iaload, 1) := by decide +kernel
theorem dX7_end_29 : decode cX7_end 29 = .ok (.iconst (-1), 1) := by decide +kernel
theorem dX7_end_30 : decode cX7_end 30 = .ok (.if_icmp .ne 15, 3) := by decide +kernel
theorem dX7_end_33 : decode cX7_end 33 = .ok (.aload_n 0, 1) := by decide +kernel
theorem dX7_end_34 : decode cX7_end 34 = .ok (.getfield 25, 3) := by decide +kernel
theorem dX7_end_37 : decode cX7_end 37 = .ok (.iconst 4, 1) := by decide +kernel
theorem dX7_end_38 : decode cX7_end 38 = .ok (.iload_n 1, 1) := by decide +kernel
theorem dX7_end_39 : decode cX7_end 39 = .ok (.imul, 1) := by decide +kernel
theorem dX7_end_40 : decode cX7_end 40 = .ok (.iaload, 1) := by decide +kernel
theorem dX7_end_41 : decode cX7_end 41 = .ok (.iload_n 2, 1) := by decide +kernel
theorem dX7_end_42 : decode cX7_end 42 = .ok (.if_icmp .ne 6, 3) := by decide +kernel
theorem dX7_end_45 : decode cX7_end 45 = .ok (.bipush (-103), 2) := by decide +kernel
theorem dX7_end_47 : decode cX7_end 47 = .ok (.ireturn, 1) := by decide +kernel
theorem dX7_end_48 : decode cX7_end 48 = .ok (.aload_n 0, 1) := by decide +kernel
theorem dX7_end_49 : decode cX7_end 49 = .ok (.iload_n 2, 1) := by decide +kernel
theorem dX7_end_50 : decode cX7_end 50 = .ok (.aload_n 0, 1) := by decide +kernel
theorem dX7_end_51 : decode cX7_end 51 = .ok (.getfield 25, 3) := by decide +kernel
theorem dX7_end_54 : decode cX7_end 54 = .ok (.iconst 4, 1) := by decide +kernel
theorem dX7_end_55 : decode cX7_end 55 = .ok (.iload_n 1, 1) := by decide +kernel
theorem dX7_end_56 : decode cX7_end 56 = .ok (.imul, 1) := by decide +kernel
theorem dX7_end_57 : decode cX7_end 57 = .ok (.iconst 1, 1) := by decide +kernel
theorem dX7_end_58 : decode cX7_end 58 = .ok (.iadd, 1) := by decide +kernel
theorem dX7_end_59 : decode cX7_end 59 = .ok (.iaload, 1) := by decide +kernel
theorem dX7_end_60 : decode cX7_end 60 = .ok (.invokevirtual 139, 3) := by decide +kernel
theorem dX7_end_63 : decode cX7_end 63 = .ok (.istore_n 3, 1) := by decide +kernel
theorem dX7_end_64 : decode cX7_end 64 = .ok (.iload_n 3, 1) := by decide +kernel
theorem dX7_end_65 : decode cX7_end 65 = .ok (.iconst (-1), 1) := by decide +kernel
theorem dX7_end_66 : decode cX7_end 66 = .ok (.if_icmp .eq 41, 3) := by decide +kernel
theorem dX7_end_69 : decode cX7_end 69 = .ok (.aload_n 0, 1) := by decide +kernel
theorem dX7_end_70 : decode cX7_end 70 = .ok (.getfield 25, 3) := by decide +kernel
theorem dX7_end_73 : decode cX7_end 73 = .ok (.iconst 4, 1) := by decide +kernel
theorem dX7_end_74 : decode cX7_end 74 = .ok (.iload_n 1, 1) := by decide +kernel
theorem dX7_end_75 : decode cX7_end 75 = .ok (.imul, 1) := by decide +kernel
theorem dX7_end_76 : decode cX7_end 76 = .ok (.iconst 2, 1) := by decide +kernel
theorem dX7_end_77 : decode cX7_end 77 = .ok (.iadd, 1) := by decide +kernel
theorem dX7_end_78 : decode cX7_end 78 = .ok (.iload_n 2, 1) := by decide +kernel
theorem dX7_end_79 : decode cX7_end 79 = .ok (.iastore, 1) := by decide +kernel
theorem dX7_end_80 : decode cX7_end 80 = .ok (.aload_n 0, 1) := by decide +kernel
theorem dX7_end_81 : decode cX7_end 81 = .ok (.getfield 25, 3) := by decide +kernel
theorem dX7_end_84 : decode cX7_end 84 = .ok (.iconst 4, 1) := by decide +kernel
theorem dX7_end_85 : decode cX7_end 85 = .ok (.iload_n 1, 1) := by decide +kernel
theorem dX7_end_86 : decode cX7_end 86 = .ok (.imul, 1) := by decide +kernel
theorem dX7_end_87 : decode cX7_end 87 = .ok (.iconst 3, 1) := by decide +kernel
theorem dX7_end_88 : decode cX7_end 88 = .ok (.iadd, 1) := by decide +kernel
theorem dX7_end_89 : decode cX7_end 89 = .ok (.iload_n 3, 1) := by decide +kernel
theorem dX7_end_90 : decode cX7_end 90 = .ok (.iastore, 1) := by decide +kernel
theorem dX7_end_91 : decode cX7_end 91 = .ok (.aload_n 0, 1) := by decide +kernel
theorem dX7_end_92 : decode cX7_end 92 = .ok (.getfield 22, 3) := by decide +kernel
theorem dX7_end_95 : decode cX7_end 95 = .ok (.iconst 3, 1) := by decide +kernel
theorem dX7_end_96 : decode cX7_end 96 = .ok (.iload_n 2, 1) := by decide +kernel
theorem dX7_end_97 : decode cX7_end 97 = .ok (.imul, 1) := by decide +kernel
theorem dX7_end_98 : decode cX7_end 98 = .ok (.iconst 2, 1) := by decide +kernel
theorem dX7_end_99 : decode cX7_end 99 = .ok (.iadd, 1) := by decide +kernel
theorem dX7_end_100 : decode cX7_end 100 = .ok (.dup2, 1) := by decide +kernel
theorem dX7_end_101 : decode cX7_end 101 = .ok (.iaload, 1) := by decide +kernel
theorem dX7_end_102 : decode cX7_end 102 = .ok (.iconst 1, 1) := by decide +kernel
theorem dX7_end_103 : decode cX7_end 103 = .ok (.iload_n 3, 1) := by decide +kernel
theorem dX7_end_104 : decode cX7_end 104 = .ok (.ishl, 1) := by decide +kernel
theorem dX7_end_105 : decode cX7_end 105 = .ok (.ior, 1) := by decide +kernel
theorem dX7_end_106 : decode cX7_end 106 = .ok (.iastore, 1) := by decide +kernel
theorem dX7_end_107 : decode cX7_end 107 = .ok (.iload_n 3, 1) := by decide +kernel
theorem dX7_end_108 : decode cX7_end 108 = .ok (.ireturn, 1) := by decide +kernel
theorem dX7_isWanted_0 : decode cX7_isWanted 0 = .ok (.aload_n 0, 1) := by decide +kernel
theorem dX7_isWanted_1 : decode cX7_isWanted 1 = .ok (.getfield 25, 3) := by decide +kernel
theorem dX7_isWanted_4 : decode cX7_isWanted 4 = .ok (.iconst 4, 1) := by decide +kernel
theorem dX7_isWanted_5 : decode cX7_isWanted 5 = .ok (.iload_n 1, 1) := by decide +kernel
theorem dX7_isWanted_6 : decode cX7_isWanted 6 = .ok (.imul, 1) := by decide +kernel
theorem dX7_isWanted_7 : decode cX7_isWanted 7 = .ok (.iconst 2, 1) := by decide +kernel
theorem dX7_isWanted_8 : decode cX7_isWanted 8 = .ok (.iadd, 1) := by decide +kernel
theorem dX7_isWanted_9 : decode cX7_isWanted 9 = .ok (.iaload, 1) := by decide +kernel
theorem dX7_isWanted_10 : decode cX7_isWanted 10 = .ok (.iconst (-1), 1) := by decide +kernel
theorem dX7_isWanted_11 : decode cX7_isWanted 11 = .ok (.if_icmp .eq 37, 3) := by decide +kernel
theorem dX7_isWanted_14 : decode cX7_isWanted 14 = .ok (.aload_n 0, 1) := by decide +kernel
theorem dX7_isWanted_15 : decode cX7_isWanted 15 = .ok (.getfield 25, 3) := by decide +kernel
theorem dX7_isWanted_18 : decode cX7_isWanted 18 = .ok (.iconst 4, 1) := by decide +kernel
theorem dX7_isWanted_19 : decode cX7_isWanted 19 = .ok (.iload_n 1, 1) := by decide +kernel
theorem dX7_isWanted_20 : decode cX7_isWanted 20 = .ok (.imul, 1) := by decide +kernel
theorem dX7_isWanted_21 : decode cX7_isWanted 21 = .ok (.iconst 3, 1) := by decide +kernel
theorem dX7_isWanted_22 : decode cX7_isWanted 22 = .ok (.iadd, 1) := by decide +kernel
theorem dX7_isWanted_23 : decode cX7_isWanted 23 = .ok (.iaload, 1) := by decide +kernel
theorem dX7_isWanted_24 : decode cX7_isWanted 24 = .ok (.aload_n 0, 1) := by decide +kernel
theorem dX7_isWanted_25 : decode cX7_isWanted 25 = .ok (.getfield 22, 3) := by decide +kernel
theorem dX7_isWanted_28 : decode cX7_isWanted 28 = .ok (.iconst 3, 1) := by decide +kernel
theorem dX7_isWanted_29 : decode cX7_isWanted 29 = .ok (.aload_n 0, 1) := by decide +kernel
theorem dX7_isWanted_30 : decode cX7_isWanted 30 = .ok (.getfield 25, 3) := by decide +kernel
theorem dX7_isWanted_33 : decode cX7_isWanted 33 = .ok (.iconst 4, 1) := by decide +kernel
theorem dX7_isWanted_34 : decode cX7_isWanted 34 = .ok (.iload_n 1, 1) := by decide +kernel
theorem dX7_isWanted_35 : decode cX7_isWanted 35 = .ok (.imul, 1) := by decide +kernel
theorem dX7_isWanted_36 : decode cX7_isWanted 36 = .ok (.iaload, 1) := by decide +kernel
theorem dX7_isWanted_37 : decode cX7_isWanted 37 = .ok (.imul, 1) := by decide +kernel
theorem dX7_isWanted_38 : decode cX7_isWanted 38 = .ok (.iconst 1, 1) := by decide +kernel
theorem dX7_isWanted_39 : decode cX7_isWanted 39 = .ok (.iadd, 1) := by decide +kernel
theorem dX7_isWanted_40 : decode cX7_isWanted 40 = .ok (.iaload, 1) := by decide +kernel
theorem dX7_isWanted_41 : decode cX7_isWanted 41 = .ok (.if_icmp .ne 7, 3) := by decide +kernel
theorem dX7_isWanted_44 : decode cX7_isWanted 44 = .ok (.iconst 1, 1) := by decide +kernel
theorem dX7_isWanted_45 : decode cX7_isWanted 45 = .ok (.goto 4, 3) := by decide +kernel
theorem dX7_isWanted_48 : decode cX7_isWanted 48 = .ok (.iconst 0, 1) := by decide +kernel
theorem dX7_isWanted_49 : decode cX7_isWanted 49 = .ok (.ireturn, 1) := by decide +kernel
theorem dX7_tellSentence_0 : decode cX7_tellSentence 0 = .ok (.iload_n 2, 1) := by decide +kernel
theorem dX7_tellSentence_1 : decode cX7_tellSentence 1 = .ok (.i2l, 1) := by decide +kernel
theorem dX7_tellSentence_2 : decode cX7_tellSentence 2 = .ok (.lconst 0, 1) := by decide +kernel
theorem dX7_tellSentence_3 : decode cX7_tellSentence 3 = .ok (.ldc2_w 124, 3) := by decide +kernel
theorem dX7_tellSentence_6 : decode cX7_tellSentence 6 = .ok (.invokestatic 58, 3) := by decide +kernel
theorem dX7_tellSentence_9 : decode cX7_tellSentence 9 = .ok (.ifCond .eq 16, 3) := by decide +kernel
theorem dX7_tellSentence_12 : decode cX7_tellSentence 12 = .ok (.aload_n 0, 1) := by decide +kernel
theorem dX7_tellSentence_13 : decode cX7_tellSentence 13 = .ok (.getfield 25, 3) := by decide +kernel
theorem dX7_tellSentence_16 : decode cX7_tellSentence 16 = .ok (.iconst 4, 1) := by decide +kernel
theorem dX7_tellSentence_17 : decode cX7_tellSentence 17 = .ok (.iload_n 1, 1) := by decide +kernel
theorem dX7_tellSentence_18 : decode cX7_tellSentence 18 = .ok (.imul, 1) := by decide +kernel
theorem dX7_tellSentence_19 : decode cX7_tellSentence 19 = .ok (.iload_n 2, 1) := by decide +kernel
theorem dX7_tellSentence_20 : decode cX7_tellSentence 20 = .ok (.iadd, 1) := by decide +kernel
theorem dX7_tellSentence_21 : decode cX7_tellSentence 21 = .ok (.iaload, 1) := by decide +kernel
theorem dX7_tellSentence_22 : decode cX7_tellSentence 22 = .ok (.goto 26, 3) := by decide +kernel
theorem dX7_tellSentence_25 : decode cX7_tellSentence 25 = .ok (.iload_n 2, 1) := by decide +kernel
theorem dX7_tellSentence_26 : decode cX7_tellSentence 26 = .ok (.iconst 4, 1) := by decide +kernel
theorem dX7_tellSentence_27 : decode cX7_tellSentence 27 = .ok (.if_icmp .ne 19, 3) := by decide +kernel
theorem dX7_tellSentence_30 : decode cX7_tellSentence 30 = .ok (.aload_n 0, 1) := by decide +kernel
theorem dX7_tellSentence_31 : decode cX7_tellSentence 31 = .ok (.iload_n 1, 1) := by decide +kernel
theorem dX7_tellSentence_32 : decode cX7_tellSentence 32 = .ok (.invokevirtual 169, 3) := by decide +kernel
theorem dX7_tellSentence_35 : decode cX7_tellSentence 35 = .ok (.ifCond .eq 7, 3) := by decide +kernel
theorem dX7_tellSentence_38 : decode cX7_tellSentence 38 = .ok (.iconst 1, 1) := by decide +kernel
theorem dX7_tellSentence_39 : decode cX7_tellSentence 39 = .ok (.goto 9, 3) := by decide +kernel
theorem dX7_tellSentence_42 : decode cX7_tellSentence 42 = .ok (.iconst 0, 1) := by decide +kernel
theorem dX7_tellSentence_43 : decode cX7_tellSentence 43 = .ok (.goto 5, 3) := by decide +kernel
theorem dX7_tellSentence_46 : decode cX7_tellSentence 46 = .ok (.bipush (-102), 2) := by decide +kernel
theorem dX7_tellSentence_48 : decode cX7_tellSentence 48 = .ok (.ireturn, 1) := by decide +kernel
theorem dX7_sentence_0 : decode cX7_sentence 0 = .ok (.aload_n 0, 1) := by decide +kernel
theorem dX7_sentence_1 : decode cX7_sentence 1 = .ok (.iload_n 1, 1) := by decide +kernel
theorem dX7_sentence_2 : decode cX7_sentence 2 = .ok (.invokevirtual 166, 3) := by decide +kernel
theorem dX7_sentence_5 : decode cX7_sentence 5 = .ok (.ifCond .eq 12, 3) := by decide +kernel
theorem dX7_sentence_8 : decode cX7_sentence 8 = .ok (.aload_n 0, 1) := by decide +kernel
theorem dX7_sentence_9 : decode cX7_sentence 9 = .ok (.iload_n 1, 1) := by decide +kernel
theorem dX7_sentence_10 : decode cX7_sentence 10 = .ok (.iload_n 2, 1) := by decide +kernel
theorem dX7_sentence_11 : decode cX7_sentence 11 = .ok (.invokevirtual 172, 3) := by decide +kernel
theorem dX7_sentence_14 : decode cX7_sentence 14 = .ok (.goto 5, 3) := by decide +kernel
theorem dX7_sentence_17 : decode cX7_sentence 17 = .ok (.bipush (-101), 2) := by decide +kernel
theorem dX7_sentence_19 : decode cX7_sentence 19 = .ok (.ireturn, 1) := by decide +kernel
theorem dX7_endsAsWanted_0 : decode cX7_endsAsWanted 0 = .ok (.aload_n 0, 1) := by decide +kernel
theorem dX7_endsAsWanted_1 : decode cX7_endsAsWanted 1 = .ok (.getfield 25, 3) := by decide +kernel
theorem dX7_endsAsWanted_4 : decode cX7_endsAsWanted 4 = .ok (.iconst 4, 1) := by decide +kernel
theorem dX7_endsAsWanted_5 : decode cX7_endsAsWanted 5 = .ok (.iload_n 2, 1) := by decide +kernel
theorem dX7_endsAsWanted_6 : decode cX7_endsAsWanted 6 = .ok (.imul, 1) := by decide +kernel
theorem dX7_endsAsWanted_7 : decode cX7_endsAsWanted 7 = .ok (.iaload, 1) := by decide +kernel
theorem dX7_endsAsWanted_8 : decode cX7_endsAsWanted 8 = .ok (.istore_n 3, 1) := by decide +kernel
theorem dX7_endsAsWanted_9 : decode cX7_endsAsWanted 9 = .ok (.aload_n 0, 1) := by decide +kernel
theorem dX7_endsAsWanted_10 : decode cX7_endsAsWanted 10 = .ok (.getfield 25, 3) := by decide +kernel
theorem dX7_endsAsWanted_13 : decode cX7_endsAsWanted 13 = .ok (.iconst 4, 1) := by decide +kernel
theorem dX7_endsAsWanted_14 : decode cX7_endsAsWanted 14 = .ok (.iload_n 2, 1) := by decide +kernel
theorem dX7_endsAsWanted_15 : decode cX7_endsAsWanted 15 = .ok (.imul, 1) := by decide +kernel
theorem dX7_endsAsWanted_16 : decode cX7_endsAsWanted 16 = .ok (.iconst 2, 1) := by decide +kernel
theorem dX7_endsAsWanted_17 : decode cX7_endsAsWanted 17 = .ok (.iadd, 1) := by decide +kernel
theorem dX7_endsAsWanted_18 : decode cX7_endsAsWanted 18 = .ok (.iaload, 1) := by decide +kernel
theorem dX7_endsAsWanted_19 : decode cX7_endsAsWanted 19 = .ok (.iconst (-1), 1) := by decide +kernel
theorem dX7_endsAsWanted_20 : decode cX7_endsAsWanted 20 = .ok (.if_icmp .ne 40, 3) := by decide +kernel
theorem dX7_endsAsWanted_23 : decode cX7_endsAsWanted 23 = .ok (.iload_n 3, 1) := by decide +kernel
theorem dX7_endsAsWanted_24 : decode cX7_endsAsWanted 24 = .ok (.iload_n 1, 1) := by decide +kernel
theorem dX7_endsAsWanted_25 : decode cX7_endsAsWanted 25 = .ok (.if_icmp .eq 35, 3) := by decide +kernel
theorem dX7_endsAsWanted_28 : decode cX7_endsAsWanted 28 = .ok (.aload_n 0, 1) := by decide +kernel
theorem dX7_endsAsWanted_29 : decode cX7_endsAsWanted 29 = .ok (.iload_n 1, 1) := by decide +kernel
theorem dX7_endsAsWanted_30 : decode cX7_endsAsWanted 30 = .ok (.aload_n 0, 1) := by decide +kernel
theorem dX7_endsAsWanted_31 : decode cX7_endsAsWanted 31 = .ok (.getfield 25, 3) := by decide +kernel
theorem dX7_endsAsWanted_34 : decode cX7_endsAsWanted 34 = .ok (.iconst 4, 1) := by decide +kernel
theorem dX7_endsAsWanted_35 : decode cX7_endsAsWanted 35 = .ok (.iload_n 2, 1) := by decide +kernel
theorem dX7_endsAsWanted_36 : decode cX7_endsAsWanted 36 = .ok (.imul, 1) := by decide +kernel
theorem dX7_endsAsWanted_37 : decode cX7_endsAsWanted 37 = .ok (.iconst 1, 1) := by decide +kernel
theorem dX7_endsAsWanted_38 : decode cX7_endsAsWanted 38 = .ok (.iadd, 1) := by decide +kernel
theorem dX7_endsAsWanted_39 : decode cX7_endsAsWanted 39 = .ok (.iaload, 1) := by decide +kernel
theorem dX7_endsAsWanted_40 : decode cX7_endsAsWanted 40 = .ok (.invokevirtual 139, 3) := by decide +kernel
theorem dX7_endsAsWanted_43 : decode cX7_endsAsWanted 43 = .ok (.aload_n 0, 1) := by decide +kernel
theorem dX7_endsAsWanted_44 : decode cX7_endsAsWanted 44 = .ok (.getfield 22, 3) := by decide +kernel
theorem dX7_endsAsWanted_47 : decode cX7_endsAsWanted 47 = .ok (.iconst 3, 1) := by decide +kernel
theorem dX7_endsAsWanted_48 : decode cX7_endsAsWanted 48 = .ok (.iload_n 3, 1) := by decide +kernel
theorem dX7_endsAsWanted_49 : decode cX7_endsAsWanted 49 = .ok (.imul, 1) := by decide +kernel
theorem dX7_endsAsWanted_50 : decode cX7_endsAsWanted 50 = .ok (.iconst 1, 1) := by decide +kernel
theorem dX7_endsAsWanted_51 : decode cX7_endsAsWanted 51 = .ok (.iadd, 1) := by decide +kernel
theorem dX7_endsAsWanted_52 : decode cX7_endsAsWanted 52 = .ok (.iaload, 1) := by decide +kernel
theorem dX7_endsAsWanted_53 : decode cX7_endsAsWanted 53 = .ok (.if_icmp .ne 7, 3) := by decide +kernel
theorem dX7_endsAsWanted_56 : decode cX7_endsAsWanted 56 = .ok (.iconst 1, 1) := by decide +kernel
theorem dX7_endsAsWanted_57 : decode cX7_endsAsWanted 57 = .ok (.goto 4, 3) := by decide +kernel
theorem dX7_endsAsWanted_60 : decode cX7_endsAsWanted 60 = .ok (.iconst 0, 1) := by decide +kernel
theorem dX7_endsAsWanted_61 : decode cX7_endsAsWanted 61 = .ok (.ireturn, 1) := by decide +kernel
theorem dX7_layRow_0 : decode cX7_layRow 0 = .ok (.iload_n 1, 1) := by decide +kernel
theorem dX7_layRow_1 : decode cX7_layRow 1 = .ok (.istore_n 2, 1) := by decide +kernel
theorem dX7_layRow_2 : decode cX7_layRow 2 = .ok (.iconst 0, 1) := by decide +kernel
theorem dX7_layRow_3 : decode cX7_layRow 3 = .ok (.istore_n 3, 1) := by decide +kernel
theorem dX7_layRow_4 : decode cX7_layRow 4 = .ok (.iconst 1, 1) := by decide +kernel
theorem dX7_layRow_5 : decode cX7_layRow 5 = .ok (.istore 4, 2) := by decide +kernel
theorem dX7_layRow_7 : decode cX7_layRow 7 = .ok (.aload_n 0, 1) := by decide +kernel
theorem dX7_layRow_8 : decode cX7_layRow 8 = .ok (.getfield 101, 3) := by decide +kernel
theorem dX7_layRow_11 : decode cX7_layRow 11 = .ok (.iconst 1, 1) := by decide +kernel
theorem dX7_layRow_12 : decode cX7_layRow 12 = .ok (.isub, 1) := by decide +kernel
theorem dX7_layRow_13 : decode cX7_layRow 13 = .ok (.istore 5, 2) := by decide +kernel
theorem dX7_layRow_15 : decode cX7_layRow 15 = .ok (.iload 5, 2) := by decide +kernel
theorem dX7_layRow_17 : decode cX7_layRow 17 = .ok (.ifCond .lt 100, 3) := by decide +kernel
theorem dX7_layRow_20 : decode cX7_layRow 20 = .ok (.aload_n 0, 1) := by decide +kernel
theorem dX7_layRow_21 : decode cX7_layRow 21 = .ok (.getfield 28, 3) := by decide +kernel
theorem dX7_layRow_24 : decode cX7_layRow 24 = .ok (.iload 5, 2) := by decide +kernel
theorem dX7_layRow_26 : decode cX7_layRow 26 = .ok (.iload_n 2, 1) := by decide +kernel
theorem dX7_layRow_27 : decode cX7_layRow 27 = .ok (.aload_n 0, 1) := by decide +kernel
theorem dX7_layRow_28 : decode cX7_layRow 28 = .ok (.getfield 111, 3) := by decide +kernel
theorem dX7_layRow_31 : decode cX7_layRow 31 = .ok (.iconst 1, 1) := by decide +kernel
theorem dX7_layRow_32 : decode cX7_layRow 32 = .ok (.iadd, 1) := by decide +kernel
theorem dX7_layRow_33 : decode cX7_layRow 33 = .ok (.irem, 1) := by decide +kernel
theorem dX7_layRow_34 : decode cX7_layRow 34 = .ok (.iconst 1, 1) := by decide +kernel
theorem dX7_layRow_35 : decode cX7_layRow 35 = .ok (.isub, 1) := by decide +kernel
theorem dX7_layRow_36 : decode cX7_layRow 36 = .ok (.iastore, 1) := by decide +kernel
theorem dX7_layRow_37 : decode cX7_layRow 37 = .ok (.iload_n 2, 1) := by decide +kernel
theorem dX7_layRow_38 : decode cX7_layRow 38 = .ok (.aload_n 0, 1) := by decide +kernel
theorem dX7_layRow_39 : decode cX7_layRow 39 = .ok (.getfield 111, 3) := by decide +kernel
theorem dX7_layRow_42 : decode cX7_layRow 42 = .ok (.iconst 1, 1) := by decide +kernel
theorem dX7_layRow_43 : decode cX7_layRow 43 = .ok (.iadd, 1) := by decide +kernel
theorem dX7_layRow_44 : decode cX7_layRow 44 = .ok (.idiv, 1) := by decide +kernel
theorem dX7_layRow_45 : decode cX7_layRow 45 = .ok (.istore_n 2, 1) := by decide +kernel
theorem dX7_layRow_46 : decode cX7_layRow 46 = .ok (.aload_n 0, 1) := by decide +kernel
theorem dX7_layRow_47 : decode cX7_layRow 47 = .ok (.getfield 28, 3) := by decide +kernel
theorem dX7_layRow_50 : decode cX7_layRow 50 = .ok (.iload 5, 2) := by decide +kernel
theorem dX7_layRow_52 : decode cX7_layRow 52 = .ok (.iaload, 1) := by decide +kernel
theorem dX7_layRow_53 : decode cX7_layRow 53 = .ok (.iconst (-1), 1) := by decide +kernel
theorem dX7_layRow_54 : decode cX7_layRow 54 = .ok (.if_icmp .eq 57, 3) := by decide +kernel
theorem dX7_layRow_57 : decode cX7_layRow 57 = .ok (.iload 4, 2) := by decide +kernel
theorem dX7_layRow_59 : decode cX7_layRow 59 = .ok (.ifCond .eq 37, 3) := by decide +kernel
theorem dX7_layRow_62 : decode cX7_layRow 62 = .ok (.iload_n 3, 1) := by decide +kernel
theorem dX7_layRow_63 : decode cX7_layRow 63 = .ok (.aload_n 0, 1) := by decide +kernel
theorem dX7_layRow_64 : decode cX7_layRow 64 = .ok (.getfield 28, 3) := by decide +kernel
theorem dX7_layRow_67 : decode cX7_layRow 67 = .ok (.iload 5, 2) := by decide +kernel
theorem dX7_layRow_69 : decode cX7_layRow 69 = .ok (.iaload, 1) := by decide +kernel
theorem dX7_layRow_70 : decode cX7_layRow 70 = .ok (.ishr, 1) := by decide +kernel
theorem dX7_layRow_71 : decode cX7_layRow 71 = .ok (.iconst 1, 1) := by decide +kernel
theorem dX7_layRow_72 : decode cX7_layRow 72 = .ok (.iand, 1) := by decide +kernel
theorem dX7_layRow_73 : decode cX7_layRow 73 = .ok (.ifCond .ne 23, 3) := by decide +kernel
theorem dX7_layRow_76 : decode cX7_layRow 76 = .ok (.aload_n 0, 1) := by decide +kernel
theorem dX7_layRow_77 : decode cX7_layRow 77 = .ok (.iload 5, 2) := by decide +kernel
theorem dX7_layRow_79 : decode cX7_layRow 79 = .ok (.aload_n 0, 1) := by decide +kernel
theorem dX7_layRow_80 : decode cX7_layRow 80 = .ok (.getfield 28, 3) := by decide +kernel
theorem dX7_layRow_83 : decode cX7_layRow 83 = .ok (.iload 5, 2) := by decide +kernel
theorem dX7_layRow_85 : decode cX7_layRow 85 = .ok (.iaload, 1) := by decide +kernel
theorem dX7_layRow_86 : decode cX7_layRow 86 = .ok (.invokevirtual 175, 3) := by decide +kernel
theorem dX7_layRow_89 : decode cX7_layRow 89 = .ok (.ifCond .eq 7, 3) := by decide +kernel
theorem dX7_layRow_92 : decode cX7_layRow 92 = .ok (.iconst 1, 1) := by decide +kernel
theorem dX7_layRow_93 : decode cX7_layRow 93 = .ok (.goto 4, 3) := by decide +kernel
theorem dX7_layRow_96 : decode cX7_layRow 96 = .ok (.iconst 0, 1) := by decide +kernel
theorem dX7_layRow_97 : decode cX7_layRow 97 = .ok (.istore 4, 2) := by decide +kernel
theorem dX7_layRow_99 : decode cX7_layRow 99 = .ok (.iload_n 3, 1) := by decide +kernel
theorem dX7_layRow_100 : decode cX7_layRow 100 = .ok (.iconst 1, 1) := by decide +kernel
theorem dX7_layRow_101 : decode cX7_layRow 101 = .ok (.aload_n 0, 1) := by decide +kernel
theorem dX7_layRow_102 : decode cX7_layRow 102 = .ok (.getfield 28, 3) := by decide +kernel
theorem dX7_layRow_105 : decode cX7_layRow 105 = .ok (.iload 5, 2) := by decide +kernel
theorem dX7_layRow_107 : decode cX7_layRow 107 = .ok (.iaload, 1) := by decide +kernel
theorem dX7_layRow_108 : decode cX7_layRow 108 = .ok (.ishl, 1) := by decide +kernel
theorem dX7_layRow_109 : decode cX7_layRow 109 = .ok (.ior, 1) := by decide +kernel
theorem dX7_layRow_110 : decode cX7_layRow 110 = .ok (.istore_n 3, 1) := by decide +kernel
theorem dX7_layRow_111 : decode cX7_layRow 111 = .ok (.iinc 5 (-1), 3) := by decide +kernel
theorem dX7_layRow_114 : decode cX7_layRow 114 = .ok (.goto (-99), 3) := by decide +kernel
theorem dX7_layRow_117 : decode cX7_layRow 117 = .ok (.iload 4, 2) := by decide +kernel
theorem dX7_layRow_119 : decode cX7_layRow 119 = .ok (.ireturn, 1) := by decide +kernel
theorem dX7_matchOf_0 : decode cX7_matchOf 0 = .ok (.iconst 1, 1) := by decide +kernel
theorem dX7_matchOf_1 : decode cX7_matchOf 1 = .ok (.istore_n 2, 1) := by decide +kernel
theorem dX7_matchOf_2 : decode cX7_matchOf 2 = .ok (.iconst 0, 1) := by decide +kernel
theorem dX7_matchOf_3 : decode cX7_matchOf 3 = .ok (.istore_n 3, 1) := by decide +kernel
theorem dX7_matchOf_4 : decode cX7_matchOf 4 = .ok (.iload_n 3, 1) := by decide +kernel
theorem dX7_matchOf_5 : decode cX7_matchOf 5 = .ok (.aload_n 0, 1) := by decide +kernel
theorem dX7_matchOf_6 : decode cX7_matchOf 6 = .ok (.getfield 101, 3) := by decide +kernel
theorem dX7_matchOf_9 : decode cX7_matchOf 9 = .ok (.if_icmp .ge 18, 3) := by decide +kernel
theorem dX7_matchOf_12 : decode cX7_matchOf 12 = .ok (.iload_n 2, 1) := by decide +kernel
theorem dX7_matchOf_13 : decode cX7_matchOf 13 = .ok (.aload_n 0, 1) := by decide +kernel
theorem dX7_matchOf_14 : decode cX7_matchOf 14 = .ok (.getfield 111, 3) := by decide +kernel
theorem dX7_matchOf_17 : decode cX7_matchOf 17 = .ok (.iconst 1, 1) := by decide +kernel
theorem dX7_matchOf_18 : decode cX7_matchOf 18 = .ok (.iadd, 1) := by decide +kernel
theorem dX7_matchOf_19 : decode cX7_matchOf 19 = .ok (.imul, 1) := by decide +kernel
theorem dX7_matchOf_20 : decode cX7_matchOf 20 = .ok (.istore_n 2, 1) := by decide +kernel
theorem dX7_matchOf_21 : decode cX7_matchOf 21 = .ok (.iinc 3 1, 3) := by decide +kernel
theorem dX7_matchOf_24 : decode cX7_matchOf 24 = .ok (.goto (-20), 3) := by decide +kernel
theorem dX7_matchOf_27 : decode cX7_matchOf 27 = .ok (.iconst (-1), 1) := by decide +kernel
theorem dX7_matchOf_28 : decode cX7_matchOf 28 = .ok (.istore_n 3, 1) := by decide +kernel
theorem dX7_matchOf_29 : decode cX7_matchOf 29 = .ok (.iconst 0, 1) := by decide +kernel
theorem dX7_matchOf_30 : decode cX7_matchOf 30 = .ok (.istore 4, 2) := by decide +kernel
theorem dX7_matchOf_32 : decode cX7_matchOf 32 = .ok (.iload 4, 2) := by decide +kernel
theorem dX7_matchOf_34 : decode cX7_matchOf 34 = .ok (.iload_n 2, 1) := by decide +kernel
theorem dX7_matchOf_35 : decode cX7_matchOf 35 = .ok (.if_icmp .ge 80, 3) := by decide +kernel
theorem dX7_matchOf_38 : decode cX7_matchOf 38 = .ok (.aload_n 0, 1) := by decide +kernel
theorem dX7_matchOf_39 : decode cX7_matchOf 39 = .ok (.iload 4, 2) := by decide +kernel
theorem dX7_matchOf_41 : decode cX7_matchOf 41 = .ok (.invokevirtual 179, 3) := by decide +kernel
theorem dX7_matchOf_44 : decode cX7_matchOf 44 = .ok (.ifCond .eq 65, 3) := by decide +kernel
theorem dX7_matchOf_47 : decode cX7_matchOf 47 = .ok (.iconst 0, 1) := by decide +kernel
theorem dX7_matchOf_48 : decode cX7_matchOf 48 = .ok (.istore 5, 2) := by decide +kernel
theorem dX7_matchOf_50 : decode cX7_matchOf 50 = .ok (.iconst 0, 1) := by decide +kernel
theorem dX7_matchOf_51 : decode cX7_matchOf 51 = .ok (.istore 6, 2) := by decide +kernel
theorem dX7_matchOf_53 : decode cX7_matchOf 53 = .ok (.iload 6, 2) := by decide +kernel
theorem dX7_matchOf_55 : decode cX7_matchOf 55 = .ok (.aload_n 0, 1) := by decide +kernel
theorem dX7_matchOf_56 : decode cX7_matchOf 56 = .ok (.getfield 101, 3) := by decide +kernel
theorem dX7_matchOf_59 : decode cX7_matchOf 59 = .ok (.if_icmp .ge 30, 3) := by decide +kernel
theorem dX7_matchOf_62 : decode cX7_matchOf 62 = .ok (.iload 5, 2) := by decide +kernel
theorem dX7_matchOf_64 : decode cX7_matchOf 64 = .ok (.aload_n 0, 1) := by decide +kernel
theorem dX7_matchOf_65 : decode cX7_matchOf 65 = .ok (.getfield 28, 3) := by decide +kernel
theorem dX7_matchOf_68 : decode cX7_matchOf 68 = .ok (.iload 6, 2) := by decide +kernel
theorem dX7_matchOf_70 : decode cX7_matchOf 70 = .ok (.iaload, 1) := by decide +kernel
theorem dX7_matchOf_71 : decode cX7_matchOf 71 = .ok (.iconst (-1), 1) := by decide +kernel
theorem dX7_matchOf_72 : decode cX7_matchOf 72 = .ok (.if_icmp .ne 7, 3) := by decide +kernel
theorem dX7_matchOf_75 : decode cX7_matchOf 75 = .ok (.iconst 0, 1) := by decide +kernel
theorem dX7_matchOf_76 : decode cX7_matchOf 76 = .ok (.goto 4, 3) := by decide +kernel
theorem dX7_matchOf_79 : decode cX7_matchOf 79 = .ok (.iconst 1, 1) := by decide +kernel
theorem dX7_matchOf_80 : decode cX7_matchOf 80 = .ok (.iadd, 1) := by decide +kernel
theorem dX7_matchOf_81 : decode cX7_matchOf 81 = .ok (.istore 5, 2) := by decide +kernel
theorem dX7_matchOf_83 : decode cX7_matchOf 83 = .ok (.iinc 6 1, 3) := by decide +kernel
theorem dX7_matchOf_86 : decode cX7_matchOf 86 = .ok (.goto (-33), 3) := by decide +kernel
theorem dX7_matchOf_89 : decode cX7_matchOf 89 = .ok (.iload 5, 2) := by decide +kernel
theorem dX7_matchOf_91 : decode cX7_matchOf 91 = .ok (.iload_n 3, 1) := by decide +kernel
theorem dX7_matchOf_92 : decode cX7_matchOf 92 = .ok (.if_icmp .le 17, 3) := by decide +kernel
theorem dX7_matchOf_95 : decode cX7_matchOf 95 = .ok (.iload 5, 2) := by decide +kernel
theorem dX7_matchOf_97 : decode cX7_matchOf 97 = .ok (.istore_n 3, 1) := by decide +kernel
theorem dX7_matchOf_98 : decode cX7_matchOf 98 = .ok (.aload_n 0, 1) := by decide +kernel
theorem dX7_matchOf_99 : decode cX7_matchOf 99 = .ok (.getfield 28, 3) := by decide +kernel
theorem dX7_matchOf_102 : decode cX7_matchOf 102 = .ok (.aload_n 0, 1) := by decide +kernel
theorem dX7_matchOf_103 : decode cX7_matchOf 103 = .ok (.getfield 31, 3) := by decide +kernel
theorem dX7_matchOf_106 : decode cX7_matchOf 106 = .ok (.invokestatic 104, 3) := by decide +kernel
theorem dX7_matchOf_109 : decode cX7_matchOf 109 = .ok (.iinc 4 1, 3) := by decide +kernel
theorem dX7_matchOf_112 : decode cX7_matchOf 112 = .ok (.goto (-80), 3) := by decide +kernel
theorem dX7_matchOf_115 : decode cX7_matchOf 115 = .ok (.iload_n 1, 1) := by decide +kernel
theorem dX7_matchOf_116 : decode cX7_matchOf 116 = .ok (.ifCond .ne 7, 3) := by decide +kernel
theorem dX7_matchOf_119 : decode cX7_matchOf 119 = .ok (.iload_n 3, 1) := by decide +kernel
theorem dX7_matchOf_120 : decode cX7_matchOf 120 = .ok (.goto 27, 3) := by decide +kernel
theorem dX7_matchOf_123 : decode cX7_matchOf 123 = .ok (.iload_n 1, 1) := by decide +kernel
theorem dX7_matchOf_124 : decode cX7_matchOf 124 = .ok (.bipush 10, 2) := by decide +kernel
theorem dX7_matchOf_126 : decode cX7_matchOf 126 = .ok (.isub, 1) := by decide +kernel
theorem dX7_matchOf_127 : decode cX7_matchOf 127 = .ok (.aload_n 0, 1) := by decide +kernel
theorem dX7_matchOf_128 : decode cX7_matchOf 128 = .ok (.getfield 101, 3) := by decide +kernel
theorem dX7_matchOf_131 : decode cX7_matchOf 131 = .ok (.if_icmp .ge 15, 3) := by decide +kernel
theorem dX7_matchOf_134 : decode cX7_matchOf 134 = .ok (.aload_n 0, 1) := by decide +kernel
theorem dX7_matchOf_135 : decode cX7_matchOf 135 = .ok (.getfield 31, 3) := by decide +kernel
theorem dX7_matchOf_138 : decode cX7_matchOf 138 = .ok (.iload_n 1, 1) := by decide +kernel
theorem dX7_matchOf_139 : decode cX7_matchOf 139 = .ok (.bipush 10, 2) := by decide +kernel
theorem dX7_matchOf_141 : decode cX7_matchOf 141 = .ok (.isub, 1) := by decide +kernel
theorem dX7_matchOf_142 : decode cX7_matchOf 142 = .ok (.iaload, 1) := by decide +kernel
theorem dX7_matchOf_143 : decode cX7_matchOf 143 = .ok (.goto 4, 3) := by decide +kernel
theorem dX7_matchOf_146 : decode cX7_matchOf 146 = .ok (.iconst (-1), 1) := by decide +kernel
theorem dX7_matchOf_147 : decode cX7_matchOf 147 = .ok (.ireturn, 1) := by decide +kernel
theorem dX7_match_0 : decode cX7_match 0 = .ok (.iload_n 1, 1) := by decide +kernel
theorem dX7_match_1 : decode cX7_match 1 = .ok (.ifCond .eq 20, 3) := by decide +kernel
theorem dX7_match_4 : decode cX7_match 4 = .ok (.iload_n 1, 1) := by decide +kernel
theorem dX7_match_5 : decode cX7_match 5 = .ok (.i2l, 1) := by decide +kernel
theorem dX7_match_6 : decode cX7_match 6 = .ok (.ldc2_w 182, 3) := by decide +kernel
theorem dX7_match_9 : decode cX7_match 9 = .ok (.ldc2_w 184, 3) := by decide +kernel
theorem dX7_match_12 : decode cX7_match 12 = .ok (.invokestatic 58, 3) := by decide +kernel
theorem dX7_match_15 : decode cX7_match 15 = .ok (.ifCond .ne 6, 3) := by decide +kernel
theorem dX7_match_18 : decode cX7_match 18 = .ok (.bipush (-102), 2) := by decide +kernel
theorem dX7_match_20 : decode cX7_match 20 = .ok (.ireturn, 1) := by decide +kernel
theorem dX7_match_21 : decode cX7_match 21 = .ok (.aload_n 0, 1) := by decide +kernel
theorem dX7_match_22 : decode cX7_match 22 = .ok (.invokevirtual 120, 3) := by decide +kernel
theorem dX7_match_25 : decode cX7_match 25 = .ok (.ifCond .eq 8, 3) := by decide +kernel
theorem dX7_match_28 : decode cX7_match 28 = .ok (.bipush (-103), 2) := by decide +kernel
theorem dX7_match_30 : decode cX7_match 30 = .ok (.goto 8, 3) := by decide +kernel
theorem dX7_match_33 : decode cX7_match 33 = .ok (.aload_n 0, 1) := by decide +kernel
theorem dX7_match_34 : decode cX7_match 34 = .ok (.iload_n 1, 1) := by decide +kernel
theorem dX7_match_35 : decode cX7_match 35 = .ok (.invokevirtual 186, 3) := by decide +kernel
theorem dX7_match_38 : decode cX7_match 38 = .ok (.ireturn, 1) := by decide +kernel
theorem dX7_hear_0 : decode cX7_hear 0 = .ok (.aload_n 0, 1) := by decide +kernel
theorem dX7_hear_1 : decode cX7_hear 1 = .ok (.iload_n 1, 1) := by decide +kernel
theorem dX7_hear_2 : decode cX7_hear 2 = .ok (.invokevirtual 158, 3) := by decide +kernel
theorem dX7_hear_5 : decode cX7_hear 5 = .ok (.ifCond .eq 11, 3) := by decide +kernel
theorem dX7_hear_8 : decode cX7_hear 8 = .ok (.aload_n 0, 1) := by decide +kernel
theorem dX7_hear_9 : decode cX7_hear 9 = .ok (.iload_n 2, 1) := by decide +kernel
theorem dX7_hear_10 : decode cX7_hear 10 = .ok (.invokevirtual 126, 3) := by decide +kernel
theorem dX7_hear_13 : decode cX7_hear 13 = .ok (.ifCond .ne 6, 3) := by decide +kernel
theorem dX7_hear_16 : decode cX7_hear 16 = .ok (.bipush (-101), 2) := by decide +kernel
theorem dX7_hear_18 : decode cX7_hear 18 = .ok (.ireturn, 1) := by decide +kernel
theorem dX7_hear_19 : decode cX7_hear 19 = .ok (.iload_n 3, 1) := by decide +kernel
theorem dX7_hear_20 : decode cX7_hear 20 = .ok (.i2l, 1) := by decide +kernel
theorem dX7_hear_21 : decode cX7_hear 21 = .ok (.ldc2_w 189, 3) := by decide +kernel
theorem dX7_hear_24 : decode cX7_hear 24 = .ok (.ldc2_w 74, 3) := by decide +kernel
theorem dX7_hear_27 : decode cX7_hear 27 = .ok (.invokestatic 58, 3) := by decide +kernel
theorem dX7_hear_30 : decode cX7_hear 30 = .ok (.ifCond .ne 6, 3) := by decide +kernel
theorem dX7_hear_33 : decode cX7_hear 33 = .ok (.bipush (-102), 2) := by decide +kernel
theorem dX7_hear_35 : decode cX7_hear 35 = .ok (.ireturn, 1) := by decide +kernel
theorem dX7_hear_36 : decode cX7_hear 36 = .ok (.aload_n 0, 1) := by decide +kernel
theorem dX7_hear_37 : decode cX7_hear 37 = .ok (.getfield 114, 3) := by decide +kernel
theorem dX7_hear_40 : decode cX7_hear 40 = .ok (.bipush 8, 2) := by decide +kernel
theorem dX7_hear_42 : decode cX7_hear 42 = .ok (.if_icmp .ne 6, 3) := by decide +kernel
theorem dX7_hear_45 : decode cX7_hear 45 = .ok (.bipush (-104), 2) := by decide +kernel
theorem dX7_hear_47 : decode cX7_hear 47 = .ok (.ireturn, 1) := by decide +kernel
theorem dX7_hear_48 : decode cX7_hear 48 = .ok (.aload_n 0, 1) := by decide +kernel
theorem dX7_hear_49 : decode cX7_hear 49 = .ok (.getfield 34, 3) := by decide +kernel
theorem dX7_hear_52 : decode cX7_hear 52 = .ok (.iconst 3, 1) := by decide +kernel
theorem dX7_hear_53 : decode cX7_hear 53 = .ok (.aload_n 0, 1) := by decide +kernel
theorem dX7_hear_54 : decode cX7_hear 54 = .ok (.getfield 114, 3) := by decide +kernel
theorem dX7_hear_57 : decode cX7_hear 57 = .ok (.imul, 1) := by decide +kernel
theorem dX7_hear_58 : decode cX7_hear 58 = .ok (.iload_n 1, 1) := by decide +kernel
theorem dX7_hear_59 : decode cX7_hear 59 = .ok (.iastore, 1) := by decide +kernel
theorem dX7_hear_60 : decode cX7_hear 60 = .ok (.aload_n 0, 1) := by decide +kernel
theorem dX7_hear_61 : decode cX7_hear 61 = .ok (.getfield 34, 3) := by decide +kernel
theorem dX7_hear_64 : decode cX7_hear 64 = .ok (.iconst 3, 1) := by decide +kernel
theorem dX7_hear_65 : decode cX7_hear 65 = .ok (.aload_n 0, 1) := by decide +kernel
theorem dX7_hear_66 : decode cX7_hear 66 = .ok (.getfield 114, 3) := by decide +kernel
theorem dX7_hear_69 : decode cX7_hear 69 = .ok (.imul, 1) := by decide +kernel
theorem dX7_hear_70 : decode cX7_hear 70 = .ok (.iconst 1, 1) := by decide +kernel
theorem dX7_hear_71 : decode cX7_hear 71 = .ok (.iadd, 1) := by decide +kernel
theorem dX7_hear_72 : decode cX7_hear 72 = .ok (.iload_n 2, 1) := by decide +kernel
theorem dX7_hear_73 : decode cX7_hear 73 = .ok (.iastore, 1) := by decide +kernel
theorem dX7_hear_74 : decode cX7_hear 74 = .ok (.aload_n 0, 1) := by decide +kernel
theorem dX7_hear_75 : decode cX7_hear 75 = .ok (.getfield 34, 3) := by decide +kernel
theorem dX7_hear_78 : decode cX7_hear 78 = .ok (.iconst 3, 1) := by decide +kernel
theorem dX7_hear_79 : decode cX7_hear 79 = .ok (.aload_n 0, 1) := by decide +kernel
theorem dX7_hear_80 : decode cX7_hear 80 = .ok (.getfield 114, 3) := by decide +kernel
theorem dX7_hear_83 : decode cX7_hear 83 = .ok (.imul, 1) := by decide +kernel
theorem dX7_hear_84 : decode cX7_hear 84 = .ok (.iconst 2, 1) := by decide +kernel
theorem dX7_hear_85 : decode cX7_hear 85 = .ok (.iadd, 1) := by decide +kernel
theorem dX7_hear_86 : decode cX7_hear 86 = .ok (.iload_n 3, 1) := by decide +kernel
theorem dX7_hear_87 : decode cX7_hear 87 = .ok (.iastore, 1) := by decide +kernel
theorem dX7_hear_88 : decode cX7_hear 88 = .ok (.aload_n 0, 1) := by decide +kernel
theorem dX7_hear_89 : decode cX7_hear 89 = .ok (.dup, 1) := by decide +kernel
theorem dX7_hear_90 : decode cX7_hear 90 = .ok (.getfield 114, 3) := by decide +kernel
theorem dX7_hear_93 : decode cX7_hear 93 = .ok (.iconst 1, 1) := by decide +kernel
theorem dX7_hear_94 : decode cX7_hear 94 = .ok (.iadd, 1) := by decide +kernel
theorem dX7_hear_95 : decode cX7_hear 95 = .ok (.putfield 114, 3) := by decide +kernel
theorem dX7_hear_98 : decode cX7_hear 98 = .ok (.aload_n 0, 1) := by decide +kernel
theorem dX7_hear_99 : decode cX7_hear 99 = .ok (.getfield 114, 3) := by decide +kernel
theorem dX7_hear_102 : decode cX7_hear 102 = .ok (.ireturn, 1) := by decide +kernel
theorem dX7_forget_0 : decode cX7_forget 0 = .ok (.aload_n 0, 1) := by decide +kernel
theorem dX7_forget_1 : decode cX7_forget 1 = .ok (.getfield 114, 3) := by decide +kernel
theorem dX7_forget_4 : decode cX7_forget 4 = .ok (.istore_n 1, 1) := by decide +kernel
theorem dX7_forget_5 : decode cX7_forget 5 = .ok (.aload_n 0, 1) := by decide +kernel
theorem dX7_forget_6 : decode cX7_forget 6 = .ok (.iconst 0, 1) := by decide +kernel
theorem dX7_forget_7 : decode cX7_forget 7 = .ok (.putfield 114, 3) := by decide +kernel
theorem dX7_forget_10 : decode cX7_forget 10 = .ok (.iload_n 1, 1) := by decide +kernel
theorem dX7_forget_11 : decode cX7_forget 11 = .ok (.ireturn, 1) := by decide +kernel
theorem dX7_whichOf_0 : decode cX7_whichOf 0 = .ok (.iconst 0, 1) := by decide +kernel
theorem dX7_whichOf_1 : decode cX7_whichOf 1 = .ok (.istore_n 2, 1) := by decide +kernel
theorem dX7_whichOf_2 : decode cX7_whichOf 2 = .ok (.iconst 0, 1) := by decide +kernel
theorem dX7_whichOf_3 : decode cX7_whichOf 3 = .ok (.istore_n 3, 1) := by decide +kernel
theorem dX7_whichOf_4 : decode cX7_whichOf 4 = .ok (.iload_n 3, 1) := by decide +kernel
theorem dX7_whichOf_5 : decode cX7_whichOf 5 = .ok (.iconst 5, 1) := by decide +kernel
theorem dX7_whichOf_6 : decode cX7_whichOf 6 = .ok (.if_icmp .ge 115, 3) := by decide +kernel
theorem dX7_whichOf_9 : decode cX7_whichOf 9 = .ok (.iconst 1, 1) := by decide +kernel
theorem dX7_whichOf_10 : decode cX7_whichOf 10 = .ok (.istore 4, 2) := by decide +kernel
theorem dX7_whichOf_12 : decode cX7_whichOf 12 = .ok (.iconst 0, 1) := by decide +kernel
theorem dX7_whichOf_13 : decode cX7_whichOf 13 = .ok (.istore 5, 2) := by decide +kernel
theorem dX7_whichOf_15 : decode cX7_whichOf 15 = .ok (.iload 5, 2) := by decide +kernel
theorem dX7_whichOf_17 : decode cX7_whichOf 17 = .ok (.aload_n 0, 1) := by decide +kernel
theorem dX7_whichOf_18 : decode cX7_whichOf 18 = .ok (.getfield 114, 3) := by decide +kernel
theorem dX7_whichOf_21 : decode cX7_whichOf 21 = .ok (.if_icmp .ge 79, 3) := by decide +kernel
theorem dX7_whichOf_24 : decode cX7_whichOf 24 = .ok (.aload_n 0, 1) := by decide +kernel
theorem dX7_whichOf_25 : decode cX7_whichOf 25 = .ok (.iload_n 3, 1) := by decide +kernel
theorem dX7_whichOf_26 : decode cX7_whichOf 26 = .ok (.aload_n 0, 1) := by decide +kernel
theorem dX7_whichOf_27 : decode cX7_whichOf 27 = .ok (.getfield 22, 3) := by decide +kernel
theorem dX7_whichOf_30 : decode cX7_whichOf 30 = .ok (.iconst 3, 1) := by decide +kernel
theorem dX7_whichOf_31 : decode cX7_whichOf 31 = .ok (.iload_n 1, 1) := by decide +kernel
theorem dX7_whichOf_32 : decode cX7_whichOf 32 = .ok (.imul, 1) := by decide +kernel
theorem dX7_whichOf_33 : decode cX7_whichOf 33 = .ok (.iconst 1, 1) := by decide +kernel
theorem dX7_whichOf_34 : decode cX7_whichOf 34 = .ok (.iadd, 1) := by decide +kernel
theorem dX7_whichOf_35 : decode cX7_whichOf 35 = .ok (.iaload, 1) := by decide +kernel
theorem dX7_whichOf_36 : decode cX7_whichOf 36 = .ok (.iconst 0, 1) := by decide +kernel
theorem dX7_whichOf_37 : decode cX7_whichOf 37 = .ok (.aload_n 0, 1) := by decide +kernel
theorem dX7_whichOf_38 : decode cX7_whichOf 38 = .ok (.getfield 34, 3) := by decide +kernel
theorem dX7_whichOf_41 : decode cX7_whichOf 41 = .ok (.iconst 3, 1) := by decide +kernel
theorem dX7_whichOf_42 : decode cX7_whichOf 42 = .ok (.iload 5, 2) := by decide +kernel
theorem dX7_whichOf_44 : decode cX7_whichOf 44 = .ok (.imul, 1) := by decide +kernel
theorem dX7_whichOf_45 : decode cX7_whichOf 45 = .ok (.iconst 1, 1) := by decide +kernel
theorem dX7_whichOf_46 : decode cX7_whichOf 46 = .ok (.iadd, 1) := by decide +kernel
theorem dX7_whichOf_47 : decode cX7_whichOf 47 = .ok (.iaload, 1) := by decide +kernel
theorem dX7_whichOf_48 : decode cX7_whichOf 48 = .ok (.invokevirtual 135, 3) := by decide +kernel
theorem dX7_whichOf_51 : decode cX7_whichOf 51 = .ok (.istore 6, 2) := by decide +kernel
theorem dX7_whichOf_53 : decode cX7_whichOf 53 = .ok (.iload 4, 2) := by decide +kernel
theorem dX7_whichOf_55 : decode cX7_whichOf 55 = .ok (.ifCond .eq 36, 3) := by decide +kernel
theorem dX7_whichOf_58 : decode cX7_whichOf 58 = .ok (.aload_n 0, 1) := by decide +kernel
theorem dX7_whichOf_59 : decode cX7_whichOf 59 = .ok (.getfield 34, 3) := by decide +kernel
theorem dX7_whichOf_62 : decode cX7_whichOf 62 = .ok (.iconst 3, 1) := by decide +kernel
theorem dX7_whichOf_63 : decode cX7_whichOf 63 = .ok (.iload 5, 2) := by decide +kernel
theorem dX7_whichOf_65 : decode cX7_whichOf 65 = .ok (.imul, 1) := by decide +kernel
theorem dX7_whichOf_66 : decode cX7_whichOf 66 = .ok (.iaload, 1) := by decide +kernel
theorem dX7_whichOf_67 : decode cX7_whichOf 67 = .ok (.iload_n 1, 1) := by decide +kernel
theorem dX7_whichOf_68 : decode cX7_whichOf 68 = .ok (.if_icmp .ne 19, 3) := by decide +kernel
theorem dX7_whichOf_71 : decode cX7_whichOf 71 = .ok (.iload 6, 2) := by decide +kernel
theorem dX7_whichOf_73 : decode cX7_whichOf 73 = .ok (.aload_n 0, 1) := by decide +kernel
theorem dX7_whichOf_74 : decode cX7_whichOf 74 = .ok (.getfield 34, 3) := by decide +kernel
theorem dX7_whichOf_77 : decode cX7_whichOf 77 = .ok (.iconst 3, 1) := by decide +kernel
theorem dX7_whichOf_78 : decode cX7_whichOf 78 = .ok (.iload 5, 2) := by decide +kernel
theorem dX7_whichOf_80 : decode cX7_whichOf 80 = .ok (.imul, 1) := by decide +kernel
theorem dX7_whichOf_81 : decode cX7_whichOf 81 = .ok (.iconst 2, 1) := by decide +kernel
theorem dX7_whichOf_82 : decode cX7_whichOf 82 = .ok (.iadd, 1) := by decide +kernel
theorem dX7_whichOf_83 : decode cX7_whichOf 83 = .ok (.iaload, 1) := by decide +kernel
theorem dX7_whichOf_84 : decode cX7_whichOf 84 = .ok (.if_icmp .ne 7, 3) := by decide +kernel
theorem dX7_whichOf_87 : decode cX7_whichOf 87 = .ok (.iconst 1, 1) := by decide +kernel
theorem dX7_whichOf_88 : decode cX7_whichOf 88 = .ok (.goto 4, 3) := by decide +kernel
theorem dX7_whichOf_91 : decode cX7_whichOf 91 = .ok (.iconst 0, 1) := by decide +kernel
theorem dX7_whichOf_92 : decode cX7_whichOf 92 = .ok (.istore 4, 2) := by decide +kernel
theorem dX7_whichOf_94 : decode cX7_whichOf 94 = .ok (.iinc 5 1, 3) := by decide +kernel
theorem dX7_whichOf_97 : decode cX7_whichOf 97 = .ok (.goto (-82), 3) := by decide +kernel
theorem dX7_whichOf_100 : decode cX7_whichOf 100 = .ok (.iload_n 2, 1) := by decide +kernel
theorem dX7_whichOf_101 : decode cX7_whichOf 101 = .ok (.iload 4, 2) := by decide +kernel
theorem dX7_whichOf_103 : decode cX7_whichOf 103 = .ok (.ifCond .eq 9, 3) := by decide +kernel
theorem dX7_whichOf_106 : decode cX7_whichOf 106 = .ok (.iconst 1, 1) := by decide +kernel
theorem dX7_whichOf_107 : decode cX7_whichOf 107 = .ok (.iload_n 3, 1) := by decide +kernel
theorem dX7_whichOf_108 : decode cX7_whichOf 108 = .ok (.ishl, 1) := by decide +kernel
theorem dX7_whichOf_109 : decode cX7_whichOf 109 = .ok (.goto 4, 3) := by decide +kernel
theorem dX7_whichOf_112 : decode cX7_whichOf 112 = .ok (.iconst 0, 1) := by decide +kernel
theorem dX7_whichOf_113 : decode cX7_whichOf 113 = .ok (.ior, 1) := by decide +kernel
theorem dX7_whichOf_114 : decode cX7_whichOf 114 = .ok (.istore_n 2, 1) := by decide +kernel
theorem dX7_whichOf_115 : decode cX7_whichOf 115 = .ok (.iinc 3 1, 3) := by decide +kernel
theorem dX7_whichOf_118 : decode cX7_whichOf 118 = .ok (.goto (-114), 3) := by decide +kernel
theorem dX7_whichOf_121 : decode cX7_whichOf 121 = .ok (.iload_n 2, 1) := by decide +kernel
theorem dX7_whichOf_122 : decode cX7_whichOf 122 = .ok (.ireturn, 1) := by decide +kernel
theorem dX7_beginOf_0 : decode cX7_beginOf 0 = .ok (.aload_n 0, 1) := by decide +kernel
theorem dX7_beginOf_1 : decode cX7_beginOf 1 = .ok (.iload_n 1, 1) := by decide +kernel
theorem dX7_beginOf_2 : decode cX7_beginOf 2 = .ok (.invokevirtual 152, 3) := by decide +kernel
theorem dX7_beginOf_5 : decode cX7_beginOf 5 = .ok (.istore_n 2, 1) := by decide +kernel
theorem dX7_beginOf_6 : decode cX7_beginOf 6 = .ok (.iconst (-1), 1) := by decide +kernel
theorem dX7_beginOf_7 : decode cX7_beginOf 7 = .ok (.istore_n 3, 1) := by decide +kernel
theorem dX7_beginOf_8 : decode cX7_beginOf 8 = .ok (.bipush 6, 2) := by decide +kernel
theorem dX7_beginOf_10 : decode cX7_beginOf 10 = .ok (.istore 4, 2) := by decide +kernel
theorem dX7_beginOf_12 : decode cX7_beginOf 12 = .ok (.iconst 0, 1) := by decide +kernel
theorem dX7_beginOf_13 : decode cX7_beginOf 13 = .ok (.istore 5, 2) := by decide +kernel
theorem dX7_beginOf_15 : decode cX7_beginOf 15 = .ok (.iload 5, 2) := by decide +kernel
theorem dX7_beginOf_17 : decode cX7_beginOf 17 = .ok (.iconst 4, 1) := by decide +kernel
theorem dX7_beginOf_18 : decode cX7_beginOf 18 = .ok (.if_icmp .ge 150, 3) := by decide +kernel
theorem dX7_beginOf_21 : decode cX7_beginOf 21 = .ok (.iload_n 2, 1) := by decide +kernel
theorem dX7_beginOf_22 : decode cX7_beginOf 22 = .ok (.ifCond .eq 146, 3) := by decide +kernel
theorem dX7_beginOf_25 : decode cX7_beginOf 25 = .ok (.iconst 0, 1) := by decide +kernel
theorem dX7_beginOf_26 : decode cX7_beginOf 26 = .ok (.istore 6, 2) := by decide +kernel
theorem dX7_beginOf_28 : decode cX7_beginOf 28 = .ok (.iload 6, 2) := by decide +kernel
theorem dX7_beginOf_30 : decode cX7_beginOf 30 = .ok (.bipush 7, 2) := by decide +kernel
theorem dX7_beginOf_32 : decode cX7_beginOf 32 = .ok (.if_icmp .ge 17, 3) := by decide +kernel
theorem dX7_beginOf_35 : decode cX7_beginOf 35 = .ok (.aload_n 0, 1) := by decide +kernel
theorem dX7_beginOf_36 : decode cX7_beginOf 36 = .ok (.getfield 37, 3) := by decide +kernel
theorem dX7_beginOf_39 : decode cX7_beginOf 39 = .ok (.iload 6, 2) := by decide +kernel
theorem dX7_beginOf_41 : decode cX7_beginOf 41 = .ok (.iconst 0, 1) := by decide +kernel
theorem dX7_beginOf_42 : decode cX7_beginOf 42 = .ok (.iastore, 1) := by decide +kernel
theorem dX7_beginOf_43 : decode cX7_beginOf 43 = .ok (.iinc 6 1, 3) := by decide +kernel
theorem dX7_beginOf_46 : decode cX7_beginOf 46 = .ok (.goto (-18), 3) := by decide +kernel
theorem dX7_beginOf_49 : decode cX7_beginOf 49 = .ok (.iconst 0, 1) := by decide +kernel
theorem dX7_beginOf_50 : decode cX7_beginOf 50 = .ok (.istore 6, 2) := by decide +kernel
theorem dX7_beginOf_52 : decode cX7_beginOf 52 = .ok (.iconst 0, 1) := by decide +kernel
theorem dX7_beginOf_53 : decode cX7_beginOf 53 = .ok (.istore 7, 2) := by decide +kernel
theorem dX7_beginOf_55 : decode cX7_beginOf 55 = .ok (.iload 7, 2) := by decide +kernel
theorem dX7_beginOf_57 : decode cX7_beginOf 57 = .ok (.iconst 5, 1) := by decide +kernel
theorem dX7_beginOf_58 : decode cX7_beginOf 58 = .ok (.if_icmp .ge 74, 3) := by decide +kernel
theorem dX7_beginOf_61 : decode cX7_beginOf 61 = .ok (.aload_n 0, 1) := by decide +kernel
theorem dX7_beginOf_62 : decode cX7_beginOf 62 = .ok (.iload 7, 2) := by decide +kernel
theorem dX7_beginOf_64 : decode cX7_beginOf 64 = .ok (.aload_n 0, 1) := by decide +kernel
theorem dX7_beginOf_65 : decode cX7_beginOf 65 = .ok (.getfield 22, 3) := by decide +kernel
theorem dX7_beginOf_68 : decode cX7_beginOf 68 = .ok (.iconst 3, 1) := by decide +kernel
theorem dX7_beginOf_69 : decode cX7_beginOf 69 = .ok (.iload_n 1, 1) := by decide +kernel
theorem dX7_beginOf_70 : decode cX7_beginOf 70 = .ok (.imul, 1) := by decide +kernel
theorem dX7_beginOf_71 : decode cX7_beginOf 71 = .ok (.iconst 1, 1) := by decide +kernel
theorem dX7_beginOf_72 : decode cX7_beginOf 72 = .ok (.iadd, 1) := by decide +kernel
theorem dX7_beginOf_73 : decode cX7_beginOf 73 = .ok (.iaload, 1) := by decide +kernel
theorem dX7_beginOf_74 : decode cX7_beginOf 74 = .ok (.iconst 0, 1) := by decide +kernel
theorem dX7_beginOf_75 : decode cX7_beginOf 75 = .ok (.iload 5, 2) := by decide +kernel
theorem dX7_beginOf_77 : decode cX7_beginOf 77 = .ok (.invokevirtual 135, 3) := by decide +kernel
theorem dX7_beginOf_80 : decode cX7_beginOf 80 = .ok (.iconst 1, 1) := by decide +kernel
theorem dX7_beginOf_81 : decode cX7_beginOf 81 = .ok (.iadd, 1) := by decide +kernel
theorem dX7_beginOf_82 : decode cX7_beginOf 82 = .ok (.istore 8, 2) := by decide +kernel
theorem dX7_beginOf_84 : decode cX7_beginOf 84 = .ok (.aload_n 0, 1) := by decide +kernel
theorem dX7_beginOf_85 : decode cX7_beginOf 85 = .ok (.getfield 37, 3) := by decide +kernel
theorem dX7_beginOf_88 : decode cX7_beginOf 88 = .ok (.iload 8, 2) := by decide +kernel
theorem dX7_beginOf_90 : decode cX7_beginOf 90 = .ok (.dup2, 1) := by decide +kernel
theorem dX7_beginOf_91 : decode cX7_beginOf 91 = .ok (.iaload, 1) := by decide +kernel
theorem dX7_beginOf_92 : decode cX7_beginOf 92 = .ok (.iload_n 2, 1) := by decide +kernel
theorem dX7_beginOf_93 : decode cX7_beginOf 93 = .ok (.iload 7, 2) := by decide +kernel
theorem dX7_beginOf_95 : decode cX7_beginOf 95 = .ok (.ishr, 1) := by decide +kernel
theorem dX7_beginOf_96 : decode cX7_beginOf 96 = .ok (.iconst 1, 1) := by decide +kernel
theorem dX7_beginOf_97 : decode cX7_beginOf 97 = .ok (.iand, 1) := by decide +kernel
theorem dX7_beginOf_98 : decode cX7_beginOf 98 = .ok (.iadd, 1) := by decide +kernel
theorem dX7_beginOf_99 : decode cX7_beginOf 99 = .ok (.iastore, 1) := by decide +kernel
theorem dX7_beginOf_100 : decode cX7_beginOf 100 = .ok (.aload_n 0, 1) := by decide +kernel
theorem dX7_beginOf_101 : decode cX7_beginOf 101 = .ok (.getfield 37, 3) := by decide +kernel
theorem dX7_beginOf_104 : decode cX7_beginOf 104 = .ok (.iload 8, 2) := by decide +kernel
theorem dX7_beginOf_106 : decode cX7_beginOf 106 = .ok (.iaload, 1) := by decide +kernel
theorem dX7_beginOf_107 : decode cX7_beginOf 107 = .ok (.iload 6, 2) := by decide +kernel
theorem dX7_beginOf_109 : decode cX7_beginOf 109 = .ok (.if_icmp .le 13, 3) := by decide +kernel
theorem dX7_beginOf_112 : decode cX7_beginOf 112 = .ok (.aload_n 0, 1) := by decide +kernel
theorem dX7_beginOf_113 : decode cX7_beginOf 113 = .ok (.getfield 37, 3) := by decide +kernel
theorem dX7_beginOf_116 : decode cX7_beginOf 116 = .ok (.iload 8, 2) := by decide +kernel
theorem dX7_beginOf_118 : decode cX7_beginOf 118 = .ok (.iaload, 1) := by decide +kernel
theorem dX7_beginOf_119 : decode cX7_beginOf 119 = .ok (.goto 5, 3) := by decide +kernel
theorem dX7_beginOf_122 : decode cX7_beginOf 122 = .ok (.iload 6, 2) := by decide +kernel
theorem dX7_beginOf_124 : decode cX7_beginOf 124 = .ok (.istore 6, 2) := by decide +kernel
theorem dX7_beginOf_126 : decode cX7_beginOf 126 = .ok (.iinc 7 1, 3) := by decide +kernel
theorem dX7_beginOf_129 : decode cX7_beginOf 129 = .ok (.goto (-74), 3) := by decide +kernel
theorem dX7_beginOf_132 : decode cX7_beginOf 132 = .ok (.iload 6, 2) := by decide +kernel
theorem dX7_beginOf_134 : decode cX7_beginOf 134 = .ok (.iload 4, 2) := by decide +kernel
theorem dX7_beginOf_136 : decode cX7_beginOf 136 = .ok (.if_icmp .ge 8, 3) := by decide +kernel
theorem dX7_beginOf_139 : decode cX7_beginOf 139 = .ok (.iload 5, 2) := by decide +kernel
theorem dX7_beginOf_141 : decode cX7_beginOf 141 = .ok (.goto 4, 3) := by decide +kernel
theorem dX7_beginOf_144 : decode cX7_beginOf 144 = .ok (.iload_n 3, 1) := by decide +kernel
theorem dX7_beginOf_145 : decode cX7_beginOf 145 = .ok (.istore_n 3, 1) := by decide +kernel
theorem dX7_beginOf_146 : decode cX7_beginOf 146 = .ok (.iload 6, 2) := by decide +kernel
theorem dX7_beginOf_148 : decode cX7_beginOf 148 = .ok (.iload 4, 2) := by decide +kernel
theorem dX7_beginOf_150 : decode cX7_beginOf 150 = .ok (.if_icmp .ge 8, 3) := by decide +kernel
theorem dX7_beginOf_153 : decode cX7_beginOf 153 = .ok (.iload 6, 2) := by decide +kernel
theorem dX7_beginOf_155 : decode cX7_beginOf 155 = .ok (.goto 5, 3) := by decide +kernel
theorem dX7_beginOf_158 : decode cX7_beginOf 158 = .ok (.iload 4, 2) := by decide +kernel
theorem dX7_beginOf_160 : decode cX7_beginOf 160 = .ok (.istore 4, 2) := by decide +kernel
theorem dX7_beginOf_162 : decode cX7_beginOf 162 = .ok (.iinc 5 1, 3) := by decide +kernel
theorem dX7_beginOf_165 : decode cX7_beginOf 165 = .ok (.goto (-150), 3) := by decide +kernel
theorem dX7_beginOf_168 : decode cX7_beginOf 168 = .ok (.iload_n 3, 1) := by decide +kernel
theorem dX7_beginOf_169 : decode cX7_beginOf 169 = .ok (.ireturn, 1) := by decide +kernel
theorem dX7_draw_0 : decode cX7_draw 0 = .ok (.aload_n 0, 1) := by decide +kernel
theorem dX7_draw_1 : decode cX7_draw 1 = .ok (.ldc2_w 191, 3) := by decide +kernel
theorem dX7_draw_4 : decode cX7_draw 4 = .ok (.aload_n 0, 1) := by decide +kernel
theorem dX7_draw_5 : decode cX7_draw 5 = .ok (.getfield 193, 3) := by decide +kernel
theorem dX7_draw_8 : decode cX7_draw 8 = .ok (.i2l, 1) := by decide +kernel
theorem dX7_draw_9 : decode cX7_draw 9 = .ok (.lmul, 1) := by decide +kernel
theorem dX7_draw_10 : decode cX7_draw 10 = .ok (.ldc2_w 196, 3) := by decide +kernel
theorem dX7_draw_13 : decode cX7_draw 13 = .ok (.ladd, 1) := by decide +kernel
theorem dX7_draw_14 : decode cX7_draw 14 = .ok (.ldc2_w 198, 3) := by decide +kernel
theorem dX7_draw_17 : decode cX7_draw 17 = .ok (.land, 1) := by decide +kernel
theorem dX7_draw_18 : decode cX7_draw 18 = .ok (.l2i, 1) := by decide +kernel
theorem dX7_draw_19 : decode cX7_draw 19 = .ok (.putfield 193, 3) := by decide +kernel
theorem dX7_draw_22 : decode cX7_draw 22 = .ok (.aload_n 0, 1) := by decide +kernel
theorem dX7_draw_23 : decode cX7_draw 23 = .ok (.getfield 193, 3) := by decide +kernel
theorem dX7_draw_26 : decode cX7_draw 26 = .ok (.ldc 200, 2) := by decide +kernel
theorem dX7_draw_28 : decode cX7_draw 28 = .ok (.idiv, 1) := by decide +kernel
theorem dX7_draw_29 : decode cX7_draw 29 = .ok (.iload_n 1, 1) := by decide +kernel
theorem dX7_draw_30 : decode cX7_draw 30 = .ok (.irem, 1) := by decide +kernel
theorem dX7_draw_31 : decode cX7_draw 31 = .ok (.ireturn, 1) := by decide +kernel
theorem dX7_talks_0 : decode cX7_talks 0 = .ok (.iload_n 1, 1) := by decide +kernel
theorem dX7_talks_1 : decode cX7_talks 1 = .ok (.i2l, 1) := by decide +kernel
theorem dX7_talks_2 : decode cX7_talks 2 = .ok (.lconst 1, 1) := by decide +kernel
theorem dX7_talks_3 : decode cX7_talks 3 = .ok (.ldc2_w 201, 3) := by decide +kernel
theorem dX7_talks_6 : decode cX7_talks 6 = .ok (.invokestatic 58, 3) := by decide +kernel
theorem dX7_talks_9 : decode cX7_talks 9 = .ok (.ifCond .eq 19, 3) := by decide +kernel
theorem dX7_talks_12 : decode cX7_talks 12 = .ok (.iload_n 2, 1) := by decide +kernel
theorem dX7_talks_13 : decode cX7_talks 13 = .ok (.ifCond .lt 15, 3) := by decide +kernel
theorem dX7_talks_16 : decode cX7_talks 16 = .ok (.iload_n 3, 1) := by decide +kernel
theorem dX7_talks_17 : decode cX7_talks 17 = .ok (.i2l, 1) := by decide +kernel
theorem dX7_talks_18 : decode cX7_talks 18 = .ok (.lconst 0, 1) := by decide +kernel
theorem dX7_talks_19 : decode cX7_talks 19 = .ok (.ldc2_w 203, 3) := by decide +kernel
theorem dX7_talks_22 : decode cX7_talks 22 = .ok (.invokestatic 58, 3) := by decide +kernel
theorem dX7_talks_25 : decode cX7_talks 25 = .ok (.ifCond .ne 6, 3) := by decide +kernel
theorem dX7_talks_28 : decode cX7_talks 28 = .ok (.bipush (-102), 2) := by decide +kernel
theorem dX7_talks_30 : decode cX7_talks 30 = .ok (.ireturn, 1) := by decide +kernel
theorem dX7_talks_31 : decode cX7_talks 31 = .ok (.aload_n 0, 1) := by decide +kernel
theorem dX7_talks_32 : decode cX7_talks 32 = .ok (.invokevirtual 120, 3) := by decide +kernel
theorem dX7_talks_35 : decode cX7_talks 35 = .ok (.ifCond .eq 6, 3) := by decide +kernel
theorem dX7_talks_38 : decode cX7_talks 38 = .ok (.bipush (-103), 2) := by decide +kernel
theorem dX7_talks_40 : decode cX7_talks 40 = .ok (.ireturn, 1) := by decide +kernel
theorem dX7_talks_41 : decode cX7_talks 41 = .ok (.aload_n 0, 1) := by decide +kernel
theorem dX7_talks_42 : decode cX7_talks 42 = .ok (.getfield 22, 3) := by decide +kernel
theorem dX7_talks_45 : decode cX7_talks 45 = .ok (.aload_n 0, 1) := by decide +kernel
theorem dX7_talks_46 : decode cX7_talks 46 = .ok (.getfield 40, 3) := by decide +kernel
theorem dX7_talks_49 : decode cX7_talks 49 = .ok (.invokestatic 104, 3) := by decide +kernel
theorem dX7_talks_52 : decode cX7_talks 52 = .ok (.aload_n 0, 1) := by decide +kernel
theorem dX7_talks_53 : decode cX7_talks 53 = .ok (.iload_n 2, 1) := by decide +kernel
theorem dX7_talks_54 : decode cX7_talks 54 = .ok (.putfield 193, 3) := by decide +kernel
theorem dX7_talks_57 : decode cX7_talks 57 = .ok (.iconst 0, 1) := by decide +kernel
theorem dX7_talks_58 : decode cX7_talks 58 = .ok (.istore 4, 2) := by decide +kernel
theorem dX7_talks_60 : decode cX7_talks 60 = .ok (.iconst 0, 1) := by decide +kernel
theorem dX7_talks_61 : decode cX7_talks 61 = .ok (.istore 5, 2) := by decide +kernel
theorem dX7_talks_63 : decode cX7_talks 63 = .ok (.iconst 0, 1) := by decide +kernel
theorem dX7_talks_64 : decode cX7_talks 64 = .ok (.istore 6, 2) := by decide +kernel
theorem dX7_talks_66 : decode cX7_talks 66 = .ok (.iload 6, 2) := by decide +kernel
theorem dX7_talks_68 : decode cX7_talks 68 = .ok (.iload_n 1, 1) := by decide +kernel
theorem dX7_talks_69 : decode cX7_talks 69 = .ok (.if_icmp .ge 110, 3) := by decide +kernel
theorem dX7_talks_72 : decode cX7_talks 72 = .ok (.aload_n 0, 1) := by decide +kernel
theorem dX7_talks_73 : decode cX7_talks 73 = .ok (.aload_n 0, 1) := by decide +kernel
theorem dX7_talks_74 : decode cX7_talks 74 = .ok (.getfield 101, 3) := by decide +kernel
theorem dX7_talks_77 : decode cX7_talks 77 = .ok (.invokevirtual 205, 3) := by decide +kernel
theorem dX7_talks_80 : decode cX7_talks 80 = .ok (.istore 7, 2) := by decide +kernel
theorem dX7_talks_82 : decode cX7_talks 82 = .ok (.aload_n 0, 1) := by decide +kernel
theorem dX7_talks_83 : decode cX7_talks 83 = .ok (.iconst 4, 1) := by decide +kernel
theorem dX7_talks_84 : decode cX7_talks 84 = .ok (.invokevirtual 205, 3) := by decide +kernel
theorem dX7_talks_87 : decode cX7_talks 87 = .ok (.istore 8, 2) := by decide +kernel
theorem dX7_talks_89 : decode cX7_talks 89 = .ok (.aload_n 0, 1) := by decide +kernel
theorem dX7_talks_90 : decode cX7_talks 90 = .ok (.aload_n 0, 1) := by decide +kernel
theorem dX7_talks_91 : decode cX7_talks 91 = .ok (.getfield 101, 3) := by decide +kernel
theorem dX7_talks_94 : decode cX7_talks 94 = .ok (.invokevirtual 205, 3) := by decide +kernel
theorem dX7_talks_97 : decode cX7_talks 97 = .ok (.istore 9, 2) := by decide +kernel
theorem dX7_talks_99 : decode cX7_talks 99 = .ok (.iload 9, 2) := by decide +kernel
theorem dX7_talks_101 : decode cX7_talks 101 = .ok (.iload 7, 2) := by decide +kernel
theorem dX7_talks_103 : decode cX7_talks 103 = .ok (.if_icmp .ne 7, 3) := by decide +kernel
theorem dX7_talks_106 : decode cX7_talks 106 = .ok (.iconst (-1), 1) := by decide +kernel
theorem dX7_talks_107 : decode cX7_talks 107 = .ok (.goto 11, 3) := by decide +kernel
theorem dX7_talks_110 : decode cX7_talks 110 = .ok (.aload_n 0, 1) := by decide +kernel
theorem dX7_talks_111 : decode cX7_talks 111 = .ok (.iload 9, 2) := by decide +kernel
theorem dX7_talks_113 : decode cX7_talks 113 = .ok (.iload 8, 2) := by decide +kernel
theorem dX7_talks_115 : decode cX7_talks 115 = .ok (.invokevirtual 139, 3) := by decide +kernel
theorem dX7_talks_118 : decode cX7_talks 118 = .ok (.istore 10, 2) := by decide +kernel
theorem dX7_talks_120 : decode cX7_talks 120 = .ok (.iload 10, 2) := by decide +kernel
theorem dX7_talks_122 : decode cX7_talks 122 = .ok (.iconst (-1), 1) := by decide +kernel
theorem dX7_talks_123 : decode cX7_talks 123 = .ok (.if_icmp .eq 50, 3) := by decide +kernel
theorem dX7_talks_126 : decode cX7_talks 126 = .ok (.aload_n 0, 1) := by decide +kernel
theorem dX7_talks_127 : decode cX7_talks 127 = .ok (.getfield 22, 3) := by decide +kernel
theorem dX7_talks_130 : decode cX7_talks 130 = .ok (.iconst 3, 1) := by decide +kernel
theorem dX7_talks_131 : decode cX7_talks 131 = .ok (.iload 9, 2) := by decide +kernel
theorem dX7_talks_133 : decode cX7_talks 133 = .ok (.imul, 1) := by decide +kernel
theorem dX7_talks_134 : decode cX7_talks 134 = .ok (.iconst 2, 1) := by decide +kernel
theorem dX7_talks_135 : decode cX7_talks 135 = .ok (.iadd, 1) := by decide +kernel
theorem dX7_talks_136 : decode cX7_talks 136 = .ok (.dup2, 1) := by decide +kernel
theorem dX7_talks_137 : decode cX7_talks 137 = .ok (.iaload, 1) := by decide +kernel
theorem dX7_talks_138 : decode cX7_talks 138 = .ok (.iconst 1, 1) := by decide +kernel
theorem dX7_talks_139 : decode cX7_talks 139 = .ok (.iload 10, 2) := by decide +kernel
theorem dX7_talks_141 : decode cX7_talks 141 = .ok (.ishl, 1) := by decide +kernel
theorem dX7_talks_142 : decode cX7_talks 142 = .ok (.ior, 1) := by decide +kernel
theorem dX7_talks_143 : decode cX7_talks 143 = .ok (.iastore, 1) := by decide +kernel
theorem dX7_talks_144 : decode cX7_talks 144 = .ok (.iinc 4 1, 3) := by decide +kernel
theorem dX7_talks_147 : decode cX7_talks 147 = .ok (.iload 5, 2) := by decide +kernel
theorem dX7_talks_149 : decode cX7_talks 149 = .ok (.iload 10, 2) := by decide +kernel
theorem dX7_talks_151 : decode cX7_talks 151 = .ok (.aload_n 0, 1) := by decide +kernel
theorem dX7_talks_152 : decode cX7_talks 152 = .ok (.getfield 22, 3) := by decide +kernel
theorem dX7_talks_155 : decode cX7_talks 155 = .ok (.iconst 3, 1) := by decide +kernel
theorem dX7_talks_156 : decode cX7_talks 156 = .ok (.iload 7, 2) := by decide +kernel
theorem dX7_talks_158 : decode cX7_talks 158 = .ok (.imul, 1) := by decide +kernel
theorem dX7_talks_159 : decode cX7_talks 159 = .ok (.iconst 1, 1) := by decide +kernel
theorem dX7_talks_160 : decode cX7_talks 160 = .ok (.iadd, 1) := by decide +kernel
theorem dX7_talks_161 : decode cX7_talks 161 = .ok (.iaload, 1) := by decide +kernel
theorem dX7_talks_162 : decode cX7_talks 162 = .ok (.if_icmp .ne 7, 3) := by decide +kernel
theorem dX7_talks_165 : decode cX7_talks 165 = .ok (.iconst 1, 1) := by decide +kernel
theorem dX7_talks_166 : decode cX7_talks 166 = .ok (.goto 4, 3) := by decide +kernel
theorem dX7_talks_169 : decode cX7_talks 169 = .ok (.iconst 0, 1) := by decide +kernel
theorem dX7_talks_170 : decode cX7_talks 170 = .ok (.iadd, 1) := by decide +kernel
theorem dX7_talks_171 : decode cX7_talks 171 = .ok (.istore 5, 2) := by decide +kernel
theorem dX7_talks_173 : decode cX7_talks 173 = .ok (.iinc 6 1, 3) := by decide +kernel
theorem dX7_talks_176 : decode cX7_talks 176 = .ok (.goto (-110), 3) := by decide +kernel
theorem dX7_talks_179 : decode cX7_talks 179 = .ok (.aload_n 0, 1) := by decide +kernel
theorem dX7_talks_180 : decode cX7_talks 180 = .ok (.getfield 40, 3) := by decide +kernel
theorem dX7_talks_183 : decode cX7_talks 183 = .ok (.aload_n 0, 1) := by decide +kernel
theorem dX7_talks_184 : decode cX7_talks 184 = .ok (.getfield 22, 3) := by decide +kernel
theorem dX7_talks_187 : decode cX7_talks 187 = .ok (.invokestatic 104, 3) := by decide +kernel
theorem dX7_talks_190 : decode cX7_talks 190 = .ok (.iload_n 3, 1) := by decide +kernel
theorem dX7_talks_191 : decode cX7_talks 191 = .ok (.ifCond .ne 8, 3) := by decide +kernel
theorem dX7_talks_194 : decode cX7_talks 194 = .ok (.iload 4, 2) := by decide +kernel
theorem dX7_talks_196 : decode cX7_talks 196 = .ok (.goto 17, 3) := by decide +kernel
theorem dX7_talks_199 : decode cX7_talks 199 = .ok (.iload_n 3, 1) := by decide +kernel
theorem dX7_talks_200 : decode cX7_talks 200 = .ok (.iconst 1, 1) := by decide +kernel
theorem dX7_talks_201 : decode cX7_talks 201 = .ok (.if_icmp .ne 8, 3) := by decide +kernel
theorem dX7_talks_204 : decode cX7_talks 204 = .ok (.iload 5, 2) := by decide +kernel
theorem dX7_talks_206 : decode cX7_talks 206 = .ok (.goto 7, 3) := by decide +kernel
theorem dX7_talks_209 : decode cX7_talks 209 = .ok (.aload_n 0, 1) := by decide +kernel
theorem dX7_talks_210 : decode cX7_talks 210 = .ok (.getfield 193, 3) := by decide +kernel
theorem dX7_talks_213 : decode cX7_talks 213 = .ok (.ireturn, 1) := by decide +kernel
theorem dX7_image_0 : decode cX7_image 0 = .ok (.aload_n 0, 1) := by decide +kernel
theorem dX7_image_1 : decode cX7_image 1 = .ok (.invokevirtual 120, 3) := by decide +kernel
theorem dX7_image_4 : decode cX7_image 4 = .ok (.ifCond .eq 6, 3) := by decide +kernel
theorem dX7_image_7 : decode cX7_image 7 = .ok (.bipush (-103), 2) := by decide +kernel
theorem dX7_image_9 : decode cX7_image 9 = .ok (.ireturn, 1) := by decide +kernel
theorem dX7_image_10 : decode cX7_image 10 = .ok (.aload_n 0, 1) := by decide +kernel
theorem dX7_image_11 : decode cX7_image 11 = .ok (.getfield 22, 3) := by decide +kernel
theorem dX7_image_14 : decode cX7_image 14 = .ok (.aload_n 0, 1) := by decide +kernel
theorem dX7_image_15 : decode cX7_image 15 = .ok (.getfield 43, 3) := by decide +kernel
theorem dX7_image_18 : decode cX7_image 18 = .ok (.invokestatic 104, 3) := by decide +kernel
theorem dX7_image_21 : decode cX7_image 21 = .ok (.aload_n 0, 1) := by decide +kernel
theorem dX7_image_22 : decode cX7_image 22 = .ok (.getfield 25, 3) := by decide +kernel
theorem dX7_image_25 : decode cX7_image 25 = .ok (.aload_n 0, 1) := by decide +kernel
theorem dX7_image_26 : decode cX7_image 26 = .ok (.getfield 46, 3) := by decide +kernel
theorem dX7_image_29 : decode cX7_image 29 = .ok (.invokestatic 104, 3) := by decide +kernel
theorem dX7_image_32 : decode cX7_image 32 = .ok (.aload_n 0, 1) := by decide +kernel
theorem dX7_image_33 : decode cX7_image 33 = .ok (.getfield 34, 3) := by decide +kernel
theorem dX7_image_36 : decode cX7_image 36 = .ok (.aload_n 0, 1) := by decide +kernel
theorem dX7_image_37 : decode cX7_image 37 = .ok (.getfield 49, 3) := by decide +kernel
theorem dX7_image_40 : decode cX7_image 40 = .ok (.invokestatic 104, 3) := by decide +kernel
theorem dX7_image_43 : decode cX7_image 43 = .ok (.aload_n 0, 1) := by decide +kernel
theorem dX7_image_44 : decode cX7_image 44 = .ok (.aload_n 0, 1) := by decide +kernel
theorem dX7_image_45 : decode cX7_image 45 = .ok (.getfield 111, 3) := by decide +kernel
theorem dX7_image_48 : decode cX7_image 48 = .ok (.putfield 208, 3) := by decide +kernel
theorem dX7_image_51 : decode cX7_image 51 = .ok (.aload_n 0, 1) := by decide +kernel
theorem dX7_image_52 : decode cX7_image 52 = .ok (.aload_n 0, 1) := by decide +kernel
theorem dX7_image_53 : decode cX7_image 53 = .ok (.getfield 108, 3) := by decide +kernel
theorem dX7_image_56 : decode cX7_image 56 = .ok (.putfield 211, 3) := by decide +kernel
theorem dX7_image_59 : decode cX7_image 59 = .ok (.aload_n 0, 1) := by decide +kernel
theorem dX7_image_60 : decode cX7_image 60 = .ok (.aload_n 0, 1) := by decide +kernel
theorem dX7_image_61 : decode cX7_image 61 = .ok (.getfield 114, 3) := by decide +kernel
theorem dX7_image_64 : decode cX7_image 64 = .ok (.putfield 214, 3) := by decide +kernel
theorem dX7_image_67 : decode cX7_image 67 = .ok (.aload_n 0, 1) := by decide +kernel
theorem dX7_image_68 : decode cX7_image 68 = .ok (.aload_n 0, 1) := by decide +kernel
theorem dX7_image_69 : decode cX7_image 69 = .ok (.getfield 117, 3) := by decide +kernel
theorem dX7_image_72 : decode cX7_image 72 = .ok (.putfield 52, 3) := by decide +kernel
theorem dX7_image_75 : decode cX7_image 75 = .ok (.aload_n 0, 1) := by decide +kernel
theorem dX7_image_76 : decode cX7_image 76 = .ok (.getfield 111, 3) := by decide +kernel
theorem dX7_image_79 : decode cX7_image 79 = .ok (.ireturn, 1) := by decide +kernel
theorem dX7_restore_0 : decode cX7_restore 0 = .ok (.aload_n 0, 1) := by decide +kernel
theorem dX7_restore_1 : decode cX7_restore 1 = .ok (.getfield 52, 3) := by decide +kernel
theorem dX7_restore_4 : decode cX7_restore 4 = .ok (.aload_n 0, 1) := by decide +kernel
theorem dX7_restore_5 : decode cX7_restore 5 = .ok (.getfield 117, 3) := by decide +kernel
theorem dX7_restore_8 : decode cX7_restore 8 = .ok (.if_icmp .eq 6, 3) := by decide +kernel
theorem dX7_restore_11 : decode cX7_restore 11 = .ok (.bipush (-103), 2) := by decide +kernel
theorem dX7_restore_13 : decode cX7_restore 13 = .ok (.ireturn, 1) := by decide +kernel
theorem dX7_restore_14 : decode cX7_restore 14 = .ok (.aload_n 0, 1) := by decide +kernel
theorem dX7_restore_15 : decode cX7_restore 15 = .ok (.getfield 43, 3) := by decide +kernel
theorem dX7_restore_18 : decode cX7_restore 18 = .ok (.aload_n 0, 1) := by decide +kernel
theorem dX7_restore_19 : decode cX7_restore 19 = .ok (.getfield 22, 3) := by decide +kernel
theorem dX7_restore_22 : decode cX7_restore 22 = .ok (.invokestatic 104, 3) := by decide +kernel
theorem dX7_restore_25 : decode cX7_restore 25 = .ok (.aload_n 0, 1) := by decide +kernel
theorem dX7_restore_26 : decode cX7_restore 26 = .ok (.getfield 46, 3) := by decide +kernel
theorem dX7_restore_29 : decode cX7_restore 29 = .ok (.aload_n 0, 1) := by decide +kernel
theorem dX7_restore_30 : decode cX7_restore 30 = .ok (.getfield 25, 3) := by decide +kernel
theorem dX7_restore_33 : decode cX7_restore 33 = .ok (.invokestatic 104, 3) := by decide +kernel
theorem dX7_restore_36 : decode cX7_restore 36 = .ok (.aload_n 0, 1) := by decide +kernel
theorem dX7_restore_37 : decode cX7_restore 37 = .ok (.getfield 49, 3) := by decide +kernel
theorem dX7_restore_40 : decode cX7_restore 40 = .ok (.aload_n 0, 1) := by decide +kernel
theorem dX7_restore_41 : decode cX7_restore 41 = .ok (.getfield 34, 3) := by decide +kernel
theorem dX7_restore_44 : decode cX7_restore 44 = .ok (.invokestatic 104, 3) := by decide +kernel
theorem dX7_restore_47 : decode cX7_restore 47 = .ok (.aload_n 0, 1) := by decide +kernel
theorem dX7_restore_48 : decode cX7_restore 48 = .ok (.aload_n 0, 1) := by decide +kernel
theorem dX7_restore_49 : decode cX7_restore 49 = .ok (.getfield 208, 3) := by decide +kernel
theorem dX7_restore_52 : decode cX7_restore 52 = .ok (.putfield 111, 3) := by decide +kernel
theorem dX7_restore_55 : decode cX7_restore 55 = .ok (.aload_n 0, 1) := by decide +kernel
theorem dX7_restore_56 : decode cX7_restore 56 = .ok (.aload_n 0, 1) := by decide +kernel
theorem dX7_restore_57 : decode cX7_restore 57 = .ok (.getfield 211, 3) := by decide +kernel
theorem dX7_restore_60 : decode cX7_restore 60 = .ok (.putfield 108, 3) := by decide +kernel
theorem dX7_restore_63 : decode cX7_restore 63 = .ok (.aload_n 0, 1) := by decide +kernel
theorem dX7_restore_64 : decode cX7_restore 64 = .ok (.aload_n 0, 1) := by decide +kernel
theorem dX7_restore_65 : decode cX7_restore 65 = .ok (.getfield 214, 3) := by decide +kernel
theorem dX7_restore_68 : decode cX7_restore 68 = .ok (.putfield 114, 3) := by decide +kernel
theorem dX7_restore_71 : decode cX7_restore 71 = .ok (.aload_n 0, 1) := by decide +kernel
theorem dX7_restore_72 : decode cX7_restore 72 = .ok (.getfield 111, 3) := by decide +kernel
theorem dX7_restore_75 : decode cX7_restore 75 = .ok (.ireturn, 1) := by decide +kernel
theorem dX7_wantedMany_0 : decode cX7_wantedMany 0 = .ok (.iconst 0, 1) := by decide +kernel
theorem dX7_wantedMany_1 : decode cX7_wantedMany 1 = .ok (.istore_n 1, 1) := by decide +kernel
theorem dX7_wantedMany_2 : decode cX7_wantedMany 2 = .ok (.iconst 0, 1) := by decide +kernel
theorem dX7_wantedMany_3 : decode cX7_wantedMany 3 = .ok (.istore_n 2, 1) := by decide +kernel
theorem dX7_wantedMany_4 : decode cX7_wantedMany 4 = .ok (.iload_n 2, 1) := by decide +kernel
theorem dX7_wantedMany_5 : decode cX7_wantedMany 5 = .ok (.aload_n 0, 1) := by decide +kernel
theorem dX7_wantedMany_6 : decode cX7_wantedMany 6 = .ok (.getfield 111, 3) := by decide +kernel
theorem dX7_wantedMany_9 : decode cX7_wantedMany 9 = .ok (.if_icmp .ge 25, 3) := by decide +kernel
theorem dX7_wantedMany_12 : decode cX7_wantedMany 12 = .ok (.iload_n 1, 1) := by decide +kernel
theorem dX7_wantedMany_13 : decode cX7_wantedMany 13 = .ok (.aload_n 0, 1) := by decide +kernel
theorem dX7_wantedMany_14 : decode cX7_wantedMany 14 = .ok (.iload_n 2, 1) := by decide +kernel
theorem dX7_wantedMany_15 : decode cX7_wantedMany 15 = .ok (.invokevirtual 169, 3) := by decide +kernel
theorem dX7_wantedMany_18 : decode cX7_wantedMany 18 = .ok (.ifCond .eq 7, 3) := by decide +kernel
theorem dX7_wantedMany_21 : decode cX7_wantedMany 21 = .ok (.iconst 1, 1) := by decide +kernel
theorem dX7_wantedMany_22 : decode cX7_wantedMany 22 = .ok (.goto 4, 3) := by decide +kernel
theorem dX7_wantedMany_25 : decode cX7_wantedMany 25 = .ok (.iconst 0, 1) := by decide +kernel
theorem dX7_wantedMany_26 : decode cX7_wantedMany 26 = .ok (.iadd, 1) := by decide +kernel
theorem dX7_wantedMany_27 : decode cX7_wantedMany 27 = .ok (.istore_n 1, 1) := by decide +kernel
theorem dX7_wantedMany_28 : decode cX7_wantedMany 28 = .ok (.iinc 2 1, 3) := by decide +kernel
theorem dX7_wantedMany_31 : decode cX7_wantedMany 31 = .ok (.goto (-27), 3) := by decide +kernel
theorem dX7_wantedMany_34 : decode cX7_wantedMany 34 = .ok (.iload_n 1, 1) := by decide +kernel
theorem dX7_wantedMany_35 : decode cX7_wantedMany 35 = .ok (.ireturn, 1) := by decide +kernel
theorem dX7_unlike_0 : decode cX7_unlike 0 = .ok (.iconst 0, 1) := by decide +kernel
theorem dX7_unlike_1 : decode cX7_unlike 1 = .ok (.istore_n 1, 1) := by decide +kernel
theorem dX7_unlike_2 : decode cX7_unlike 2 = .ok (.iconst 0, 1) := by decide +kernel
theorem dX7_unlike_3 : decode cX7_unlike 3 = .ok (.istore_n 2, 1) := by decide +kernel
theorem dX7_unlike_4 : decode cX7_unlike 4 = .ok (.iload_n 2, 1) := by decide +kernel
theorem dX7_unlike_5 : decode cX7_unlike 5 = .ok (.aload_n 0, 1) := by decide +kernel
theorem dX7_unlike_6 : decode cX7_unlike 6 = .ok (.getfield 111, 3) := by decide +kernel
theorem dX7_unlike_9 : decode cX7_unlike 9 = .ok (.if_icmp .ge 42, 3) := by decide +kernel
theorem dX7_unlike_12 : decode cX7_unlike 12 = .ok (.iload_n 1, 1) := by decide +kernel
theorem dX7_unlike_13 : decode cX7_unlike 13 = .ok (.aload_n 0, 1) := by decide +kernel
theorem dX7_unlike_14 : decode cX7_unlike 14 = .ok (.getfield 25, 3) := by decide +kernel
theorem dX7_unlike_17 : decode cX7_unlike 17 = .ok (.iconst 4, 1) := by decide +kernel
theorem dX7_unlike_18 : decode cX7_unlike 18 = .ok (.iload_n 2, 1) := by decide +kernel
theorem dX7_unlike_19 : decode cX7_unlike 19 = .ok (.imul, 1) := by decide +kernel
theorem dX7_unlike_20 : decode cX7_unlike 20 = .ok (.iconst 2, 1) := by decide +kernel
theorem dX7_unlike_21 : decode cX7_unlike 21 = .ok (.iadd, 1) := by decide +kernel
theorem dX7_unlike_22 : decode cX7_unlike 22 = .ok (.iaload, 1) := by decide +kernel
theorem dX7_unlike_23 : decode cX7_unlike 23 = .ok (.iconst (-1), 1) := by decide +kernel
theorem dX7_unlike_24 : decode cX7_unlike 24 = .ok (.if_icmp .ne 7, 3) := by decide +kernel
theorem dX7_unlike_27 : decode cX7_unlike 27 = .ok (.iconst 0, 1) := by decide +kernel
theorem dX7_unlike_28 : decode cX7_unlike 28 = .ok (.goto 15, 3) := by decide +kernel
theorem dX7_unlike_31 : decode cX7_unlike 31 = .ok (.iconst 1, 1) := by decide +kernel
theorem dX7_unlike_32 : decode cX7_unlike 32 = .ok (.aload_n 0, 1) := by decide +kernel
theorem dX7_unlike_33 : decode cX7_unlike 33 = .ok (.getfield 25, 3) := by decide +kernel
theorem dX7_unlike_36 : decode cX7_unlike 36 = .ok (.iconst 4, 1) := by decide +kernel
theorem dX7_unlike_37 : decode cX7_unlike 37 = .ok (.iload_n 2, 1) := by decide +kernel
theorem dX7_unlike_38 : decode cX7_unlike 38 = .ok (.imul, 1) := by decide +kernel
theorem dX7_unlike_39 : decode cX7_unlike 39 = .ok (.iconst 3, 1) := by decide +kernel
theorem dX7_unlike_40 : decode cX7_unlike 40 = .ok (.iadd, 1) := by decide +kernel
theorem dX7_unlike_41 : decode cX7_unlike 41 = .ok (.iaload, 1) := by decide +kernel
theorem dX7_unlike_42 : decode cX7_unlike 42 = .ok (.ishl, 1) := by decide +kernel
theorem dX7_unlike_43 : decode cX7_unlike 43 = .ok (.ior, 1) := by decide +kernel
theorem dX7_unlike_44 : decode cX7_unlike 44 = .ok (.istore_n 1, 1) := by decide +kernel
theorem dX7_unlike_45 : decode cX7_unlike 45 = .ok (.iinc 2 1, 3) := by decide +kernel
theorem dX7_unlike_48 : decode cX7_unlike 48 = .ok (.goto (-44), 3) := by decide +kernel
theorem dX7_unlike_51 : decode cX7_unlike 51 = .ok (.iload_n 1, 1) := by decide +kernel
theorem dX7_unlike_52 : decode cX7_unlike 52 = .ok (.invokestatic 217, 3) := by decide +kernel
theorem dX7_unlike_55 : decode cX7_unlike 55 = .ok (.ireturn, 1) := by decide +kernel
theorem dX7_countOf_0 : decode cX7_countOf 0 = .ok (.iload_n 1, 1) := by decide +kernel
theorem dX7_countOf_1 : decode cX7_countOf 1 = .ok (.tableswitch 98 0 8 #[51, 56, 61, 68, 73, 78, 83, 88, 93], 51) := by decide +kernel
theorem dX7_countOf_52 : decode cX7_countOf 52 = .ok (.aload_n 0, 1) := by decide +kernel
theorem dX7_countOf_53 : decode cX7_countOf 53 = .ok (.getfield 101, 3) := by decide +kernel
theorem dX7_countOf_56 : decode cX7_countOf 56 = .ok (.ireturn, 1) := by decide +kernel
theorem dX7_countOf_57 : decode cX7_countOf 57 = .ok (.aload_n 0, 1) := by decide +kernel
theorem dX7_countOf_58 : decode cX7_countOf 58 = .ok (.getfield 111, 3) := by decide +kernel
theorem dX7_countOf_61 : decode cX7_countOf 61 = .ok (.ireturn, 1) := by decide +kernel
theorem dX7_countOf_62 : decode cX7_countOf 62 = .ok (.aload_n 0, 1) := by decide +kernel
theorem dX7_countOf_63 : decode cX7_countOf 63 = .ok (.iconst 2, 1) := by decide +kernel
theorem dX7_countOf_64 : decode cX7_countOf 64 = .ok (.iconst (-1), 1) := by decide +kernel
theorem dX7_countOf_65 : decode cX7_countOf 65 = .ok (.invokevirtual 146, 3) := by decide +kernel
theorem dX7_countOf_68 : decode cX7_countOf 68 = .ok (.ireturn, 1) := by decide +kernel
theorem dX7_countOf_69 : decode cX7_countOf 69 = .ok (.aload_n 0, 1) := by decide +kernel
theorem dX7_countOf_70 : decode cX7_countOf 70 = .ok (.invokevirtual 220, 3) := by decide +kernel
theorem dX7_countOf_73 : decode cX7_countOf 73 = .ok (.ireturn, 1) := by decide +kernel
theorem dX7_countOf_74 : decode cX7_countOf 74 = .ok (.aload_n 0, 1) := by decide +kernel
theorem dX7_countOf_75 : decode cX7_countOf 75 = .ok (.invokevirtual 223, 3) := by decide +kernel
theorem dX7_countOf_78 : decode cX7_countOf 78 = .ok (.ireturn, 1) := by decide +kernel
theorem dX7_countOf_79 : decode cX7_countOf 79 = .ok (.aload_n 0, 1) := by decide +kernel
theorem dX7_countOf_80 : decode cX7_countOf 80 = .ok (.getfield 108, 3) := by decide +kernel
theorem dX7_countOf_83 : decode cX7_countOf 83 = .ok (.ireturn, 1) := by decide +kernel
theorem dX7_countOf_84 : decode cX7_countOf 84 = .ok (.aload_n 0, 1) := by decide +kernel
theorem dX7_countOf_85 : decode cX7_countOf 85 = .ok (.getfield 114, 3) := by decide +kernel
theorem dX7_countOf_88 : decode cX7_countOf 88 = .ok (.ireturn, 1) := by decide +kernel
theorem dX7_countOf_89 : decode cX7_countOf 89 = .ok (.aload_n 0, 1) := by decide +kernel
theorem dX7_countOf_90 : decode cX7_countOf 90 = .ok (.getfield 62, 3) := by decide +kernel
theorem dX7_countOf_93 : decode cX7_countOf 93 = .ok (.ireturn, 1) := by decide +kernel
theorem dX7_countOf_94 : decode cX7_countOf 94 = .ok (.aload_n 0, 1) := by decide +kernel
theorem dX7_countOf_95 : decode cX7_countOf 95 = .ok (.getfield 117, 3) := by decide +kernel
theorem dX7_countOf_98 : decode cX7_countOf 98 = .ok (.ireturn, 1) := by decide +kernel
theorem dX7_countOf_99 : decode cX7_countOf 99 = .ok (.bipush (-102), 2) := by decide +kernel
theorem dX7_countOf_101 : decode cX7_countOf 101 = .ok (.ireturn, 1) := by decide +kernel
theorem dX7_count_0 : decode cX7_count 0 = .ok (.aload_n 0, 1) := by decide +kernel
theorem dX7_count_1 : decode cX7_count 1 = .ok (.iload_n 1, 1) := by decide +kernel
theorem dX7_count_2 : decode cX7_count 2 = .ok (.invokevirtual 226, 3) := by decide +kernel
theorem dX7_count_5 : decode cX7_count 5 = .ok (.ireturn, 1) := by decide +kernel
theorem dX7_say_0 : decode cX7_say 0 = .ok (.aload_n 0, 1) := by decide +kernel
theorem dX7_say_1 : decode cX7_say 1 = .ok (.ldc2_w 229, 3) := by decide +kernel
theorem dX7_say_4 : decode cX7_say 4 = .ok (.aload_n 0, 1) := by decide +kernel
theorem dX7_say_5 : decode cX7_say 5 = .ok (.getfield 231, 3) := by decide +kernel
theorem dX7_say_8 : decode cX7_say 8 = .ok (.lmul, 1) := by decide +kernel
theorem dX7_say_9 : decode cX7_say 9 = .ok (.lload_n 1, 1) := by decide +kernel
theorem dX7_say_10 : decode cX7_say 10 = .ok (.ladd, 1) := by decide +kernel
theorem dX7_say_11 : decode cX7_say 11 = .ok (.putfield 231, 3) := by decide +kernel
theorem dX7_say_14 : decode cX7_say 14 = .ok (.return_, 1) := by decide +kernel
theorem dX7_saySpeaker_0 : decode cX7_saySpeaker 0 = .ok (.iconst 0, 1) := by decide +kernel
theorem dX7_saySpeaker_1 : decode cX7_saySpeaker 1 = .ok (.istore_n 2, 1) := by decide +kernel
theorem dX7_saySpeaker_2 : decode cX7_saySpeaker 2 = .ok (.iload_n 2, 1) := by decide +kernel
theorem dX7_saySpeaker_3 : decode cX7_saySpeaker 3 = .ok (.bipush 9, 2) := by decide +kernel
theorem dX7_saySpeaker_5 : decode cX7_saySpeaker 5 = .ok (.if_icmp .ge 20, 3) := by decide +kernel
theorem dX7_saySpeaker_8 : decode cX7_saySpeaker 8 = .ok (.aload_n 0, 1) := by decide +kernel
theorem dX7_saySpeaker_9 : decode cX7_saySpeaker 9 = .ok (.aload_n 0, 1) := by decide +kernel
theorem dX7_saySpeaker_10 : decode cX7_saySpeaker 10 = .ok (.iload_n 1, 1) := by decide +kernel
theorem dX7_saySpeaker_11 : decode cX7_saySpeaker 11 = .ok (.iload_n 2, 1) := by decide +kernel
theorem dX7_saySpeaker_12 : decode cX7_saySpeaker 12 = .ok (.invokevirtual 161, 3) := by decide +kernel
theorem dX7_saySpeaker_15 : decode cX7_saySpeaker 15 = .ok (.i2l, 1) := by decide +kernel
theorem dX7_saySpeaker_16 : decode cX7_saySpeaker 16 = .ok (.invokevirtual 235, 3) := by decide +kernel
theorem dX7_saySpeaker_19 : decode cX7_saySpeaker 19 = .ok (.iinc 2 1, 3) := by decide +kernel
theorem dX7_saySpeaker_22 : decode cX7_saySpeaker 22 = .ok (.goto (-20), 3) := by decide +kernel
theorem dX7_saySpeaker_25 : decode cX7_saySpeaker 25 = .ok (.iconst 0, 1) := by decide +kernel
theorem dX7_saySpeaker_26 : decode cX7_saySpeaker 26 = .ok (.istore_n 2, 1) := by decide +kernel
theorem dX7_saySpeaker_27 : decode cX7_saySpeaker 27 = .ok (.iload_n 2, 1) := by decide +kernel
theorem dX7_saySpeaker_28 : decode cX7_saySpeaker 28 = .ok (.iconst 4, 1) := by decide +kernel
theorem dX7_saySpeaker_29 : decode cX7_saySpeaker 29 = .ok (.if_icmp .ge 20, 3) := by decide +kernel
theorem dX7_saySpeaker_32 : decode cX7_saySpeaker 32 = .ok (.aload_n 0, 1) := by decide +kernel
theorem dX7_saySpeaker_33 : decode cX7_saySpeaker 33 = .ok (.aload_n 0, 1) := by decide +kernel
theorem dX7_saySpeaker_34 : decode cX7_saySpeaker 34 = .ok (.iload_n 1, 1) := by decide +kernel
theorem dX7_saySpeaker_35 : decode cX7_saySpeaker 35 = .ok (.iload_n 2, 1) := by decide +kernel
theorem dX7_saySpeaker_36 : decode cX7_saySpeaker 36 = .ok (.invokevirtual 139, 3) := by decide +kernel
theorem dX7_saySpeaker_39 : decode cX7_saySpeaker 39 = .ok (.i2l, 1) := by decide +kernel
theorem dX7_saySpeaker_40 : decode cX7_saySpeaker 40 = .ok (.invokevirtual 235, 3) := by decide +kernel
theorem dX7_saySpeaker_43 : decode cX7_saySpeaker 43 = .ok (.iinc 2 1, 3) := by decide +kernel
theorem dX7_saySpeaker_46 : decode cX7_saySpeaker 46 = .ok (.goto (-19), 3) := by decide +kernel
theorem dX7_saySpeaker_49 : decode cX7_saySpeaker 49 = .ok (.return_, 1) := by decide +kernel
theorem dX7_digest_0 : decode cX7_digest 0 = .ok (.aload_n 0, 1) := by decide +kernel
theorem dX7_digest_1 : decode cX7_digest 1 = .ok (.ldc2_w 239, 3) := by decide +kernel
theorem dX7_digest_4 : decode cX7_digest 4 = .ok (.putfield 231, 3) := by decide +kernel
theorem dX7_digest_7 : decode cX7_digest 7 = .ok (.iconst 0, 1) := by decide +kernel
theorem dX7_digest_8 : decode cX7_digest 8 = .ok (.istore_n 1, 1) := by decide +kernel
theorem dX7_digest_9 : decode cX7_digest 9 = .ok (.iload_n 1, 1) := by decide +kernel
theorem dX7_digest_10 : decode cX7_digest 10 = .ok (.iconst 4, 1) := by decide +kernel
theorem dX7_digest_11 : decode cX7_digest 11 = .ok (.if_icmp .ge 27, 3) := by decide +kernel
theorem dX7_digest_14 : decode cX7_digest 14 = .ok (.aload_n 0, 1) := by decide +kernel
theorem dX7_digest_15 : decode cX7_digest 15 = .ok (.invokevirtual 120, 3) := by decide +kernel
theorem dX7_digest_18 : decode cX7_digest 18 = .ok (.ifCond .ne 20, 3) := by decide +kernel
theorem dX7_digest_21 : decode cX7_digest 21 = .ok (.aload_n 0, 1) := by decide +kernel
theorem dX7_digest_22 : decode cX7_digest 22 = .ok (.aload_n 0, 1) := by decide +kernel
theorem dX7_digest_23 : decode cX7_digest 23 = .ok (.getfield 19, 3) := by decide +kernel
theorem dX7_digest_26 : decode cX7_digest 26 = .ok (.iload_n 1, 1) := by decide +kernel
theorem dX7_digest_27 : decode cX7_digest 27 = .ok (.iaload, 1) := by decide +kernel
theorem dX7_digest_28 : decode cX7_digest 28 = .ok (.i2l, 1) := by decide +kernel
theorem dX7_digest_29 : decode cX7_digest 29 = .ok (.invokevirtual 235, 3) := by decide +kernel
theorem dX7_digest_32 : decode cX7_digest 32 = .ok (.iinc 1 1, 3) := by decide +kernel
theorem dX7_digest_35 : decode cX7_digest 35 = .ok (.goto (-26), 3) := by decide +kernel
theorem dX7_digest_38 : decode cX7_digest 38 = .ok (.iconst 0, 1) := by decide +kernel
theorem dX7_digest_39 : decode cX7_digest 39 = .ok (.istore_n 1, 1) := by decide +kernel
theorem dX7_digest_40 : decode cX7_digest 40 = .ok (.iload_n 1, 1) := by decide +kernel
theorem dX7_digest_41 : decode cX7_digest 41 = .ok (.aload_n 0, 1) := by decide +kernel
theorem dX7_digest_42 : decode cX7_digest 42 = .ok (.getfield 101, 3) := by decide +kernel
theorem dX7_digest_45 : decode cX7_digest 45 = .ok (.if_icmp .ge 14, 3) := by decide +kernel
theorem dX7_digest_48 : decode cX7_digest 48 = .ok (.aload_n 0, 1) := by decide +kernel
theorem dX7_digest_49 : decode cX7_digest 49 = .ok (.iload_n 1, 1) := by decide +kernel
theorem dX7_digest_50 : decode cX7_digest 50 = .ok (.invokevirtual 241, 3) := by decide +kernel
theorem dX7_digest_53 : decode cX7_digest 53 = .ok (.iinc 1 1, 3) := by decide +kernel
theorem dX7_digest_56 : decode cX7_digest 56 = .ok (.goto (-16), 3) := by decide +kernel
theorem dX7_digest_59 : decode cX7_digest 59 = .ok (.iconst 0, 1) := by decide +kernel
theorem dX7_digest_60 : decode cX7_digest 60 = .ok (.istore_n 1, 1) := by decide +kernel
theorem dX7_digest_61 : decode cX7_digest 61 = .ok (.iload_n 1, 1) := by decide +kernel
theorem dX7_digest_62 : decode cX7_digest 62 = .ok (.aload_n 0, 1) := by decide +kernel
theorem dX7_digest_63 : decode cX7_digest 63 = .ok (.getfield 111, 3) := by decide +kernel
theorem dX7_digest_66 : decode cX7_digest 66 = .ok (.if_icmp .ge 33, 3) := by decide +kernel
theorem dX7_digest_69 : decode cX7_digest 69 = .ok (.iconst 0, 1) := by decide +kernel
theorem dX7_digest_70 : decode cX7_digest 70 = .ok (.istore_n 2, 1) := by decide +kernel
theorem dX7_digest_71 : decode cX7_digest 71 = .ok (.iload_n 2, 1) := by decide +kernel
theorem dX7_digest_72 : decode cX7_digest 72 = .ok (.iconst 5, 1) := by decide +kernel
theorem dX7_digest_73 : decode cX7_digest 73 = .ok (.if_icmp .ge 20, 3) := by decide +kernel
theorem dX7_digest_76 : decode cX7_digest 76 = .ok (.aload_n 0, 1) := by decide +kernel
theorem dX7_digest_77 : decode cX7_digest 77 = .ok (.aload_n 0, 1) := by decide +kernel
theorem dX7_digest_78 : decode cX7_digest 78 = .ok (.iload_n 1, 1) := by decide +kernel
theorem dX7_digest_79 : decode cX7_digest 79 = .ok (.iload_n 2, 1) := by decide +kernel
theorem dX7_digest_80 : decode cX7_digest 80 = .ok (.invokevirtual 172, 3) := by decide +kernel
theorem dX7_digest_83 : decode cX7_digest 83 = .ok (.i2l, 1) := by decide +kernel
theorem dX7_digest_84 : decode cX7_digest 84 = .ok (.invokevirtual 235, 3) := by decide +kernel
theorem dX7_digest_87 : decode cX7_digest 87 = .ok (.iinc 2 1, 3) := by decide +kernel
theorem dX7_digest_90 : decode cX7_digest 90 = .ok (.goto (-19), 3) := by decide +kernel
theorem dX7_digest_93 : decode cX7_digest 93 = .ok (.iinc 1 1, 3) := by decide +kernel
theorem dX7_digest_96 : decode cX7_digest 96 = .ok (.goto (-35), 3) := by decide +kernel
theorem dX7_digest_99 : decode cX7_digest 99 = .ok (.aload_n 0, 1) := by decide +kernel
theorem dX7_digest_100 : decode cX7_digest 100 = .ok (.invokevirtual 120, 3) := by decide +kernel
theorem dX7_digest_103 : decode cX7_digest 103 = .ok (.ifCond .ne 38, 3) := by decide +kernel
theorem dX7_digest_106 : decode cX7_digest 106 = .ok (.aload_n 0, 1) := by decide +kernel
theorem dX7_digest_107 : decode cX7_digest 107 = .ok (.aload_n 0, 1) := by decide +kernel
theorem dX7_digest_108 : decode cX7_digest 108 = .ok (.iconst 0, 1) := by decide +kernel
theorem dX7_digest_109 : decode cX7_digest 109 = .ok (.invokevirtual 186, 3) := by decide +kernel
theorem dX7_digest_112 : decode cX7_digest 112 = .ok (.i2l, 1) := by decide +kernel
theorem dX7_digest_113 : decode cX7_digest 113 = .ok (.invokevirtual 235, 3) := by decide +kernel
theorem dX7_digest_116 : decode cX7_digest 116 = .ok (.bipush 10, 2) := by decide +kernel
theorem dX7_digest_118 : decode cX7_digest 118 = .ok (.istore_n 1, 1) := by decide +kernel
theorem dX7_digest_119 : decode cX7_digest 119 = .ok (.iload_n 1, 1) := by decide +kernel
theorem dX7_digest_120 : decode cX7_digest 120 = .ok (.bipush 14, 2) := by decide +kernel
theorem dX7_digest_122 : decode cX7_digest 122 = .ok (.if_icmp .ge 19, 3) := by decide +kernel
theorem dX7_digest_125 : decode cX7_digest 125 = .ok (.aload_n 0, 1) := by decide +kernel
theorem dX7_digest_126 : decode cX7_digest 126 = .ok (.aload_n 0, 1) := by decide +kernel
theorem dX7_digest_127 : decode cX7_digest 127 = .ok (.iload_n 1, 1) := by decide +kernel
theorem dX7_digest_128 : decode cX7_digest 128 = .ok (.invokevirtual 186, 3) := by decide +kernel
theorem dX7_digest_131 : decode cX7_digest 131 = .ok (.i2l, 1) := by decide +kernel
theorem dX7_digest_132 : decode cX7_digest 132 = .ok (.invokevirtual 235, 3) := by decide +kernel
theorem dX7_digest_135 : decode cX7_digest 135 = .ok (.iinc 1 1, 3) := by decide +kernel
theorem dX7_digest_138 : decode cX7_digest 138 = .ok (.goto (-19), 3) := by decide +kernel
theorem dX7_digest_141 : decode cX7_digest 141 = .ok (.iconst 0, 1) := by decide +kernel
theorem dX7_digest_142 : decode cX7_digest 142 = .ok (.istore_n 1, 1) := by decide +kernel
theorem dX7_digest_143 : decode cX7_digest 143 = .ok (.iload_n 1, 1) := by decide +kernel
theorem dX7_digest_144 : decode cX7_digest 144 = .ok (.aload_n 0, 1) := by decide +kernel
theorem dX7_digest_145 : decode cX7_digest 145 = .ok (.getfield 62, 3) := by decide +kernel
theorem dX7_digest_148 : decode cX7_digest 148 = .ok (.if_icmp .ge 20, 3) := by decide +kernel
theorem dX7_digest_151 : decode cX7_digest 151 = .ok (.aload_n 0, 1) := by decide +kernel
theorem dX7_digest_152 : decode cX7_digest 152 = .ok (.aload_n 0, 1) := by decide +kernel
theorem dX7_digest_153 : decode cX7_digest 153 = .ok (.getfield 7, 3) := by decide +kernel
theorem dX7_digest_156 : decode cX7_digest 156 = .ok (.iload_n 1, 1) := by decide +kernel
theorem dX7_digest_157 : decode cX7_digest 157 = .ok (.iaload, 1) := by decide +kernel
theorem dX7_digest_158 : decode cX7_digest 158 = .ok (.i2l, 1) := by decide +kernel
theorem dX7_digest_159 : decode cX7_digest 159 = .ok (.invokevirtual 235, 3) := by decide +kernel
theorem dX7_digest_162 : decode cX7_digest 162 = .ok (.iinc 1 1, 3) := by decide +kernel
theorem dX7_digest_165 : decode cX7_digest 165 = .ok (.goto (-22), 3) := by decide +kernel
theorem dX7_digest_168 : decode cX7_digest 168 = .ok (.iconst 0, 1) := by decide +kernel
theorem dX7_digest_169 : decode cX7_digest 169 = .ok (.istore_n 1, 1) := by decide +kernel
theorem dX7_digest_170 : decode cX7_digest 170 = .ok (.iload_n 1, 1) := by decide +kernel
theorem dX7_digest_171 : decode cX7_digest 171 = .ok (.bipush 9, 2) := by decide +kernel
theorem dX7_digest_173 : decode cX7_digest 173 = .ok (.if_icmp .ge 19, 3) := by decide +kernel
theorem dX7_digest_176 : decode cX7_digest 176 = .ok (.aload_n 0, 1) := by decide +kernel
theorem dX7_digest_177 : decode cX7_digest 177 = .ok (.aload_n 0, 1) := by decide +kernel
theorem dX7_digest_178 : decode cX7_digest 178 = .ok (.iload_n 1, 1) := by decide +kernel
theorem dX7_digest_179 : decode cX7_digest 179 = .ok (.invokevirtual 226, 3) := by decide +kernel
theorem dX7_digest_182 : decode cX7_digest 182 = .ok (.i2l, 1) := by decide +kernel
theorem dX7_digest_183 : decode cX7_digest 183 = .ok (.invokevirtual 235, 3) := by decide +kernel
theorem dX7_digest_186 : decode cX7_digest 186 = .ok (.iinc 1 1, 3) := by decide +kernel
theorem dX7_digest_189 : decode cX7_digest 189 = .ok (.goto (-19), 3) := by decide +kernel
theorem dX7_digest_192 : decode cX7_digest 192 = .ok (.aload_n 0, 1) := by decide +kernel
theorem dX7_digest_193 : decode cX7_digest 193 = .ok (.getfield 231, 3) := by decide +kernel
theorem dX7_digest_196 : decode cX7_digest 196 = .ok (.lreturn, 1) := by decide +kernel
theorem dJ11_isValidCodePoint_9a6ad_0 : decode cJ11_isValidCodePoint_9a6ad 0 = .ok (.iload_n 0, 1) := by decide +kernel
theorem dJ11_isValidCodePoint_9a6ad_1 : decode cJ11_isValidCodePoint_9a6ad 1 = .ok (.bipush 16, 2) := by decide +kernel
theorem dJ11_isValidCodePoint_9a6ad_3 : decode cJ11_isValidCodePoint_9a6ad 3 = .ok (.iushr, 1) := by decide +kernel
theorem dJ11_isValidCodePoint_9a6ad_4 : decode cJ11_isValidCodePoint_9a6ad 4 = .ok (.istore_n 1, 1) := by decide +kernel
theorem dJ11_isValidCodePoint_9a6ad_5 : decode cJ11_isValidCodePoint_9a6ad 5 = .ok (.iload_n 1, 1) := by decide +kernel
theorem dJ11_isValidCodePoint_9a6ad_6 : decode cJ11_isValidCodePoint_9a6ad 6 = .ok (.bipush 17, 2) := by decide +kernel
theorem dJ11_isValidCodePoint_9a6ad_8 : decode cJ11_isValidCodePoint_9a6ad 8 = .ok (.if_icmp .ge 7, 3) := by decide +kernel
theorem dJ11_isValidCodePoint_9a6ad_11 : decode cJ11_isValidCodePoint_9a6ad 11 = .ok (.iconst 1, 1) := by decide +kernel
theorem dJ11_isValidCodePoint_9a6ad_12 : decode cJ11_isValidCodePoint_9a6ad 12 = .ok (.goto 4, 3) := by decide +kernel
theorem dJ11_isValidCodePoint_9a6ad_15 : decode cJ11_isValidCodePoint_9a6ad 15 = .ok (.iconst 0, 1) := by decide +kernel
theorem dJ11_isValidCodePoint_9a6ad_16 : decode cJ11_isValidCodePoint_9a6ad 16 = .ok (.ireturn, 1) := by decide +kernel
theorem dJ11_highSurrogate_5068e_0 : decode cJ11_highSurrogate_5068e 0 = .ok (.iload_n 0, 1) := by decide +kernel
theorem dJ11_highSurrogate_5068e_1 : decode cJ11_highSurrogate_5068e 1 = .ok (.bipush 10, 2) := by decide +kernel
theorem dJ11_highSurrogate_5068e_3 : decode cJ11_highSurrogate_5068e 3 = .ok (.iushr, 1) := by decide +kernel
theorem dJ11_highSurrogate_5068e_4 : decode cJ11_highSurrogate_5068e 4 = .ok (.ldc 110, 2) := by decide +kernel
theorem dJ11_highSurrogate_5068e_6 : decode cJ11_highSurrogate_5068e 6 = .ok (.iadd, 1) := by decide +kernel
theorem dJ11_highSurrogate_5068e_7 : decode cJ11_highSurrogate_5068e 7 = .ok (.i2c, 1) := by decide +kernel
theorem dJ11_highSurrogate_5068e_8 : decode cJ11_highSurrogate_5068e 8 = .ok (.ireturn, 1) := by decide +kernel
theorem dJ11_lowSurrogate_5068e_0 : decode cJ11_lowSurrogate_5068e 0 = .ok (.iload_n 0, 1) := by decide +kernel
theorem dJ11_lowSurrogate_5068e_1 : decode cJ11_lowSurrogate_5068e 1 = .ok (.sipush 1023, 3) := by decide +kernel
theorem dJ11_lowSurrogate_5068e_4 : decode cJ11_lowSurrogate_5068e 4 = .ok (.iand, 1) := by decide +kernel
theorem dJ11_lowSurrogate_5068e_5 : decode cJ11_lowSurrogate_5068e 5 = .ok (.ldc 76, 2) := by decide +kernel
theorem dJ11_lowSurrogate_5068e_7 : decode cJ11_lowSurrogate_5068e 7 = .ok (.iadd, 1) := by decide +kernel
theorem dJ11_lowSurrogate_5068e_8 : decode cJ11_lowSurrogate_5068e 8 = .ok (.i2c, 1) := by decide +kernel
theorem dJ11_lowSurrogate_5068e_9 : decode cJ11_lowSurrogate_5068e 9 = .ok (.ireturn, 1) := by decide +kernel
theorem dJ6_bitCount_0f7a4_0 : decode cJ6_bitCount_0f7a4 0 = .ok (.iload_n 0, 1) := by decide +kernel
theorem dJ6_bitCount_0f7a4_1 : decode cJ6_bitCount_0f7a4 1 = .ok (.iload_n 0, 1) := by decide +kernel
theorem dJ6_bitCount_0f7a4_2 : decode cJ6_bitCount_0f7a4 2 = .ok (.iconst 1, 1) := by decide +kernel
theorem dJ6_bitCount_0f7a4_3 : decode cJ6_bitCount_0f7a4 3 = .ok (.iushr, 1) := by decide +kernel
theorem dJ6_bitCount_0f7a4_4 : decode cJ6_bitCount_0f7a4 4 = .ok (.ldc_w 265, 3) := by decide +kernel
theorem dJ6_bitCount_0f7a4_7 : decode cJ6_bitCount_0f7a4 7 = .ok (.iand, 1) := by decide +kernel
theorem dJ6_bitCount_0f7a4_8 : decode cJ6_bitCount_0f7a4 8 = .ok (.isub, 1) := by decide +kernel
theorem dJ6_bitCount_0f7a4_9 : decode cJ6_bitCount_0f7a4 9 = .ok (.istore_n 0, 1) := by decide +kernel
theorem dJ6_bitCount_0f7a4_10 : decode cJ6_bitCount_0f7a4 10 = .ok (.iload_n 0, 1) := by decide +kernel
theorem dJ6_bitCount_0f7a4_11 : decode cJ6_bitCount_0f7a4 11 = .ok (.ldc_w 266, 3) := by decide +kernel
theorem dJ6_bitCount_0f7a4_14 : decode cJ6_bitCount_0f7a4 14 = .ok (.iand, 1) := by decide +kernel
theorem dJ6_bitCount_0f7a4_15 : decode cJ6_bitCount_0f7a4 15 = .ok (.iload_n 0, 1) := by decide +kernel
theorem dJ6_bitCount_0f7a4_16 : decode cJ6_bitCount_0f7a4 16 = .ok (.iconst 2, 1) := by decide +kernel
theorem dJ6_bitCount_0f7a4_17 : decode cJ6_bitCount_0f7a4 17 = .ok (.iushr, 1) := by decide +kernel
theorem dJ6_bitCount_0f7a4_18 : decode cJ6_bitCount_0f7a4 18 = .ok (.ldc_w 266, 3) := by decide +kernel
theorem dJ6_bitCount_0f7a4_21 : decode cJ6_bitCount_0f7a4 21 = .ok (.iand, 1) := by decide +kernel
theorem dJ6_bitCount_0f7a4_22 : decode cJ6_bitCount_0f7a4 22 = .ok (.iadd, 1) := by decide +kernel
theorem dJ6_bitCount_0f7a4_23 : decode cJ6_bitCount_0f7a4 23 = .ok (.istore_n 0, 1) := by decide +kernel
theorem dJ6_bitCount_0f7a4_24 : decode cJ6_bitCount_0f7a4 24 = .ok (.iload_n 0, 1) := by decide +kernel
theorem dJ6_bitCount_0f7a4_25 : decode cJ6_bitCount_0f7a4 25 = .ok (.iload_n 0, 1) := by decide +kernel
theorem dJ6_bitCount_0f7a4_26 : decode cJ6_bitCount_0f7a4 26 = .ok (.iconst 4, 1) := by decide +kernel
theorem dJ6_bitCount_0f7a4_27 : decode cJ6_bitCount_0f7a4 27 = .ok (.iushr, 1) := by decide +kernel
theorem dJ6_bitCount_0f7a4_28 : decode cJ6_bitCount_0f7a4 28 = .ok (.iadd, 1) := by decide +kernel
theorem dJ6_bitCount_0f7a4_29 : decode cJ6_bitCount_0f7a4 29 = .ok (.ldc_w 267, 3) := by decide +kernel
theorem dJ6_bitCount_0f7a4_32 : decode cJ6_bitCount_0f7a4 32 = .ok (.iand, 1) := by decide +kernel
theorem dJ6_bitCount_0f7a4_33 : decode cJ6_bitCount_0f7a4 33 = .ok (.istore_n 0, 1) := by decide +kernel
theorem dJ6_bitCount_0f7a4_34 : decode cJ6_bitCount_0f7a4 34 = .ok (.iload_n 0, 1) := by decide +kernel
theorem dJ6_bitCount_0f7a4_35 : decode cJ6_bitCount_0f7a4 35 = .ok (.iload_n 0, 1) := by decide +kernel
theorem dJ6_bitCount_0f7a4_36 : decode cJ6_bitCount_0f7a4 36 = .ok (.bipush 8, 2) := by decide +kernel
theorem dJ6_bitCount_0f7a4_38 : decode cJ6_bitCount_0f7a4 38 = .ok (.iushr, 1) := by decide +kernel
theorem dJ6_bitCount_0f7a4_39 : decode cJ6_bitCount_0f7a4 39 = .ok (.iadd, 1) := by decide +kernel
theorem dJ6_bitCount_0f7a4_40 : decode cJ6_bitCount_0f7a4 40 = .ok (.istore_n 0, 1) := by decide +kernel
theorem dJ6_bitCount_0f7a4_41 : decode cJ6_bitCount_0f7a4 41 = .ok (.iload_n 0, 1) := by decide +kernel
theorem dJ6_bitCount_0f7a4_42 : decode cJ6_bitCount_0f7a4 42 = .ok (.iload_n 0, 1) := by decide +kernel
theorem dJ6_bitCount_0f7a4_43 : decode cJ6_bitCount_0f7a4 43 = .ok (.bipush 16, 2) := by decide +kernel
theorem dJ6_bitCount_0f7a4_45 : decode cJ6_bitCount_0f7a4 45 = .ok (.iushr, 1) := by decide +kernel
theorem dJ6_bitCount_0f7a4_46 : decode cJ6_bitCount_0f7a4 46 = .ok (.iadd, 1) := by decide +kernel
theorem dJ6_bitCount_0f7a4_47 : decode cJ6_bitCount_0f7a4 47 = .ok (.istore_n 0, 1) := by decide +kernel
theorem dJ6_bitCount_0f7a4_48 : decode cJ6_bitCount_0f7a4 48 = .ok (.iload_n 0, 1) := by decide +kernel
theorem dJ6_bitCount_0f7a4_49 : decode cJ6_bitCount_0f7a4 49 = .ok (.bipush 63, 2) := by decide +kernel
theorem dJ6_bitCount_0f7a4_51 : decode cJ6_bitCount_0f7a4 51 = .ok (.iand, 1) := by decide +kernel
theorem dJ6_bitCount_0f7a4_52 : decode cJ6_bitCount_0f7a4 52 = .ok (.ireturn, 1) := by decide +kernel
theorem dJ9_max_7cf53_0 : decode cJ9_max_7cf53 0 = .ok (.iload_n 0, 1) := by decide +kernel
theorem dJ9_max_7cf53_1 : decode cJ9_max_7cf53 1 = .ok (.iload_n 1, 1) := by decide +kernel
theorem dJ9_max_7cf53_2 : decode cJ9_max_7cf53 2 = .ok (.if_icmp .lt 7, 3) := by decide +kernel
theorem dJ9_max_7cf53_5 : decode cJ9_max_7cf53 5 = .ok (.iload_n 0, 1) := by decide +kernel
theorem dJ9_max_7cf53_6 : decode cJ9_max_7cf53 6 = .ok (.goto 4, 3) := by decide +kernel
theorem dJ9_max_7cf53_9 : decode cJ9_max_7cf53 9 = .ok (.iload_n 1, 1) := by decide +kernel
theorem dJ9_max_7cf53_10 : decode cJ9_max_7cf53 10 = .ok (.ireturn, 1) := by decide +kernel
theorem dJ9_min_7cf53_0 : decode cJ9_min_7cf53 0 = .ok (.iload_n 0, 1) := by decide +kernel
theorem dJ9_min_7cf53_1 : decode cJ9_min_7cf53 1 = .ok (.iload_n 1, 1) := by decide +kernel
theorem dJ9_min_7cf53_2 : decode cJ9_min_7cf53 2 = .ok (.if_icmp .gt 7, 3) := by decide +kernel
theorem dJ9_min_7cf53_5 : decode cJ9_min_7cf53 5 = .ok (.iload_n 0, 1) := by decide +kernel
theorem dJ9_min_7cf53_6 : decode cJ9_min_7cf53 6 = .ok (.goto 4, 3) := by decide +kernel
theorem dJ9_min_7cf53_9 : decode cJ9_min_7cf53 9 = .ok (.iload_n 1, 1) := by decide +kernel
theorem dJ9_min_7cf53_10 : decode cJ9_min_7cf53 10 = .ok (.ireturn, 1) := by decide +kernel
theorem dJ0_length_8abf5_0 : decode cJ0_length_8abf5 0 = .ok (.aload_n 0, 1) := by decide +kernel
theorem dJ0_length_8abf5_1 : decode cJ0_length_8abf5 1 = .ok (.getfield 9, 3) := by decide +kernel
theorem dJ0_length_8abf5_4 : decode cJ0_length_8abf5 4 = .ok (.arraylength, 1) := by decide +kernel
theorem dJ0_length_8abf5_5 : decode cJ0_length_8abf5 5 = .ok (.aload_n 0, 1) := by decide +kernel
theorem dJ0_length_8abf5_6 : decode cJ0_length_8abf5 6 = .ok (.invokevirtual 335, 3) := by decide +kernel
theorem dJ0_length_8abf5_9 : decode cJ0_length_8abf5 9 = .ok (.ishr, 1) := by decide +kernel
theorem dJ0_length_8abf5_10 : decode cJ0_length_8abf5 10 = .ok (.ireturn, 1) := by decide +kernel
theorem dJ0_indexOf_0f7a4_0 : decode cJ0_indexOf_0f7a4 0 = .ok (.aload_n 0, 1) := by decide +kernel
theorem dJ0_indexOf_0f7a4_1 : decode cJ0_indexOf_0f7a4 1 = .ok (.iload_n 1, 1) := by decide +kernel
theorem dJ0_indexOf_0f7a4_2 : decode cJ0_indexOf_0f7a4 2 = .ok (.iconst 0, 1) := by decide +kernel
theorem dJ0_indexOf_0f7a4_3 : decode cJ0_indexOf_0f7a4 3 = .ok (.invokevirtual 633, 3) := by decide +kernel
theorem dJ0_indexOf_0f7a4_6 : decode cJ0_indexOf_0f7a4 6 = .ok (.ireturn, 1) := by decide +kernel
theorem dJ0_indexOf_7cf53_0 : decode cJ0_indexOf_7cf53 0 = .ok (.aload_n 0, 1) := by decide +kernel
theorem dJ0_indexOf_7cf53_1 : decode cJ0_indexOf_7cf53 1 = .ok (.invokevirtual 492, 3) := by decide +kernel
theorem dJ0_indexOf_7cf53_4 : decode cJ0_indexOf_7cf53 4 = .ok (.ifCond .eq 19, 3) := by decide +kernel
theorem dJ0_indexOf_7cf53_7 : decode cJ0_indexOf_7cf53 7 = .ok (.aload_n 0, 1) := by decide +kernel
theorem dJ0_indexOf_7cf53_8 : decode cJ0_indexOf_7cf53 8 = .ok (.getfield 9, 3) := by decide +kernel
theorem dJ0_indexOf_7cf53_11 : decode cJ0_indexOf_7cf53 11 = .ok (.iload_n 1, 1) := by decide +kernel
theorem dJ0_indexOf_7cf53_12 : decode cJ0_indexOf_7cf53 12 = .ok (.iload_n 2, 1) := by decide +kernel
theorem dJ0_indexOf_7cf53_13 : decode cJ0_indexOf_7cf53 13 = .ok (.aload_n 0, 1) := by decide +kernel
theorem dJ0_indexOf_7cf53_14 : decode cJ0_indexOf_7cf53 14 = .ok (.invokevirtual 505, 3) := by decide +kernel
theorem dJ0_indexOf_7cf53_17 : decode cJ0_indexOf_7cf53 17 = .ok (.invokestatic 637, 3) := by decide +kernel
theorem dJ0_indexOf_7cf53_20 : decode cJ0_indexOf_7cf53 20 = .ok (.goto 16, 3) := by decide +kernel
theorem dJ0_indexOf_7cf53_23 : decode cJ0_indexOf_7cf53 23 = .ok (.aload_n 0, 1) := by decide +kernel
theorem dJ0_indexOf_7cf53_24 : decode cJ0_indexOf_7cf53 24 = .ok (.getfield 9, 3) := by decide +kernel
theorem dJ0_indexOf_7cf53_27 : decode cJ0_indexOf_7cf53 27 = .ok (.iload_n 1, 1) := by decide +kernel
theorem dJ0_indexOf_7cf53_28 : decode cJ0_indexOf_7cf53 28 = .ok (.iload_n 2, 1) := by decide +kernel
theorem dJ0_indexOf_7cf53_29 : decode cJ0_indexOf_7cf53 29 = .ok (.aload_n 0, 1) := by decide +kernel
theorem dJ0_indexOf_7cf53_30 : decode cJ0_indexOf_7cf53 30 = .ok (.invokevirtual 505, 3) := by decide +kernel
theorem dJ0_indexOf_7cf53_33 : decode cJ0_indexOf_7cf53 33 = .ok (.invokestatic 640, 3) := by decide +kernel
theorem dJ0_indexOf_7cf53_36 : decode cJ0_indexOf_7cf53 36 = .ok (.ireturn, 1) := by decide +kernel
theorem dJ0_coder_7d493_0 : decode cJ0_coder_7d493 0 = .ok (.getstatic 38, 3) := by decide +kernel
theorem dJ0_coder_7d493_3 : decode cJ0_coder_7d493 3 = .ok (.ifCond .eq 10, 3) := by decide +kernel
theorem dJ0_coder_7d493_6 : decode cJ0_coder_7d493 6 = .ok (.aload_n 0, 1) := by decide +kernel
theorem dJ0_coder_7d493_7 : decode cJ0_coder_7d493 7 = .ok (.getfield 15, 3) := by decide +kernel
theorem dJ0_coder_7d493_10 : decode cJ0_coder_7d493 10 = .ok (.goto 4, 3) := by decide +kernel
theorem dJ0_coder_7d493_13 : decode cJ0_coder_7d493 13 = .ok (.iconst 1, 1) := by decide +kernel
theorem dJ0_coder_7d493_14 : decode cJ0_coder_7d493 14 = .ok (.ireturn, 1) := by decide +kernel
theorem dJ0_isLatin1_aae02_0 : decode cJ0_isLatin1_aae02 0 = .ok (.getstatic 38, 3) := by decide +kernel
theorem dJ0_isLatin1_aae02_3 : decode cJ0_isLatin1_aae02 3 = .ok (.ifCond .eq 14, 3) := by decide +kernel
theorem dJ0_isLatin1_aae02_6 : decode cJ0_isLatin1_aae02 6 = .ok (.aload_n 0, 1) := by decide +kernel
theorem dJ0_isLatin1_aae02_7 : decode cJ0_isLatin1_aae02 7 = .ok (.getfield 15, 3) := by decide +kernel
theorem dJ0_isLatin1_aae02_10 : decode cJ0_isLatin1_aae02 10 = .ok (.ifCond .ne 7, 3) := by decide +kernel
theorem dJ0_isLatin1_aae02_13 : decode cJ0_isLatin1_aae02 13 = .ok (.iconst 1, 1) := by decide +kernel
theorem dJ0_isLatin1_aae02_14 : decode cJ0_isLatin1_aae02 14 = .ok (.goto 4, 3) := by decide +kernel
theorem dJ0_isLatin1_aae02_17 : decode cJ0_isLatin1_aae02 17 = .ok (.iconst 0, 1) := by decide +kernel
theorem dJ0_isLatin1_aae02_18 : decode cJ0_isLatin1_aae02 18 = .ok (.ireturn, 1) := by decide +kernel
theorem dJ0_checkBoundsBeginEnd_23922_0 : decode cJ0_checkBoundsBeginEnd_23922 0 = .ok (.iload_n 0, 1) := by decide +kernel
theorem dJ0_checkBoundsBeginEnd_23922_1 : decode cJ0_checkBoundsBeginEnd_23922 1 = .ok (.iload_n 1, 1) := by decide +kernel
theorem dJ0_checkBoundsBeginEnd_23922_2 : decode cJ0_checkBoundsBeginEnd_23922 2 = .ok (.iload_n 2, 1) := by decide +kernel
theorem dJ0_checkBoundsBeginEnd_23922_3 : decode cJ0_checkBoundsBeginEnd_23922 3 = .ok (.getstatic 1053, 3) := by decide +kernel
theorem dJ0_checkBoundsBeginEnd_23922_6 : decode cJ0_checkBoundsBeginEnd_23922 6 = .ok (.invokestatic 1062, 3) := by decide +kernel
theorem dJ0_checkBoundsBeginEnd_23922_9 : decode cJ0_checkBoundsBeginEnd_23922 9 = .ok (.pop, 1) := by decide +kernel
theorem dJ0_checkBoundsBeginEnd_23922_10 : decode cJ0_checkBoundsBeginEnd_23922 10 = .ok (.return_, 1) := by decide +kernel
theorem dJ1_canEncode_9a6ad_0 : decode cJ1_canEncode_9a6ad 0 = .ok (.iload_n 0, 1) := by decide +kernel
theorem dJ1_canEncode_9a6ad_1 : decode cJ1_canEncode_9a6ad 1 = .ok (.ifCond .lt 14, 3) := by decide +kernel
theorem dJ1_canEncode_9a6ad_4 : decode cJ1_canEncode_9a6ad 4 = .ok (.iload_n 0, 1) := by decide +kernel
theorem dJ1_canEncode_9a6ad_5 : decode cJ1_canEncode_9a6ad 5 = .ok (.sipush 255, 3) := by decide +kernel
theorem dJ1_canEncode_9a6ad_8 : decode cJ1_canEncode_9a6ad 8 = .ok (.if_icmp .gt 7, 3) := by decide +kernel
theorem dJ1_canEncode_9a6ad_11 : decode cJ1_canEncode_9a6ad 11 = .ok (.iconst 1, 1) := by decide +kernel
theorem dJ1_canEncode_9a6ad_12 : decode cJ1_canEncode_9a6ad 12 = .ok (.goto 4, 3) := by decide +kernel
theorem dJ1_canEncode_9a6ad_15 : decode cJ1_canEncode_9a6ad 15 = .ok (.iconst 0, 1) := by decide +kernel
theorem dJ1_canEncode_9a6ad_16 : decode cJ1_canEncode_9a6ad 16 = .ok (.ireturn, 1) := by decide +kernel
theorem dJ1_indexOf_4cfef_0 : decode cJ1_indexOf_4cfef 0 = .ok (.iload_n 1, 1) := by decide +kernel
theorem dJ1_indexOf_4cfef_1 : decode cJ1_indexOf_4cfef 1 = .ok (.invokestatic 88, 3) := by decide +kernel
theorem dJ1_indexOf_4cfef_4 : decode cJ1_indexOf_4cfef 4 = .ok (.ifCond .ne 5, 3) := by decide +kernel
theorem dJ1_indexOf_4cfef_7 : decode cJ1_indexOf_4cfef 7 = .ok (.iconst (-1), 1) := by decide +kernel
theorem dJ1_indexOf_4cfef_8 : decode cJ1_indexOf_4cfef 8 = .ok (.ireturn, 1) := by decide +kernel
theorem dJ1_indexOf_4cfef_9 : decode cJ1_indexOf_4cfef 9 = .ok (.iload_n 2, 1) := by decide +kernel
theorem dJ1_indexOf_4cfef_10 : decode cJ1_indexOf_4cfef 10 = .ok (.iconst 0, 1) := by decide +kernel
theorem dJ1_indexOf_4cfef_11 : decode cJ1_indexOf_4cfef 11 = .ok (.invokestatic 92, 3) := by decide +kernel
theorem dJ1_indexOf_4cfef_14 : decode cJ1_indexOf_4cfef 14 = .ok (.istore_n 2, 1) := by decide +kernel
theorem dJ1_indexOf_4cfef_15 : decode cJ1_indexOf_4cfef 15 = .ok (.iload_n 3, 1) := by decide +kernel
theorem dJ1_indexOf_4cfef_16 : decode cJ1_indexOf_4cfef 16 = .ok (.aload_n 0, 1) := by decide +kernel
theorem dJ1_indexOf_4cfef_17 : decode cJ1_indexOf_4cfef 17 = .ok (.arraylength, 1) := by decide +kernel
theorem dJ1_indexOf_4cfef_18 : decode cJ1_indexOf_4cfef 18 = .ok (.invokestatic 38, 3) := by decide +kernel
theorem dJ1_indexOf_4cfef_21 : decode cJ1_indexOf_4cfef 21 = .ok (.istore_n 3, 1) := by decide +kernel
theorem dJ1_indexOf_4cfef_22 : decode cJ1_indexOf_4cfef 22 = .ok (.iload_n 2, 1) := by decide +kernel
theorem dJ1_indexOf_4cfef_23 : decode cJ1_indexOf_4cfef 23 = .ok (.iload_n 3, 1) := by decide +kernel
theorem dJ1_indexOf_4cfef_24 : decode cJ1_indexOf_4cfef 24 = .ok (.if_icmp .lt 5, 3) := by decide +kernel
theorem dJ1_indexOf_4cfef_27 : decode cJ1_indexOf_4cfef 27 = .ok (.iconst (-1), 1) := by decide +kernel
theorem dJ1_indexOf_4cfef_28 : decode cJ1_indexOf_4cfef 28 = .ok (.ireturn, 1) := by decide +kernel
theorem dJ1_indexOf_4cfef_29 : decode cJ1_indexOf_4cfef 29 = .ok (.aload_n 0, 1) := by decide +kernel
theorem dJ1_indexOf_4cfef_30 : decode cJ1_indexOf_4cfef 30 = .ok (.iload_n 1, 1) := by decide +kernel
theorem dJ1_indexOf_4cfef_31 : decode cJ1_indexOf_4cfef 31 = .ok (.iload_n 2, 1) := by decide +kernel
theorem dJ1_indexOf_4cfef_32 : decode cJ1_indexOf_4cfef 32 = .ok (.iload_n 3, 1) := by decide +kernel
theorem dJ1_indexOf_4cfef_33 : decode cJ1_indexOf_4cfef 33 = .ok (.invokestatic 95, 3) := by decide +kernel
theorem dJ1_indexOf_4cfef_36 : decode cJ1_indexOf_4cfef 36 = .ok (.ireturn, 1) := by decide +kernel
theorem dJ1_indexOfChar_4cfef_0 : decode cJ1_indexOfChar_4cfef 0 = .ok (.iload_n 1, 1) := by decide +kernel
theorem dJ1_indexOfChar_4cfef_1 : decode cJ1_indexOfChar_4cfef 1 = .ok (.i2b, 1) := by decide +kernel
theorem dJ1_indexOfChar_4cfef_2 : decode cJ1_indexOfChar_4cfef 2 = .ok (.istore 4, 2) := by decide +kernel
theorem dJ1_indexOfChar_4cfef_4 : decode cJ1_indexOfChar_4cfef 4 = .ok (.iload_n 2, 1) := by decide +kernel
theorem dJ1_indexOfChar_4cfef_5 : decode cJ1_indexOfChar_4cfef 5 = .ok (.istore 5, 2) := by decide +kernel
theorem dJ1_indexOfChar_4cfef_7 : decode cJ1_indexOfChar_4cfef 7 = .ok (.iload 5, 2) := by decide +kernel
theorem dJ1_indexOfChar_4cfef_9 : decode cJ1_indexOfChar_4cfef 9 = .ok (.iload_n 3, 1) := by decide +kernel
theorem dJ1_indexOfChar_4cfef_10 : decode cJ1_indexOfChar_4cfef 10 = .ok (.if_icmp .ge 21, 3) := by decide +kernel
theorem dJ1_indexOfChar_4cfef_13 : decode cJ1_indexOfChar_4cfef 13 = .ok (.aload_n 0, 1) := by decide +kernel
theorem dJ1_indexOfChar_4cfef_14 : decode cJ1_indexOfChar_4cfef 14 = .ok (.iload 5, 2) := by decide +kernel
theorem dJ1_indexOfChar_4cfef_16 : decode cJ1_indexOfChar_4cfef 16 = .ok (.baload, 1) := by decide +kernel
theorem dJ1_indexOfChar_4cfef_17 : decode cJ1_indexOfChar_4cfef 17 = .ok (.iload 4, 2) := by decide +kernel
theorem dJ1_indexOfChar_4cfef_19 : decode cJ1_indexOfChar_4cfef 19 = .ok (.if_icmp .ne 6, 3) := by decide +kernel
theorem dJ1_indexOfChar_4cfef_22 : decode cJ1_indexOfChar_4cfef 22 = .ok (.iload 5, 2) := by decide +kernel
theorem dJ1_indexOfChar_4cfef_24 : decode cJ1_indexOfChar_4cfef 24 = .ok (.ireturn, 1) := by decide +kernel
theorem dJ1_indexOfChar_4cfef_25 : decode cJ1_indexOfChar_4cfef 25 = .ok (.iinc 5 1, 3) := by decide +kernel
theorem dJ1_indexOfChar_4cfef_28 : decode cJ1_indexOfChar_4cfef 28 = .ok (.goto (-21), 3) := by decide +kernel
theorem dJ1_indexOfChar_4cfef_31 : decode cJ1_indexOfChar_4cfef 31 = .ok (.iconst (-1), 1) := by decide +kernel
theorem dJ1_indexOfChar_4cfef_32 : decode cJ1_indexOfChar_4cfef 32 = .ok (.ireturn, 1) := by decide +kernel
theorem dJ2_getChar_3b067_0 : decode cJ2_getChar_3b067 0 = .ok (.getstatic 44, 3) := by decide +kernel
theorem dJ2_getChar_3b067_3 : decode cJ2_getChar_3b067 3 = .ok (.ifCond .ne 25, 3) := by decide +kernel
theorem dJ2_getChar_3b067_6 : decode cJ2_getChar_3b067 6 = .ok (.iload_n 1, 1) := by decide +kernel
theorem dJ2_getChar_3b067_7 : decode cJ2_getChar_3b067 7 = .ok (.ifCond .lt 11, 3) := by decide +kernel
theorem dJ2_getChar_3b067_10 : decode cJ2_getChar_3b067 10 = .ok (.iload_n 1, 1) := by decide +kernel
theorem dJ2_getChar_3b067_11 : decode cJ2_getChar_3b067 11 = .ok (.aload_n 0, 1) := by decide +kernel
theorem dJ2_getChar_3b067_12 : decode cJ2_getChar_3b067 12 = .ok (.invokestatic 48, 3) := by decide +kernel
theorem dJ2_getChar_3b067_15 : decode cJ2_getChar_3b067 15 = .ok (.if_icmp .lt 13, 3) := by decide +kernel
theorem dJ2_getChar_3b067_18 : decode cJ2_getChar_3b067 18 = .ok (.new 52, 3) := by decide +kernel
theorem dJ2_getChar_3b067_21 : decode cJ2_getChar_3b067 21 = .ok (.dup, 1) := by decide +kernel
theorem dJ2_getChar_3b067_22 : decode cJ2_getChar_3b067 22 = .ok (.ldc 54, 2) := by decide +kernel
theorem dJ2_getChar_3b067_24 : decode cJ2_getChar_3b067 24 = .ok (.invokespecial 56, 3) := by decide +kernel
theorem dJ2_getChar_3b067_27 : decode cJ2_getChar_3b067 27 = .ok (.athrow, 1) := by decide +kernel
theorem dJ2_getChar_3b067_28 : decode cJ2_getChar_3b067 28 = .ok (.iload_n 1, 1) := by decide +kernel
theorem dJ2_getChar_3b067_29 : decode cJ2_getChar_3b067 29 = .ok (.iconst 1, 1) := by decide +kernel
theorem dJ2_getChar_3b067_30 : decode cJ2_getChar_3b067 30 = .ok (.ishl, 1) := by decide +kernel
theorem dJ2_getChar_3b067_31 : decode cJ2_getChar_3b067 31 = .ok (.istore_n 1, 1) := by decide +kernel
theorem dJ2_getChar_3b067_32 : decode cJ2_getChar_3b067 32 = .ok (.aload_n 0, 1) := by decide +kernel
theorem dJ2_getChar_3b067_33 : decode cJ2_getChar_3b067 33 = .ok (.iload_n 1, 1) := by decide +kernel
theorem dJ2_getChar_3b067_34 : decode cJ2_getChar_3b067 34 = .ok (.iinc 1 1, 3) := by decide +kernel
theorem dJ2_getChar_3b067_37 : decode cJ2_getChar_3b067 37 = .ok (.baload, 1) := by decide +kernel
theorem dJ2_getChar_3b067_38 : decode cJ2_getChar_3b067 38 = .ok (.sipush 255, 3) := by decide +kernel
theorem dJ2_getChar_3b067_41 : decode cJ2_getChar_3b067 41 = .ok (.iand, 1) := by decide +kernel
theorem dJ2_getChar_3b067_42 : decode cJ2_getChar_3b067 42 = .ok (.getstatic 59, 3) := by decide +kernel
theorem dJ2_getChar_3b067_45 : decode cJ2_getChar_3b067 45 = .ok (.ishl, 1) := by decide +kernel
theorem dJ2_getChar_3b067_46 : decode cJ2_getChar_3b067 46 = .ok (.aload_n 0, 1) := by decide +kernel
theorem dJ2_getChar_3b067_47 : decode cJ2_getChar_3b067 47 = .ok (.iload_n 1, 1) := by decide +kernel
theorem dJ2_getChar_3b067_48 : decode cJ2_getChar_3b067 48 = .ok (.baload, 1) := by decide +kernel
theorem dJ2_getChar_3b067_49 : decode cJ2_getChar_3b067 49 = .ok (.sipush 255, 3) := by decide +kernel
theorem dJ2_getChar_3b067_52 : decode cJ2_getChar_3b067 52 = .ok (.iand, 1) := by decide +kernel
theorem dJ2_getChar_3b067_53 : decode cJ2_getChar_3b067 53 = .ok (.getstatic 63, 3) := by decide +kernel
theorem dJ2_getChar_3b067_56 : decode cJ2_getChar_3b067 56 = .ok (.ishl, 1) := by decide +kernel
theorem dJ2_getChar_3b067_57 : decode cJ2_getChar_3b067 57 = .ok (.ior, 1) := by decide +kernel
theorem dJ2_getChar_3b067_58 : decode cJ2_getChar_3b067 58 = .ok (.i2c, 1) := by decide +kernel
theorem dJ2_getChar_3b067_59 : decode cJ2_getChar_3b067 59 = .ok (.ireturn, 1) := by decide +kernel
theorem dJ2_length_9d52b_0 : decode cJ2_length_9d52b 0 = .ok (.aload_n 0, 1) := by decide +kernel
theorem dJ2_length_9d52b_1 : decode cJ2_length_9d52b 1 = .ok (.arraylength, 1) := by decide +kernel
theorem dJ2_length_9d52b_2 : decode cJ2_length_9d52b 2 = .ok (.iconst 1, 1) := by decide +kernel
theorem dJ2_length_9d52b_3 : decode cJ2_length_9d52b 3 = .ok (.ishr, 1) := by decide +kernel
theorem dJ2_length_9d52b_4 : decode cJ2_length_9d52b 4 = .ok (.ireturn, 1) := by decide +kernel
theorem dJ2_indexOf_4cfef_0 : decode cJ2_indexOf_4cfef 0 = .ok (.iload_n 2, 1) := by decide +kernel
theorem dJ2_indexOf_4cfef_1 : decode cJ2_indexOf_4cfef 1 = .ok (.iconst 0, 1) := by decide +kernel
theorem dJ2_indexOf_4cfef_2 : decode cJ2_indexOf_4cfef 2 = .ok (.invokestatic 224, 3) := by decide +kernel
theorem dJ2_indexOf_4cfef_5 : decode cJ2_indexOf_4cfef 5 = .ok (.istore_n 2, 1) := by decide +kernel
theorem dJ2_indexOf_4cfef_6 : decode cJ2_indexOf_4cfef 6 = .ok (.iload_n 3, 1) := by decide +kernel
theorem dJ2_indexOf_4cfef_7 : decode cJ2_indexOf_4cfef 7 = .ok (.aload_n 0, 1) := by decide +kernel
theorem dJ2_indexOf_4cfef_8 : decode cJ2_indexOf_4cfef 8 = .ok (.arraylength, 1) := by decide +kernel
theorem dJ2_indexOf_4cfef_9 : decode cJ2_indexOf_4cfef 9 = .ok (.iconst 1, 1) := by decide +kernel
theorem dJ2_indexOf_4cfef_10 : decode cJ2_indexOf_4cfef 10 = .ok (.ishr, 1) := by decide +kernel
theorem dJ2_indexOf_4cfef_11 : decode cJ2_indexOf_4cfef 11 = .ok (.invokestatic 183, 3) := by decide +kernel
theorem dJ2_indexOf_4cfef_14 : decode cJ2_indexOf_4cfef 14 = .ok (.istore_n 3, 1) := by decide +kernel
theorem dJ2_indexOf_4cfef_15 : decode cJ2_indexOf_4cfef 15 = .ok (.iload_n 2, 1) := by decide +kernel
theorem dJ2_indexOf_4cfef_16 : decode cJ2_indexOf_4cfef 16 = .ok (.iload_n 3, 1) := by decide +kernel
theorem dJ2_indexOf_4cfef_17 : decode cJ2_indexOf_4cfef 17 = .ok (.if_icmp .lt 5, 3) := by decide +kernel
theorem dJ2_indexOf_4cfef_20 : decode cJ2_indexOf_4cfef 20 = .ok (.iconst (-1), 1) := by decide +kernel
theorem dJ2_indexOf_4cfef_21 : decode cJ2_indexOf_4cfef 21 = .ok (.ireturn, 1) := by decide +kernel
theorem dJ2_indexOf_4cfef_22 : decode cJ2_indexOf_4cfef 22 = .ok (.iload_n 1, 1) := by decide +kernel
theorem dJ2_indexOf_4cfef_23 : decode cJ2_indexOf_4cfef 23 = .ok (.ldc 227, 2) := by decide +kernel
theorem dJ2_indexOf_4cfef_25 : decode cJ2_indexOf_4cfef 25 = .ok (.if_icmp .ge 11, 3) := by decide +kernel
theorem dJ2_indexOf_4cfef_28 : decode cJ2_indexOf_4cfef 28 = .ok (.aload_n 0, 1) := by decide +kernel
theorem dJ2_indexOf_4cfef_29 : decode cJ2_indexOf_4cfef 29 = .ok (.iload_n 1, 1) := by decide +kernel
theorem dJ2_indexOf_4cfef_30 : decode cJ2_indexOf_4cfef 30 = .ok (.iload_n 2, 1) := by decide +kernel
theorem dJ2_indexOf_4cfef_31 : decode cJ2_indexOf_4cfef 31 = .ok (.iload_n 3, 1) := by decide +kernel
theorem dJ2_indexOf_4cfef_32 : decode cJ2_indexOf_4cfef 32 = .ok (.invokestatic 228, 3) := by decide +kernel
theorem dJ2_indexOf_4cfef_35 : decode cJ2_indexOf_4cfef 35 = .ok (.ireturn, 1) := by decide +kernel
theorem dJ2_indexOf_4cfef_36 : decode cJ2_indexOf_4cfef 36 = .ok (.aload_n 0, 1) := by decide +kernel
theorem dJ2_indexOf_4cfef_37 : decode cJ2_indexOf_4cfef 37 = .ok (.iload_n 1, 1) := by decide +kernel
theorem dJ2_indexOf_4cfef_38 : decode cJ2_indexOf_4cfef 38 = .ok (.iload_n 2, 1) := by decide +kernel
theorem dJ2_indexOf_4cfef_39 : decode cJ2_indexOf_4cfef 39 = .ok (.iload_n 3, 1) := by decide +kernel
theorem dJ2_indexOf_4cfef_40 : decode cJ2_indexOf_4cfef 40 = .ok (.invokestatic 232, 3) := by decide +kernel
theorem dJ2_indexOf_4cfef_43 : decode cJ2_indexOf_4cfef 43 = .ok (.ireturn, 1) := by decide +kernel
theorem dJ2_indexOfChar_4cfef_0 : decode cJ2_indexOfChar_4cfef 0 = .ok (.iload_n 2, 1) := by decide +kernel
theorem dJ2_indexOfChar_4cfef_1 : decode cJ2_indexOfChar_4cfef 1 = .ok (.iload_n 3, 1) := by decide +kernel
theorem dJ2_indexOfChar_4cfef_2 : decode cJ2_indexOfChar_4cfef 2 = .ok (.aload_n 0, 1) := by decide +kernel
theorem dJ2_indexOfChar_4cfef_3 : decode cJ2_indexOfChar_4cfef 3 = .ok (.invokestatic 96, 3) := by decide +kernel
theorem dJ2_indexOfChar_4cfef_6 : decode cJ2_indexOfChar_4cfef 6 = .ok (.aload_n 0, 1) := by decide +kernel
theorem dJ2_indexOfChar_4cfef_7 : decode cJ2_indexOfChar_4cfef 7 = .ok (.iload_n 1, 1) := by decide +kernel
theorem dJ2_indexOfChar_4cfef_8 : decode cJ2_indexOfChar_4cfef 8 = .ok (.iload_n 2, 1) := by decide +kernel
theorem dJ2_indexOfChar_4cfef_9 : decode cJ2_indexOfChar_4cfef 9 = .ok (.iload_n 3, 1) := by decide +kernel
theorem dJ2_indexOfChar_4cfef_10 : decode cJ2_indexOfChar_4cfef 10 = .ok (.invokestatic 244, 3) := by decide +kernel
theorem dJ2_indexOfChar_4cfef_13 : decode cJ2_indexOfChar_4cfef 13 = .ok (.ireturn, 1) := by decide +kernel
theorem dJ2_indexOfCharUnsafe_4cfef_0 : decode cJ2_indexOfCharUnsafe_4cfef 0 = .ok (.iload_n 2, 1) := by decide +kernel
theorem dJ2_indexOfCharUnsafe_4cfef_1 : decode cJ2_indexOfCharUnsafe_4cfef 1 = .ok (.istore 4, 2) := by decide +kernel
theorem dJ2_indexOfCharUnsafe_4cfef_3 : decode cJ2_indexOfCharUnsafe_4cfef 3 = .ok (.iload 4, 2) := by decide +kernel
theorem dJ2_indexOfCharUnsafe_4cfef_5 : decode cJ2_indexOfCharUnsafe_4cfef 5 = .ok (.iload_n 3, 1) := by decide +kernel
theorem dJ2_indexOfCharUnsafe_4cfef_6 : decode cJ2_indexOfCharUnsafe_4cfef 6 = .ok (.if_icmp .ge 22, 3) := by decide +kernel
theorem dJ2_indexOfCharUnsafe_4cfef_9 : decode cJ2_indexOfCharUnsafe_4cfef 9 = .ok (.aload_n 0, 1) := by decide +kernel
theorem dJ2_indexOfCharUnsafe_4cfef_10 : decode cJ2_indexOfCharUnsafe_4cfef 10 = .ok (.iload 4, 2) := by decide +kernel
theorem dJ2_indexOfCharUnsafe_4cfef_12 : decode cJ2_indexOfCharUnsafe_4cfef 12 = .ok (.invokestatic 71, 3) := by decide +kernel
theorem dJ2_indexOfCharUnsafe_4cfef_15 : decode cJ2_indexOfCharUnsafe_4cfef 15 = .ok (.iload_n 1, 1) := by decide +kernel
theorem dJ2_indexOfCharUnsafe_4cfef_16 : decode cJ2_indexOfCharUnsafe_4cfef 16 = .ok (.if_icmp .ne 6, 3) := by decide +kernel
theorem dJ2_indexOfCharUnsafe_4cfef_19 : decode cJ2_indexOfCharUnsafe_4cfef 19 = .ok (.iload 4, 2) := by decide +kernel
theorem dJ2_indexOfCharUnsafe_4cfef_21 : decode cJ2_indexOfCharUnsafe_4cfef 21 = .ok (.ireturn, 1) := by decide +kernel
theorem dJ2_indexOfCharUnsafe_4cfef_22 : decode cJ2_indexOfCharUnsafe_4cfef 22 = .ok (.iinc 4 1, 3) := by decide +kernel
theorem dJ2_indexOfCharUnsafe_4cfef_25 : decode cJ2_indexOfCharUnsafe_4cfef 25 = .ok (.goto (-22), 3) := by decide +kernel
theorem dJ2_indexOfCharUnsafe_4cfef_28 : decode cJ2_indexOfCharUnsafe_4cfef 28 = .ok (.iconst (-1), 1) := by decide +kernel
theorem dJ2_indexOfCharUnsafe_4cfef_29 : decode cJ2_indexOfCharUnsafe_4cfef 29 = .ok (.ireturn, 1) := by decide +kernel
theorem dJ2_indexOfSupplementary_4cfef_0 : decode cJ2_indexOfSupplementary_4cfef 0 = .ok (.iload_n 1, 1) := by decide +kernel
theorem dJ2_indexOfSupplementary_4cfef_1 : decode cJ2_indexOfSupplementary_4cfef 1 = .ok (.invokestatic 164, 3) := by decide +kernel
theorem dJ2_indexOfSupplementary_4cfef_4 : decode cJ2_indexOfSupplementary_4cfef 4 = .ok (.ifCond .eq 65, 3) := by decide +kernel
theorem dJ2_indexOfSupplementary_4cfef_7 : decode cJ2_indexOfSupplementary_4cfef 7 = .ok (.iload_n 1, 1) := by decide +kernel
theorem dJ2_indexOfSupplementary_4cfef_8 : decode cJ2_indexOfSupplementary_4cfef 8 = .ok (.invokestatic 157, 3) := by decide +kernel
theorem dJ2_indexOfSupplementary_4cfef_11 : decode cJ2_indexOfSupplementary_4cfef 11 = .ok (.istore 4, 2) := by decide +kernel
theorem dJ2_indexOfSupplementary_4cfef_13 : decode cJ2_indexOfSupplementary_4cfef 13 = .ok (.iload_n 1, 1) := by decide +kernel
theorem dJ2_indexOfSupplementary_4cfef_14 : decode cJ2_indexOfSupplementary_4cfef 14 = .ok (.invokestatic 161, 3) := by decide +kernel
theorem dJ2_indexOfSupplementary_4cfef_17 : decode cJ2_indexOfSupplementary_4cfef 17 = .ok (.istore 5, 2) := by decide +kernel
theorem dJ2_indexOfSupplementary_4cfef_19 : decode cJ2_indexOfSupplementary_4cfef 19 = .ok (.iload_n 2, 1) := by decide +kernel
theorem dJ2_indexOfSupplementary_4cfef_20 : decode cJ2_indexOfSupplementary_4cfef 20 = .ok (.iload_n 3, 1) := by decide +kernel
theorem dJ2_indexOfSupplementary_4cfef_21 : decode cJ2_indexOfSupplementary_4cfef 21 = .ok (.aload_n 0, 1) := by decide +kernel
theorem dJ2_indexOfSupplementary_4cfef_22 : decode cJ2_indexOfSupplementary_4cfef 22 = .ok (.invokestatic 96, 3) := by decide +kernel
theorem dJ2_indexOfSupplementary_4cfef_25 : decode cJ2_indexOfSupplementary_4cfef 25 = .ok (.iload_n 2, 1) := by decide +kernel
theorem dJ2_indexOfSupplementary_4cfef_26 : decode cJ2_indexOfSupplementary_4cfef 26 = .ok (.istore 6, 2) := by decide +kernel
theorem dJ2_indexOfSupplementary_4cfef_28 : decode cJ2_indexOfSupplementary_4cfef 28 = .ok (.iload 6, 2) := by decide +kernel
theorem dJ2_indexOfSupplementary_4cfef_30 : decode cJ2_indexOfSupplementary_4cfef 30 = .ok (.iload_n 3, 1) := by decide +kernel
theorem dJ2_indexOfSupplementary_4cfef_31 : decode cJ2_indexOfSupplementary_4cfef 31 = .ok (.iconst 1, 1) := by decide +kernel
theorem dJ2_indexOfSupplementary_4cfef_32 : decode cJ2_indexOfSupplementary_4cfef 32 = .ok (.isub, 1) := by decide +kernel
theorem dJ2_indexOfSupplementary_4cfef_33 : decode cJ2_indexOfSupplementary_4cfef 33 = .ok (.if_icmp .ge 36, 3) := by decide +kernel
theorem dJ2_indexOfSupplementary_4cfef_36 : decode cJ2_indexOfSupplementary_4cfef 36 = .ok (.aload_n 0, 1) := by decide +kernel
theorem dJ2_indexOfSupplementary_4cfef_37 : decode cJ2_indexOfSupplementary_4cfef 37 = .ok (.iload 6, 2) := by decide +kernel
theorem dJ2_indexOfSupplementary_4cfef_39 : decode cJ2_indexOfSupplementary_4cfef 39 = .ok (.invokestatic 71, 3) := by decide +kernel
theorem dJ2_indexOfSupplementary_4cfef_42 : decode cJ2_indexOfSupplementary_4cfef 42 = .ok (.iload 4, 2) := by decide +kernel
theorem dJ2_indexOfSupplementary_4cfef_44 : decode cJ2_indexOfSupplementary_4cfef 44 = .ok (.if_icmp .ne 19, 3) := by decide +kernel
theorem dJ2_indexOfSupplementary_4cfef_47 : decode cJ2_indexOfSupplementary_4cfef 47 = .ok (.aload_n 0, 1) := by decide +kernel
theorem dJ2_indexOfSupplementary_4cfef_48 : decode cJ2_indexOfSupplementary_4cfef 48 = .ok (.iload 6, 2) := by decide +kernel
theorem dJ2_indexOfSupplementary_4cfef_50 : decode cJ2_indexOfSupplementary_4cfef 50 = .ok (.iconst 1, 1) := by decide +kernel
theorem dJ2_indexOfSupplementary_4cfef_51 : decode cJ2_indexOfSupplementary_4cfef 51 = .ok (.iadd, 1) := by decide +kernel
theorem dJ2_indexOfSupplementary_4cfef_52 : decode cJ2_indexOfSupplementary_4cfef 52 = .ok (.invokestatic 71, 3) := by decide +kernel
theorem dJ2_indexOfSupplementary_4cfef_55 : decode cJ2_indexOfSupplementary_4cfef 55 = .ok (.iload 5, 2) := by decide +kernel
theorem dJ2_indexOfSupplementary_4cfef_57 : decode cJ2_indexOfSupplementary_4cfef 57 = .ok (.if_icmp .ne 6, 3) := by decide +kernel
theorem dJ2_indexOfSupplementary_4cfef_60 : decode cJ2_indexOfSupplementary_4cfef 60 = .ok (.iload 6, 2) := by decide +kernel
theorem dJ2_indexOfSupplementary_4cfef_62 : decode cJ2_indexOfSupplementary_4cfef 62 = .ok (.ireturn, 1) := by decide +kernel
theorem dJ2_indexOfSupplementary_4cfef_63 : decode cJ2_indexOfSupplementary_4cfef 63 = .ok (.iinc 6 1, 3) := by decide +kernel
theorem dJ2_indexOfSupplementary_4cfef_66 : decode cJ2_indexOfSupplementary_4cfef 66 = .ok (.goto (-38), 3) := by decide +kernel
theorem dJ2_indexOfSupplementary_4cfef_69 : decode cJ2_indexOfSupplementary_4cfef 69 = .ok (.iconst (-1), 1) := by decide +kernel
theorem dJ2_indexOfSupplementary_4cfef_70 : decode cJ2_indexOfSupplementary_4cfef 70 = .ok (.ireturn, 1) := by decide +kernel
theorem dJ2_checkBoundsBeginEnd_d044e_0 : decode cJ2_checkBoundsBeginEnd_d044e 0 = .ok (.iload_n 0, 1) := by decide +kernel
theorem dJ2_checkBoundsBeginEnd_d044e_1 : decode cJ2_checkBoundsBeginEnd_d044e 1 = .ok (.iload_n 1, 1) := by decide +kernel
theorem dJ2_checkBoundsBeginEnd_d044e_2 : decode cJ2_checkBoundsBeginEnd_d044e 2 = .ok (.aload_n 2, 1) := by decide +kernel
theorem dJ2_checkBoundsBeginEnd_d044e_3 : decode cJ2_checkBoundsBeginEnd_d044e 3 = .ok (.invokestatic 48, 3) := by decide +kernel
theorem dJ2_checkBoundsBeginEnd_d044e_6 : decode cJ2_checkBoundsBeginEnd_d044e 6 = .ok (.invokestatic 241, 3) := by decide +kernel
theorem dJ2_checkBoundsBeginEnd_d044e_9 : decode cJ2_checkBoundsBeginEnd_d044e 9 = .ok (.return_, 1) := by decide +kernel
theorem dJ3_checkFromToIndex_8c36e_0 : decode cJ3_checkFromToIndex_8c36e 0 = .ok (.iload_n 0, 1) := by decide +kernel
theorem dJ3_checkFromToIndex_8c36e_1 : decode cJ3_checkFromToIndex_8c36e 1 = .ok (.ifCond .lt 13, 3) := by decide +kernel
theorem dJ3_checkFromToIndex_8c36e_4 : decode cJ3_checkFromToIndex_8c36e 4 = .ok (.iload_n 0, 1) := by decide +kernel
theorem dJ3_checkFromToIndex_8c36e_5 : decode cJ3_checkFromToIndex_8c36e 5 = .ok (.iload_n 1, 1) := by decide +kernel
theorem dJ3_checkFromToIndex_8c36e_6 : decode cJ3_checkFromToIndex_8c36e 6 = .ok (.if_icmp .gt 8, 3) := by decide +kernel
theorem dJ3_checkFromToIndex_8c36e_9 : decode cJ3_checkFromToIndex_8c36e 9 = .ok (.iload_n 1, 1) := by decide +kernel
theorem dJ3_checkFromToIndex_8c36e_10 : decode cJ3_checkFromToIndex_8c36e 10 = .ok (.iload_n 2, 1) := by decide +kernel
theorem dJ3_checkFromToIndex_8c36e_11 : decode cJ3_checkFromToIndex_8c36e 11 = .ok (.if_icmp .le 11, 3) := by decide +kernel
theorem dJ3_checkFromToIndex_8c36e_14 : decode cJ3_checkFromToIndex_8c36e 14 = .ok (.aload_n 3, 1) := by decide +kernel
theorem dJ3_checkFromToIndex_8c36e_15 : decode cJ3_checkFromToIndex_8c36e 15 = .ok (.iload_n 0, 1) := by decide +kernel
theorem dJ3_checkFromToIndex_8c36e_16 : decode cJ3_checkFromToIndex_8c36e 16 = .ok (.iload_n 1, 1) := by decide +kernel
theorem dJ3_checkFromToIndex_8c36e_17 : decode cJ3_checkFromToIndex_8c36e 17 = .ok (.iload_n 2, 1) := by decide +kernel
theorem dJ3_checkFromToIndex_8c36e_18 : decode cJ3_checkFromToIndex_8c36e 18 = .ok (.invokestatic 99, 3) := by decide +kernel
theorem dJ3_checkFromToIndex_8c36e_21 : decode cJ3_checkFromToIndex_8c36e 21 = .ok (.athrow, 1) := by decide +kernel
theorem dJ3_checkFromToIndex_8c36e_22 : decode cJ3_checkFromToIndex_8c36e 22 = .ok (.iload_n 0, 1) := by decide +kernel
theorem dJ3_checkFromToIndex_8c36e_23 : decode cJ3_checkFromToIndex_8c36e 23 = .ok (.ireturn, 1) := by decide +kernel
end
section
def wX (cI : ClassId) (q : Nat → Nat) (v : Nat → Int32) (f : Nat → Nat → Int32) (z : Int64) : va_W := [(q 0, .inr (6, [.ref (q 1), .ref (q 3), .ref (q 8), .ref (q 12), .ref (q 21), .ref (q 30), .ref (q 33), .int (v 0), .int (v 1)])), (q 1, .inr (1, [.ref (q 2), .int (v 2)])), (q 2, .inl (cI, 30, .inl (f 0))), (q 3, .inr (2, [.ref (q 4), .int (v 3), .int (v 4), .int (v 5)])), (q 4, .inr (3, [.ref (q 5), .ref (q 6), .ref (q 7), .int (v 6)])), (q 5, .inl (cI, 4, .inl (f 1))), (q 6, .inl (cI, 4, .inl (f 2))), (q 7, .inl (cI, 4, .inl (f 3))), (q 8, .inr (3, [.ref (q 9), .ref (q 10), .ref (q 11), .int (v 7)])), (q 9, .inl (cI, 4, .inl (f 4))), (q 10, .inl (cI, 4, .inl (f 5))), (q 11, .inl (cI, 4, .inl (f 6))), (q 12, .inr (4, [.ref (q 13), .ref (q 14), .ref (q 15), .ref (q 16), .ref (q 17), .int (v 8), .ref (q 18), .ref (q 19), .ref (q 20), .int (v 9), .int (v 10)])), (q 13, .inl (cI, 4, .inl (f 7))), (q 14, .inl (cI, 8, .inl (f 8))), (q 15, .inl (cI, 8, .inl (f 9))), (q 16, .inl (cI, 8, .inl (f 10))), (q 17, .inl (cI, 8, .inl (f 11))), (q 18, .inl (cI, 8, .inl (f 12))), (q 19, .inl (cI, 8, .inl (f 13))), (q 20, .inl (cI, 8, .inl (f 14))), (q 21, .inr (4, [.ref (q 22), .ref (q 23), .ref (q 24), .ref (q 25), .ref (q 26), .int (v 11), .ref (q 27), .ref (q 28), .ref (q 29), .int (v 12), .int (v 13)])), (q 22, .inl (cI, 4, .inl (f 15))), (q 23, .inl (cI, 8, .inl (f 16))), (q 24, .inl (cI, 8, .inl (f 17))), (q 25, .inl (cI, 8, .inl (f 18))), (q 26, .inl (cI, 8, .inl (f 19))), (q 27, .inl (cI, 8, .inl (f 20))), (q 28, .inl (cI, 8, .inl (f 21))), (q 29, .inl (cI, 8, .inl (f 22))), (q 30, .inr (0, [.ref (q 31), .ref (q 32), .int (v 14)])), (q 31, .inl (cI, 4, .inl (f 23))), (q 32, .inl (cI, 4, .inl (f 24))), (q 33, .inr (5, [.ref (q 34), .long z, .int (v 15), .int (v 16)])), (q 34, .inl (cI, 4, .inl (f 25)))]
section
variable {p : Program} {l : Launch} {e : Env} {R : Room} {s : State} {m : MethodId} {args : Array Value} {below : List Frame} {meth : Method} {c : Code} {H : Heap} {locs : List Loc} {cells slots : Nat} {Q : State → Prop} {cc : ByteArray} {pc : Nat} {ls : Array Slot} {rest : List Value} {D : va_G} {A : Nat → Prop} {cI : ClassId} {q : Nat → Nat} {v : Nat → Int32} {f : Nat → Nat → Int32} {z : Int64} {H0 : Heap} {Ts : List Cond} {own : String} {index : Nat}
theorem xg_r0_1 (hx : p.tables.exec = Jvm.exec) (hb : c.code = cc) (hts : ∀ w ∈ Ts, w.before args s = true) (hin : ∀ w ∈ wsX60, w ∈ Ts) (hown : s.vm.findClass own = some m.cls) (hK : va_K D vwCl [(cI, .int)] s) (hP : va_P D vwCl (wX cI q v f z) H) (hl : (Cond.fieldLink own index "EndedByOthers" "page" "LEndedByOthers$Page;").before args s = true) (hdg : decode cc pc = .ok (.getfield index, 3)) (kk : W p l e R s m args below meth c H locs cells slots Q (F0 m (pc + 3) ls (.ref (q 1) :: rest))) : W p l e R s m args below meth c H locs cells slots Q (F0 m pc ls (.ref (q 0) :: rest)) :=
  va_get (D := D) (ci := 6) (C := RX6) (T := TX6) (N := 9) hx hb hts hin hown hK hP 0 rfl rfl 0 (by decide) hl (fun _ h9 => h9) rfl hdg kk
theorem xg_r0_3 (hx : p.tables.exec = Jvm.exec) (hb : c.code = cc) (hts : ∀ w ∈ Ts, w.before args s = true) (hin : ∀ w ∈ wsX60, w ∈ Ts) (hown : s.vm.findClass own = some m.cls) (hK : va_K D vwCl [(cI, .int)] s) (hP : va_P D vwCl (wX cI q v f z) H) (hl : (Cond.fieldLink own index "EndedByOthers" "reader" "LEndedByOthers$Reader;").before args s = true) (hdg : decode cc pc = .ok (.getfield index, 3)) (kk : W p l e R s m args below meth c H locs cells slots Q (F0 m (pc + 3) ls (.ref (q 3) :: rest))) : W p l e R s m args below meth c H locs cells slots Q (F0 m pc ls (.ref (q 0) :: rest)) :=
  va_get (D := D) (ci := 6) (C := RX6) (T := TX6) (N := 9) hx hb hts hin hown hK hP 0 rfl rfl 1 (by decide) hl (fun _ h9 => h9) rfl hdg kk
theorem xg_r0_8 (hx : p.tables.exec = Jvm.exec) (hb : c.code = cc) (hts : ∀ w ∈ Ts, w.before args s = true) (hin : ∀ w ∈ wsX60, w ∈ Ts) (hown : s.vm.findClass own = some m.cls) (hK : va_K D vwCl [(cI, .int)] s) (hP : va_P D vwCl (wX cI q v f z) H) (hl : (Cond.fieldLink own index "EndedByOthers" "room" "LEndedByOthers$Room;").before args s = true) (hdg : decode cc pc = .ok (.getfield index, 3)) (kk : W p l e R s m args below meth c H locs cells slots Q (F0 m (pc + 3) ls (.ref (q 8) :: rest))) : W p l e R s m args below meth c H locs cells slots Q (F0 m pc ls (.ref (q 0) :: rest)) :=
  va_get (D := D) (ci := 6) (C := RX6) (T := TX6) (N := 9) hx hb hts hin hown hK hP 0 rfl rfl 2 (by decide) hl (fun _ h9 => h9) rfl hdg kk
theorem xg_r0_12 (hx : p.tables.exec = Jvm.exec) (hb : c.code = cc) (hts : ∀ w ∈ Ts, w.before args s = true) (hin : ∀ w ∈ wsX60, w ∈ Ts) (hown : s.vm.findClass own = some m.cls) (hK : va_K D vwCl [(cI, .int)] s) (hP : va_P D vwCl (wX cI q v f z) H) (hl : (Cond.fieldLink own index "EndedByOthers" "scene" "LEndedByOthers$Scene;").before args s = true) (hdg : decode cc pc = .ok (.getfield index, 3)) (kk : W p l e R s m args below meth c H locs cells slots Q (F0 m (pc + 3) ls (.ref (q 12) :: rest))) : W p l e R s m args below meth c H locs cells slots Q (F0 m pc ls (.ref (q 0) :: rest)) :=
  va_get (D := D) (ci := 6) (C := RX6) (T := TX6) (N := 9) hx hb hts hin hown hK hP 0 rfl rfl 3 (by decide) hl (fun _ h9 => h9) rfl hdg kk
theorem xg_r0_21 (hx : p.tables.exec = Jvm.exec) (hb : c.code = cc) (hts : ∀ w ∈ Ts, w.before args s = true) (hin : ∀ w ∈ wsX60, w ∈ Ts) (hown : s.vm.findClass own = some m.cls) (hK : va_K D vwCl [(cI, .int)] s) (hP : va_P D vwCl (wX cI q v f z) H) (hl : (Cond.fieldLink own index "EndedByOthers" "image" "LEndedByOthers$Scene;").before args s = true) (hdg : decode cc pc = .ok (.getfield index, 3)) (kk : W p l e R s m args below meth c H locs cells slots Q (F0 m (pc + 3) ls (.ref (q 21) :: rest))) : W p l e R s m args below meth c H locs cells slots Q (F0 m pc ls (.ref (q 0) :: rest)) :=
  va_get (D := D) (ci := 6) (C := RX6) (T := TX6) (N := 9) hx hb hts hin hown hK hP 0 rfl rfl 4 (by decide) hl (fun _ h9 => h9) rfl hdg kk
theorem xg_r0_30 (hx : p.tables.exec = Jvm.exec) (hb : c.code = cc) (hts : ∀ w ∈ Ts, w.before args s = true) (hin : ∀ w ∈ wsX60, w ∈ Ts) (hown : s.vm.findClass own = some m.cls) (hK : va_K D vwCl [(cI, .int)] s) (hP : va_P D vwCl (wX cI q v f z) H) (hl : (Cond.fieldLink own index "EndedByOthers" "matching" "LEndedByOthers$Matching;").before args s = true) (hdg : decode cc pc = .ok (.getfield index, 3)) (kk : W p l e R s m args below meth c H locs cells slots Q (F0 m (pc + 3) ls (.ref (q 30) :: rest))) : W p l e R s m args below meth c H locs cells slots Q (F0 m pc ls (.ref (q 0) :: rest)) :=
  va_get (D := D) (ci := 6) (C := RX6) (T := TX6) (N := 9) hx hb hts hin hown hK hP 0 rfl rfl 5 (by decide) hl (fun _ h9 => h9) rfl hdg kk
theorem xg_r0_33 (hx : p.tables.exec = Jvm.exec) (hb : c.code = cc) (hts : ∀ w ∈ Ts, w.before args s = true) (hin : ∀ w ∈ wsX60, w ∈ Ts) (hown : s.vm.findClass own = some m.cls) (hK : va_K D vwCl [(cI, .int)] s) (hP : va_P D vwCl (wX cI q v f z) H) (hl : (Cond.fieldLink own index "EndedByOthers" "trial" "LEndedByOthers$Trial;").before args s = true) (hdg : decode cc pc = .ok (.getfield index, 3)) (kk : W p l e R s m args below meth c H locs cells slots Q (F0 m (pc + 3) ls (.ref (q 33) :: rest))) : W p l e R s m args below meth c H locs cells slots Q (F0 m pc ls (.ref (q 0) :: rest)) :=
  va_get (D := D) (ci := 6) (C := RX6) (T := TX6) (N := 9) hx hb hts hin hown hK hP 0 rfl rfl 6 (by decide) hl (fun _ h9 => h9) rfl hdg kk
theorem xg_s0 (hx : p.tables.exec = Jvm.exec) (hb : c.code = cc) (hts : ∀ w ∈ Ts, w.before args s = true) (hin : ∀ w ∈ wsX60, w ∈ Ts) (hown : s.vm.findClass own = some m.cls) (hK : va_K D vwCl [(cI, .int)] s) (hP : va_P D vwCl (wX cI q v f z) H) (hl : (Cond.fieldLink own index "EndedByOthers" "imageKept" "Z").before args s = true) {x : Int32} (hv : v 0 = x) (hdg : decode cc pc = .ok (.getfield index, 3)) (kk : W p l e R s m args below meth c H locs cells slots Q (F0 m (pc + 3) ls (.int x :: rest))) : W p l e R s m args below meth c H locs cells slots Q (F0 m pc ls (.ref (q 0) :: rest)) := by
  subst hv
  exact va_get (D := D) (ci := 6) (C := RX6) (T := TX6) (N := 9) hx hb hts hin hown hK hP 0 rfl rfl 7 (by decide) hl (fun _ h9 => h9) rfl hdg kk
theorem xp_s0 (hx : p.tables.exec = Jvm.exec) (hb : c.code = cc) (hts : ∀ w ∈ Ts, w.before args s = true) (hin : ∀ w ∈ wsX60, w ∈ Ts) (hown : s.vm.findClass own = some m.cls) (hK : va_K D vwCl [(cI, .int)] s) (hP : va_P D vwCl (wX cI q v f z) H) (hD : va_D A (wX cI q v f z)) (hS : va_S A H0 H locs) {x : Int32} (hl : (Cond.fieldLink own index "EndedByOthers" "imageKept" "Z").before args s = true) (hn : narrow .boolean (.int x) = .int x) (hf : fits .boolean (.int x) = true) (hdg : decode cc pc = .ok (.putfield index, 3)) (kk : ∀ (H1 : Heap) (locs1 : List Loc), va_P D vwCl (wX cI q (upd v 0 x) f z) H1 → va_D A (wX cI q (upd v 0 x) f z) → va_S A H0 H1 locs1 → W p l e R s m args below meth c H1 locs1 cells slots Q (F0 m (pc + 3) ls rest)) : W p l e R s m args below meth c H locs cells slots Q (F0 m pc ls (.int x :: .ref (q 0) :: rest)) :=
  va_put (D := D) (ci := 6) (C := RX6) (T := TX6) (N := 9) (v := .int x) (ty := .boolean) hx hb hts hin tyX6 tyX6_ok nmX6 hown hK hP hD hS 0 rfl rfl 7 (by decide) hl (fun _ h9 => h9) rfl (by decide +kernel) hn hf (Nat.le_of_ble_eq_true rfl) hdg (fun H1 locs1 hP hD hS => kk H1 locs1 hP hD hS)
theorem xg_s1 (hx : p.tables.exec = Jvm.exec) (hb : c.code = cc) (hts : ∀ w ∈ Ts, w.before args s = true) (hin : ∀ w ∈ wsX60, w ∈ Ts) (hown : s.vm.findClass own = some m.cls) (hK : va_K D vwCl [(cI, .int)] s) (hP : va_P D vwCl (wX cI q v f z) H) (hl : (Cond.fieldLink own index "EndedByOthers" "roomsRead" "I").before args s = true) {x : Int32} (hv : v 1 = x) (hdg : decode cc pc = .ok (.getfield index, 3)) (kk : W p l e R s m args below meth c H locs cells slots Q (F0 m (pc + 3) ls (.int x :: rest))) : W p l e R s m args below meth c H locs cells slots Q (F0 m pc ls (.ref (q 0) :: rest)) := by
  subst hv
  exact va_get (D := D) (ci := 6) (C := RX6) (T := TX6) (N := 9) hx hb hts hin hown hK hP 0 rfl rfl 8 (by decide) hl (fun _ h9 => h9) rfl hdg kk
theorem xp_s1 (hx : p.tables.exec = Jvm.exec) (hb : c.code = cc) (hts : ∀ w ∈ Ts, w.before args s = true) (hin : ∀ w ∈ wsX60, w ∈ Ts) (hown : s.vm.findClass own = some m.cls) (hK : va_K D vwCl [(cI, .int)] s) (hP : va_P D vwCl (wX cI q v f z) H) (hD : va_D A (wX cI q v f z)) (hS : va_S A H0 H locs) {x : Int32} (hl : (Cond.fieldLink own index "EndedByOthers" "roomsRead" "I").before args s = true) (hdg : decode cc pc = .ok (.putfield index, 3)) (kk : ∀ (H1 : Heap) (locs1 : List Loc), va_P D vwCl (wX cI q (upd v 1 x) f z) H1 → va_D A (wX cI q (upd v 1 x) f z) → va_S A H0 H1 locs1 → W p l e R s m args below meth c H1 locs1 cells slots Q (F0 m (pc + 3) ls rest)) : W p l e R s m args below meth c H locs cells slots Q (F0 m pc ls (.int x :: .ref (q 0) :: rest)) :=
  va_put (D := D) (ci := 6) (C := RX6) (T := TX6) (N := 9) (v := .int x) (ty := .int) hx hb hts hin tyX6 tyX6_ok nmX6 hown hK hP hD hS 0 rfl rfl 8 (by decide) hl (fun _ h9 => h9) rfl (by decide +kernel) rfl rfl (Nat.le_of_ble_eq_true rfl) hdg (fun H1 locs1 hP hD hS => kk H1 locs1 hP hD hS)
theorem xg_r1_2 (hx : p.tables.exec = Jvm.exec) (hb : c.code = cc) (hts : ∀ w ∈ Ts, w.before args s = true) (hin : ∀ w ∈ wsX10, w ∈ Ts) (hown : s.vm.findClass own = some m.cls) (hK : va_K D vwCl [(cI, .int)] s) (hP : va_P D vwCl (wX cI q v f z) H) (hl : (Cond.fieldLink own index "EndedByOthers$Page" "codes" "[I").before args s = true) (hdg : decode cc pc = .ok (.getfield index, 3)) (kk : W p l e R s m args below meth c H locs cells slots Q (F0 m (pc + 3) ls (.ref (q 2) :: rest))) : W p l e R s m args below meth c H locs cells slots Q (F0 m pc ls (.ref (q 1) :: rest)) :=
  va_get (D := D) (ci := 1) (C := RX1) (T := TX1) (N := 2) hx hb hts hin hown hK hP 1 rfl rfl 0 (by decide) hl (fun _ h9 => h9) rfl hdg kk
theorem xg_s2 (hx : p.tables.exec = Jvm.exec) (hb : c.code = cc) (hts : ∀ w ∈ Ts, w.before args s = true) (hin : ∀ w ∈ wsX10, w ∈ Ts) (hown : s.vm.findClass own = some m.cls) (hK : va_K D vwCl [(cI, .int)] s) (hP : va_P D vwCl (wX cI q v f z) H) (hl : (Cond.fieldLink own index "EndedByOthers$Page" "length" "I").before args s = true) {x : Int32} (hv : v 2 = x) (hdg : decode cc pc = .ok (.getfield index, 3)) (kk : W p l e R s m args below meth c H locs cells slots Q (F0 m (pc + 3) ls (.int x :: rest))) : W p l e R s m args below meth c H locs cells slots Q (F0 m pc ls (.ref (q 1) :: rest)) := by
  subst hv
  exact va_get (D := D) (ci := 1) (C := RX1) (T := TX1) (N := 2) hx hb hts hin hown hK hP 1 rfl rfl 1 (by decide) hl (fun _ h9 => h9) rfl hdg kk
theorem xp_s2 (hx : p.tables.exec = Jvm.exec) (hb : c.code = cc) (hts : ∀ w ∈ Ts, w.before args s = true) (hin : ∀ w ∈ wsX10, w ∈ Ts) (hown : s.vm.findClass own = some m.cls) (hK : va_K D vwCl [(cI, .int)] s) (hP : va_P D vwCl (wX cI q v f z) H) (hD : va_D A (wX cI q v f z)) (hS : va_S A H0 H locs) {x : Int32} (hl : (Cond.fieldLink own index "EndedByOthers$Page" "length" "I").before args s = true) (hdg : decode cc pc = .ok (.putfield index, 3)) (kk : ∀ (H1 : Heap) (locs1 : List Loc), va_P D vwCl (wX cI q (upd v 2 x) f z) H1 → va_D A (wX cI q (upd v 2 x) f z) → va_S A H0 H1 locs1 → W p l e R s m args below meth c H1 locs1 cells slots Q (F0 m (pc + 3) ls rest)) : W p l e R s m args below meth c H locs cells slots Q (F0 m pc ls (.int x :: .ref (q 1) :: rest)) :=
  va_put (D := D) (ci := 1) (C := RX1) (T := TX1) (N := 2) (v := .int x) (ty := .int) hx hb hts hin tyX1 tyX1_ok nmX1 hown hK hP hD hS 1 rfl rfl 1 (by decide) hl (fun _ h9 => h9) rfl (by decide +kernel) rfl rfl (Nat.le_of_ble_eq_true rfl) hdg (fun H1 locs1 hP hD hS => kk H1 locs1 hP hD hS)
theorem xg_r3_4 (hx : p.tables.exec = Jvm.exec) (hb : c.code = cc) (hts : ∀ w ∈ Ts, w.before args s = true) (hin : ∀ w ∈ wsX20, w ∈ Ts) (hown : s.vm.findClass own = some m.cls) (hK : va_K D vwCl [(cI, .int)] s) (hP : va_P D vwCl (wX cI q v f z) H) (hl : (Cond.fieldLink own index "EndedByOthers$Reader" "draft" "LEndedByOthers$Room;").before args s = true) (hdg : decode cc pc = .ok (.getfield index, 3)) (kk : W p l e R s m args below meth c H locs cells slots Q (F0 m (pc + 3) ls (.ref (q 4) :: rest))) : W p l e R s m args below meth c H locs cells slots Q (F0 m pc ls (.ref (q 3) :: rest)) :=
  va_get (D := D) (ci := 2) (C := RX2) (T := TX2) (N := 4) hx hb hts hin hown hK hP 3 rfl rfl 0 (by decide) hl (fun _ h9 => h9) rfl hdg kk
theorem xg_s3 (hx : p.tables.exec = Jvm.exec) (hb : c.code = cc) (hts : ∀ w ∈ Ts, w.before args s = true) (hin : ∀ w ∈ wsX20, w ∈ Ts) (hown : s.vm.findClass own = some m.cls) (hK : va_K D vwCl [(cI, .int)] s) (hP : va_P D vwCl (wX cI q v f z) H) (hl : (Cond.fieldLink own index "EndedByOthers$Reader" "opening" "I").before args s = true) {x : Int32} (hv : v 3 = x) (hdg : decode cc pc = .ok (.getfield index, 3)) (kk : W p l e R s m args below meth c H locs cells slots Q (F0 m (pc + 3) ls (.int x :: rest))) : W p l e R s m args below meth c H locs cells slots Q (F0 m pc ls (.ref (q 3) :: rest)) := by
  subst hv
  exact va_get (D := D) (ci := 2) (C := RX2) (T := TX2) (N := 4) hx hb hts hin hown hK hP 3 rfl rfl 1 (by decide) hl (fun _ h9 => h9) rfl hdg kk
theorem xp_s3 (hx : p.tables.exec = Jvm.exec) (hb : c.code = cc) (hts : ∀ w ∈ Ts, w.before args s = true) (hin : ∀ w ∈ wsX20, w ∈ Ts) (hown : s.vm.findClass own = some m.cls) (hK : va_K D vwCl [(cI, .int)] s) (hP : va_P D vwCl (wX cI q v f z) H) (hD : va_D A (wX cI q v f z)) (hS : va_S A H0 H locs) {x : Int32} (hl : (Cond.fieldLink own index "EndedByOthers$Reader" "opening" "I").before args s = true) (hdg : decode cc pc = .ok (.putfield index, 3)) (kk : ∀ (H1 : Heap) (locs1 : List Loc), va_P D vwCl (wX cI q (upd v 3 x) f z) H1 → va_D A (wX cI q (upd v 3 x) f z) → va_S A H0 H1 locs1 → W p l e R s m args below meth c H1 locs1 cells slots Q (F0 m (pc + 3) ls rest)) : W p l e R s m args below meth c H locs cells slots Q (F0 m pc ls (.int x :: .ref (q 3) :: rest)) :=
  va_put (D := D) (ci := 2) (C := RX2) (T := TX2) (N := 4) (v := .int x) (ty := .int) hx hb hts hin tyX2 tyX2_ok nmX2 hown hK hP hD hS 3 rfl rfl 1 (by decide) hl (fun _ h9 => h9) rfl (by decide +kernel) rfl rfl (Nat.le_of_ble_eq_true rfl) hdg (fun H1 locs1 hP hD hS => kk H1 locs1 hP hD hS)
theorem xg_s4 (hx : p.tables.exec = Jvm.exec) (hb : c.code = cc) (hts : ∀ w ∈ Ts, w.before args s = true) (hin : ∀ w ∈ wsX20, w ∈ Ts) (hown : s.vm.findClass own = some m.cls) (hK : va_K D vwCl [(cI, .int)] s) (hP : va_P D vwCl (wX cI q v f z) H) (hl : (Cond.fieldLink own index "EndedByOthers$Reader" "lettersOfPart" "I").before args s = true) {x : Int32} (hv : v 4 = x) (hdg : decode cc pc = .ok (.getfield index, 3)) (kk : W p l e R s m args below meth c H locs cells slots Q (F0 m (pc + 3) ls (.int x :: rest))) : W p l e R s m args below meth c H locs cells slots Q (F0 m pc ls (.ref (q 3) :: rest)) := by
  subst hv
  exact va_get (D := D) (ci := 2) (C := RX2) (T := TX2) (N := 4) hx hb hts hin hown hK hP 3 rfl rfl 2 (by decide) hl (fun _ h9 => h9) rfl hdg kk
theorem xp_s4 (hx : p.tables.exec = Jvm.exec) (hb : c.code = cc) (hts : ∀ w ∈ Ts, w.before args s = true) (hin : ∀ w ∈ wsX20, w ∈ Ts) (hown : s.vm.findClass own = some m.cls) (hK : va_K D vwCl [(cI, .int)] s) (hP : va_P D vwCl (wX cI q v f z) H) (hD : va_D A (wX cI q v f z)) (hS : va_S A H0 H locs) {x : Int32} (hl : (Cond.fieldLink own index "EndedByOthers$Reader" "lettersOfPart" "I").before args s = true) (hdg : decode cc pc = .ok (.putfield index, 3)) (kk : ∀ (H1 : Heap) (locs1 : List Loc), va_P D vwCl (wX cI q (upd v 4 x) f z) H1 → va_D A (wX cI q (upd v 4 x) f z) → va_S A H0 H1 locs1 → W p l e R s m args below meth c H1 locs1 cells slots Q (F0 m (pc + 3) ls rest)) : W p l e R s m args below meth c H locs cells slots Q (F0 m pc ls (.int x :: .ref (q 3) :: rest)) :=
  va_put (D := D) (ci := 2) (C := RX2) (T := TX2) (N := 4) (v := .int x) (ty := .int) hx hb hts hin tyX2 tyX2_ok nmX2 hown hK hP hD hS 3 rfl rfl 2 (by decide) hl (fun _ h9 => h9) rfl (by decide +kernel) rfl rfl (Nat.le_of_ble_eq_true rfl) hdg (fun H1 locs1 hP hD hS => kk H1 locs1 hP hD hS)
theorem xg_s5 (hx : p.tables.exec = Jvm.exec) (hb : c.code = cc) (hts : ∀ w ∈ Ts, w.before args s = true) (hin : ∀ w ∈ wsX20, w ∈ Ts) (hown : s.vm.findClass own = some m.cls) (hK : va_K D vwCl [(cI, .int)] s) (hP : va_P D vwCl (wX cI q v f z) H) (hl : (Cond.fieldLink own index "EndedByOthers$Reader" "lastCode" "I").before args s = true) {x : Int32} (hv : v 5 = x) (hdg : decode cc pc = .ok (.getfield index, 3)) (kk : W p l e R s m args below meth c H locs cells slots Q (F0 m (pc + 3) ls (.int x :: rest))) : W p l e R s m args below meth c H locs cells slots Q (F0 m pc ls (.ref (q 3) :: rest)) := by
  subst hv
  exact va_get (D := D) (ci := 2) (C := RX2) (T := TX2) (N := 4) hx hb hts hin hown hK hP 3 rfl rfl 3 (by decide) hl (fun _ h9 => h9) rfl hdg kk
theorem xp_s5 (hx : p.tables.exec = Jvm.exec) (hb : c.code = cc) (hts : ∀ w ∈ Ts, w.before args s = true) (hin : ∀ w ∈ wsX20, w ∈ Ts) (hown : s.vm.findClass own = some m.cls) (hK : va_K D vwCl [(cI, .int)] s) (hP : va_P D vwCl (wX cI q v f z) H) (hD : va_D A (wX cI q v f z)) (hS : va_S A H0 H locs) {x : Int32} (hl : (Cond.fieldLink own index "EndedByOthers$Reader" "lastCode" "I").before args s = true) (hdg : decode cc pc = .ok (.putfield index, 3)) (kk : ∀ (H1 : Heap) (locs1 : List Loc), va_P D vwCl (wX cI q (upd v 5 x) f z) H1 → va_D A (wX cI q (upd v 5 x) f z) → va_S A H0 H1 locs1 → W p l e R s m args below meth c H1 locs1 cells slots Q (F0 m (pc + 3) ls rest)) : W p l e R s m args below meth c H locs cells slots Q (F0 m pc ls (.int x :: .ref (q 3) :: rest)) :=
  va_put (D := D) (ci := 2) (C := RX2) (T := TX2) (N := 4) (v := .int x) (ty := .int) hx hb hts hin tyX2 tyX2_ok nmX2 hown hK hP hD hS 3 rfl rfl 3 (by decide) hl (fun _ h9 => h9) rfl (by decide +kernel) rfl rfl (Nat.le_of_ble_eq_true rfl) hdg (fun H1 locs1 hP hD hS => kk H1 locs1 hP hD hS)
theorem xg_r4_5 (hx : p.tables.exec = Jvm.exec) (hb : c.code = cc) (hts : ∀ w ∈ Ts, w.before args s = true) (hin : ∀ w ∈ wsX30, w ∈ Ts) (hown : s.vm.findClass own = some m.cls) (hK : va_K D vwCl [(cI, .int)] s) (hP : va_P D vwCl (wX cI q v f z) H) (hl : (Cond.fieldLink own index "EndedByOthers$Room" "fitting" "[I").before args s = true) (hdg : decode cc pc = .ok (.getfield index, 3)) (kk : W p l e R s m args below meth c H locs cells slots Q (F0 m (pc + 3) ls (.ref (q 5) :: rest))) : W p l e R s m args below meth c H locs cells slots Q (F0 m pc ls (.ref (q 4) :: rest)) :=
  va_get (D := D) (ci := 3) (C := RX3) (T := TX3) (N := 4) hx hb hts hin hown hK hP 4 rfl rfl 0 (by decide) hl (fun _ h9 => h9) rfl hdg kk
theorem xg_r4_6 (hx : p.tables.exec = Jvm.exec) (hb : c.code = cc) (hts : ∀ w ∈ Ts, w.before args s = true) (hin : ∀ w ∈ wsX30, w ∈ Ts) (hown : s.vm.findClass own = some m.cls) (hK : va_K D vwCl [(cI, .int)] s) (hP : va_P D vwCl (wX cI q v f z) H) (hl : (Cond.fieldLink own index "EndedByOthers$Room" "kinds" "[I").before args s = true) (hdg : decode cc pc = .ok (.getfield index, 3)) (kk : W p l e R s m args below meth c H locs cells slots Q (F0 m (pc + 3) ls (.ref (q 6) :: rest))) : W p l e R s m args below meth c H locs cells slots Q (F0 m pc ls (.ref (q 4) :: rest)) :=
  va_get (D := D) (ci := 3) (C := RX3) (T := TX3) (N := 4) hx hb hts hin hown hK hP 4 rfl rfl 1 (by decide) hl (fun _ h9 => h9) rfl hdg kk
theorem xg_r4_7 (hx : p.tables.exec = Jvm.exec) (hb : c.code = cc) (hts : ∀ w ∈ Ts, w.before args s = true) (hin : ∀ w ∈ wsX30, w ∈ Ts) (hown : s.vm.findClass own = some m.cls) (hK : va_K D vwCl [(cI, .int)] s) (hP : va_P D vwCl (wX cI q v f z) H) (hl : (Cond.fieldLink own index "EndedByOthers$Room" "wants" "[I").before args s = true) (hdg : decode cc pc = .ok (.getfield index, 3)) (kk : W p l e R s m args below meth c H locs cells slots Q (F0 m (pc + 3) ls (.ref (q 7) :: rest))) : W p l e R s m args below meth c H locs cells slots Q (F0 m pc ls (.ref (q 4) :: rest)) :=
  va_get (D := D) (ci := 3) (C := RX3) (T := TX3) (N := 4) hx hb hts hin hown hK hP 4 rfl rfl 2 (by decide) hl (fun _ h9 => h9) rfl hdg kk
theorem xg_s6 (hx : p.tables.exec = Jvm.exec) (hb : c.code = cc) (hts : ∀ w ∈ Ts, w.before args s = true) (hin : ∀ w ∈ wsX30, w ∈ Ts) (hown : s.vm.findClass own = some m.cls) (hK : va_K D vwCl [(cI, .int)] s) (hP : va_P D vwCl (wX cI q v f z) H) (hl : (Cond.fieldLink own index "EndedByOthers$Room" "speakers" "I").before args s = true) {x : Int32} (hv : v 6 = x) (hdg : decode cc pc = .ok (.getfield index, 3)) (kk : W p l e R s m args below meth c H locs cells slots Q (F0 m (pc + 3) ls (.int x :: rest))) : W p l e R s m args below meth c H locs cells slots Q (F0 m pc ls (.ref (q 4) :: rest)) := by
  subst hv
  exact va_get (D := D) (ci := 3) (C := RX3) (T := TX3) (N := 4) hx hb hts hin hown hK hP 4 rfl rfl 3 (by decide) hl (fun _ h9 => h9) rfl hdg kk
theorem xp_s6 (hx : p.tables.exec = Jvm.exec) (hb : c.code = cc) (hts : ∀ w ∈ Ts, w.before args s = true) (hin : ∀ w ∈ wsX30, w ∈ Ts) (hown : s.vm.findClass own = some m.cls) (hK : va_K D vwCl [(cI, .int)] s) (hP : va_P D vwCl (wX cI q v f z) H) (hD : va_D A (wX cI q v f z)) (hS : va_S A H0 H locs) {x : Int32} (hl : (Cond.fieldLink own index "EndedByOthers$Room" "speakers" "I").before args s = true) (hdg : decode cc pc = .ok (.putfield index, 3)) (kk : ∀ (H1 : Heap) (locs1 : List Loc), va_P D vwCl (wX cI q (upd v 6 x) f z) H1 → va_D A (wX cI q (upd v 6 x) f z) → va_S A H0 H1 locs1 → W p l e R s m args below meth c H1 locs1 cells slots Q (F0 m (pc + 3) ls rest)) : W p l e R s m args below meth c H locs cells slots Q (F0 m pc ls (.int x :: .ref (q 4) :: rest)) :=
  va_put (D := D) (ci := 3) (C := RX3) (T := TX3) (N := 4) (v := .int x) (ty := .int) hx hb hts hin tyX3 tyX3_ok nmX3 hown hK hP hD hS 4 rfl rfl 3 (by decide) hl (fun _ h9 => h9) rfl (by decide +kernel) rfl rfl (Nat.le_of_ble_eq_true rfl) hdg (fun H1 locs1 hP hD hS => kk H1 locs1 hP hD hS)
theorem xg_r8_9 (hx : p.tables.exec = Jvm.exec) (hb : c.code = cc) (hts : ∀ w ∈ Ts, w.before args s = true) (hin : ∀ w ∈ wsX30, w ∈ Ts) (hown : s.vm.findClass own = some m.cls) (hK : va_K D vwCl [(cI, .int)] s) (hP : va_P D vwCl (wX cI q v f z) H) (hl : (Cond.fieldLink own index "EndedByOthers$Room" "fitting" "[I").before args s = true) (hdg : decode cc pc = .ok (.getfield index, 3)) (kk : W p l e R s m args below meth c H locs cells slots Q (F0 m (pc + 3) ls (.ref (q 9) :: rest))) : W p l e R s m args below meth c H locs cells slots Q (F0 m pc ls (.ref (q 8) :: rest)) :=
  va_get (D := D) (ci := 3) (C := RX3) (T := TX3) (N := 4) hx hb hts hin hown hK hP 8 rfl rfl 0 (by decide) hl (fun _ h9 => h9) rfl hdg kk
theorem xg_r8_10 (hx : p.tables.exec = Jvm.exec) (hb : c.code = cc) (hts : ∀ w ∈ Ts, w.before args s = true) (hin : ∀ w ∈ wsX30, w ∈ Ts) (hown : s.vm.findClass own = some m.cls) (hK : va_K D vwCl [(cI, .int)] s) (hP : va_P D vwCl (wX cI q v f z) H) (hl : (Cond.fieldLink own index "EndedByOthers$Room" "kinds" "[I").before args s = true) (hdg : decode cc pc = .ok (.getfield index, 3)) (kk : W p l e R s m args below meth c H locs cells slots Q (F0 m (pc + 3) ls (.ref (q 10) :: rest))) : W p l e R s m args below meth c H locs cells slots Q (F0 m pc ls (.ref (q 8) :: rest)) :=
  va_get (D := D) (ci := 3) (C := RX3) (T := TX3) (N := 4) hx hb hts hin hown hK hP 8 rfl rfl 1 (by decide) hl (fun _ h9 => h9) rfl hdg kk
theorem xg_r8_11 (hx : p.tables.exec = Jvm.exec) (hb : c.code = cc) (hts : ∀ w ∈ Ts, w.before args s = true) (hin : ∀ w ∈ wsX30, w ∈ Ts) (hown : s.vm.findClass own = some m.cls) (hK : va_K D vwCl [(cI, .int)] s) (hP : va_P D vwCl (wX cI q v f z) H) (hl : (Cond.fieldLink own index "EndedByOthers$Room" "wants" "[I").before args s = true) (hdg : decode cc pc = .ok (.getfield index, 3)) (kk : W p l e R s m args below meth c H locs cells slots Q (F0 m (pc + 3) ls (.ref (q 11) :: rest))) : W p l e R s m args below meth c H locs cells slots Q (F0 m pc ls (.ref (q 8) :: rest)) :=
  va_get (D := D) (ci := 3) (C := RX3) (T := TX3) (N := 4) hx hb hts hin hown hK hP 8 rfl rfl 2 (by decide) hl (fun _ h9 => h9) rfl hdg kk
theorem xg_s7 (hx : p.tables.exec = Jvm.exec) (hb : c.code = cc) (hts : ∀ w ∈ Ts, w.before args s = true) (hin : ∀ w ∈ wsX30, w ∈ Ts) (hown : s.vm.findClass own = some m.cls) (hK : va_K D vwCl [(cI, .int)] s) (hP : va_P D vwCl (wX cI q v f z) H) (hl : (Cond.fieldLink own index "EndedByOthers$Room" "speakers" "I").before args s = true) {x : Int32} (hv : v 7 = x) (hdg : decode cc pc = .ok (.getfield index, 3)) (kk : W p l e R s m args below meth c H locs cells slots Q (F0 m (pc + 3) ls (.int x :: rest))) : W p l e R s m args below meth c H locs cells slots Q (F0 m pc ls (.ref (q 8) :: rest)) := by
  subst hv
  exact va_get (D := D) (ci := 3) (C := RX3) (T := TX3) (N := 4) hx hb hts hin hown hK hP 8 rfl rfl 3 (by decide) hl (fun _ h9 => h9) rfl hdg kk
theorem xp_s7 (hx : p.tables.exec = Jvm.exec) (hb : c.code = cc) (hts : ∀ w ∈ Ts, w.before args s = true) (hin : ∀ w ∈ wsX30, w ∈ Ts) (hown : s.vm.findClass own = some m.cls) (hK : va_K D vwCl [(cI, .int)] s) (hP : va_P D vwCl (wX cI q v f z) H) (hD : va_D A (wX cI q v f z)) (hS : va_S A H0 H locs) {x : Int32} (hl : (Cond.fieldLink own index "EndedByOthers$Room" "speakers" "I").before args s = true) (hdg : decode cc pc = .ok (.putfield index, 3)) (kk : ∀ (H1 : Heap) (locs1 : List Loc), va_P D vwCl (wX cI q (upd v 7 x) f z) H1 → va_D A (wX cI q (upd v 7 x) f z) → va_S A H0 H1 locs1 → W p l e R s m args below meth c H1 locs1 cells slots Q (F0 m (pc + 3) ls rest)) : W p l e R s m args below meth c H locs cells slots Q (F0 m pc ls (.int x :: .ref (q 8) :: rest)) :=
  va_put (D := D) (ci := 3) (C := RX3) (T := TX3) (N := 4) (v := .int x) (ty := .int) hx hb hts hin tyX3 tyX3_ok nmX3 hown hK hP hD hS 8 rfl rfl 3 (by decide) hl (fun _ h9 => h9) rfl (by decide +kernel) rfl rfl (Nat.le_of_ble_eq_true rfl) hdg (fun H1 locs1 hP hD hS => kk H1 locs1 hP hD hS)
theorem xg_r12_13 (hx : p.tables.exec = Jvm.exec) (hb : c.code = cc) (hts : ∀ w ∈ Ts, w.before args s = true) (hin : ∀ w ∈ wsX40, w ∈ Ts) (hown : s.vm.findClass own = some m.cls) (hK : va_K D vwCl [(cI, .int)] s) (hP : va_P D vwCl (wX cI q v f z) H) (hl : (Cond.fieldLink own index "EndedByOthers$Scene" "wants" "[I").before args s = true) (hdg : decode cc pc = .ok (.getfield index, 3)) (kk : W p l e R s m args below meth c H locs cells slots Q (F0 m (pc + 3) ls (.ref (q 13) :: rest))) : W p l e R s m args below meth c H locs cells slots Q (F0 m pc ls (.ref (q 12) :: rest)) :=
  va_get (D := D) (ci := 4) (C := RX4) (T := TX4) (N := 11) hx hb hts hin hown hK hP 12 rfl rfl 0 (by decide) hl (fun _ h9 => h9) rfl hdg kk
theorem xg_r12_14 (hx : p.tables.exec = Jvm.exec) (hb : c.code = cc) (hts : ∀ w ∈ Ts, w.before args s = true) (hin : ∀ w ∈ wsX40, w ∈ Ts) (hown : s.vm.findClass own = some m.cls) (hK : va_K D vwCl [(cI, .int)] s) (hP : va_P D vwCl (wX cI q v f z) H) (hl : (Cond.fieldLink own index "EndedByOthers$Scene" "beginners" "[I").before args s = true) (hdg : decode cc pc = .ok (.getfield index, 3)) (kk : W p l e R s m args below meth c H locs cells slots Q (F0 m (pc + 3) ls (.ref (q 14) :: rest))) : W p l e R s m args below meth c H locs cells slots Q (F0 m pc ls (.ref (q 12) :: rest)) :=
  va_get (D := D) (ci := 4) (C := RX4) (T := TX4) (N := 11) hx hb hts hin hown hK hP 12 rfl rfl 1 (by decide) hl (fun _ h9 => h9) rfl hdg kk
theorem xg_r12_15 (hx : p.tables.exec = Jvm.exec) (hb : c.code = cc) (hts : ∀ w ∈ Ts, w.before args s = true) (hin : ∀ w ∈ wsX40, w ∈ Ts) (hown : s.vm.findClass own = some m.cls) (hK : va_K D vwCl [(cI, .int)] s) (hP : va_P D vwCl (wX cI q v f z) H) (hl : (Cond.fieldLink own index "EndedByOthers$Scene" "openings" "[I").before args s = true) (hdg : decode cc pc = .ok (.getfield index, 3)) (kk : W p l e R s m args below meth c H locs cells slots Q (F0 m (pc + 3) ls (.ref (q 15) :: rest))) : W p l e R s m args below meth c H locs cells slots Q (F0 m pc ls (.ref (q 12) :: rest)) :=
  va_get (D := D) (ci := 4) (C := RX4) (T := TX4) (N := 11) hx hb hts hin hown hK hP 12 rfl rfl 2 (by decide) hl (fun _ h9 => h9) rfl hdg kk
theorem xg_r12_16 (hx : p.tables.exec = Jvm.exec) (hb : c.code = cc) (hts : ∀ w ∈ Ts, w.before args s = true) (hin : ∀ w ∈ wsX40, w ∈ Ts) (hown : s.vm.findClass own = some m.cls) (hK : va_K D vwCl [(cI, .int)] s) (hP : va_P D vwCl (wX cI q v f z) H) (hl : (Cond.fieldLink own index "EndedByOthers$Scene" "enders" "[I").before args s = true) (hdg : decode cc pc = .ok (.getfield index, 3)) (kk : W p l e R s m args below meth c H locs cells slots Q (F0 m (pc + 3) ls (.ref (q 16) :: rest))) : W p l e R s m args below meth c H locs cells slots Q (F0 m pc ls (.ref (q 12) :: rest)) :=
  va_get (D := D) (ci := 4) (C := RX4) (T := TX4) (N := 11) hx hb hts hin hown hK hP 12 rfl rfl 3 (by decide) hl (fun _ h9 => h9) rfl hdg kk
theorem xg_r12_17 (hx : p.tables.exec = Jvm.exec) (hb : c.code = cc) (hts : ∀ w ∈ Ts, w.before args s = true) (hin : ∀ w ∈ wsX40, w ∈ Ts) (hown : s.vm.findClass own = some m.cls) (hK : va_K D vwCl [(cI, .int)] s) (hP : va_P D vwCl (wX cI q v f z) H) (hl : (Cond.fieldLink own index "EndedByOthers$Scene" "endings" "[I").before args s = true) (hdg : decode cc pc = .ok (.getfield index, 3)) (kk : W p l e R s m args below meth c H locs cells slots Q (F0 m (pc + 3) ls (.ref (q 17) :: rest))) : W p l e R s m args below meth c H locs cells slots Q (F0 m pc ls (.ref (q 12) :: rest)) :=
  va_get (D := D) (ci := 4) (C := RX4) (T := TX4) (N := 11) hx hb hts hin hown hK hP 12 rfl rfl 4 (by decide) hl (fun _ h9 => h9) rfl hdg kk
theorem xg_s8 (hx : p.tables.exec = Jvm.exec) (hb : c.code = cc) (hts : ∀ w ∈ Ts, w.before args s = true) (hin : ∀ w ∈ wsX40, w ∈ Ts) (hown : s.vm.findClass own = some m.cls) (hK : va_K D vwCl [(cI, .int)] s) (hP : va_P D vwCl (wX cI q v f z) H) (hl : (Cond.fieldLink own index "EndedByOthers$Scene" "sentences" "I").before args s = true) {x : Int32} (hv : v 8 = x) (hdg : decode cc pc = .ok (.getfield index, 3)) (kk : W p l e R s m args below meth c H locs cells slots Q (F0 m (pc + 3) ls (.int x :: rest))) : W p l e R s m args below meth c H locs cells slots Q (F0 m pc ls (.ref (q 12) :: rest)) := by
  subst hv
  exact va_get (D := D) (ci := 4) (C := RX4) (T := TX4) (N := 11) hx hb hts hin hown hK hP 12 rfl rfl 5 (by decide) hl (fun _ h9 => h9) rfl hdg kk
theorem xp_s8 (hx : p.tables.exec = Jvm.exec) (hb : c.code = cc) (hts : ∀ w ∈ Ts, w.before args s = true) (hin : ∀ w ∈ wsX40, w ∈ Ts) (hown : s.vm.findClass own = some m.cls) (hK : va_K D vwCl [(cI, .int)] s) (hP : va_P D vwCl (wX cI q v f z) H) (hD : va_D A (wX cI q v f z)) (hS : va_S A H0 H locs) {x : Int32} (hl : (Cond.fieldLink own index "EndedByOthers$Scene" "sentences" "I").before args s = true) (hdg : decode cc pc = .ok (.putfield index, 3)) (kk : ∀ (H1 : Heap) (locs1 : List Loc), va_P D vwCl (wX cI q (upd v 8 x) f z) H1 → va_D A (wX cI q (upd v 8 x) f z) → va_S A H0 H1 locs1 → W p l e R s m args below meth c H1 locs1 cells slots Q (F0 m (pc + 3) ls rest)) : W p l e R s m args below meth c H locs cells slots Q (F0 m pc ls (.int x :: .ref (q 12) :: rest)) :=
  va_put (D := D) (ci := 4) (C := RX4) (T := TX4) (N := 11) (v := .int x) (ty := .int) hx hb hts hin tyX4 tyX4_ok nmX4 hown hK hP hD hS 12 rfl rfl 5 (by decide) hl (fun _ h9 => h9) rfl (by decide +kernel) rfl rfl (Nat.le_of_ble_eq_true rfl) hdg (fun H1 locs1 hP hD hS => kk H1 locs1 hP hD hS)
theorem xg_r12_18 (hx : p.tables.exec = Jvm.exec) (hb : c.code = cc) (hts : ∀ w ∈ Ts, w.before args s = true) (hin : ∀ w ∈ wsX40, w ∈ Ts) (hown : s.vm.findClass own = some m.cls) (hK : va_K D vwCl [(cI, .int)] s) (hP : va_P D vwCl (wX cI q v f z) H) (hl : (Cond.fieldLink own index "EndedByOthers$Scene" "heardSpeakers" "[I").before args s = true) (hdg : decode cc pc = .ok (.getfield index, 3)) (kk : W p l e R s m args below meth c H locs cells slots Q (F0 m (pc + 3) ls (.ref (q 18) :: rest))) : W p l e R s m args below meth c H locs cells slots Q (F0 m pc ls (.ref (q 12) :: rest)) :=
  va_get (D := D) (ci := 4) (C := RX4) (T := TX4) (N := 11) hx hb hts hin hown hK hP 12 rfl rfl 6 (by decide) hl (fun _ h9 => h9) rfl hdg kk
theorem xg_r12_19 (hx : p.tables.exec = Jvm.exec) (hb : c.code = cc) (hts : ∀ w ∈ Ts, w.before args s = true) (hin : ∀ w ∈ wsX40, w ∈ Ts) (hown : s.vm.findClass own = some m.cls) (hK : va_K D vwCl [(cI, .int)] s) (hP : va_P D vwCl (wX cI q v f z) H) (hl : (Cond.fieldLink own index "EndedByOthers$Scene" "heardOpenings" "[I").before args s = true) (hdg : decode cc pc = .ok (.getfield index, 3)) (kk : W p l e R s m args below meth c H locs cells slots Q (F0 m (pc + 3) ls (.ref (q 19) :: rest))) : W p l e R s m args below meth c H locs cells slots Q (F0 m pc ls (.ref (q 12) :: rest)) :=
  va_get (D := D) (ci := 4) (C := RX4) (T := TX4) (N := 11) hx hb hts hin hown hK hP 12 rfl rfl 7 (by decide) hl (fun _ h9 => h9) rfl hdg kk
theorem xg_r12_20 (hx : p.tables.exec = Jvm.exec) (hb : c.code = cc) (hts : ∀ w ∈ Ts, w.before args s = true) (hin : ∀ w ∈ wsX40, w ∈ Ts) (hown : s.vm.findClass own = some m.cls) (hK : va_K D vwCl [(cI, .int)] s) (hP : va_P D vwCl (wX cI q v f z) H) (hl : (Cond.fieldLink own index "EndedByOthers$Scene" "heardEndings" "[I").before args s = true) (hdg : decode cc pc = .ok (.getfield index, 3)) (kk : W p l e R s m args below meth c H locs cells slots Q (F0 m (pc + 3) ls (.ref (q 20) :: rest))) : W p l e R s m args below meth c H locs cells slots Q (F0 m pc ls (.ref (q 12) :: rest)) :=
  va_get (D := D) (ci := 4) (C := RX4) (T := TX4) (N := 11) hx hb hts hin hown hK hP 12 rfl rfl 8 (by decide) hl (fun _ h9 => h9) rfl hdg kk
theorem xg_s9 (hx : p.tables.exec = Jvm.exec) (hb : c.code = cc) (hts : ∀ w ∈ Ts, w.before args s = true) (hin : ∀ w ∈ wsX40, w ∈ Ts) (hown : s.vm.findClass own = some m.cls) (hK : va_K D vwCl [(cI, .int)] s) (hP : va_P D vwCl (wX cI q v f z) H) (hl : (Cond.fieldLink own index "EndedByOthers$Scene" "heard" "I").before args s = true) {x : Int32} (hv : v 9 = x) (hdg : decode cc pc = .ok (.getfield index, 3)) (kk : W p l e R s m args below meth c H locs cells slots Q (F0 m (pc + 3) ls (.int x :: rest))) : W p l e R s m args below meth c H locs cells slots Q (F0 m pc ls (.ref (q 12) :: rest)) := by
  subst hv
  exact va_get (D := D) (ci := 4) (C := RX4) (T := TX4) (N := 11) hx hb hts hin hown hK hP 12 rfl rfl 9 (by decide) hl (fun _ h9 => h9) rfl hdg kk
theorem xp_s9 (hx : p.tables.exec = Jvm.exec) (hb : c.code = cc) (hts : ∀ w ∈ Ts, w.before args s = true) (hin : ∀ w ∈ wsX40, w ∈ Ts) (hown : s.vm.findClass own = some m.cls) (hK : va_K D vwCl [(cI, .int)] s) (hP : va_P D vwCl (wX cI q v f z) H) (hD : va_D A (wX cI q v f z)) (hS : va_S A H0 H locs) {x : Int32} (hl : (Cond.fieldLink own index "EndedByOthers$Scene" "heard" "I").before args s = true) (hdg : decode cc pc = .ok (.putfield index, 3)) (kk : ∀ (H1 : Heap) (locs1 : List Loc), va_P D vwCl (wX cI q (upd v 9 x) f z) H1 → va_D A (wX cI q (upd v 9 x) f z) → va_S A H0 H1 locs1 → W p l e R s m args below meth c H1 locs1 cells slots Q (F0 m (pc + 3) ls rest)) : W p l e R s m args below meth c H locs cells slots Q (F0 m pc ls (.int x :: .ref (q 12) :: rest)) :=
  va_put (D := D) (ci := 4) (C := RX4) (T := TX4) (N := 11) (v := .int x) (ty := .int) hx hb hts hin tyX4 tyX4_ok nmX4 hown hK hP hD hS 12 rfl rfl 9 (by decide) hl (fun _ h9 => h9) rfl (by decide +kernel) rfl rfl (Nat.le_of_ble_eq_true rfl) hdg (fun H1 locs1 hP hD hS => kk H1 locs1 hP hD hS)
theorem xg_s10 (hx : p.tables.exec = Jvm.exec) (hb : c.code = cc) (hts : ∀ w ∈ Ts, w.before args s = true) (hin : ∀ w ∈ wsX40, w ∈ Ts) (hown : s.vm.findClass own = some m.cls) (hK : va_K D vwCl [(cI, .int)] s) (hP : va_P D vwCl (wX cI q v f z) H) (hl : (Cond.fieldLink own index "EndedByOthers$Scene" "changes" "I").before args s = true) {x : Int32} (hv : v 10 = x) (hdg : decode cc pc = .ok (.getfield index, 3)) (kk : W p l e R s m args below meth c H locs cells slots Q (F0 m (pc + 3) ls (.int x :: rest))) : W p l e R s m args below meth c H locs cells slots Q (F0 m pc ls (.ref (q 12) :: rest)) := by
  subst hv
  exact va_get (D := D) (ci := 4) (C := RX4) (T := TX4) (N := 11) hx hb hts hin hown hK hP 12 rfl rfl 10 (by decide) hl (fun _ h9 => h9) rfl hdg kk
theorem xp_s10 (hx : p.tables.exec = Jvm.exec) (hb : c.code = cc) (hts : ∀ w ∈ Ts, w.before args s = true) (hin : ∀ w ∈ wsX40, w ∈ Ts) (hown : s.vm.findClass own = some m.cls) (hK : va_K D vwCl [(cI, .int)] s) (hP : va_P D vwCl (wX cI q v f z) H) (hD : va_D A (wX cI q v f z)) (hS : va_S A H0 H locs) {x : Int32} (hl : (Cond.fieldLink own index "EndedByOthers$Scene" "changes" "I").before args s = true) (hdg : decode cc pc = .ok (.putfield index, 3)) (kk : ∀ (H1 : Heap) (locs1 : List Loc), va_P D vwCl (wX cI q (upd v 10 x) f z) H1 → va_D A (wX cI q (upd v 10 x) f z) → va_S A H0 H1 locs1 → W p l e R s m args below meth c H1 locs1 cells slots Q (F0 m (pc + 3) ls rest)) : W p l e R s m args below meth c H locs cells slots Q (F0 m pc ls (.int x :: .ref (q 12) :: rest)) :=
  va_put (D := D) (ci := 4) (C := RX4) (T := TX4) (N := 11) (v := .int x) (ty := .int) hx hb hts hin tyX4 tyX4_ok nmX4 hown hK hP hD hS 12 rfl rfl 10 (by decide) hl (fun _ h9 => h9) rfl (by decide +kernel) rfl rfl (Nat.le_of_ble_eq_true rfl) hdg (fun H1 locs1 hP hD hS => kk H1 locs1 hP hD hS)
theorem xg_r21_22 (hx : p.tables.exec = Jvm.exec) (hb : c.code = cc) (hts : ∀ w ∈ Ts, w.before args s = true) (hin : ∀ w ∈ wsX40, w ∈ Ts) (hown : s.vm.findClass own = some m.cls) (hK : va_K D vwCl [(cI, .int)] s) (hP : va_P D vwCl (wX cI q v f z) H) (hl : (Cond.fieldLink own index "EndedByOthers$Scene" "wants" "[I").before args s = true) (hdg : decode cc pc = .ok (.getfield index, 3)) (kk : W p l e R s m args below meth c H locs cells slots Q (F0 m (pc + 3) ls (.ref (q 22) :: rest))) : W p l e R s m args below meth c H locs cells slots Q (F0 m pc ls (.ref (q 21) :: rest)) :=
  va_get (D := D) (ci := 4) (C := RX4) (T := TX4) (N := 11) hx hb hts hin hown hK hP 21 rfl rfl 0 (by decide) hl (fun _ h9 => h9) rfl hdg kk
theorem xg_r21_23 (hx : p.tables.exec = Jvm.exec) (hb : c.code = cc) (hts : ∀ w ∈ Ts, w.before args s = true) (hin : ∀ w ∈ wsX40, w ∈ Ts) (hown : s.vm.findClass own = some m.cls) (hK : va_K D vwCl [(cI, .int)] s) (hP : va_P D vwCl (wX cI q v f z) H) (hl : (Cond.fieldLink own index "EndedByOthers$Scene" "beginners" "[I").before args s = true) (hdg : decode cc pc = .ok (.getfield index, 3)) (kk : W p l e R s m args below meth c H locs cells slots Q (F0 m (pc + 3) ls (.ref (q 23) :: rest))) : W p l e R s m args below meth c H locs cells slots Q (F0 m pc ls (.ref (q 21) :: rest)) :=
  va_get (D := D) (ci := 4) (C := RX4) (T := TX4) (N := 11) hx hb hts hin hown hK hP 21 rfl rfl 1 (by decide) hl (fun _ h9 => h9) rfl hdg kk
theorem xg_r21_24 (hx : p.tables.exec = Jvm.exec) (hb : c.code = cc) (hts : ∀ w ∈ Ts, w.before args s = true) (hin : ∀ w ∈ wsX40, w ∈ Ts) (hown : s.vm.findClass own = some m.cls) (hK : va_K D vwCl [(cI, .int)] s) (hP : va_P D vwCl (wX cI q v f z) H) (hl : (Cond.fieldLink own index "EndedByOthers$Scene" "openings" "[I").before args s = true) (hdg : decode cc pc = .ok (.getfield index, 3)) (kk : W p l e R s m args below meth c H locs cells slots Q (F0 m (pc + 3) ls (.ref (q 24) :: rest))) : W p l e R s m args below meth c H locs cells slots Q (F0 m pc ls (.ref (q 21) :: rest)) :=
  va_get (D := D) (ci := 4) (C := RX4) (T := TX4) (N := 11) hx hb hts hin hown hK hP 21 rfl rfl 2 (by decide) hl (fun _ h9 => h9) rfl hdg kk
theorem xg_r21_25 (hx : p.tables.exec = Jvm.exec) (hb : c.code = cc) (hts : ∀ w ∈ Ts, w.before args s = true) (hin : ∀ w ∈ wsX40, w ∈ Ts) (hown : s.vm.findClass own = some m.cls) (hK : va_K D vwCl [(cI, .int)] s) (hP : va_P D vwCl (wX cI q v f z) H) (hl : (Cond.fieldLink own index "EndedByOthers$Scene" "enders" "[I").before args s = true) (hdg : decode cc pc = .ok (.getfield index, 3)) (kk : W p l e R s m args below meth c H locs cells slots Q (F0 m (pc + 3) ls (.ref (q 25) :: rest))) : W p l e R s m args below meth c H locs cells slots Q (F0 m pc ls (.ref (q 21) :: rest)) :=
  va_get (D := D) (ci := 4) (C := RX4) (T := TX4) (N := 11) hx hb hts hin hown hK hP 21 rfl rfl 3 (by decide) hl (fun _ h9 => h9) rfl hdg kk
theorem xg_r21_26 (hx : p.tables.exec = Jvm.exec) (hb : c.code = cc) (hts : ∀ w ∈ Ts, w.before args s = true) (hin : ∀ w ∈ wsX40, w ∈ Ts) (hown : s.vm.findClass own = some m.cls) (hK : va_K D vwCl [(cI, .int)] s) (hP : va_P D vwCl (wX cI q v f z) H) (hl : (Cond.fieldLink own index "EndedByOthers$Scene" "endings" "[I").before args s = true) (hdg : decode cc pc = .ok (.getfield index, 3)) (kk : W p l e R s m args below meth c H locs cells slots Q (F0 m (pc + 3) ls (.ref (q 26) :: rest))) : W p l e R s m args below meth c H locs cells slots Q (F0 m pc ls (.ref (q 21) :: rest)) :=
  va_get (D := D) (ci := 4) (C := RX4) (T := TX4) (N := 11) hx hb hts hin hown hK hP 21 rfl rfl 4 (by decide) hl (fun _ h9 => h9) rfl hdg kk
theorem xg_s11 (hx : p.tables.exec = Jvm.exec) (hb : c.code = cc) (hts : ∀ w ∈ Ts, w.before args s = true) (hin : ∀ w ∈ wsX40, w ∈ Ts) (hown : s.vm.findClass own = some m.cls) (hK : va_K D vwCl [(cI, .int)] s) (hP : va_P D vwCl (wX cI q v f z) H) (hl : (Cond.fieldLink own index "EndedByOthers$Scene" "sentences" "I").before args s = true) {x : Int32} (hv : v 11 = x) (hdg : decode cc pc = .ok (.getfield index, 3)) (kk : W p l e R s m args below meth c H locs cells slots Q (F0 m (pc + 3) ls (.int x :: rest))) : W p l e R s m args below meth c H locs cells slots Q (F0 m pc ls (.ref (q 21) :: rest)) := by
  subst hv
  exact va_get (D := D) (ci := 4) (C := RX4) (T := TX4) (N := 11) hx hb hts hin hown hK hP 21 rfl rfl 5 (by decide) hl (fun _ h9 => h9) rfl hdg kk
theorem xp_s11 (hx : p.tables.exec = Jvm.exec) (hb : c.code = cc) (hts : ∀ w ∈ Ts, w.before args s = true) (hin : ∀ w ∈ wsX40, w ∈ Ts) (hown : s.vm.findClass own = some m.cls) (hK : va_K D vwCl [(cI, .int)] s) (hP : va_P D vwCl (wX cI q v f z) H) (hD : va_D A (wX cI q v f z)) (hS : va_S A H0 H locs) {x : Int32} (hl : (Cond.fieldLink own index "EndedByOthers$Scene" "sentences" "I").before args s = true) (hdg : decode cc pc = .ok (.putfield index, 3)) (kk : ∀ (H1 : Heap) (locs1 : List Loc), va_P D vwCl (wX cI q (upd v 11 x) f z) H1 → va_D A (wX cI q (upd v 11 x) f z) → va_S A H0 H1 locs1 → W p l e R s m args below meth c H1 locs1 cells slots Q (F0 m (pc + 3) ls rest)) : W p l e R s m args below meth c H locs cells slots Q (F0 m pc ls (.int x :: .ref (q 21) :: rest)) :=
  va_put (D := D) (ci := 4) (C := RX4) (T := TX4) (N := 11) (v := .int x) (ty := .int) hx hb hts hin tyX4 tyX4_ok nmX4 hown hK hP hD hS 21 rfl rfl 5 (by decide) hl (fun _ h9 => h9) rfl (by decide +kernel) rfl rfl (Nat.le_of_ble_eq_true rfl) hdg (fun H1 locs1 hP hD hS => kk H1 locs1 hP hD hS)
theorem xg_r21_27 (hx : p.tables.exec = Jvm.exec) (hb : c.code = cc) (hts : ∀ w ∈ Ts, w.before args s = true) (hin : ∀ w ∈ wsX40, w ∈ Ts) (hown : s.vm.findClass own = some m.cls) (hK : va_K D vwCl [(cI, .int)] s) (hP : va_P D vwCl (wX cI q v f z) H) (hl : (Cond.fieldLink own index "EndedByOthers$Scene" "heardSpeakers" "[I").before args s = true) (hdg : decode cc pc = .ok (.getfield index, 3)) (kk : W p l e R s m args below meth c H locs cells slots Q (F0 m (pc + 3) ls (.ref (q 27) :: rest))) : W p l e R s m args below meth c H locs cells slots Q (F0 m pc ls (.ref (q 21) :: rest)) :=
  va_get (D := D) (ci := 4) (C := RX4) (T := TX4) (N := 11) hx hb hts hin hown hK hP 21 rfl rfl 6 (by decide) hl (fun _ h9 => h9) rfl hdg kk
theorem xg_r21_28 (hx : p.tables.exec = Jvm.exec) (hb : c.code = cc) (hts : ∀ w ∈ Ts, w.before args s = true) (hin : ∀ w ∈ wsX40, w ∈ Ts) (hown : s.vm.findClass own = some m.cls) (hK : va_K D vwCl [(cI, .int)] s) (hP : va_P D vwCl (wX cI q v f z) H) (hl : (Cond.fieldLink own index "EndedByOthers$Scene" "heardOpenings" "[I").before args s = true) (hdg : decode cc pc = .ok (.getfield index, 3)) (kk : W p l e R s m args below meth c H locs cells slots Q (F0 m (pc + 3) ls (.ref (q 28) :: rest))) : W p l e R s m args below meth c H locs cells slots Q (F0 m pc ls (.ref (q 21) :: rest)) :=
  va_get (D := D) (ci := 4) (C := RX4) (T := TX4) (N := 11) hx hb hts hin hown hK hP 21 rfl rfl 7 (by decide) hl (fun _ h9 => h9) rfl hdg kk
theorem xg_r21_29 (hx : p.tables.exec = Jvm.exec) (hb : c.code = cc) (hts : ∀ w ∈ Ts, w.before args s = true) (hin : ∀ w ∈ wsX40, w ∈ Ts) (hown : s.vm.findClass own = some m.cls) (hK : va_K D vwCl [(cI, .int)] s) (hP : va_P D vwCl (wX cI q v f z) H) (hl : (Cond.fieldLink own index "EndedByOthers$Scene" "heardEndings" "[I").before args s = true) (hdg : decode cc pc = .ok (.getfield index, 3)) (kk : W p l e R s m args below meth c H locs cells slots Q (F0 m (pc + 3) ls (.ref (q 29) :: rest))) : W p l e R s m args below meth c H locs cells slots Q (F0 m pc ls (.ref (q 21) :: rest)) :=
  va_get (D := D) (ci := 4) (C := RX4) (T := TX4) (N := 11) hx hb hts hin hown hK hP 21 rfl rfl 8 (by decide) hl (fun _ h9 => h9) rfl hdg kk
theorem xg_s12 (hx : p.tables.exec = Jvm.exec) (hb : c.code = cc) (hts : ∀ w ∈ Ts, w.before args s = true) (hin : ∀ w ∈ wsX40, w ∈ Ts) (hown : s.vm.findClass own = some m.cls) (hK : va_K D vwCl [(cI, .int)] s) (hP : va_P D vwCl (wX cI q v f z) H) (hl : (Cond.fieldLink own index "EndedByOthers$Scene" "heard" "I").before args s = true) {x : Int32} (hv : v 12 = x) (hdg : decode cc pc = .ok (.getfield index, 3)) (kk : W p l e R s m args below meth c H locs cells slots Q (F0 m (pc + 3) ls (.int x :: rest))) : W p l e R s m args below meth c H locs cells slots Q (F0 m pc ls (.ref (q 21) :: rest)) := by
  subst hv
  exact va_get (D := D) (ci := 4) (C := RX4) (T := TX4) (N := 11) hx hb hts hin hown hK hP 21 rfl rfl 9 (by decide) hl (fun _ h9 => h9) rfl hdg kk
theorem xp_s12 (hx : p.tables.exec = Jvm.exec) (hb : c.code = cc) (hts : ∀ w ∈ Ts, w.before args s = true) (hin : ∀ w ∈ wsX40, w ∈ Ts) (hown : s.vm.findClass own = some m.cls) (hK : va_K D vwCl [(cI, .int)] s) (hP : va_P D vwCl (wX cI q v f z) H) (hD : va_D A (wX cI q v f z)) (hS : va_S A H0 H locs) {x : Int32} (hl : (Cond.fieldLink own index "EndedByOthers$Scene" "heard" "I").before args s = true) (hdg : decode cc pc = .ok (.putfield index, 3)) (kk : ∀ (H1 : Heap) (locs1 : List Loc), va_P D vwCl (wX cI q (upd v 12 x) f z) H1 → va_D A (wX cI q (upd v 12 x) f z) → va_S A H0 H1 locs1 → W p l e R s m args below meth c H1 locs1 cells slots Q (F0 m (pc + 3) ls rest)) : W p l e R s m args below meth c H locs cells slots Q (F0 m pc ls (.int x :: .ref (q 21) :: rest)) :=
  va_put (D := D) (ci := 4) (C := RX4) (T := TX4) (N := 11) (v := .int x) (ty := .int) hx hb hts hin tyX4 tyX4_ok nmX4 hown hK hP hD hS 21 rfl rfl 9 (by decide) hl (fun _ h9 => h9) rfl (by decide +kernel) rfl rfl (Nat.le_of_ble_eq_true rfl) hdg (fun H1 locs1 hP hD hS => kk H1 locs1 hP hD hS)
theorem xg_s13 (hx : p.tables.exec = Jvm.exec) (hb : c.code = cc) (hts : ∀ w ∈ Ts, w.before args s = true) (hin : ∀ w ∈ wsX40, w ∈ Ts) (hown : s.vm.findClass own = some m.cls) (hK : va_K D vwCl [(cI, .int)] s) (hP : va_P D vwCl (wX cI q v f z) H) (hl : (Cond.fieldLink own index "EndedByOthers$Scene" "changes" "I").before args s = true) {x : Int32} (hv : v 13 = x) (hdg : decode cc pc = .ok (.getfield index, 3)) (kk : W p l e R s m args below meth c H locs cells slots Q (F0 m (pc + 3) ls (.int x :: rest))) : W p l e R s m args below meth c H locs cells slots Q (F0 m pc ls (.ref (q 21) :: rest)) := by
  subst hv
  exact va_get (D := D) (ci := 4) (C := RX4) (T := TX4) (N := 11) hx hb hts hin hown hK hP 21 rfl rfl 10 (by decide) hl (fun _ h9 => h9) rfl hdg kk
theorem xp_s13 (hx : p.tables.exec = Jvm.exec) (hb : c.code = cc) (hts : ∀ w ∈ Ts, w.before args s = true) (hin : ∀ w ∈ wsX40, w ∈ Ts) (hown : s.vm.findClass own = some m.cls) (hK : va_K D vwCl [(cI, .int)] s) (hP : va_P D vwCl (wX cI q v f z) H) (hD : va_D A (wX cI q v f z)) (hS : va_S A H0 H locs) {x : Int32} (hl : (Cond.fieldLink own index "EndedByOthers$Scene" "changes" "I").before args s = true) (hdg : decode cc pc = .ok (.putfield index, 3)) (kk : ∀ (H1 : Heap) (locs1 : List Loc), va_P D vwCl (wX cI q (upd v 13 x) f z) H1 → va_D A (wX cI q (upd v 13 x) f z) → va_S A H0 H1 locs1 → W p l e R s m args below meth c H1 locs1 cells slots Q (F0 m (pc + 3) ls rest)) : W p l e R s m args below meth c H locs cells slots Q (F0 m pc ls (.int x :: .ref (q 21) :: rest)) :=
  va_put (D := D) (ci := 4) (C := RX4) (T := TX4) (N := 11) (v := .int x) (ty := .int) hx hb hts hin tyX4 tyX4_ok nmX4 hown hK hP hD hS 21 rfl rfl 10 (by decide) hl (fun _ h9 => h9) rfl (by decide +kernel) rfl rfl (Nat.le_of_ble_eq_true rfl) hdg (fun H1 locs1 hP hD hS => kk H1 locs1 hP hD hS)
theorem xg_r30_31 (hx : p.tables.exec = Jvm.exec) (hb : c.code = cc) (hts : ∀ w ∈ Ts, w.before args s = true) (hin : ∀ w ∈ wsX00, w ∈ Ts) (hown : s.vm.findClass own = some m.cls) (hK : va_K D vwCl [(cI, .int)] s) (hP : va_P D vwCl (wX cI q v f z) H) (hl : (Cond.fieldLink own index "EndedByOthers$Matching" "pleasing" "[I").before args s = true) (hdg : decode cc pc = .ok (.getfield index, 3)) (kk : W p l e R s m args below meth c H locs cells slots Q (F0 m (pc + 3) ls (.ref (q 31) :: rest))) : W p l e R s m args below meth c H locs cells slots Q (F0 m pc ls (.ref (q 30) :: rest)) :=
  va_get (D := D) (ci := 0) (C := RX0) (T := TX0) (N := 3) hx hb hts hin hown hK hP 30 rfl rfl 0 (by decide) hl (fun _ h9 => h9) rfl hdg kk
theorem xg_r30_32 (hx : p.tables.exec = Jvm.exec) (hb : c.code = cc) (hts : ∀ w ∈ Ts, w.before args s = true) (hin : ∀ w ∈ wsX00, w ∈ Ts) (hown : s.vm.findClass own = some m.cls) (hK : va_K D vwCl [(cI, .int)] s) (hP : va_P D vwCl (wX cI q v f z) H) (hl : (Cond.fieldLink own index "EndedByOthers$Matching" "picks" "[I").before args s = true) (hdg : decode cc pc = .ok (.getfield index, 3)) (kk : W p l e R s m args below meth c H locs cells slots Q (F0 m (pc + 3) ls (.ref (q 32) :: rest))) : W p l e R s m args below meth c H locs cells slots Q (F0 m pc ls (.ref (q 30) :: rest)) :=
  va_get (D := D) (ci := 0) (C := RX0) (T := TX0) (N := 3) hx hb hts hin hown hK hP 30 rfl rfl 1 (by decide) hl (fun _ h9 => h9) rfl hdg kk
theorem xg_s14 (hx : p.tables.exec = Jvm.exec) (hb : c.code = cc) (hts : ∀ w ∈ Ts, w.before args s = true) (hin : ∀ w ∈ wsX00, w ∈ Ts) (hown : s.vm.findClass own = some m.cls) (hK : va_K D vwCl [(cI, .int)] s) (hP : va_P D vwCl (wX cI q v f z) H) (hl : (Cond.fieldLink own index "EndedByOthers$Matching" "ended" "I").before args s = true) {x : Int32} (hv : v 14 = x) (hdg : decode cc pc = .ok (.getfield index, 3)) (kk : W p l e R s m args below meth c H locs cells slots Q (F0 m (pc + 3) ls (.int x :: rest))) : W p l e R s m args below meth c H locs cells slots Q (F0 m pc ls (.ref (q 30) :: rest)) := by
  subst hv
  exact va_get (D := D) (ci := 0) (C := RX0) (T := TX0) (N := 3) hx hb hts hin hown hK hP 30 rfl rfl 2 (by decide) hl (fun _ h9 => h9) rfl hdg kk
theorem xp_s14 (hx : p.tables.exec = Jvm.exec) (hb : c.code = cc) (hts : ∀ w ∈ Ts, w.before args s = true) (hin : ∀ w ∈ wsX00, w ∈ Ts) (hown : s.vm.findClass own = some m.cls) (hK : va_K D vwCl [(cI, .int)] s) (hP : va_P D vwCl (wX cI q v f z) H) (hD : va_D A (wX cI q v f z)) (hS : va_S A H0 H locs) {x : Int32} (hl : (Cond.fieldLink own index "EndedByOthers$Matching" "ended" "I").before args s = true) (hdg : decode cc pc = .ok (.putfield index, 3)) (kk : ∀ (H1 : Heap) (locs1 : List Loc), va_P D vwCl (wX cI q (upd v 14 x) f z) H1 → va_D A (wX cI q (upd v 14 x) f z) → va_S A H0 H1 locs1 → W p l e R s m args below meth c H1 locs1 cells slots Q (F0 m (pc + 3) ls rest)) : W p l e R s m args below meth c H locs cells slots Q (F0 m pc ls (.int x :: .ref (q 30) :: rest)) :=
  va_put (D := D) (ci := 0) (C := RX0) (T := TX0) (N := 3) (v := .int x) (ty := .int) hx hb hts hin tyX0 tyX0_ok nmX0 hown hK hP hD hS 30 rfl rfl 2 (by decide) hl (fun _ h9 => h9) rfl (by decide +kernel) rfl rfl (Nat.le_of_ble_eq_true rfl) hdg (fun H1 locs1 hP hD hS => kk H1 locs1 hP hD hS)
theorem xg_r33_34 (hx : p.tables.exec = Jvm.exec) (hb : c.code = cc) (hts : ∀ w ∈ Ts, w.before args s = true) (hin : ∀ w ∈ wsX50, w ∈ Ts) (hown : s.vm.findClass own = some m.cls) (hK : va_K D vwCl [(cI, .int)] s) (hP : va_P D vwCl (wX cI q v f z) H) (hl : (Cond.fieldLink own index "EndedByOthers$Trial" "used" "[I").before args s = true) (hdg : decode cc pc = .ok (.getfield index, 3)) (kk : W p l e R s m args below meth c H locs cells slots Q (F0 m (pc + 3) ls (.ref (q 34) :: rest))) : W p l e R s m args below meth c H locs cells slots Q (F0 m pc ls (.ref (q 33) :: rest)) :=
  va_get (D := D) (ci := 5) (C := RX5) (T := TX5) (N := 4) hx hb hts hin hown hK hP 33 rfl rfl 0 (by decide) hl (fun _ h9 => h9) rfl hdg kk
theorem xg_l0 (hx : p.tables.exec = Jvm.exec) (hb : c.code = cc) (hts : ∀ w ∈ Ts, w.before args s = true) (hin : ∀ w ∈ wsX50, w ∈ Ts) (hown : s.vm.findClass own = some m.cls) (hK : va_K D vwCl [(cI, .int)] s) (hP : va_P D vwCl (wX cI q v f z) H) (hl : (Cond.fieldLink own index "EndedByOthers$Trial" "seed" "J").before args s = true) {x : Int64} (hv : z = x) (hdg : decode cc pc = .ok (.getfield index, 3)) (kk : W p l e R s m args below meth c H locs cells slots Q (F0 m (pc + 3) ls (.long x :: rest))) : W p l e R s m args below meth c H locs cells slots Q (F0 m pc ls (.ref (q 33) :: rest)) := by
  subst hv
  exact va_get (D := D) (ci := 5) (C := RX5) (T := TX5) (N := 4) hx hb hts hin hown hK hP 33 rfl rfl 1 (by decide) hl (fun _ h9 => h9) rfl hdg kk
theorem xp_l0 (hx : p.tables.exec = Jvm.exec) (hb : c.code = cc) (hts : ∀ w ∈ Ts, w.before args s = true) (hin : ∀ w ∈ wsX50, w ∈ Ts) (hown : s.vm.findClass own = some m.cls) (hK : va_K D vwCl [(cI, .int)] s) (hP : va_P D vwCl (wX cI q v f z) H) (hD : va_D A (wX cI q v f z)) (hS : va_S A H0 H locs) {x : Int64} (hl : (Cond.fieldLink own index "EndedByOthers$Trial" "seed" "J").before args s = true) (hdg : decode cc pc = .ok (.putfield index, 3)) (kk : ∀ (H1 : Heap) (locs1 : List Loc), va_P D vwCl (wX cI q v f x) H1 → va_D A (wX cI q v f x) → va_S A H0 H1 locs1 → W p l e R s m args below meth c H1 locs1 cells slots Q (F0 m (pc + 3) ls rest)) : W p l e R s m args below meth c H locs cells slots Q (F0 m pc ls (.long x :: .ref (q 33) :: rest)) :=
  va_put (D := D) (ci := 5) (C := RX5) (T := TX5) (N := 4) (v := .long x) (ty := .long) hx hb hts hin tyX5 tyX5_ok nmX5 hown hK hP hD hS 33 rfl rfl 1 (by decide) hl (fun _ h9 => h9) rfl (by decide +kernel) rfl rfl (Nat.le_of_ble_eq_true rfl) hdg (fun H1 locs1 hP hD hS => kk H1 locs1 hP hD hS)
theorem xg_s15 (hx : p.tables.exec = Jvm.exec) (hb : c.code = cc) (hts : ∀ w ∈ Ts, w.before args s = true) (hin : ∀ w ∈ wsX50, w ∈ Ts) (hown : s.vm.findClass own = some m.cls) (hK : va_K D vwCl [(cI, .int)] s) (hP : va_P D vwCl (wX cI q v f z) H) (hl : (Cond.fieldLink own index "EndedByOthers$Trial" "ended" "I").before args s = true) {x : Int32} (hv : v 15 = x) (hdg : decode cc pc = .ok (.getfield index, 3)) (kk : W p l e R s m args below meth c H locs cells slots Q (F0 m (pc + 3) ls (.int x :: rest))) : W p l e R s m args below meth c H locs cells slots Q (F0 m pc ls (.ref (q 33) :: rest)) := by
  subst hv
  exact va_get (D := D) (ci := 5) (C := RX5) (T := TX5) (N := 4) hx hb hts hin hown hK hP 33 rfl rfl 2 (by decide) hl (fun _ h9 => h9) rfl hdg kk
theorem xp_s15 (hx : p.tables.exec = Jvm.exec) (hb : c.code = cc) (hts : ∀ w ∈ Ts, w.before args s = true) (hin : ∀ w ∈ wsX50, w ∈ Ts) (hown : s.vm.findClass own = some m.cls) (hK : va_K D vwCl [(cI, .int)] s) (hP : va_P D vwCl (wX cI q v f z) H) (hD : va_D A (wX cI q v f z)) (hS : va_S A H0 H locs) {x : Int32} (hl : (Cond.fieldLink own index "EndedByOthers$Trial" "ended" "I").before args s = true) (hdg : decode cc pc = .ok (.putfield index, 3)) (kk : ∀ (H1 : Heap) (locs1 : List Loc), va_P D vwCl (wX cI q (upd v 15 x) f z) H1 → va_D A (wX cI q (upd v 15 x) f z) → va_S A H0 H1 locs1 → W p l e R s m args below meth c H1 locs1 cells slots Q (F0 m (pc + 3) ls rest)) : W p l e R s m args below meth c H locs cells slots Q (F0 m pc ls (.int x :: .ref (q 33) :: rest)) :=
  va_put (D := D) (ci := 5) (C := RX5) (T := TX5) (N := 4) (v := .int x) (ty := .int) hx hb hts hin tyX5 tyX5_ok nmX5 hown hK hP hD hS 33 rfl rfl 2 (by decide) hl (fun _ h9 => h9) rfl (by decide +kernel) rfl rfl (Nat.le_of_ble_eq_true rfl) hdg (fun H1 locs1 hP hD hS => kk H1 locs1 hP hD hS)
theorem xg_s16 (hx : p.tables.exec = Jvm.exec) (hb : c.code = cc) (hts : ∀ w ∈ Ts, w.before args s = true) (hin : ∀ w ∈ wsX50, w ∈ Ts) (hown : s.vm.findClass own = some m.cls) (hK : va_K D vwCl [(cI, .int)] s) (hP : va_P D vwCl (wX cI q v f z) H) (hl : (Cond.fieldLink own index "EndedByOthers$Trial" "asWanted" "I").before args s = true) {x : Int32} (hv : v 16 = x) (hdg : decode cc pc = .ok (.getfield index, 3)) (kk : W p l e R s m args below meth c H locs cells slots Q (F0 m (pc + 3) ls (.int x :: rest))) : W p l e R s m args below meth c H locs cells slots Q (F0 m pc ls (.ref (q 33) :: rest)) := by
  subst hv
  exact va_get (D := D) (ci := 5) (C := RX5) (T := TX5) (N := 4) hx hb hts hin hown hK hP 33 rfl rfl 3 (by decide) hl (fun _ h9 => h9) rfl hdg kk
theorem xp_s16 (hx : p.tables.exec = Jvm.exec) (hb : c.code = cc) (hts : ∀ w ∈ Ts, w.before args s = true) (hin : ∀ w ∈ wsX50, w ∈ Ts) (hown : s.vm.findClass own = some m.cls) (hK : va_K D vwCl [(cI, .int)] s) (hP : va_P D vwCl (wX cI q v f z) H) (hD : va_D A (wX cI q v f z)) (hS : va_S A H0 H locs) {x : Int32} (hl : (Cond.fieldLink own index "EndedByOthers$Trial" "asWanted" "I").before args s = true) (hdg : decode cc pc = .ok (.putfield index, 3)) (kk : ∀ (H1 : Heap) (locs1 : List Loc), va_P D vwCl (wX cI q (upd v 16 x) f z) H1 → va_D A (wX cI q (upd v 16 x) f z) → va_S A H0 H1 locs1 → W p l e R s m args below meth c H1 locs1 cells slots Q (F0 m (pc + 3) ls rest)) : W p l e R s m args below meth c H locs cells slots Q (F0 m pc ls (.int x :: .ref (q 33) :: rest)) :=
  va_put (D := D) (ci := 5) (C := RX5) (T := TX5) (N := 4) (v := .int x) (ty := .int) hx hb hts hin tyX5 tyX5_ok nmX5 hown hK hP hD hS 33 rfl rfl 3 (by decide) hl (fun _ h9 => h9) rfl (by decide +kernel) rfl rfl (Nat.le_of_ble_eq_true rfl) hdg (fun H1 locs1 hP hD hS => kk H1 locs1 hP hD hS)
theorem xal_0 (hx : p.tables.exec = Jvm.exec) (hb : c.code = cc) (hK : va_K D vwCl [(cI, .int)] s) (hP : va_P D vwCl (wX cI q v f z) H) {i x : Int32} (hin : vp_in i 30) (hv : f 0 i.toNatClampNeg = x) (hdg : decode cc pc = .ok (.iaload, 1)) (kk : W p l e R s m args below meth c H locs cells slots Q (F0 m (pc + 1) ls (.int x :: rest))) : W p l e R s m args below meth c H locs cells slots Q (F0 m pc ls (.int i :: .ref (q 2) :: rest)) := by
  subst hv
  exact va_iald hx hb hK hP 2 0 (f := f 0) rfl rfl hin hdg kk
theorem xas_0 (hx : p.tables.exec = Jvm.exec) (hb : c.code = cc) (hK : va_K D vwCl [(cI, .int)] s) (hP : va_P D vwCl (wX cI q v f z) H) (hD : va_D A (wX cI q v f z)) (hS : va_S A H0 H locs) {i x : Int32} (hin : vp_in i 30) (hdg : decode cc pc = .ok (.iastore, 1)) (kk : ∀ (H1 : Heap) (locs1 : List Loc), va_P D vwCl (wX cI q v (va_up f 0 (upd (f 0) i.toNatClampNeg x)) z) H1 → va_D A (wX cI q v (va_up f 0 (upd (f 0) i.toNatClampNeg x)) z) → va_S A H0 H1 locs1 → W p l e R s m args below meth c H1 locs1 cells slots Q (F0 m (pc + 1) ls rest)) : W p l e R s m args below meth c H locs cells slots Q (F0 m pc ls (.int x :: .int i :: .ref (q 2) :: rest)) :=
  va_iast hx hb hK hP hD hS 2 0 (f := f 0) rfl rfl hin hdg (fun H1 locs1 hP hD hS => kk H1 locs1 hP hD hS)
theorem xln_0 (hx : p.tables.exec = Jvm.exec) (hb : c.code = cc) (hK : va_K D vwCl [(cI, .int)] s) (hP : va_P D vwCl (wX cI q v f z) H) (hdg : decode cc pc = .ok (.arraylength, 1)) (kk : W p l e R s m args below meth c H locs cells slots Q (F0 m (pc + 1) ls (.int 30 :: rest))) : W p l e R s m args below meth c H locs cells slots Q (F0 m pc ls (.ref (q 2) :: rest)) :=
  va_alen hx hb hK hP 2 0 (x := (30, .inl (f 0))) rfl rfl rfl hdg kk
theorem xal_1 (hx : p.tables.exec = Jvm.exec) (hb : c.code = cc) (hK : va_K D vwCl [(cI, .int)] s) (hP : va_P D vwCl (wX cI q v f z) H) {i x : Int32} (hin : vp_in i 4) (hv : f 1 i.toNatClampNeg = x) (hdg : decode cc pc = .ok (.iaload, 1)) (kk : W p l e R s m args below meth c H locs cells slots Q (F0 m (pc + 1) ls (.int x :: rest))) : W p l e R s m args below meth c H locs cells slots Q (F0 m pc ls (.int i :: .ref (q 5) :: rest)) := by
  subst hv
  exact va_iald hx hb hK hP 5 0 (f := f 1) rfl rfl hin hdg kk
theorem xas_1 (hx : p.tables.exec = Jvm.exec) (hb : c.code = cc) (hK : va_K D vwCl [(cI, .int)] s) (hP : va_P D vwCl (wX cI q v f z) H) (hD : va_D A (wX cI q v f z)) (hS : va_S A H0 H locs) {i x : Int32} (hin : vp_in i 4) (hdg : decode cc pc = .ok (.iastore, 1)) (kk : ∀ (H1 : Heap) (locs1 : List Loc), va_P D vwCl (wX cI q v (va_up f 1 (upd (f 1) i.toNatClampNeg x)) z) H1 → va_D A (wX cI q v (va_up f 1 (upd (f 1) i.toNatClampNeg x)) z) → va_S A H0 H1 locs1 → W p l e R s m args below meth c H1 locs1 cells slots Q (F0 m (pc + 1) ls rest)) : W p l e R s m args below meth c H locs cells slots Q (F0 m pc ls (.int x :: .int i :: .ref (q 5) :: rest)) :=
  va_iast hx hb hK hP hD hS 5 0 (f := f 1) rfl rfl hin hdg (fun H1 locs1 hP hD hS => kk H1 locs1 hP hD hS)
theorem xln_1 (hx : p.tables.exec = Jvm.exec) (hb : c.code = cc) (hK : va_K D vwCl [(cI, .int)] s) (hP : va_P D vwCl (wX cI q v f z) H) (hdg : decode cc pc = .ok (.arraylength, 1)) (kk : W p l e R s m args below meth c H locs cells slots Q (F0 m (pc + 1) ls (.int 4 :: rest))) : W p l e R s m args below meth c H locs cells slots Q (F0 m pc ls (.ref (q 5) :: rest)) :=
  va_alen hx hb hK hP 5 0 (x := (4, .inl (f 1))) rfl rfl rfl hdg kk
theorem xal_2 (hx : p.tables.exec = Jvm.exec) (hb : c.code = cc) (hK : va_K D vwCl [(cI, .int)] s) (hP : va_P D vwCl (wX cI q v f z) H) {i x : Int32} (hin : vp_in i 4) (hv : f 2 i.toNatClampNeg = x) (hdg : decode cc pc = .ok (.iaload, 1)) (kk : W p l e R s m args below meth c H locs cells slots Q (F0 m (pc + 1) ls (.int x :: rest))) : W p l e R s m args below meth c H locs cells slots Q (F0 m pc ls (.int i :: .ref (q 6) :: rest)) := by
  subst hv
  exact va_iald hx hb hK hP 6 0 (f := f 2) rfl rfl hin hdg kk
theorem xas_2 (hx : p.tables.exec = Jvm.exec) (hb : c.code = cc) (hK : va_K D vwCl [(cI, .int)] s) (hP : va_P D vwCl (wX cI q v f z) H) (hD : va_D A (wX cI q v f z)) (hS : va_S A H0 H locs) {i x : Int32} (hin : vp_in i 4) (hdg : decode cc pc = .ok (.iastore, 1)) (kk : ∀ (H1 : Heap) (locs1 : List Loc), va_P D vwCl (wX cI q v (va_up f 2 (upd (f 2) i.toNatClampNeg x)) z) H1 → va_D A (wX cI q v (va_up f 2 (upd (f 2) i.toNatClampNeg x)) z) → va_S A H0 H1 locs1 → W p l e R s m args below meth c H1 locs1 cells slots Q (F0 m (pc + 1) ls rest)) : W p l e R s m args below meth c H locs cells slots Q (F0 m pc ls (.int x :: .int i :: .ref (q 6) :: rest)) :=
  va_iast hx hb hK hP hD hS 6 0 (f := f 2) rfl rfl hin hdg (fun H1 locs1 hP hD hS => kk H1 locs1 hP hD hS)
theorem xln_2 (hx : p.tables.exec = Jvm.exec) (hb : c.code = cc) (hK : va_K D vwCl [(cI, .int)] s) (hP : va_P D vwCl (wX cI q v f z) H) (hdg : decode cc pc = .ok (.arraylength, 1)) (kk : W p l e R s m args below meth c H locs cells slots Q (F0 m (pc + 1) ls (.int 4 :: rest))) : W p l e R s m args below meth c H locs cells slots Q (F0 m pc ls (.ref (q 6) :: rest)) :=
  va_alen hx hb hK hP 6 0 (x := (4, .inl (f 2))) rfl rfl rfl hdg kk
theorem xal_3 (hx : p.tables.exec = Jvm.exec) (hb : c.code = cc) (hK : va_K D vwCl [(cI, .int)] s) (hP : va_P D vwCl (wX cI q v f z) H) {i x : Int32} (hin : vp_in i 4) (hv : f 3 i.toNatClampNeg = x) (hdg : decode cc pc = .ok (.iaload, 1)) (kk : W p l e R s m args below meth c H locs cells slots Q (F0 m (pc + 1) ls (.int x :: rest))) : W p l e R s m args below meth c H locs cells slots Q (F0 m pc ls (.int i :: .ref (q 7) :: rest)) := by
  subst hv
  exact va_iald hx hb hK hP 7 0 (f := f 3) rfl rfl hin hdg kk
theorem xas_3 (hx : p.tables.exec = Jvm.exec) (hb : c.code = cc) (hK : va_K D vwCl [(cI, .int)] s) (hP : va_P D vwCl (wX cI q v f z) H) (hD : va_D A (wX cI q v f z)) (hS : va_S A H0 H locs) {i x : Int32} (hin : vp_in i 4) (hdg : decode cc pc = .ok (.iastore, 1)) (kk : ∀ (H1 : Heap) (locs1 : List Loc), va_P D vwCl (wX cI q v (va_up f 3 (upd (f 3) i.toNatClampNeg x)) z) H1 → va_D A (wX cI q v (va_up f 3 (upd (f 3) i.toNatClampNeg x)) z) → va_S A H0 H1 locs1 → W p l e R s m args below meth c H1 locs1 cells slots Q (F0 m (pc + 1) ls rest)) : W p l e R s m args below meth c H locs cells slots Q (F0 m pc ls (.int x :: .int i :: .ref (q 7) :: rest)) :=
  va_iast hx hb hK hP hD hS 7 0 (f := f 3) rfl rfl hin hdg (fun H1 locs1 hP hD hS => kk H1 locs1 hP hD hS)
theorem xln_3 (hx : p.tables.exec = Jvm.exec) (hb : c.code = cc) (hK : va_K D vwCl [(cI, .int)] s) (hP : va_P D vwCl (wX cI q v f z) H) (hdg : decode cc pc = .ok (.arraylength, 1)) (kk : W p l e R s m args below meth c H locs cells slots Q (F0 m (pc + 1) ls (.int 4 :: rest))) : W p l e R s m args below meth c H locs cells slots Q (F0 m pc ls (.ref (q 7) :: rest)) :=
  va_alen hx hb hK hP 7 0 (x := (4, .inl (f 3))) rfl rfl rfl hdg kk
theorem xal_4 (hx : p.tables.exec = Jvm.exec) (hb : c.code = cc) (hK : va_K D vwCl [(cI, .int)] s) (hP : va_P D vwCl (wX cI q v f z) H) {i x : Int32} (hin : vp_in i 4) (hv : f 4 i.toNatClampNeg = x) (hdg : decode cc pc = .ok (.iaload, 1)) (kk : W p l e R s m args below meth c H locs cells slots Q (F0 m (pc + 1) ls (.int x :: rest))) : W p l e R s m args below meth c H locs cells slots Q (F0 m pc ls (.int i :: .ref (q 9) :: rest)) := by
  subst hv
  exact va_iald hx hb hK hP 9 0 (f := f 4) rfl rfl hin hdg kk
theorem xas_4 (hx : p.tables.exec = Jvm.exec) (hb : c.code = cc) (hK : va_K D vwCl [(cI, .int)] s) (hP : va_P D vwCl (wX cI q v f z) H) (hD : va_D A (wX cI q v f z)) (hS : va_S A H0 H locs) {i x : Int32} (hin : vp_in i 4) (hdg : decode cc pc = .ok (.iastore, 1)) (kk : ∀ (H1 : Heap) (locs1 : List Loc), va_P D vwCl (wX cI q v (va_up f 4 (upd (f 4) i.toNatClampNeg x)) z) H1 → va_D A (wX cI q v (va_up f 4 (upd (f 4) i.toNatClampNeg x)) z) → va_S A H0 H1 locs1 → W p l e R s m args below meth c H1 locs1 cells slots Q (F0 m (pc + 1) ls rest)) : W p l e R s m args below meth c H locs cells slots Q (F0 m pc ls (.int x :: .int i :: .ref (q 9) :: rest)) :=
  va_iast hx hb hK hP hD hS 9 0 (f := f 4) rfl rfl hin hdg (fun H1 locs1 hP hD hS => kk H1 locs1 hP hD hS)
theorem xln_4 (hx : p.tables.exec = Jvm.exec) (hb : c.code = cc) (hK : va_K D vwCl [(cI, .int)] s) (hP : va_P D vwCl (wX cI q v f z) H) (hdg : decode cc pc = .ok (.arraylength, 1)) (kk : W p l e R s m args below meth c H locs cells slots Q (F0 m (pc + 1) ls (.int 4 :: rest))) : W p l e R s m args below meth c H locs cells slots Q (F0 m pc ls (.ref (q 9) :: rest)) :=
  va_alen hx hb hK hP 9 0 (x := (4, .inl (f 4))) rfl rfl rfl hdg kk
theorem xal_5 (hx : p.tables.exec = Jvm.exec) (hb : c.code = cc) (hK : va_K D vwCl [(cI, .int)] s) (hP : va_P D vwCl (wX cI q v f z) H) {i x : Int32} (hin : vp_in i 4) (hv : f 5 i.toNatClampNeg = x) (hdg : decode cc pc = .ok (.iaload, 1)) (kk : W p l e R s m args below meth c H locs cells slots Q (F0 m (pc + 1) ls (.int x :: rest))) : W p l e R s m args below meth c H locs cells slots Q (F0 m pc ls (.int i :: .ref (q 10) :: rest)) := by
  subst hv
  exact va_iald hx hb hK hP 10 0 (f := f 5) rfl rfl hin hdg kk
theorem xas_5 (hx : p.tables.exec = Jvm.exec) (hb : c.code = cc) (hK : va_K D vwCl [(cI, .int)] s) (hP : va_P D vwCl (wX cI q v f z) H) (hD : va_D A (wX cI q v f z)) (hS : va_S A H0 H locs) {i x : Int32} (hin : vp_in i 4) (hdg : decode cc pc = .ok (.iastore, 1)) (kk : ∀ (H1 : Heap) (locs1 : List Loc), va_P D vwCl (wX cI q v (va_up f 5 (upd (f 5) i.toNatClampNeg x)) z) H1 → va_D A (wX cI q v (va_up f 5 (upd (f 5) i.toNatClampNeg x)) z) → va_S A H0 H1 locs1 → W p l e R s m args below meth c H1 locs1 cells slots Q (F0 m (pc + 1) ls rest)) : W p l e R s m args below meth c H locs cells slots Q (F0 m pc ls (.int x :: .int i :: .ref (q 10) :: rest)) :=
  va_iast hx hb hK hP hD hS 10 0 (f := f 5) rfl rfl hin hdg (fun H1 locs1 hP hD hS => kk H1 locs1 hP hD hS)
theorem xln_5 (hx : p.tables.exec = Jvm.exec) (hb : c.code = cc) (hK : va_K D vwCl [(cI, .int)] s) (hP : va_P D vwCl (wX cI q v f z) H) (hdg : decode cc pc = .ok (.arraylength, 1)) (kk : W p l e R s m args below meth c H locs cells slots Q (F0 m (pc + 1) ls (.int 4 :: rest))) : W p l e R s m args below meth c H locs cells slots Q (F0 m pc ls (.ref (q 10) :: rest)) :=
  va_alen hx hb hK hP 10 0 (x := (4, .inl (f 5))) rfl rfl rfl hdg kk
theorem xal_6 (hx : p.tables.exec = Jvm.exec) (hb : c.code = cc) (hK : va_K D vwCl [(cI, .int)] s) (hP : va_P D vwCl (wX cI q v f z) H) {i x : Int32} (hin : vp_in i 4) (hv : f 6 i.toNatClampNeg = x) (hdg : decode cc pc = .ok (.iaload, 1)) (kk : W p l e R s m args below meth c H locs cells slots Q (F0 m (pc + 1) ls (.int x :: rest))) : W p l e R s m args below meth c H locs cells slots Q (F0 m pc ls (.int i :: .ref (q 11) :: rest)) := by
  subst hv
  exact va_iald hx hb hK hP 11 0 (f := f 6) rfl rfl hin hdg kk
theorem xas_6 (hx : p.tables.exec = Jvm.exec) (hb : c.code = cc) (hK : va_K D vwCl [(cI, .int)] s) (hP : va_P D vwCl (wX cI q v f z) H) (hD : va_D A (wX cI q v f z)) (hS : va_S A H0 H locs) {i x : Int32} (hin : vp_in i 4) (hdg : decode cc pc = .ok (.iastore, 1)) (kk : ∀ (H1 : Heap) (locs1 : List Loc), va_P D vwCl (wX cI q v (va_up f 6 (upd (f 6) i.toNatClampNeg x)) z) H1 → va_D A (wX cI q v (va_up f 6 (upd (f 6) i.toNatClampNeg x)) z) → va_S A H0 H1 locs1 → W p l e R s m args below meth c H1 locs1 cells slots Q (F0 m (pc + 1) ls rest)) : W p l e R s m args below meth c H locs cells slots Q (F0 m pc ls (.int x :: .int i :: .ref (q 11) :: rest)) :=
  va_iast hx hb hK hP hD hS 11 0 (f := f 6) rfl rfl hin hdg (fun H1 locs1 hP hD hS => kk H1 locs1 hP hD hS)
theorem xln_6 (hx : p.tables.exec = Jvm.exec) (hb : c.code = cc) (hK : va_K D vwCl [(cI, .int)] s) (hP : va_P D vwCl (wX cI q v f z) H) (hdg : decode cc pc = .ok (.arraylength, 1)) (kk : W p l e R s m args below meth c H locs cells slots Q (F0 m (pc + 1) ls (.int 4 :: rest))) : W p l e R s m args below meth c H locs cells slots Q (F0 m pc ls (.ref (q 11) :: rest)) :=
  va_alen hx hb hK hP 11 0 (x := (4, .inl (f 6))) rfl rfl rfl hdg kk
theorem xal_7 (hx : p.tables.exec = Jvm.exec) (hb : c.code = cc) (hK : va_K D vwCl [(cI, .int)] s) (hP : va_P D vwCl (wX cI q v f z) H) {i x : Int32} (hin : vp_in i 4) (hv : f 7 i.toNatClampNeg = x) (hdg : decode cc pc = .ok (.iaload, 1)) (kk : W p l e R s m args below meth c H locs cells slots Q (F0 m (pc + 1) ls (.int x :: rest))) : W p l e R s m args below meth c H locs cells slots Q (F0 m pc ls (.int i :: .ref (q 13) :: rest)) := by
  subst hv
  exact va_iald hx hb hK hP 13 0 (f := f 7) rfl rfl hin hdg kk
theorem xas_7 (hx : p.tables.exec = Jvm.exec) (hb : c.code = cc) (hK : va_K D vwCl [(cI, .int)] s) (hP : va_P D vwCl (wX cI q v f z) H) (hD : va_D A (wX cI q v f z)) (hS : va_S A H0 H locs) {i x : Int32} (hin : vp_in i 4) (hdg : decode cc pc = .ok (.iastore, 1)) (kk : ∀ (H1 : Heap) (locs1 : List Loc), va_P D vwCl (wX cI q v (va_up f 7 (upd (f 7) i.toNatClampNeg x)) z) H1 → va_D A (wX cI q v (va_up f 7 (upd (f 7) i.toNatClampNeg x)) z) → va_S A H0 H1 locs1 → W p l e R s m args below meth c H1 locs1 cells slots Q (F0 m (pc + 1) ls rest)) : W p l e R s m args below meth c H locs cells slots Q (F0 m pc ls (.int x :: .int i :: .ref (q 13) :: rest)) :=
  va_iast hx hb hK hP hD hS 13 0 (f := f 7) rfl rfl hin hdg (fun H1 locs1 hP hD hS => kk H1 locs1 hP hD hS)
theorem xln_7 (hx : p.tables.exec = Jvm.exec) (hb : c.code = cc) (hK : va_K D vwCl [(cI, .int)] s) (hP : va_P D vwCl (wX cI q v f z) H) (hdg : decode cc pc = .ok (.arraylength, 1)) (kk : W p l e R s m args below meth c H locs cells slots Q (F0 m (pc + 1) ls (.int 4 :: rest))) : W p l e R s m args below meth c H locs cells slots Q (F0 m pc ls (.ref (q 13) :: rest)) :=
  va_alen hx hb hK hP 13 0 (x := (4, .inl (f 7))) rfl rfl rfl hdg kk
theorem xal_8 (hx : p.tables.exec = Jvm.exec) (hb : c.code = cc) (hK : va_K D vwCl [(cI, .int)] s) (hP : va_P D vwCl (wX cI q v f z) H) {i x : Int32} (hin : vp_in i 8) (hv : f 8 i.toNatClampNeg = x) (hdg : decode cc pc = .ok (.iaload, 1)) (kk : W p l e R s m args below meth c H locs cells slots Q (F0 m (pc + 1) ls (.int x :: rest))) : W p l e R s m args below meth c H locs cells slots Q (F0 m pc ls (.int i :: .ref (q 14) :: rest)) := by
  subst hv
  exact va_iald hx hb hK hP 14 0 (f := f 8) rfl rfl hin hdg kk
theorem xas_8 (hx : p.tables.exec = Jvm.exec) (hb : c.code = cc) (hK : va_K D vwCl [(cI, .int)] s) (hP : va_P D vwCl (wX cI q v f z) H) (hD : va_D A (wX cI q v f z)) (hS : va_S A H0 H locs) {i x : Int32} (hin : vp_in i 8) (hdg : decode cc pc = .ok (.iastore, 1)) (kk : ∀ (H1 : Heap) (locs1 : List Loc), va_P D vwCl (wX cI q v (va_up f 8 (upd (f 8) i.toNatClampNeg x)) z) H1 → va_D A (wX cI q v (va_up f 8 (upd (f 8) i.toNatClampNeg x)) z) → va_S A H0 H1 locs1 → W p l e R s m args below meth c H1 locs1 cells slots Q (F0 m (pc + 1) ls rest)) : W p l e R s m args below meth c H locs cells slots Q (F0 m pc ls (.int x :: .int i :: .ref (q 14) :: rest)) :=
  va_iast hx hb hK hP hD hS 14 0 (f := f 8) rfl rfl hin hdg (fun H1 locs1 hP hD hS => kk H1 locs1 hP hD hS)
theorem xln_8 (hx : p.tables.exec = Jvm.exec) (hb : c.code = cc) (hK : va_K D vwCl [(cI, .int)] s) (hP : va_P D vwCl (wX cI q v f z) H) (hdg : decode cc pc = .ok (.arraylength, 1)) (kk : W p l e R s m args below meth c H locs cells slots Q (F0 m (pc + 1) ls (.int 8 :: rest))) : W p l e R s m args below meth c H locs cells slots Q (F0 m pc ls (.ref (q 14) :: rest)) :=
  va_alen hx hb hK hP 14 0 (x := (8, .inl (f 8))) rfl rfl rfl hdg kk
theorem xal_9 (hx : p.tables.exec = Jvm.exec) (hb : c.code = cc) (hK : va_K D vwCl [(cI, .int)] s) (hP : va_P D vwCl (wX cI q v f z) H) {i x : Int32} (hin : vp_in i 8) (hv : f 9 i.toNatClampNeg = x) (hdg : decode cc pc = .ok (.iaload, 1)) (kk : W p l e R s m args below meth c H locs cells slots Q (F0 m (pc + 1) ls (.int x :: rest))) : W p l e R s m args below meth c H locs cells slots Q (F0 m pc ls (.int i :: .ref (q 15) :: rest)) := by
  subst hv
  exact va_iald hx hb hK hP 15 0 (f := f 9) rfl rfl hin hdg kk
theorem xas_9 (hx : p.tables.exec = Jvm.exec) (hb : c.code = cc) (hK : va_K D vwCl [(cI, .int)] s) (hP : va_P D vwCl (wX cI q v f z) H) (hD : va_D A (wX cI q v f z)) (hS : va_S A H0 H locs) {i x : Int32} (hin : vp_in i 8) (hdg : decode cc pc = .ok (.iastore, 1)) (kk : ∀ (H1 : Heap) (locs1 : List Loc), va_P D vwCl (wX cI q v (va_up f 9 (upd (f 9) i.toNatClampNeg x)) z) H1 → va_D A (wX cI q v (va_up f 9 (upd (f 9) i.toNatClampNeg x)) z) → va_S A H0 H1 locs1 → W p l e R s m args below meth c H1 locs1 cells slots Q (F0 m (pc + 1) ls rest)) : W p l e R s m args below meth c H locs cells slots Q (F0 m pc ls (.int x :: .int i :: .ref (q 15) :: rest)) :=
  va_iast hx hb hK hP hD hS 15 0 (f := f 9) rfl rfl hin hdg (fun H1 locs1 hP hD hS => kk H1 locs1 hP hD hS)
theorem xln_9 (hx : p.tables.exec = Jvm.exec) (hb : c.code = cc) (hK : va_K D vwCl [(cI, .int)] s) (hP : va_P D vwCl (wX cI q v f z) H) (hdg : decode cc pc = .ok (.arraylength, 1)) (kk : W p l e R s m args below meth c H locs cells slots Q (F0 m (pc + 1) ls (.int 8 :: rest))) : W p l e R s m args below meth c H locs cells slots Q (F0 m pc ls (.ref (q 15) :: rest)) :=
  va_alen hx hb hK hP 15 0 (x := (8, .inl (f 9))) rfl rfl rfl hdg kk
theorem xal_10 (hx : p.tables.exec = Jvm.exec) (hb : c.code = cc) (hK : va_K D vwCl [(cI, .int)] s) (hP : va_P D vwCl (wX cI q v f z) H) {i x : Int32} (hin : vp_in i 8) (hv : f 10 i.toNatClampNeg = x) (hdg : decode cc pc = .ok (.iaload, 1)) (kk : W p l e R s m args below meth c H locs cells slots Q (F0 m (pc + 1) ls (.int x :: rest))) : W p l e R s m args below meth c H locs cells slots Q (F0 m pc ls (.int i :: .ref (q 16) :: rest)) := by
  subst hv
  exact va_iald hx hb hK hP 16 0 (f := f 10) rfl rfl hin hdg kk
theorem xas_10 (hx : p.tables.exec = Jvm.exec) (hb : c.code = cc) (hK : va_K D vwCl [(cI, .int)] s) (hP : va_P D vwCl (wX cI q v f z) H) (hD : va_D A (wX cI q v f z)) (hS : va_S A H0 H locs) {i x : Int32} (hin : vp_in i 8) (hdg : decode cc pc = .ok (.iastore, 1)) (kk : ∀ (H1 : Heap) (locs1 : List Loc), va_P D vwCl (wX cI q v (va_up f 10 (upd (f 10) i.toNatClampNeg x)) z) H1 → va_D A (wX cI q v (va_up f 10 (upd (f 10) i.toNatClampNeg x)) z) → va_S A H0 H1 locs1 → W p l e R s m args below meth c H1 locs1 cells slots Q (F0 m (pc + 1) ls rest)) : W p l e R s m args below meth c H locs cells slots Q (F0 m pc ls (.int x :: .int i :: .ref (q 16) :: rest)) :=
  va_iast hx hb hK hP hD hS 16 0 (f := f 10) rfl rfl hin hdg (fun H1 locs1 hP hD hS => kk H1 locs1 hP hD hS)
theorem xln_10 (hx : p.tables.exec = Jvm.exec) (hb : c.code = cc) (hK : va_K D vwCl [(cI, .int)] s) (hP : va_P D vwCl (wX cI q v f z) H) (hdg : decode cc pc = .ok (.arraylength, 1)) (kk : W p l e R s m args below meth c H locs cells slots Q (F0 m (pc + 1) ls (.int 8 :: rest))) : W p l e R s m args below meth c H locs cells slots Q (F0 m pc ls (.ref (q 16) :: rest)) :=
  va_alen hx hb hK hP 16 0 (x := (8, .inl (f 10))) rfl rfl rfl hdg kk
theorem xal_11 (hx : p.tables.exec = Jvm.exec) (hb : c.code = cc) (hK : va_K D vwCl [(cI, .int)] s) (hP : va_P D vwCl (wX cI q v f z) H) {i x : Int32} (hin : vp_in i 8) (hv : f 11 i.toNatClampNeg = x) (hdg : decode cc pc = .ok (.iaload, 1)) (kk : W p l e R s m args below meth c H locs cells slots Q (F0 m (pc + 1) ls (.int x :: rest))) : W p l e R s m args below meth c H locs cells slots Q (F0 m pc ls (.int i :: .ref (q 17) :: rest)) := by
  subst hv
  exact va_iald hx hb hK hP 17 0 (f := f 11) rfl rfl hin hdg kk
theorem xas_11 (hx : p.tables.exec = Jvm.exec) (hb : c.code = cc) (hK : va_K D vwCl [(cI, .int)] s) (hP : va_P D vwCl (wX cI q v f z) H) (hD : va_D A (wX cI q v f z)) (hS : va_S A H0 H locs) {i x : Int32} (hin : vp_in i 8) (hdg : decode cc pc = .ok (.iastore, 1)) (kk : ∀ (H1 : Heap) (locs1 : List Loc), va_P D vwCl (wX cI q v (va_up f 11 (upd (f 11) i.toNatClampNeg x)) z) H1 → va_D A (wX cI q v (va_up f 11 (upd (f 11) i.toNatClampNeg x)) z) → va_S A H0 H1 locs1 → W p l e R s m args below meth c H1 locs1 cells slots Q (F0 m (pc + 1) ls rest)) : W p l e R s m args below meth c H locs cells slots Q (F0 m pc ls (.int x :: .int i :: .ref (q 17) :: rest)) :=
  va_iast hx hb hK hP hD hS 17 0 (f := f 11) rfl rfl hin hdg (fun H1 locs1 hP hD hS => kk H1 locs1 hP hD hS)
theorem xln_11 (hx : p.tables.exec = Jvm.exec) (hb : c.code = cc) (hK : va_K D vwCl [(cI, .int)] s) (hP : va_P D vwCl (wX cI q v f z) H) (hdg : decode cc pc = .ok (.arraylength, 1)) (kk : W p l e R s m args below meth c H locs cells slots Q (F0 m (pc + 1) ls (.int 8 :: rest))) : W p l e R s m args below meth c H locs cells slots Q (F0 m pc ls (.ref (q 17) :: rest)) :=
  va_alen hx hb hK hP 17 0 (x := (8, .inl (f 11))) rfl rfl rfl hdg kk
theorem xal_12 (hx : p.tables.exec = Jvm.exec) (hb : c.code = cc) (hK : va_K D vwCl [(cI, .int)] s) (hP : va_P D vwCl (wX cI q v f z) H) {i x : Int32} (hin : vp_in i 8) (hv : f 12 i.toNatClampNeg = x) (hdg : decode cc pc = .ok (.iaload, 1)) (kk : W p l e R s m args below meth c H locs cells slots Q (F0 m (pc + 1) ls (.int x :: rest))) : W p l e R s m args below meth c H locs cells slots Q (F0 m pc ls (.int i :: .ref (q 18) :: rest)) := by
  subst hv
  exact va_iald hx hb hK hP 18 0 (f := f 12) rfl rfl hin hdg kk
theorem xas_12 (hx : p.tables.exec = Jvm.exec) (hb : c.code = cc) (hK : va_K D vwCl [(cI, .int)] s) (hP : va_P D vwCl (wX cI q v f z) H) (hD : va_D A (wX cI q v f z)) (hS : va_S A H0 H locs) {i x : Int32} (hin : vp_in i 8) (hdg : decode cc pc = .ok (.iastore, 1)) (kk : ∀ (H1 : Heap) (locs1 : List Loc), va_P D vwCl (wX cI q v (va_up f 12 (upd (f 12) i.toNatClampNeg x)) z) H1 → va_D A (wX cI q v (va_up f 12 (upd (f 12) i.toNatClampNeg x)) z) → va_S A H0 H1 locs1 → W p l e R s m args below meth c H1 locs1 cells slots Q (F0 m (pc + 1) ls rest)) : W p l e R s m args below meth c H locs cells slots Q (F0 m pc ls (.int x :: .int i :: .ref (q 18) :: rest)) :=
  va_iast hx hb hK hP hD hS 18 0 (f := f 12) rfl rfl hin hdg (fun H1 locs1 hP hD hS => kk H1 locs1 hP hD hS)
theorem xln_12 (hx : p.tables.exec = Jvm.exec) (hb : c.code = cc) (hK : va_K D vwCl [(cI, .int)] s) (hP : va_P D vwCl (wX cI q v f z) H) (hdg : decode cc pc = .ok (.arraylength, 1)) (kk : W p l e R s m args below meth c H locs cells slots Q (F0 m (pc + 1) ls (.int 8 :: rest))) : W p l e R s m args below meth c H locs cells slots Q (F0 m pc ls (.ref (q 18) :: rest)) :=
  va_alen hx hb hK hP 18 0 (x := (8, .inl (f 12))) rfl rfl rfl hdg kk
theorem xal_13 (hx : p.tables.exec = Jvm.exec) (hb : c.code = cc) (hK : va_K D vwCl [(cI, .int)] s) (hP : va_P D vwCl (wX cI q v f z) H) {i x : Int32} (hin : vp_in i 8) (hv : f 13 i.toNatClampNeg = x) (hdg : decode cc pc = .ok (.iaload, 1)) (kk : W p l e R s m args below meth c H locs cells slots Q (F0 m (pc + 1) ls (.int x :: rest))) : W p l e R s m args below meth c H locs cells slots Q (F0 m pc ls (.int i :: .ref (q 19) :: rest)) := by
  subst hv
  exact va_iald hx hb hK hP 19 0 (f := f 13) rfl rfl hin hdg kk
theorem xas_13 (hx : p.tables.exec = Jvm.exec) (hb : c.code = cc) (hK : va_K D vwCl [(cI, .int)] s) (hP : va_P D vwCl (wX cI q v f z) H) (hD : va_D A (wX cI q v f z)) (hS : va_S A H0 H locs) {i x : Int32} (hin : vp_in i 8) (hdg : decode cc pc = .ok (.iastore, 1)) (kk : ∀ (H1 : Heap) (locs1 : List Loc), va_P D vwCl (wX cI q v (va_up f 13 (upd (f 13) i.toNatClampNeg x)) z) H1 → va_D A (wX cI q v (va_up f 13 (upd (f 13) i.toNatClampNeg x)) z) → va_S A H0 H1 locs1 → W p l e R s m args below meth c H1 locs1 cells slots Q (F0 m (pc + 1) ls rest)) : W p l e R s m args below meth c H locs cells slots Q (F0 m pc ls (.int x :: .int i :: .ref (q 19) :: rest)) :=
  va_iast hx hb hK hP hD hS 19 0 (f := f 13) rfl rfl hin hdg (fun H1 locs1 hP hD hS => kk H1 locs1 hP hD hS)
theorem xln_13 (hx : p.tables.exec = Jvm.exec) (hb : c.code = cc) (hK : va_K D vwCl [(cI, .int)] s) (hP : va_P D vwCl (wX cI q v f z) H) (hdg : decode cc pc = .ok (.arraylength, 1)) (kk : W p l e R s m args below meth c H locs cells slots Q (F0 m (pc + 1) ls (.int 8 :: rest))) : W p l e R s m args below meth c H locs cells slots Q (F0 m pc ls (.ref (q 19) :: rest)) :=
  va_alen hx hb hK hP 19 0 (x := (8, .inl (f 13))) rfl rfl rfl hdg kk
theorem xal_14 (hx : p.tables.exec = Jvm.exec) (hb : c.code = cc) (hK : va_K D vwCl [(cI, .int)] s) (hP : va_P D vwCl (wX cI q v f z) H) {i x : Int32} (hin : vp_in i 8) (hv : f 14 i.toNatClampNeg = x) (hdg : decode cc pc = .ok (.iaload, 1)) (kk : W p l e R s m args below meth c H locs cells slots Q (F0 m (pc + 1) ls (.int x :: rest))) : W p l e R s m args below meth c H locs cells slots Q (F0 m pc ls (.int i :: .ref (q 20) :: rest)) := by
  subst hv
  exact va_iald hx hb hK hP 20 0 (f := f 14) rfl rfl hin hdg kk
theorem xas_14 (hx : p.tables.exec = Jvm.exec) (hb : c.code = cc) (hK : va_K D vwCl [(cI, .int)] s) (hP : va_P D vwCl (wX cI q v f z) H) (hD : va_D A (wX cI q v f z)) (hS : va_S A H0 H locs) {i x : Int32} (hin : vp_in i 8) (hdg : decode cc pc = .ok (.iastore, 1)) (kk : ∀ (H1 : Heap) (locs1 : List Loc), va_P D vwCl (wX cI q v (va_up f 14 (upd (f 14) i.toNatClampNeg x)) z) H1 → va_D A (wX cI q v (va_up f 14 (upd (f 14) i.toNatClampNeg x)) z) → va_S A H0 H1 locs1 → W p l e R s m args below meth c H1 locs1 cells slots Q (F0 m (pc + 1) ls rest)) : W p l e R s m args below meth c H locs cells slots Q (F0 m pc ls (.int x :: .int i :: .ref (q 20) :: rest)) :=
  va_iast hx hb hK hP hD hS 20 0 (f := f 14) rfl rfl hin hdg (fun H1 locs1 hP hD hS => kk H1 locs1 hP hD hS)
theorem xln_14 (hx : p.tables.exec = Jvm.exec) (hb : c.code = cc) (hK : va_K D vwCl [(cI, .int)] s) (hP : va_P D vwCl (wX cI q v f z) H) (hdg : decode cc pc = .ok (.arraylength, 1)) (kk : W p l e R s m args below meth c H locs cells slots Q (F0 m (pc + 1) ls (.int 8 :: rest))) : W p l e R s m args below meth c H locs cells slots Q (F0 m pc ls (.ref (q 20) :: rest)) :=
  va_alen hx hb hK hP 20 0 (x := (8, .inl (f 14))) rfl rfl rfl hdg kk
theorem xal_15 (hx : p.tables.exec = Jvm.exec) (hb : c.code = cc) (hK : va_K D vwCl [(cI, .int)] s) (hP : va_P D vwCl (wX cI q v f z) H) {i x : Int32} (hin : vp_in i 4) (hv : f 15 i.toNatClampNeg = x) (hdg : decode cc pc = .ok (.iaload, 1)) (kk : W p l e R s m args below meth c H locs cells slots Q (F0 m (pc + 1) ls (.int x :: rest))) : W p l e R s m args below meth c H locs cells slots Q (F0 m pc ls (.int i :: .ref (q 22) :: rest)) := by
  subst hv
  exact va_iald hx hb hK hP 22 0 (f := f 15) rfl rfl hin hdg kk
theorem xas_15 (hx : p.tables.exec = Jvm.exec) (hb : c.code = cc) (hK : va_K D vwCl [(cI, .int)] s) (hP : va_P D vwCl (wX cI q v f z) H) (hD : va_D A (wX cI q v f z)) (hS : va_S A H0 H locs) {i x : Int32} (hin : vp_in i 4) (hdg : decode cc pc = .ok (.iastore, 1)) (kk : ∀ (H1 : Heap) (locs1 : List Loc), va_P D vwCl (wX cI q v (va_up f 15 (upd (f 15) i.toNatClampNeg x)) z) H1 → va_D A (wX cI q v (va_up f 15 (upd (f 15) i.toNatClampNeg x)) z) → va_S A H0 H1 locs1 → W p l e R s m args below meth c H1 locs1 cells slots Q (F0 m (pc + 1) ls rest)) : W p l e R s m args below meth c H locs cells slots Q (F0 m pc ls (.int x :: .int i :: .ref (q 22) :: rest)) :=
  va_iast hx hb hK hP hD hS 22 0 (f := f 15) rfl rfl hin hdg (fun H1 locs1 hP hD hS => kk H1 locs1 hP hD hS)
theorem xln_15 (hx : p.tables.exec = Jvm.exec) (hb : c.code = cc) (hK : va_K D vwCl [(cI, .int)] s) (hP : va_P D vwCl (wX cI q v f z) H) (hdg : decode cc pc = .ok (.arraylength, 1)) (kk : W p l e R s m args below meth c H locs cells slots Q (F0 m (pc + 1) ls (.int 4 :: rest))) : W p l e R s m args below meth c H locs cells slots Q (F0 m pc ls (.ref (q 22) :: rest)) :=
  va_alen hx hb hK hP 22 0 (x := (4, .inl (f 15))) rfl rfl rfl hdg kk
theorem xal_16 (hx : p.tables.exec = Jvm.exec) (hb : c.code = cc) (hK : va_K D vwCl [(cI, .int)] s) (hP : va_P D vwCl (wX cI q v f z) H) {i x : Int32} (hin : vp_in i 8) (hv : f 16 i.toNatClampNeg = x) (hdg : decode cc pc = .ok (.iaload, 1)) (kk : W p l e R s m args below meth c H locs cells slots Q (F0 m (pc + 1) ls (.int x :: rest))) : W p l e R s m args below meth c H locs cells slots Q (F0 m pc ls (.int i :: .ref (q 23) :: rest)) := by
  subst hv
  exact va_iald hx hb hK hP 23 0 (f := f 16) rfl rfl hin hdg kk
theorem xas_16 (hx : p.tables.exec = Jvm.exec) (hb : c.code = cc) (hK : va_K D vwCl [(cI, .int)] s) (hP : va_P D vwCl (wX cI q v f z) H) (hD : va_D A (wX cI q v f z)) (hS : va_S A H0 H locs) {i x : Int32} (hin : vp_in i 8) (hdg : decode cc pc = .ok (.iastore, 1)) (kk : ∀ (H1 : Heap) (locs1 : List Loc), va_P D vwCl (wX cI q v (va_up f 16 (upd (f 16) i.toNatClampNeg x)) z) H1 → va_D A (wX cI q v (va_up f 16 (upd (f 16) i.toNatClampNeg x)) z) → va_S A H0 H1 locs1 → W p l e R s m args below meth c H1 locs1 cells slots Q (F0 m (pc + 1) ls rest)) : W p l e R s m args below meth c H locs cells slots Q (F0 m pc ls (.int x :: .int i :: .ref (q 23) :: rest)) :=
  va_iast hx hb hK hP hD hS 23 0 (f := f 16) rfl rfl hin hdg (fun H1 locs1 hP hD hS => kk H1 locs1 hP hD hS)
theorem xln_16 (hx : p.tables.exec = Jvm.exec) (hb : c.code = cc) (hK : va_K D vwCl [(cI, .int)] s) (hP : va_P D vwCl (wX cI q v f z) H) (hdg : decode cc pc = .ok (.arraylength, 1)) (kk : W p l e R s m args below meth c H locs cells slots Q (F0 m (pc + 1) ls (.int 8 :: rest))) : W p l e R s m args below meth c H locs cells slots Q (F0 m pc ls (.ref (q 23) :: rest)) :=
  va_alen hx hb hK hP 23 0 (x := (8, .inl (f 16))) rfl rfl rfl hdg kk
theorem xal_17 (hx : p.tables.exec = Jvm.exec) (hb : c.code = cc) (hK : va_K D vwCl [(cI, .int)] s) (hP : va_P D vwCl (wX cI q v f z) H) {i x : Int32} (hin : vp_in i 8) (hv : f 17 i.toNatClampNeg = x) (hdg : decode cc pc = .ok (.iaload, 1)) (kk : W p l e R s m args below meth c H locs cells slots Q (F0 m (pc + 1) ls (.int x :: rest))) : W p l e R s m args below meth c H locs cells slots Q (F0 m pc ls (.int i :: .ref (q 24) :: rest)) := by
  subst hv
  exact va_iald hx hb hK hP 24 0 (f := f 17) rfl rfl hin hdg kk
theorem xas_17 (hx : p.tables.exec = Jvm.exec) (hb : c.code = cc) (hK : va_K D vwCl [(cI, .int)] s) (hP : va_P D vwCl (wX cI q v f z) H) (hD : va_D A (wX cI q v f z)) (hS : va_S A H0 H locs) {i x : Int32} (hin : vp_in i 8) (hdg : decode cc pc = .ok (.iastore, 1)) (kk : ∀ (H1 : Heap) (locs1 : List Loc), va_P D vwCl (wX cI q v (va_up f 17 (upd (f 17) i.toNatClampNeg x)) z) H1 → va_D A (wX cI q v (va_up f 17 (upd (f 17) i.toNatClampNeg x)) z) → va_S A H0 H1 locs1 → W p l e R s m args below meth c H1 locs1 cells slots Q (F0 m (pc + 1) ls rest)) : W p l e R s m args below meth c H locs cells slots Q (F0 m pc ls (.int x :: .int i :: .ref (q 24) :: rest)) :=
  va_iast hx hb hK hP hD hS 24 0 (f := f 17) rfl rfl hin hdg (fun H1 locs1 hP hD hS => kk H1 locs1 hP hD hS)
theorem xln_17 (hx : p.tables.exec = Jvm.exec) (hb : c.code = cc) (hK : va_K D vwCl [(cI, .int)] s) (hP : va_P D vwCl (wX cI q v f z) H) (hdg : decode cc pc = .ok (.arraylength, 1)) (kk : W p l e R s m args below meth c H locs cells slots Q (F0 m (pc + 1) ls (.int 8 :: rest))) : W p l e R s m args below meth c H locs cells slots Q (F0 m pc ls (.ref (q 24) :: rest)) :=
  va_alen hx hb hK hP 24 0 (x := (8, .inl (f 17))) rfl rfl rfl hdg kk
theorem xal_18 (hx : p.tables.exec = Jvm.exec) (hb : c.code = cc) (hK : va_K D vwCl [(cI, .int)] s) (hP : va_P D vwCl (wX cI q v f z) H) {i x : Int32} (hin : vp_in i 8) (hv : f 18 i.toNatClampNeg = x) (hdg : decode cc pc = .ok (.iaload, 1)) (kk : W p l e R s m args below meth c H locs cells slots Q (F0 m (pc + 1) ls (.int x :: rest))) : W p l e R s m args below meth c H locs cells slots Q (F0 m pc ls (.int i :: .ref (q 25) :: rest)) := by
  subst hv
  exact va_iald hx hb hK hP 25 0 (f := f 18) rfl rfl hin hdg kk
theorem xas_18 (hx : p.tables.exec = Jvm.exec) (hb : c.code = cc) (hK : va_K D vwCl [(cI, .int)] s) (hP : va_P D vwCl (wX cI q v f z) H) (hD : va_D A (wX cI q v f z)) (hS : va_S A H0 H locs) {i x : Int32} (hin : vp_in i 8) (hdg : decode cc pc = .ok (.iastore, 1)) (kk : ∀ (H1 : Heap) (locs1 : List Loc), va_P D vwCl (wX cI q v (va_up f 18 (upd (f 18) i.toNatClampNeg x)) z) H1 → va_D A (wX cI q v (va_up f 18 (upd (f 18) i.toNatClampNeg x)) z) → va_S A H0 H1 locs1 → W p l e R s m args below meth c H1 locs1 cells slots Q (F0 m (pc + 1) ls rest)) : W p l e R s m args below meth c H locs cells slots Q (F0 m pc ls (.int x :: .int i :: .ref (q 25) :: rest)) :=
  va_iast hx hb hK hP hD hS 25 0 (f := f 18) rfl rfl hin hdg (fun H1 locs1 hP hD hS => kk H1 locs1 hP hD hS)
theorem xln_18 (hx : p.tables.exec = Jvm.exec) (hb : c.code = cc) (hK : va_K D vwCl [(cI, .int)] s) (hP : va_P D vwCl (wX cI q v f z) H) (hdg : decode cc pc = .ok (.arraylength, 1)) (kk : W p l e R s m args below meth c H locs cells slots Q (F0 m (pc + 1) ls (.int 8 :: rest))) : W p l e R s m args below meth c H locs cells slots Q (F0 m pc ls (.ref (q 25) :: rest)) :=
  va_alen hx hb hK hP 25 0 (x := (8, .inl (f 18))) rfl rfl rfl hdg kk
theorem xal_19 (hx : p.tables.exec = Jvm.exec) (hb : c.code = cc) (hK : va_K D vwCl [(cI, .int)] s) (hP : va_P D vwCl (wX cI q v f z) H) {i x : Int32} (hin : vp_in i 8) (hv : f 19 i.toNatClampNeg = x) (hdg : decode cc pc = .ok (.iaload, 1)) (kk : W p l e R s m args below meth c H locs cells slots Q (F0 m (pc + 1) ls (.int x :: rest))) : W p l e R s m args below meth c H locs cells slots Q (F0 m pc ls (.int i :: .ref (q 26) :: rest)) := by
  subst hv
  exact va_iald hx hb hK hP 26 0 (f := f 19) rfl rfl hin hdg kk
theorem xas_19 (hx : p.tables.exec = Jvm.exec) (hb : c.code = cc) (hK : va_K D vwCl [(cI, .int)] s) (hP : va_P D vwCl (wX cI q v f z) H) (hD : va_D A (wX cI q v f z)) (hS : va_S A H0 H locs) {i x : Int32} (hin : vp_in i 8) (hdg : decode cc pc = .ok (.iastore, 1)) (kk : ∀ (H1 : Heap) (locs1 : List Loc), va_P D vwCl (wX cI q v (va_up f 19 (upd (f 19) i.toNatClampNeg x)) z) H1 → va_D A (wX cI q v (va_up f 19 (upd (f 19) i.toNatClampNeg x)) z) → va_S A H0 H1 locs1 → W p l e R s m args below meth c H1 locs1 cells slots Q (F0 m (pc + 1) ls rest)) : W p l e R s m args below meth c H locs cells slots Q (F0 m pc ls (.int x :: .int i :: .ref (q 26) :: rest)) :=
  va_iast hx hb hK hP hD hS 26 0 (f := f 19) rfl rfl hin hdg (fun H1 locs1 hP hD hS => kk H1 locs1 hP hD hS)
theorem xln_19 (hx : p.tables.exec = Jvm.exec) (hb : c.code = cc) (hK : va_K D vwCl [(cI, .int)] s) (hP : va_P D vwCl (wX cI q v f z) H) (hdg : decode cc pc = .ok (.arraylength, 1)) (kk : W p l e R s m args below meth c H locs cells slots Q (F0 m (pc + 1) ls (.int 8 :: rest))) : W p l e R s m args below meth c H locs cells slots Q (F0 m pc ls (.ref (q 26) :: rest)) :=
  va_alen hx hb hK hP 26 0 (x := (8, .inl (f 19))) rfl rfl rfl hdg kk
theorem xal_20 (hx : p.tables.exec = Jvm.exec) (hb : c.code = cc) (hK : va_K D vwCl [(cI, .int)] s) (hP : va_P D vwCl (wX cI q v f z) H) {i x : Int32} (hin : vp_in i 8) (hv : f 20 i.toNatClampNeg = x) (hdg : decode cc pc = .ok (.iaload, 1)) (kk : W p l e R s m args below meth c H locs cells slots Q (F0 m (pc + 1) ls (.int x :: rest))) : W p l e R s m args below meth c H locs cells slots Q (F0 m pc ls (.int i :: .ref (q 27) :: rest)) := by
  subst hv
  exact va_iald hx hb hK hP 27 0 (f := f 20) rfl rfl hin hdg kk
theorem xas_20 (hx : p.tables.exec = Jvm.exec) (hb : c.code = cc) (hK : va_K D vwCl [(cI, .int)] s) (hP : va_P D vwCl (wX cI q v f z) H) (hD : va_D A (wX cI q v f z)) (hS : va_S A H0 H locs) {i x : Int32} (hin : vp_in i 8) (hdg : decode cc pc = .ok (.iastore, 1)) (kk : ∀ (H1 : Heap) (locs1 : List Loc), va_P D vwCl (wX cI q v (va_up f 20 (upd (f 20) i.toNatClampNeg x)) z) H1 → va_D A (wX cI q v (va_up f 20 (upd (f 20) i.toNatClampNeg x)) z) → va_S A H0 H1 locs1 → W p l e R s m args below meth c H1 locs1 cells slots Q (F0 m (pc + 1) ls rest)) : W p l e R s m args below meth c H locs cells slots Q (F0 m pc ls (.int x :: .int i :: .ref (q 27) :: rest)) :=
  va_iast hx hb hK hP hD hS 27 0 (f := f 20) rfl rfl hin hdg (fun H1 locs1 hP hD hS => kk H1 locs1 hP hD hS)
theorem xln_20 (hx : p.tables.exec = Jvm.exec) (hb : c.code = cc) (hK : va_K D vwCl [(cI, .int)] s) (hP : va_P D vwCl (wX cI q v f z) H) (hdg : decode cc pc = .ok (.arraylength, 1)) (kk : W p l e R s m args below meth c H locs cells slots Q (F0 m (pc + 1) ls (.int 8 :: rest))) : W p l e R s m args below meth c H locs cells slots Q (F0 m pc ls (.ref (q 27) :: rest)) :=
  va_alen hx hb hK hP 27 0 (x := (8, .inl (f 20))) rfl rfl rfl hdg kk
theorem xal_21 (hx : p.tables.exec = Jvm.exec) (hb : c.code = cc) (hK : va_K D vwCl [(cI, .int)] s) (hP : va_P D vwCl (wX cI q v f z) H) {i x : Int32} (hin : vp_in i 8) (hv : f 21 i.toNatClampNeg = x) (hdg : decode cc pc = .ok (.iaload, 1)) (kk : W p l e R s m args below meth c H locs cells slots Q (F0 m (pc + 1) ls (.int x :: rest))) : W p l e R s m args below meth c H locs cells slots Q (F0 m pc ls (.int i :: .ref (q 28) :: rest)) := by
  subst hv
  exact va_iald hx hb hK hP 28 0 (f := f 21) rfl rfl hin hdg kk
theorem xas_21 (hx : p.tables.exec = Jvm.exec) (hb : c.code = cc) (hK : va_K D vwCl [(cI, .int)] s) (hP : va_P D vwCl (wX cI q v f z) H) (hD : va_D A (wX cI q v f z)) (hS : va_S A H0 H locs) {i x : Int32} (hin : vp_in i 8) (hdg : decode cc pc = .ok (.iastore, 1)) (kk : ∀ (H1 : Heap) (locs1 : List Loc), va_P D vwCl (wX cI q v (va_up f 21 (upd (f 21) i.toNatClampNeg x)) z) H1 → va_D A (wX cI q v (va_up f 21 (upd (f 21) i.toNatClampNeg x)) z) → va_S A H0 H1 locs1 → W p l e R s m args below meth c H1 locs1 cells slots Q (F0 m (pc + 1) ls rest)) : W p l e R s m args below meth c H locs cells slots Q (F0 m pc ls (.int x :: .int i :: .ref (q 28) :: rest)) :=
  va_iast hx hb hK hP hD hS 28 0 (f := f 21) rfl rfl hin hdg (fun H1 locs1 hP hD hS => kk H1 locs1 hP hD hS)
theorem xln_21 (hx : p.tables.exec = Jvm.exec) (hb : c.code = cc) (hK : va_K D vwCl [(cI, .int)] s) (hP : va_P D vwCl (wX cI q v f z) H) (hdg : decode cc pc = .ok (.arraylength, 1)) (kk : W p l e R s m args below meth c H locs cells slots Q (F0 m (pc + 1) ls (.int 8 :: rest))) : W p l e R s m args below meth c H locs cells slots Q (F0 m pc ls (.ref (q 28) :: rest)) :=
  va_alen hx hb hK hP 28 0 (x := (8, .inl (f 21))) rfl rfl rfl hdg kk
theorem xal_22 (hx : p.tables.exec = Jvm.exec) (hb : c.code = cc) (hK : va_K D vwCl [(cI, .int)] s) (hP : va_P D vwCl (wX cI q v f z) H) {i x : Int32} (hin : vp_in i 8) (hv : f 22 i.toNatClampNeg = x) (hdg : decode cc pc = .ok (.iaload, 1)) (kk : W p l e R s m args below meth c H locs cells slots Q (F0 m (pc + 1) ls (.int x :: rest))) : W p l e R s m args below meth c H locs cells slots Q (F0 m pc ls (.int i :: .ref (q 29) :: rest)) := by
  subst hv
  exact va_iald hx hb hK hP 29 0 (f := f 22) rfl rfl hin hdg kk
theorem xas_22 (hx : p.tables.exec = Jvm.exec) (hb : c.code = cc) (hK : va_K D vwCl [(cI, .int)] s) (hP : va_P D vwCl (wX cI q v f z) H) (hD : va_D A (wX cI q v f z)) (hS : va_S A H0 H locs) {i x : Int32} (hin : vp_in i 8) (hdg : decode cc pc = .ok (.iastore, 1)) (kk : ∀ (H1 : Heap) (locs1 : List Loc), va_P D vwCl (wX cI q v (va_up f 22 (upd (f 22) i.toNatClampNeg x)) z) H1 → va_D A (wX cI q v (va_up f 22 (upd (f 22) i.toNatClampNeg x)) z) → va_S A H0 H1 locs1 → W p l e R s m args below meth c H1 locs1 cells slots Q (F0 m (pc + 1) ls rest)) : W p l e R s m args below meth c H locs cells slots Q (F0 m pc ls (.int x :: .int i :: .ref (q 29) :: rest)) :=
  va_iast hx hb hK hP hD hS 29 0 (f := f 22) rfl rfl hin hdg (fun H1 locs1 hP hD hS => kk H1 locs1 hP hD hS)
theorem xln_22 (hx : p.tables.exec = Jvm.exec) (hb : c.code = cc) (hK : va_K D vwCl [(cI, .int)] s) (hP : va_P D vwCl (wX cI q v f z) H) (hdg : decode cc pc = .ok (.arraylength, 1)) (kk : W p l e R s m args below meth c H locs cells slots Q (F0 m (pc + 1) ls (.int 8 :: rest))) : W p l e R s m args below meth c H locs cells slots Q (F0 m pc ls (.ref (q 29) :: rest)) :=
  va_alen hx hb hK hP 29 0 (x := (8, .inl (f 22))) rfl rfl rfl hdg kk
theorem xal_23 (hx : p.tables.exec = Jvm.exec) (hb : c.code = cc) (hK : va_K D vwCl [(cI, .int)] s) (hP : va_P D vwCl (wX cI q v f z) H) {i x : Int32} (hin : vp_in i 4) (hv : f 23 i.toNatClampNeg = x) (hdg : decode cc pc = .ok (.iaload, 1)) (kk : W p l e R s m args below meth c H locs cells slots Q (F0 m (pc + 1) ls (.int x :: rest))) : W p l e R s m args below meth c H locs cells slots Q (F0 m pc ls (.int i :: .ref (q 31) :: rest)) := by
  subst hv
  exact va_iald hx hb hK hP 31 0 (f := f 23) rfl rfl hin hdg kk
theorem xas_23 (hx : p.tables.exec = Jvm.exec) (hb : c.code = cc) (hK : va_K D vwCl [(cI, .int)] s) (hP : va_P D vwCl (wX cI q v f z) H) (hD : va_D A (wX cI q v f z)) (hS : va_S A H0 H locs) {i x : Int32} (hin : vp_in i 4) (hdg : decode cc pc = .ok (.iastore, 1)) (kk : ∀ (H1 : Heap) (locs1 : List Loc), va_P D vwCl (wX cI q v (va_up f 23 (upd (f 23) i.toNatClampNeg x)) z) H1 → va_D A (wX cI q v (va_up f 23 (upd (f 23) i.toNatClampNeg x)) z) → va_S A H0 H1 locs1 → W p l e R s m args below meth c H1 locs1 cells slots Q (F0 m (pc + 1) ls rest)) : W p l e R s m args below meth c H locs cells slots Q (F0 m pc ls (.int x :: .int i :: .ref (q 31) :: rest)) :=
  va_iast hx hb hK hP hD hS 31 0 (f := f 23) rfl rfl hin hdg (fun H1 locs1 hP hD hS => kk H1 locs1 hP hD hS)
theorem xln_23 (hx : p.tables.exec = Jvm.exec) (hb : c.code = cc) (hK : va_K D vwCl [(cI, .int)] s) (hP : va_P D vwCl (wX cI q v f z) H) (hdg : decode cc pc = .ok (.arraylength, 1)) (kk : W p l e R s m args below meth c H locs cells slots Q (F0 m (pc + 1) ls (.int 4 :: rest))) : W p l e R s m args below meth c H locs cells slots Q (F0 m pc ls (.ref (q 31) :: rest)) :=
  va_alen hx hb hK hP 31 0 (x := (4, .inl (f 23))) rfl rfl rfl hdg kk
theorem xal_24 (hx : p.tables.exec = Jvm.exec) (hb : c.code = cc) (hK : va_K D vwCl [(cI, .int)] s) (hP : va_P D vwCl (wX cI q v f z) H) {i x : Int32} (hin : vp_in i 4) (hv : f 24 i.toNatClampNeg = x) (hdg : decode cc pc = .ok (.iaload, 1)) (kk : W p l e R s m args below meth c H locs cells slots Q (F0 m (pc + 1) ls (.int x :: rest))) : W p l e R s m args below meth c H locs cells slots Q (F0 m pc ls (.int i :: .ref (q 32) :: rest)) := by
  subst hv
  exact va_iald hx hb hK hP 32 0 (f := f 24) rfl rfl hin hdg kk
theorem xas_24 (hx : p.tables.exec = Jvm.exec) (hb : c.code = cc) (hK : va_K D vwCl [(cI, .int)] s) (hP : va_P D vwCl (wX cI q v f z) H) (hD : va_D A (wX cI q v f z)) (hS : va_S A H0 H locs) {i x : Int32} (hin : vp_in i 4) (hdg : decode cc pc = .ok (.iastore, 1)) (kk : ∀ (H1 : Heap) (locs1 : List Loc), va_P D vwCl (wX cI q v (va_up f 24 (upd (f 24) i.toNatClampNeg x)) z) H1 → va_D A (wX cI q v (va_up f 24 (upd (f 24) i.toNatClampNeg x)) z) → va_S A H0 H1 locs1 → W p l e R s m args below meth c H1 locs1 cells slots Q (F0 m (pc + 1) ls rest)) : W p l e R s m args below meth c H locs cells slots Q (F0 m pc ls (.int x :: .int i :: .ref (q 32) :: rest)) :=
  va_iast hx hb hK hP hD hS 32 0 (f := f 24) rfl rfl hin hdg (fun H1 locs1 hP hD hS => kk H1 locs1 hP hD hS)
theorem xln_24 (hx : p.tables.exec = Jvm.exec) (hb : c.code = cc) (hK : va_K D vwCl [(cI, .int)] s) (hP : va_P D vwCl (wX cI q v f z) H) (hdg : decode cc pc = .ok (.arraylength, 1)) (kk : W p l e R s m args below meth c H locs cells slots Q (F0 m (pc + 1) ls (.int 4 :: rest))) : W p l e R s m args below meth c H locs cells slots Q (F0 m pc ls (.ref (q 32) :: rest)) :=
  va_alen hx hb hK hP 32 0 (x := (4, .inl (f 24))) rfl rfl rfl hdg kk
theorem xal_25 (hx : p.tables.exec = Jvm.exec) (hb : c.code = cc) (hK : va_K D vwCl [(cI, .int)] s) (hP : va_P D vwCl (wX cI q v f z) H) {i x : Int32} (hin : vp_in i 4) (hv : f 25 i.toNatClampNeg = x) (hdg : decode cc pc = .ok (.iaload, 1)) (kk : W p l e R s m args below meth c H locs cells slots Q (F0 m (pc + 1) ls (.int x :: rest))) : W p l e R s m args below meth c H locs cells slots Q (F0 m pc ls (.int i :: .ref (q 34) :: rest)) := by
  subst hv
  exact va_iald hx hb hK hP 34 0 (f := f 25) rfl rfl hin hdg kk
theorem xas_25 (hx : p.tables.exec = Jvm.exec) (hb : c.code = cc) (hK : va_K D vwCl [(cI, .int)] s) (hP : va_P D vwCl (wX cI q v f z) H) (hD : va_D A (wX cI q v f z)) (hS : va_S A H0 H locs) {i x : Int32} (hin : vp_in i 4) (hdg : decode cc pc = .ok (.iastore, 1)) (kk : ∀ (H1 : Heap) (locs1 : List Loc), va_P D vwCl (wX cI q v (va_up f 25 (upd (f 25) i.toNatClampNeg x)) z) H1 → va_D A (wX cI q v (va_up f 25 (upd (f 25) i.toNatClampNeg x)) z) → va_S A H0 H1 locs1 → W p l e R s m args below meth c H1 locs1 cells slots Q (F0 m (pc + 1) ls rest)) : W p l e R s m args below meth c H locs cells slots Q (F0 m pc ls (.int x :: .int i :: .ref (q 34) :: rest)) :=
  va_iast hx hb hK hP hD hS 34 0 (f := f 25) rfl rfl hin hdg (fun H1 locs1 hP hD hS => kk H1 locs1 hP hD hS)
theorem xln_25 (hx : p.tables.exec = Jvm.exec) (hb : c.code = cc) (hK : va_K D vwCl [(cI, .int)] s) (hP : va_P D vwCl (wX cI q v f z) H) (hdg : decode cc pc = .ok (.arraylength, 1)) (kk : W p l e R s m args below meth c H locs cells slots Q (F0 m (pc + 1) ls (.int 4 :: rest))) : W p l e R s m args below meth c H locs cells slots Q (F0 m pc ls (.ref (q 34) :: rest)) :=
  va_alen hx hb hK hP 34 0 (x := (4, .inl (f 25))) rfl rfl rfl hdg kk
theorem xcp_1_4 (hx : p.tables.exec = Jvm.exec) (hb : c.code = cc) (hml : c.maxLocals = ls.size) (hown : s.vm.findClass own = some m.cls) (hlink : (Cond.methodLink own index arraycopyName).before args s = true) (hnat : (Cond.native arraycopyName).before args s = true) (hstat : (Cond.static arraycopyName).before args s = true) (hini : (Cond.initialized "java/lang/System").before args s = true) (hK : va_K D vwCl [(cI, .int)] s) (hP : va_P D vwCl (wX cI q v f z) H) (hD : va_D A (wX cI q v f z)) (hS : va_S A H0 H locs) (hfr : 1 ≤ R.frames) (hlo : (rest.map fun v => v.category).sum + (nativeFrameWords "java/lang/System" "arraycopy" 5 + 11) ≤ R.locals) (hdg : decode cc pc = .ok (.invokestatic index, 3)) (kk : ∀ (H1 : Heap) (locs1 : List Loc), va_P D vwCl (wX cI q v (va_up f 4 (va_cpy (f 1) (f 4) 0 0 4)) z) H1 → va_D A (wX cI q v (va_up f 4 (va_cpy (f 1) (f 4) 0 0 4)) z) → va_S A H0 H1 locs1 → W p l e R s m args below meth c H1 locs1 cells slots Q (F0 m (pc + 3) ls rest)) : W p l e R s m args below meth c H locs cells slots Q (F0 m pc ls (.int 4 :: .int 0 :: .ref (q 9) :: .int 0 :: .ref (q 5) :: rest)) :=
  va_copyi hx hb hml hown hlink hnat hstat hini hK hP hD hS 5 9 0 0 (f := f 1) (g := f 4) rfl rfl rfl rfl rfl (by decide) (by decide) (by decide) (by decide) (by decide) (fun _ _ => rfl) hfr hlo hdg (fun H1 locs1 hP hD hS => kk H1 locs1 hP hD hS)
theorem xcp_2_5 (hx : p.tables.exec = Jvm.exec) (hb : c.code = cc) (hml : c.maxLocals = ls.size) (hown : s.vm.findClass own = some m.cls) (hlink : (Cond.methodLink own index arraycopyName).before args s = true) (hnat : (Cond.native arraycopyName).before args s = true) (hstat : (Cond.static arraycopyName).before args s = true) (hini : (Cond.initialized "java/lang/System").before args s = true) (hK : va_K D vwCl [(cI, .int)] s) (hP : va_P D vwCl (wX cI q v f z) H) (hD : va_D A (wX cI q v f z)) (hS : va_S A H0 H locs) (hfr : 1 ≤ R.frames) (hlo : (rest.map fun v => v.category).sum + (nativeFrameWords "java/lang/System" "arraycopy" 5 + 11) ≤ R.locals) (hdg : decode cc pc = .ok (.invokestatic index, 3)) (kk : ∀ (H1 : Heap) (locs1 : List Loc), va_P D vwCl (wX cI q v (va_up f 5 (va_cpy (f 2) (f 5) 0 0 4)) z) H1 → va_D A (wX cI q v (va_up f 5 (va_cpy (f 2) (f 5) 0 0 4)) z) → va_S A H0 H1 locs1 → W p l e R s m args below meth c H1 locs1 cells slots Q (F0 m (pc + 3) ls rest)) : W p l e R s m args below meth c H locs cells slots Q (F0 m pc ls (.int 4 :: .int 0 :: .ref (q 10) :: .int 0 :: .ref (q 6) :: rest)) :=
  va_copyi hx hb hml hown hlink hnat hstat hini hK hP hD hS 6 10 0 0 (f := f 2) (g := f 5) rfl rfl rfl rfl rfl (by decide) (by decide) (by decide) (by decide) (by decide) (fun _ _ => rfl) hfr hlo hdg (fun H1 locs1 hP hD hS => kk H1 locs1 hP hD hS)
theorem xcp_3_6 (hx : p.tables.exec = Jvm.exec) (hb : c.code = cc) (hml : c.maxLocals = ls.size) (hown : s.vm.findClass own = some m.cls) (hlink : (Cond.methodLink own index arraycopyName).before args s = true) (hnat : (Cond.native arraycopyName).before args s = true) (hstat : (Cond.static arraycopyName).before args s = true) (hini : (Cond.initialized "java/lang/System").before args s = true) (hK : va_K D vwCl [(cI, .int)] s) (hP : va_P D vwCl (wX cI q v f z) H) (hD : va_D A (wX cI q v f z)) (hS : va_S A H0 H locs) (hfr : 1 ≤ R.frames) (hlo : (rest.map fun v => v.category).sum + (nativeFrameWords "java/lang/System" "arraycopy" 5 + 11) ≤ R.locals) (hdg : decode cc pc = .ok (.invokestatic index, 3)) (kk : ∀ (H1 : Heap) (locs1 : List Loc), va_P D vwCl (wX cI q v (va_up f 6 (va_cpy (f 3) (f 6) 0 0 4)) z) H1 → va_D A (wX cI q v (va_up f 6 (va_cpy (f 3) (f 6) 0 0 4)) z) → va_S A H0 H1 locs1 → W p l e R s m args below meth c H1 locs1 cells slots Q (F0 m (pc + 3) ls rest)) : W p l e R s m args below meth c H locs cells slots Q (F0 m pc ls (.int 4 :: .int 0 :: .ref (q 11) :: .int 0 :: .ref (q 7) :: rest)) :=
  va_copyi hx hb hml hown hlink hnat hstat hini hK hP hD hS 7 11 0 0 (f := f 3) (g := f 6) rfl rfl rfl rfl rfl (by decide) (by decide) (by decide) (by decide) (by decide) (fun _ _ => rfl) hfr hlo hdg (fun H1 locs1 hP hD hS => kk H1 locs1 hP hD hS)
theorem xcp_6_7 (hx : p.tables.exec = Jvm.exec) (hb : c.code = cc) (hml : c.maxLocals = ls.size) (hown : s.vm.findClass own = some m.cls) (hlink : (Cond.methodLink own index arraycopyName).before args s = true) (hnat : (Cond.native arraycopyName).before args s = true) (hstat : (Cond.static arraycopyName).before args s = true) (hini : (Cond.initialized "java/lang/System").before args s = true) (hK : va_K D vwCl [(cI, .int)] s) (hP : va_P D vwCl (wX cI q v f z) H) (hD : va_D A (wX cI q v f z)) (hS : va_S A H0 H locs) (hfr : 1 ≤ R.frames) (hlo : (rest.map fun v => v.category).sum + (nativeFrameWords "java/lang/System" "arraycopy" 5 + 11) ≤ R.locals) (hdg : decode cc pc = .ok (.invokestatic index, 3)) (kk : ∀ (H1 : Heap) (locs1 : List Loc), va_P D vwCl (wX cI q v (va_up f 7 (va_cpy (f 6) (f 7) 0 0 4)) z) H1 → va_D A (wX cI q v (va_up f 7 (va_cpy (f 6) (f 7) 0 0 4)) z) → va_S A H0 H1 locs1 → W p l e R s m args below meth c H1 locs1 cells slots Q (F0 m (pc + 3) ls rest)) : W p l e R s m args below meth c H locs cells slots Q (F0 m pc ls (.int 4 :: .int 0 :: .ref (q 13) :: .int 0 :: .ref (q 11) :: rest)) :=
  va_copyi hx hb hml hown hlink hnat hstat hini hK hP hD hS 11 13 0 0 (f := f 6) (g := f 7) rfl rfl rfl rfl rfl (by decide) (by decide) (by decide) (by decide) (by decide) (fun _ _ => rfl) hfr hlo hdg (fun H1 locs1 hP hD hS => kk H1 locs1 hP hD hS)
theorem xcp_7_15 (hx : p.tables.exec = Jvm.exec) (hb : c.code = cc) (hml : c.maxLocals = ls.size) (hown : s.vm.findClass own = some m.cls) (hlink : (Cond.methodLink own index arraycopyName).before args s = true) (hnat : (Cond.native arraycopyName).before args s = true) (hstat : (Cond.static arraycopyName).before args s = true) (hini : (Cond.initialized "java/lang/System").before args s = true) (hK : va_K D vwCl [(cI, .int)] s) (hP : va_P D vwCl (wX cI q v f z) H) (hD : va_D A (wX cI q v f z)) (hS : va_S A H0 H locs) (hfr : 1 ≤ R.frames) (hlo : (rest.map fun v => v.category).sum + (nativeFrameWords "java/lang/System" "arraycopy" 5 + 11) ≤ R.locals) (hdg : decode cc pc = .ok (.invokestatic index, 3)) (kk : ∀ (H1 : Heap) (locs1 : List Loc), va_P D vwCl (wX cI q v (va_up f 15 (va_cpy (f 7) (f 15) 0 0 4)) z) H1 → va_D A (wX cI q v (va_up f 15 (va_cpy (f 7) (f 15) 0 0 4)) z) → va_S A H0 H1 locs1 → W p l e R s m args below meth c H1 locs1 cells slots Q (F0 m (pc + 3) ls rest)) : W p l e R s m args below meth c H locs cells slots Q (F0 m pc ls (.int 4 :: .int 0 :: .ref (q 22) :: .int 0 :: .ref (q 13) :: rest)) :=
  va_copyi hx hb hml hown hlink hnat hstat hini hK hP hD hS 13 22 0 0 (f := f 7) (g := f 15) rfl rfl rfl rfl rfl (by decide) (by decide) (by decide) (by decide) (by decide) (fun _ _ => rfl) hfr hlo hdg (fun H1 locs1 hP hD hS => kk H1 locs1 hP hD hS)
theorem xcp_8_16 (hx : p.tables.exec = Jvm.exec) (hb : c.code = cc) (hml : c.maxLocals = ls.size) (hown : s.vm.findClass own = some m.cls) (hlink : (Cond.methodLink own index arraycopyName).before args s = true) (hnat : (Cond.native arraycopyName).before args s = true) (hstat : (Cond.static arraycopyName).before args s = true) (hini : (Cond.initialized "java/lang/System").before args s = true) (hK : va_K D vwCl [(cI, .int)] s) (hP : va_P D vwCl (wX cI q v f z) H) (hD : va_D A (wX cI q v f z)) (hS : va_S A H0 H locs) (hfr : 1 ≤ R.frames) (hlo : (rest.map fun v => v.category).sum + (nativeFrameWords "java/lang/System" "arraycopy" 5 + 11) ≤ R.locals) (hdg : decode cc pc = .ok (.invokestatic index, 3)) (kk : ∀ (H1 : Heap) (locs1 : List Loc), va_P D vwCl (wX cI q v (va_up f 16 (va_cpy (f 8) (f 16) 0 0 8)) z) H1 → va_D A (wX cI q v (va_up f 16 (va_cpy (f 8) (f 16) 0 0 8)) z) → va_S A H0 H1 locs1 → W p l e R s m args below meth c H1 locs1 cells slots Q (F0 m (pc + 3) ls rest)) : W p l e R s m args below meth c H locs cells slots Q (F0 m pc ls (.int 8 :: .int 0 :: .ref (q 23) :: .int 0 :: .ref (q 14) :: rest)) :=
  va_copyi hx hb hml hown hlink hnat hstat hini hK hP hD hS 14 23 0 0 (f := f 8) (g := f 16) rfl rfl rfl rfl rfl (by decide) (by decide) (by decide) (by decide) (by decide) (fun _ _ => rfl) hfr hlo hdg (fun H1 locs1 hP hD hS => kk H1 locs1 hP hD hS)
theorem xcp_9_17 (hx : p.tables.exec = Jvm.exec) (hb : c.code = cc) (hml : c.maxLocals = ls.size) (hown : s.vm.findClass own = some m.cls) (hlink : (Cond.methodLink own index arraycopyName).before args s = true) (hnat : (Cond.native arraycopyName).before args s = true) (hstat : (Cond.static arraycopyName).before args s = true) (hini : (Cond.initialized "java/lang/System").before args s = true) (hK : va_K D vwCl [(cI, .int)] s) (hP : va_P D vwCl (wX cI q v f z) H) (hD : va_D A (wX cI q v f z)) (hS : va_S A H0 H locs) (hfr : 1 ≤ R.frames) (hlo : (rest.map fun v => v.category).sum + (nativeFrameWords "java/lang/System" "arraycopy" 5 + 11) ≤ R.locals) (hdg : decode cc pc = .ok (.invokestatic index, 3)) (kk : ∀ (H1 : Heap) (locs1 : List Loc), va_P D vwCl (wX cI q v (va_up f 17 (va_cpy (f 9) (f 17) 0 0 8)) z) H1 → va_D A (wX cI q v (va_up f 17 (va_cpy (f 9) (f 17) 0 0 8)) z) → va_S A H0 H1 locs1 → W p l e R s m args below meth c H1 locs1 cells slots Q (F0 m (pc + 3) ls rest)) : W p l e R s m args below meth c H locs cells slots Q (F0 m pc ls (.int 8 :: .int 0 :: .ref (q 24) :: .int 0 :: .ref (q 15) :: rest)) :=
  va_copyi hx hb hml hown hlink hnat hstat hini hK hP hD hS 15 24 0 0 (f := f 9) (g := f 17) rfl rfl rfl rfl rfl (by decide) (by decide) (by decide) (by decide) (by decide) (fun _ _ => rfl) hfr hlo hdg (fun H1 locs1 hP hD hS => kk H1 locs1 hP hD hS)
theorem xcp_10_18 (hx : p.tables.exec = Jvm.exec) (hb : c.code = cc) (hml : c.maxLocals = ls.size) (hown : s.vm.findClass own = some m.cls) (hlink : (Cond.methodLink own index arraycopyName).before args s = true) (hnat : (Cond.native arraycopyName).before args s = true) (hstat : (Cond.static arraycopyName).before args s = true) (hini : (Cond.initialized "java/lang/System").before args s = true) (hK : va_K D vwCl [(cI, .int)] s) (hP : va_P D vwCl (wX cI q v f z) H) (hD : va_D A (wX cI q v f z)) (hS : va_S A H0 H locs) (hfr : 1 ≤ R.frames) (hlo : (rest.map fun v => v.category).sum + (nativeFrameWords "java/lang/System" "arraycopy" 5 + 11) ≤ R.locals) (hdg : decode cc pc = .ok (.invokestatic index, 3)) (kk : ∀ (H1 : Heap) (locs1 : List Loc), va_P D vwCl (wX cI q v (va_up f 18 (va_cpy (f 10) (f 18) 0 0 8)) z) H1 → va_D A (wX cI q v (va_up f 18 (va_cpy (f 10) (f 18) 0 0 8)) z) → va_S A H0 H1 locs1 → W p l e R s m args below meth c H1 locs1 cells slots Q (F0 m (pc + 3) ls rest)) : W p l e R s m args below meth c H locs cells slots Q (F0 m pc ls (.int 8 :: .int 0 :: .ref (q 25) :: .int 0 :: .ref (q 16) :: rest)) :=
  va_copyi hx hb hml hown hlink hnat hstat hini hK hP hD hS 16 25 0 0 (f := f 10) (g := f 18) rfl rfl rfl rfl rfl (by decide) (by decide) (by decide) (by decide) (by decide) (fun _ _ => rfl) hfr hlo hdg (fun H1 locs1 hP hD hS => kk H1 locs1 hP hD hS)
theorem xcp_11_19 (hx : p.tables.exec = Jvm.exec) (hb : c.code = cc) (hml : c.maxLocals = ls.size) (hown : s.vm.findClass own = some m.cls) (hlink : (Cond.methodLink own index arraycopyName).before args s = true) (hnat : (Cond.native arraycopyName).before args s = true) (hstat : (Cond.static arraycopyName).before args s = true) (hini : (Cond.initialized "java/lang/System").before args s = true) (hK : va_K D vwCl [(cI, .int)] s) (hP : va_P D vwCl (wX cI q v f z) H) (hD : va_D A (wX cI q v f z)) (hS : va_S A H0 H locs) (hfr : 1 ≤ R.frames) (hlo : (rest.map fun v => v.category).sum + (nativeFrameWords "java/lang/System" "arraycopy" 5 + 11) ≤ R.locals) (hdg : decode cc pc = .ok (.invokestatic index, 3)) (kk : ∀ (H1 : Heap) (locs1 : List Loc), va_P D vwCl (wX cI q v (va_up f 19 (va_cpy (f 11) (f 19) 0 0 8)) z) H1 → va_D A (wX cI q v (va_up f 19 (va_cpy (f 11) (f 19) 0 0 8)) z) → va_S A H0 H1 locs1 → W p l e R s m args below meth c H1 locs1 cells slots Q (F0 m (pc + 3) ls rest)) : W p l e R s m args below meth c H locs cells slots Q (F0 m pc ls (.int 8 :: .int 0 :: .ref (q 26) :: .int 0 :: .ref (q 17) :: rest)) :=
  va_copyi hx hb hml hown hlink hnat hstat hini hK hP hD hS 17 26 0 0 (f := f 11) (g := f 19) rfl rfl rfl rfl rfl (by decide) (by decide) (by decide) (by decide) (by decide) (fun _ _ => rfl) hfr hlo hdg (fun H1 locs1 hP hD hS => kk H1 locs1 hP hD hS)
theorem xcp_12_20 (hx : p.tables.exec = Jvm.exec) (hb : c.code = cc) (hml : c.maxLocals = ls.size) (hown : s.vm.findClass own = some m.cls) (hlink : (Cond.methodLink own index arraycopyName).before args s = true) (hnat : (Cond.native arraycopyName).before args s = true) (hstat : (Cond.static arraycopyName).before args s = true) (hini : (Cond.initialized "java/lang/System").before args s = true) (hK : va_K D vwCl [(cI, .int)] s) (hP : va_P D vwCl (wX cI q v f z) H) (hD : va_D A (wX cI q v f z)) (hS : va_S A H0 H locs) (hfr : 1 ≤ R.frames) (hlo : (rest.map fun v => v.category).sum + (nativeFrameWords "java/lang/System" "arraycopy" 5 + 11) ≤ R.locals) (hdg : decode cc pc = .ok (.invokestatic index, 3)) (kk : ∀ (H1 : Heap) (locs1 : List Loc), va_P D vwCl (wX cI q v (va_up f 20 (va_cpy (f 12) (f 20) 0 0 8)) z) H1 → va_D A (wX cI q v (va_up f 20 (va_cpy (f 12) (f 20) 0 0 8)) z) → va_S A H0 H1 locs1 → W p l e R s m args below meth c H1 locs1 cells slots Q (F0 m (pc + 3) ls rest)) : W p l e R s m args below meth c H locs cells slots Q (F0 m pc ls (.int 8 :: .int 0 :: .ref (q 27) :: .int 0 :: .ref (q 18) :: rest)) :=
  va_copyi hx hb hml hown hlink hnat hstat hini hK hP hD hS 18 27 0 0 (f := f 12) (g := f 20) rfl rfl rfl rfl rfl (by decide) (by decide) (by decide) (by decide) (by decide) (fun _ _ => rfl) hfr hlo hdg (fun H1 locs1 hP hD hS => kk H1 locs1 hP hD hS)
theorem xcp_13_21 (hx : p.tables.exec = Jvm.exec) (hb : c.code = cc) (hml : c.maxLocals = ls.size) (hown : s.vm.findClass own = some m.cls) (hlink : (Cond.methodLink own index arraycopyName).before args s = true) (hnat : (Cond.native arraycopyName).before args s = true) (hstat : (Cond.static arraycopyName).before args s = true) (hini : (Cond.initialized "java/lang/System").before args s = true) (hK : va_K D vwCl [(cI, .int)] s) (hP : va_P D vwCl (wX cI q v f z) H) (hD : va_D A (wX cI q v f z)) (hS : va_S A H0 H locs) (hfr : 1 ≤ R.frames) (hlo : (rest.map fun v => v.category).sum + (nativeFrameWords "java/lang/System" "arraycopy" 5 + 11) ≤ R.locals) (hdg : decode cc pc = .ok (.invokestatic index, 3)) (kk : ∀ (H1 : Heap) (locs1 : List Loc), va_P D vwCl (wX cI q v (va_up f 21 (va_cpy (f 13) (f 21) 0 0 8)) z) H1 → va_D A (wX cI q v (va_up f 21 (va_cpy (f 13) (f 21) 0 0 8)) z) → va_S A H0 H1 locs1 → W p l e R s m args below meth c H1 locs1 cells slots Q (F0 m (pc + 3) ls rest)) : W p l e R s m args below meth c H locs cells slots Q (F0 m pc ls (.int 8 :: .int 0 :: .ref (q 28) :: .int 0 :: .ref (q 19) :: rest)) :=
  va_copyi hx hb hml hown hlink hnat hstat hini hK hP hD hS 19 28 0 0 (f := f 13) (g := f 21) rfl rfl rfl rfl rfl (by decide) (by decide) (by decide) (by decide) (by decide) (fun _ _ => rfl) hfr hlo hdg (fun H1 locs1 hP hD hS => kk H1 locs1 hP hD hS)
theorem xcp_14_22 (hx : p.tables.exec = Jvm.exec) (hb : c.code = cc) (hml : c.maxLocals = ls.size) (hown : s.vm.findClass own = some m.cls) (hlink : (Cond.methodLink own index arraycopyName).before args s = true) (hnat : (Cond.native arraycopyName).before args s = true) (hstat : (Cond.static arraycopyName).before args s = true) (hini : (Cond.initialized "java/lang/System").before args s = true) (hK : va_K D vwCl [(cI, .int)] s) (hP : va_P D vwCl (wX cI q v f z) H) (hD : va_D A (wX cI q v f z)) (hS : va_S A H0 H locs) (hfr : 1 ≤ R.frames) (hlo : (rest.map fun v => v.category).sum + (nativeFrameWords "java/lang/System" "arraycopy" 5 + 11) ≤ R.locals) (hdg : decode cc pc = .ok (.invokestatic index, 3)) (kk : ∀ (H1 : Heap) (locs1 : List Loc), va_P D vwCl (wX cI q v (va_up f 22 (va_cpy (f 14) (f 22) 0 0 8)) z) H1 → va_D A (wX cI q v (va_up f 22 (va_cpy (f 14) (f 22) 0 0 8)) z) → va_S A H0 H1 locs1 → W p l e R s m args below meth c H1 locs1 cells slots Q (F0 m (pc + 3) ls rest)) : W p l e R s m args below meth c H locs cells slots Q (F0 m pc ls (.int 8 :: .int 0 :: .ref (q 29) :: .int 0 :: .ref (q 20) :: rest)) :=
  va_copyi hx hb hml hown hlink hnat hstat hini hK hP hD hS 20 29 0 0 (f := f 14) (g := f 22) rfl rfl rfl rfl rfl (by decide) (by decide) (by decide) (by decide) (by decide) (fun _ _ => rfl) hfr hlo hdg (fun H1 locs1 hP hD hS => kk H1 locs1 hP hD hS)
theorem xcp_15_7 (hx : p.tables.exec = Jvm.exec) (hb : c.code = cc) (hml : c.maxLocals = ls.size) (hown : s.vm.findClass own = some m.cls) (hlink : (Cond.methodLink own index arraycopyName).before args s = true) (hnat : (Cond.native arraycopyName).before args s = true) (hstat : (Cond.static arraycopyName).before args s = true) (hini : (Cond.initialized "java/lang/System").before args s = true) (hK : va_K D vwCl [(cI, .int)] s) (hP : va_P D vwCl (wX cI q v f z) H) (hD : va_D A (wX cI q v f z)) (hS : va_S A H0 H locs) (hfr : 1 ≤ R.frames) (hlo : (rest.map fun v => v.category).sum + (nativeFrameWords "java/lang/System" "arraycopy" 5 + 11) ≤ R.locals) (hdg : decode cc pc = .ok (.invokestatic index, 3)) (kk : ∀ (H1 : Heap) (locs1 : List Loc), va_P D vwCl (wX cI q v (va_up f 7 (va_cpy (f 15) (f 7) 0 0 4)) z) H1 → va_D A (wX cI q v (va_up f 7 (va_cpy (f 15) (f 7) 0 0 4)) z) → va_S A H0 H1 locs1 → W p l e R s m args below meth c H1 locs1 cells slots Q (F0 m (pc + 3) ls rest)) : W p l e R s m args below meth c H locs cells slots Q (F0 m pc ls (.int 4 :: .int 0 :: .ref (q 13) :: .int 0 :: .ref (q 22) :: rest)) :=
  va_copyi hx hb hml hown hlink hnat hstat hini hK hP hD hS 22 13 0 0 (f := f 15) (g := f 7) rfl rfl rfl rfl rfl (by decide) (by decide) (by decide) (by decide) (by decide) (fun _ _ => rfl) hfr hlo hdg (fun H1 locs1 hP hD hS => kk H1 locs1 hP hD hS)
theorem xcp_16_8 (hx : p.tables.exec = Jvm.exec) (hb : c.code = cc) (hml : c.maxLocals = ls.size) (hown : s.vm.findClass own = some m.cls) (hlink : (Cond.methodLink own index arraycopyName).before args s = true) (hnat : (Cond.native arraycopyName).before args s = true) (hstat : (Cond.static arraycopyName).before args s = true) (hini : (Cond.initialized "java/lang/System").before args s = true) (hK : va_K D vwCl [(cI, .int)] s) (hP : va_P D vwCl (wX cI q v f z) H) (hD : va_D A (wX cI q v f z)) (hS : va_S A H0 H locs) (hfr : 1 ≤ R.frames) (hlo : (rest.map fun v => v.category).sum + (nativeFrameWords "java/lang/System" "arraycopy" 5 + 11) ≤ R.locals) (hdg : decode cc pc = .ok (.invokestatic index, 3)) (kk : ∀ (H1 : Heap) (locs1 : List Loc), va_P D vwCl (wX cI q v (va_up f 8 (va_cpy (f 16) (f 8) 0 0 8)) z) H1 → va_D A (wX cI q v (va_up f 8 (va_cpy (f 16) (f 8) 0 0 8)) z) → va_S A H0 H1 locs1 → W p l e R s m args below meth c H1 locs1 cells slots Q (F0 m (pc + 3) ls rest)) : W p l e R s m args below meth c H locs cells slots Q (F0 m pc ls (.int 8 :: .int 0 :: .ref (q 14) :: .int 0 :: .ref (q 23) :: rest)) :=
  va_copyi hx hb hml hown hlink hnat hstat hini hK hP hD hS 23 14 0 0 (f := f 16) (g := f 8) rfl rfl rfl rfl rfl (by decide) (by decide) (by decide) (by decide) (by decide) (fun _ _ => rfl) hfr hlo hdg (fun H1 locs1 hP hD hS => kk H1 locs1 hP hD hS)
theorem xcp_17_9 (hx : p.tables.exec = Jvm.exec) (hb : c.code = cc) (hml : c.maxLocals = ls.size) (hown : s.vm.findClass own = some m.cls) (hlink : (Cond.methodLink own index arraycopyName).before args s = true) (hnat : (Cond.native arraycopyName).before args s = true) (hstat : (Cond.static arraycopyName).before args s = true) (hini : (Cond.initialized "java/lang/System").before args s = true) (hK : va_K D vwCl [(cI, .int)] s) (hP : va_P D vwCl (wX cI q v f z) H) (hD : va_D A (wX cI q v f z)) (hS : va_S A H0 H locs) (hfr : 1 ≤ R.frames) (hlo : (rest.map fun v => v.category).sum + (nativeFrameWords "java/lang/System" "arraycopy" 5 + 11) ≤ R.locals) (hdg : decode cc pc = .ok (.invokestatic index, 3)) (kk : ∀ (H1 : Heap) (locs1 : List Loc), va_P D vwCl (wX cI q v (va_up f 9 (va_cpy (f 17) (f 9) 0 0 8)) z) H1 → va_D A (wX cI q v (va_up f 9 (va_cpy (f 17) (f 9) 0 0 8)) z) → va_S A H0 H1 locs1 → W p l e R s m args below meth c H1 locs1 cells slots Q (F0 m (pc + 3) ls rest)) : W p l e R s m args below meth c H locs cells slots Q (F0 m pc ls (.int 8 :: .int 0 :: .ref (q 15) :: .int 0 :: .ref (q 24) :: rest)) :=
  va_copyi hx hb hml hown hlink hnat hstat hini hK hP hD hS 24 15 0 0 (f := f 17) (g := f 9) rfl rfl rfl rfl rfl (by decide) (by decide) (by decide) (by decide) (by decide) (fun _ _ => rfl) hfr hlo hdg (fun H1 locs1 hP hD hS => kk H1 locs1 hP hD hS)
theorem xcp_18_10 (hx : p.tables.exec = Jvm.exec) (hb : c.code = cc) (hml : c.maxLocals = ls.size) (hown : s.vm.findClass own = some m.cls) (hlink : (Cond.methodLink own index arraycopyName).before args s = true) (hnat : (Cond.native arraycopyName).before args s = true) (hstat : (Cond.static arraycopyName).before args s = true) (hini : (Cond.initialized "java/lang/System").before args s = true) (hK : va_K D vwCl [(cI, .int)] s) (hP : va_P D vwCl (wX cI q v f z) H) (hD : va_D A (wX cI q v f z)) (hS : va_S A H0 H locs) (hfr : 1 ≤ R.frames) (hlo : (rest.map fun v => v.category).sum + (nativeFrameWords "java/lang/System" "arraycopy" 5 + 11) ≤ R.locals) (hdg : decode cc pc = .ok (.invokestatic index, 3)) (kk : ∀ (H1 : Heap) (locs1 : List Loc), va_P D vwCl (wX cI q v (va_up f 10 (va_cpy (f 18) (f 10) 0 0 8)) z) H1 → va_D A (wX cI q v (va_up f 10 (va_cpy (f 18) (f 10) 0 0 8)) z) → va_S A H0 H1 locs1 → W p l e R s m args below meth c H1 locs1 cells slots Q (F0 m (pc + 3) ls rest)) : W p l e R s m args below meth c H locs cells slots Q (F0 m pc ls (.int 8 :: .int 0 :: .ref (q 16) :: .int 0 :: .ref (q 25) :: rest)) :=
  va_copyi hx hb hml hown hlink hnat hstat hini hK hP hD hS 25 16 0 0 (f := f 18) (g := f 10) rfl rfl rfl rfl rfl (by decide) (by decide) (by decide) (by decide) (by decide) (fun _ _ => rfl) hfr hlo hdg (fun H1 locs1 hP hD hS => kk H1 locs1 hP hD hS)
theorem xcp_19_11 (hx : p.tables.exec = Jvm.exec) (hb : c.code = cc) (hml : c.maxLocals = ls.size) (hown : s.vm.findClass own = some m.cls) (hlink : (Cond.methodLink own index arraycopyName).before args s = true) (hnat : (Cond.native arraycopyName).before args s = true) (hstat : (Cond.static arraycopyName).before args s = true) (hini : (Cond.initialized "java/lang/System").before args s = true) (hK : va_K D vwCl [(cI, .int)] s) (hP : va_P D vwCl (wX cI q v f z) H) (hD : va_D A (wX cI q v f z)) (hS : va_S A H0 H locs) (hfr : 1 ≤ R.frames) (hlo : (rest.map fun v => v.category).sum + (nativeFrameWords "java/lang/System" "arraycopy" 5 + 11) ≤ R.locals) (hdg : decode cc pc = .ok (.invokestatic index, 3)) (kk : ∀ (H1 : Heap) (locs1 : List Loc), va_P D vwCl (wX cI q v (va_up f 11 (va_cpy (f 19) (f 11) 0 0 8)) z) H1 → va_D A (wX cI q v (va_up f 11 (va_cpy (f 19) (f 11) 0 0 8)) z) → va_S A H0 H1 locs1 → W p l e R s m args below meth c H1 locs1 cells slots Q (F0 m (pc + 3) ls rest)) : W p l e R s m args below meth c H locs cells slots Q (F0 m pc ls (.int 8 :: .int 0 :: .ref (q 17) :: .int 0 :: .ref (q 26) :: rest)) :=
  va_copyi hx hb hml hown hlink hnat hstat hini hK hP hD hS 26 17 0 0 (f := f 19) (g := f 11) rfl rfl rfl rfl rfl (by decide) (by decide) (by decide) (by decide) (by decide) (fun _ _ => rfl) hfr hlo hdg (fun H1 locs1 hP hD hS => kk H1 locs1 hP hD hS)
theorem xcp_20_12 (hx : p.tables.exec = Jvm.exec) (hb : c.code = cc) (hml : c.maxLocals = ls.size) (hown : s.vm.findClass own = some m.cls) (hlink : (Cond.methodLink own index arraycopyName).before args s = true) (hnat : (Cond.native arraycopyName).before args s = true) (hstat : (Cond.static arraycopyName).before args s = true) (hini : (Cond.initialized "java/lang/System").before args s = true) (hK : va_K D vwCl [(cI, .int)] s) (hP : va_P D vwCl (wX cI q v f z) H) (hD : va_D A (wX cI q v f z)) (hS : va_S A H0 H locs) (hfr : 1 ≤ R.frames) (hlo : (rest.map fun v => v.category).sum + (nativeFrameWords "java/lang/System" "arraycopy" 5 + 11) ≤ R.locals) (hdg : decode cc pc = .ok (.invokestatic index, 3)) (kk : ∀ (H1 : Heap) (locs1 : List Loc), va_P D vwCl (wX cI q v (va_up f 12 (va_cpy (f 20) (f 12) 0 0 8)) z) H1 → va_D A (wX cI q v (va_up f 12 (va_cpy (f 20) (f 12) 0 0 8)) z) → va_S A H0 H1 locs1 → W p l e R s m args below meth c H1 locs1 cells slots Q (F0 m (pc + 3) ls rest)) : W p l e R s m args below meth c H locs cells slots Q (F0 m pc ls (.int 8 :: .int 0 :: .ref (q 18) :: .int 0 :: .ref (q 27) :: rest)) :=
  va_copyi hx hb hml hown hlink hnat hstat hini hK hP hD hS 27 18 0 0 (f := f 20) (g := f 12) rfl rfl rfl rfl rfl (by decide) (by decide) (by decide) (by decide) (by decide) (fun _ _ => rfl) hfr hlo hdg (fun H1 locs1 hP hD hS => kk H1 locs1 hP hD hS)
theorem xcp_21_13 (hx : p.tables.exec = Jvm.exec) (hb : c.code = cc) (hml : c.maxLocals = ls.size) (hown : s.vm.findClass own = some m.cls) (hlink : (Cond.methodLink own index arraycopyName).before args s = true) (hnat : (Cond.native arraycopyName).before args s = true) (hstat : (Cond.static arraycopyName).before args s = true) (hini : (Cond.initialized "java/lang/System").before args s = true) (hK : va_K D vwCl [(cI, .int)] s) (hP : va_P D vwCl (wX cI q v f z) H) (hD : va_D A (wX cI q v f z)) (hS : va_S A H0 H locs) (hfr : 1 ≤ R.frames) (hlo : (rest.map fun v => v.category).sum + (nativeFrameWords "java/lang/System" "arraycopy" 5 + 11) ≤ R.locals) (hdg : decode cc pc = .ok (.invokestatic index, 3)) (kk : ∀ (H1 : Heap) (locs1 : List Loc), va_P D vwCl (wX cI q v (va_up f 13 (va_cpy (f 21) (f 13) 0 0 8)) z) H1 → va_D A (wX cI q v (va_up f 13 (va_cpy (f 21) (f 13) 0 0 8)) z) → va_S A H0 H1 locs1 → W p l e R s m args below meth c H1 locs1 cells slots Q (F0 m (pc + 3) ls rest)) : W p l e R s m args below meth c H locs cells slots Q (F0 m pc ls (.int 8 :: .int 0 :: .ref (q 19) :: .int 0 :: .ref (q 28) :: rest)) :=
  va_copyi hx hb hml hown hlink hnat hstat hini hK hP hD hS 28 19 0 0 (f := f 21) (g := f 13) rfl rfl rfl rfl rfl (by decide) (by decide) (by decide) (by decide) (by decide) (fun _ _ => rfl) hfr hlo hdg (fun H1 locs1 hP hD hS => kk H1 locs1 hP hD hS)
theorem xcp_22_14 (hx : p.tables.exec = Jvm.exec) (hb : c.code = cc) (hml : c.maxLocals = ls.size) (hown : s.vm.findClass own = some m.cls) (hlink : (Cond.methodLink own index arraycopyName).before args s = true) (hnat : (Cond.native arraycopyName).before args s = true) (hstat : (Cond.static arraycopyName).before args s = true) (hini : (Cond.initialized "java/lang/System").before args s = true) (hK : va_K D vwCl [(cI, .int)] s) (hP : va_P D vwCl (wX cI q v f z) H) (hD : va_D A (wX cI q v f z)) (hS : va_S A H0 H locs) (hfr : 1 ≤ R.frames) (hlo : (rest.map fun v => v.category).sum + (nativeFrameWords "java/lang/System" "arraycopy" 5 + 11) ≤ R.locals) (hdg : decode cc pc = .ok (.invokestatic index, 3)) (kk : ∀ (H1 : Heap) (locs1 : List Loc), va_P D vwCl (wX cI q v (va_up f 14 (va_cpy (f 22) (f 14) 0 0 8)) z) H1 → va_D A (wX cI q v (va_up f 14 (va_cpy (f 22) (f 14) 0 0 8)) z) → va_S A H0 H1 locs1 → W p l e R s m args below meth c H1 locs1 cells slots Q (F0 m (pc + 3) ls rest)) : W p l e R s m args below meth c H locs cells slots Q (F0 m pc ls (.int 8 :: .int 0 :: .ref (q 20) :: .int 0 :: .ref (q 29) :: rest)) :=
  va_copyi hx hb hml hown hlink hnat hstat hini hK hP hD hS 29 20 0 0 (f := f 22) (g := f 14) rfl rfl rfl rfl rfl (by decide) (by decide) (by decide) (by decide) (by decide) (fun _ _ => rfl) hfr hlo hdg (fun H1 locs1 hP hD hS => kk H1 locs1 hP hD hS)
end
end
section
def wY (cI : ClassId) (q : Nat → Nat) (v : Nat → Int32) (f : Nat → Nat → Int32) (z : Int64) : va_W := [(q 0, .inr (7, [.ref (q 1), .int (v 0), .int (v 1), .int (v 2), .int (v 3), .ref (q 2), .ref (q 3), .int (v 4), .int (v 5), .int (v 6), .int (v 7), .int (v 8), .ref (q 4), .ref (q 5), .int (v 9), .ref (q 6), .ref (q 7), .ref (q 8), .int (v 10), .ref (q 9), .ref (q 10), .int (v 11), .ref (q 11), .int (v 12), .int (v 13), .int (v 14), .int (v 15), .ref (q 12), .ref (q 13), .ref (q 14), .long z])), (q 1, .inl (cI, 30, .inl (f 0))), (q 2, .inl (cI, 4, .inl (f 1))), (q 3, .inl (cI, 8, .inl (f 2))), (q 4, .inl (cI, 4, .inl (f 3))), (q 5, .inl (cI, 12, .inl (f 4))), (q 6, .inl (cI, 32, .inl (f 5))), (q 7, .inl (cI, 4, .inl (f 6))), (q 8, .inl (cI, 4, .inl (f 7))), (q 9, .inl (cI, 24, .inl (f 8))), (q 10, .inl (cI, 7, .inl (f 9))), (q 11, .inl (cI, 12, .inl (f 10))), (q 12, .inl (cI, 12, .inl (f 11))), (q 13, .inl (cI, 32, .inl (f 12))), (q 14, .inl (cI, 24, .inl (f 13)))]
section
variable {p : Program} {l : Launch} {e : Env} {R : Room} {s : State} {m : MethodId} {args : Array Value} {below : List Frame} {meth : Method} {c : Code} {H : Heap} {locs : List Loc} {cells slots : Nat} {Q : State → Prop} {cc : ByteArray} {pc : Nat} {ls : Array Slot} {rest : List Value} {D : va_G} {A : Nat → Prop} {cI : ClassId} {q : Nat → Nat} {v : Nat → Int32} {f : Nat → Nat → Int32} {z : Int64} {H0 : Heap} {Ts : List Cond} {own : String} {index : Nat}
theorem yg_r0_1 (hx : p.tables.exec = Jvm.exec) (hb : c.code = cc) (hts : ∀ w ∈ Ts, w.before args s = true) (hin : ∀ w ∈ wsX70, w ∈ Ts) (hown : s.vm.findClass own = some m.cls) (hK : va_K D vwCl [(cI, .int)] s) (hP : va_P D vwCl (wY cI q v f z) H) (hl : (Cond.fieldLink own index "EndedByOthersModel" "page" "[I").before args s = true) (hdg : decode cc pc = .ok (.getfield index, 3)) (kk : W p l e R s m args below meth c H locs cells slots Q (F0 m (pc + 3) ls (.ref (q 1) :: rest))) : W p l e R s m args below meth c H locs cells slots Q (F0 m pc ls (.ref (q 0) :: rest)) :=
  va_get (D := D) (ci := 7) (C := RX7) (T := TX7) (N := 31) hx hb hts hin hown hK hP 0 rfl rfl 0 (by decide) hl (fun _ h9 => h9) rfl hdg kk
theorem yg_s0 (hx : p.tables.exec = Jvm.exec) (hb : c.code = cc) (hts : ∀ w ∈ Ts, w.before args s = true) (hin : ∀ w ∈ wsX70, w ∈ Ts) (hown : s.vm.findClass own = some m.cls) (hK : va_K D vwCl [(cI, .int)] s) (hP : va_P D vwCl (wY cI q v f z) H) (hl : (Cond.fieldLink own index "EndedByOthersModel" "pageMany" "I").before args s = true) {x : Int32} (hv : v 0 = x) (hdg : decode cc pc = .ok (.getfield index, 3)) (kk : W p l e R s m args below meth c H locs cells slots Q (F0 m (pc + 3) ls (.int x :: rest))) : W p l e R s m args below meth c H locs cells slots Q (F0 m pc ls (.ref (q 0) :: rest)) := by
  subst hv
  exact va_get (D := D) (ci := 7) (C := RX7) (T := TX7) (N := 31) hx hb hts hin hown hK hP 0 rfl rfl 1 (by decide) hl (fun _ h9 => h9) rfl hdg kk
theorem yp_s0 (hx : p.tables.exec = Jvm.exec) (hb : c.code = cc) (hts : ∀ w ∈ Ts, w.before args s = true) (hin : ∀ w ∈ wsX70, w ∈ Ts) (hown : s.vm.findClass own = some m.cls) (hK : va_K D vwCl [(cI, .int)] s) (hP : va_P D vwCl (wY cI q v f z) H) (hD : va_D A (wY cI q v f z)) (hS : va_S A H0 H locs) {x : Int32} (hl : (Cond.fieldLink own index "EndedByOthersModel" "pageMany" "I").before args s = true) (hdg : decode cc pc = .ok (.putfield index, 3)) (kk : ∀ (H1 : Heap) (locs1 : List Loc), va_P D vwCl (wY cI q (upd v 0 x) f z) H1 → va_D A (wY cI q (upd v 0 x) f z) → va_S A H0 H1 locs1 → W p l e R s m args below meth c H1 locs1 cells slots Q (F0 m (pc + 3) ls rest)) : W p l e R s m args below meth c H locs cells slots Q (F0 m pc ls (.int x :: .ref (q 0) :: rest)) :=
  va_put (D := D) (ci := 7) (C := RX7) (T := TX7) (N := 31) (v := .int x) (ty := .int) hx hb hts hin tyX7 tyX7_ok nmX7 hown hK hP hD hS 0 rfl rfl 1 (by decide) hl (fun _ h9 => h9) rfl (by decide +kernel) rfl rfl (Nat.le_of_ble_eq_true rfl) hdg (fun H1 locs1 hP hD hS => kk H1 locs1 hP hD hS)
theorem yg_s1 (hx : p.tables.exec = Jvm.exec) (hb : c.code = cc) (hts : ∀ w ∈ Ts, w.before args s = true) (hin : ∀ w ∈ wsX70, w ∈ Ts) (hown : s.vm.findClass own = some m.cls) (hK : va_K D vwCl [(cI, .int)] s) (hP : va_P D vwCl (wY cI q v f z) H) (hl : (Cond.fieldLink own index "EndedByOthersModel" "part" "I").before args s = true) {x : Int32} (hv : v 1 = x) (hdg : decode cc pc = .ok (.getfield index, 3)) (kk : W p l e R s m args below meth c H locs cells slots Q (F0 m (pc + 3) ls (.int x :: rest))) : W p l e R s m args below meth c H locs cells slots Q (F0 m pc ls (.ref (q 0) :: rest)) := by
  subst hv
  exact va_get (D := D) (ci := 7) (C := RX7) (T := TX7) (N := 31) hx hb hts hin hown hK hP 0 rfl rfl 2 (by decide) hl (fun _ h9 => h9) rfl hdg kk
theorem yp_s1 (hx : p.tables.exec = Jvm.exec) (hb : c.code = cc) (hts : ∀ w ∈ Ts, w.before args s = true) (hin : ∀ w ∈ wsX70, w ∈ Ts) (hown : s.vm.findClass own = some m.cls) (hK : va_K D vwCl [(cI, .int)] s) (hP : va_P D vwCl (wY cI q v f z) H) (hD : va_D A (wY cI q v f z)) (hS : va_S A H0 H locs) {x : Int32} (hl : (Cond.fieldLink own index "EndedByOthersModel" "part" "I").before args s = true) (hdg : decode cc pc = .ok (.putfield index, 3)) (kk : ∀ (H1 : Heap) (locs1 : List Loc), va_P D vwCl (wY cI q (upd v 1 x) f z) H1 → va_D A (wY cI q (upd v 1 x) f z) → va_S A H0 H1 locs1 → W p l e R s m args below meth c H1 locs1 cells slots Q (F0 m (pc + 3) ls rest)) : W p l e R s m args below meth c H locs cells slots Q (F0 m pc ls (.int x :: .ref (q 0) :: rest)) :=
  va_put (D := D) (ci := 7) (C := RX7) (T := TX7) (N := 31) (v := .int x) (ty := .int) hx hb hts hin tyX7 tyX7_ok nmX7 hown hK hP hD hS 0 rfl rfl 2 (by decide) hl (fun _ h9 => h9) rfl (by decide +kernel) rfl rfl (Nat.le_of_ble_eq_true rfl) hdg (fun H1 locs1 hP hD hS => kk H1 locs1 hP hD hS)
theorem yg_s2 (hx : p.tables.exec = Jvm.exec) (hb : c.code = cc) (hts : ∀ w ∈ Ts, w.before args s = true) (hin : ∀ w ∈ wsX70, w ∈ Ts) (hown : s.vm.findClass own = some m.cls) (hK : va_K D vwCl [(cI, .int)] s) (hP : va_P D vwCl (wY cI q v f z) H) (hl : (Cond.fieldLink own index "EndedByOthersModel" "partMany" "I").before args s = true) {x : Int32} (hv : v 2 = x) (hdg : decode cc pc = .ok (.getfield index, 3)) (kk : W p l e R s m args below meth c H locs cells slots Q (F0 m (pc + 3) ls (.int x :: rest))) : W p l e R s m args below meth c H locs cells slots Q (F0 m pc ls (.ref (q 0) :: rest)) := by
  subst hv
  exact va_get (D := D) (ci := 7) (C := RX7) (T := TX7) (N := 31) hx hb hts hin hown hK hP 0 rfl rfl 3 (by decide) hl (fun _ h9 => h9) rfl hdg kk
theorem yp_s2 (hx : p.tables.exec = Jvm.exec) (hb : c.code = cc) (hts : ∀ w ∈ Ts, w.before args s = true) (hin : ∀ w ∈ wsX70, w ∈ Ts) (hown : s.vm.findClass own = some m.cls) (hK : va_K D vwCl [(cI, .int)] s) (hP : va_P D vwCl (wY cI q v f z) H) (hD : va_D A (wY cI q v f z)) (hS : va_S A H0 H locs) {x : Int32} (hl : (Cond.fieldLink own index "EndedByOthersModel" "partMany" "I").before args s = true) (hdg : decode cc pc = .ok (.putfield index, 3)) (kk : ∀ (H1 : Heap) (locs1 : List Loc), va_P D vwCl (wY cI q (upd v 2 x) f z) H1 → va_D A (wY cI q (upd v 2 x) f z) → va_S A H0 H1 locs1 → W p l e R s m args below meth c H1 locs1 cells slots Q (F0 m (pc + 3) ls rest)) : W p l e R s m args below meth c H locs cells slots Q (F0 m pc ls (.int x :: .ref (q 0) :: rest)) :=
  va_put (D := D) (ci := 7) (C := RX7) (T := TX7) (N := 31) (v := .int x) (ty := .int) hx hb hts hin tyX7 tyX7_ok nmX7 hown hK hP hD hS 0 rfl rfl 3 (by decide) hl (fun _ h9 => h9) rfl (by decide +kernel) rfl rfl (Nat.le_of_ble_eq_true rfl) hdg (fun H1 locs1 hP hD hS => kk H1 locs1 hP hD hS)
theorem yg_s3 (hx : p.tables.exec = Jvm.exec) (hb : c.code = cc) (hts : ∀ w ∈ Ts, w.before args s = true) (hin : ∀ w ∈ wsX70, w ∈ Ts) (hown : s.vm.findClass own = some m.cls) (hK : va_K D vwCl [(cI, .int)] s) (hP : va_P D vwCl (wY cI q v f z) H) (hl : (Cond.fieldLink own index "EndedByOthersModel" "lastOne" "I").before args s = true) {x : Int32} (hv : v 3 = x) (hdg : decode cc pc = .ok (.getfield index, 3)) (kk : W p l e R s m args below meth c H locs cells slots Q (F0 m (pc + 3) ls (.int x :: rest))) : W p l e R s m args below meth c H locs cells slots Q (F0 m pc ls (.ref (q 0) :: rest)) := by
  subst hv
  exact va_get (D := D) (ci := 7) (C := RX7) (T := TX7) (N := 31) hx hb hts hin hown hK hP 0 rfl rfl 4 (by decide) hl (fun _ h9 => h9) rfl hdg kk
theorem yp_s3 (hx : p.tables.exec = Jvm.exec) (hb : c.code = cc) (hts : ∀ w ∈ Ts, w.before args s = true) (hin : ∀ w ∈ wsX70, w ∈ Ts) (hown : s.vm.findClass own = some m.cls) (hK : va_K D vwCl [(cI, .int)] s) (hP : va_P D vwCl (wY cI q v f z) H) (hD : va_D A (wY cI q v f z)) (hS : va_S A H0 H locs) {x : Int32} (hl : (Cond.fieldLink own index "EndedByOthersModel" "lastOne" "I").before args s = true) (hdg : decode cc pc = .ok (.putfield index, 3)) (kk : ∀ (H1 : Heap) (locs1 : List Loc), va_P D vwCl (wY cI q (upd v 3 x) f z) H1 → va_D A (wY cI q (upd v 3 x) f z) → va_S A H0 H1 locs1 → W p l e R s m args below meth c H1 locs1 cells slots Q (F0 m (pc + 3) ls rest)) : W p l e R s m args below meth c H locs cells slots Q (F0 m pc ls (.int x :: .ref (q 0) :: rest)) :=
  va_put (D := D) (ci := 7) (C := RX7) (T := TX7) (N := 31) (v := .int x) (ty := .int) hx hb hts hin tyX7 tyX7_ok nmX7 hown hK hP hD hS 0 rfl rfl 4 (by decide) hl (fun _ h9 => h9) rfl (by decide +kernel) rfl rfl (Nat.le_of_ble_eq_true rfl) hdg (fun H1 locs1 hP hD hS => kk H1 locs1 hP hD hS)
theorem yg_r0_2 (hx : p.tables.exec = Jvm.exec) (hb : c.code = cc) (hts : ∀ w ∈ Ts, w.before args s = true) (hin : ∀ w ∈ wsX70, w ∈ Ts) (hown : s.vm.findClass own = some m.cls) (hK : va_K D vwCl [(cI, .int)] s) (hP : va_P D vwCl (wY cI q v f z) H) (hl : (Cond.fieldLink own index "EndedByOthersModel" "readFits" "[I").before args s = true) (hdg : decode cc pc = .ok (.getfield index, 3)) (kk : W p l e R s m args below meth c H locs cells slots Q (F0 m (pc + 3) ls (.ref (q 2) :: rest))) : W p l e R s m args below meth c H locs cells slots Q (F0 m pc ls (.ref (q 0) :: rest)) :=
  va_get (D := D) (ci := 7) (C := RX7) (T := TX7) (N := 31) hx hb hts hin hown hK hP 0 rfl rfl 5 (by decide) hl (fun _ h9 => h9) rfl hdg kk
theorem yg_r0_3 (hx : p.tables.exec = Jvm.exec) (hb : c.code = cc) (hts : ∀ w ∈ Ts, w.before args s = true) (hin : ∀ w ∈ wsX70, w ∈ Ts) (hown : s.vm.findClass own = some m.cls) (hK : va_K D vwCl [(cI, .int)] s) (hP : va_P D vwCl (wY cI q v f z) H) (hl : (Cond.fieldLink own index "EndedByOthersModel" "readRows" "[I").before args s = true) (hdg : decode cc pc = .ok (.getfield index, 3)) (kk : W p l e R s m args below meth c H locs cells slots Q (F0 m (pc + 3) ls (.ref (q 3) :: rest))) : W p l e R s m args below meth c H locs cells slots Q (F0 m pc ls (.ref (q 0) :: rest)) :=
  va_get (D := D) (ci := 7) (C := RX7) (T := TX7) (N := 31) hx hb hts hin hown hK hP 0 rfl rfl 6 (by decide) hl (fun _ h9 => h9) rfl hdg kk
theorem yg_s4 (hx : p.tables.exec = Jvm.exec) (hb : c.code = cc) (hts : ∀ w ∈ Ts, w.before args s = true) (hin : ∀ w ∈ wsX70, w ∈ Ts) (hown : s.vm.findClass own = some m.cls) (hK : va_K D vwCl [(cI, .int)] s) (hP : va_P D vwCl (wY cI q v f z) H) (hl : (Cond.fieldLink own index "EndedByOthersModel" "readMany" "I").before args s = true) {x : Int32} (hv : v 4 = x) (hdg : decode cc pc = .ok (.getfield index, 3)) (kk : W p l e R s m args below meth c H locs cells slots Q (F0 m (pc + 3) ls (.int x :: rest))) : W p l e R s m args below meth c H locs cells slots Q (F0 m pc ls (.ref (q 0) :: rest)) := by
  subst hv
  exact va_get (D := D) (ci := 7) (C := RX7) (T := TX7) (N := 31) hx hb hts hin hown hK hP 0 rfl rfl 7 (by decide) hl (fun _ h9 => h9) rfl hdg kk
theorem yp_s4 (hx : p.tables.exec = Jvm.exec) (hb : c.code = cc) (hts : ∀ w ∈ Ts, w.before args s = true) (hin : ∀ w ∈ wsX70, w ∈ Ts) (hown : s.vm.findClass own = some m.cls) (hK : va_K D vwCl [(cI, .int)] s) (hP : va_P D vwCl (wY cI q v f z) H) (hD : va_D A (wY cI q v f z)) (hS : va_S A H0 H locs) {x : Int32} (hl : (Cond.fieldLink own index "EndedByOthersModel" "readMany" "I").before args s = true) (hdg : decode cc pc = .ok (.putfield index, 3)) (kk : ∀ (H1 : Heap) (locs1 : List Loc), va_P D vwCl (wY cI q (upd v 4 x) f z) H1 → va_D A (wY cI q (upd v 4 x) f z) → va_S A H0 H1 locs1 → W p l e R s m args below meth c H1 locs1 cells slots Q (F0 m (pc + 3) ls rest)) : W p l e R s m args below meth c H locs cells slots Q (F0 m pc ls (.int x :: .ref (q 0) :: rest)) :=
  va_put (D := D) (ci := 7) (C := RX7) (T := TX7) (N := 31) (v := .int x) (ty := .int) hx hb hts hin tyX7 tyX7_ok nmX7 hown hK hP hD hS 0 rfl rfl 7 (by decide) hl (fun _ h9 => h9) rfl (by decide +kernel) rfl rfl (Nat.le_of_ble_eq_true rfl) hdg (fun H1 locs1 hP hD hS => kk H1 locs1 hP hD hS)
theorem yg_s5 (hx : p.tables.exec = Jvm.exec) (hb : c.code = cc) (hts : ∀ w ∈ Ts, w.before args s = true) (hin : ∀ w ∈ wsX70, w ∈ Ts) (hown : s.vm.findClass own = some m.cls) (hK : va_K D vwCl [(cI, .int)] s) (hP : va_P D vwCl (wY cI q v f z) H) (hl : (Cond.fieldLink own index "EndedByOthersModel" "step" "I").before args s = true) {x : Int32} (hv : v 5 = x) (hdg : decode cc pc = .ok (.getfield index, 3)) (kk : W p l e R s m args below meth c H locs cells slots Q (F0 m (pc + 3) ls (.int x :: rest))) : W p l e R s m args below meth c H locs cells slots Q (F0 m pc ls (.ref (q 0) :: rest)) := by
  subst hv
  exact va_get (D := D) (ci := 7) (C := RX7) (T := TX7) (N := 31) hx hb hts hin hown hK hP 0 rfl rfl 8 (by decide) hl (fun _ h9 => h9) rfl hdg kk
theorem yp_s5 (hx : p.tables.exec = Jvm.exec) (hb : c.code = cc) (hts : ∀ w ∈ Ts, w.before args s = true) (hin : ∀ w ∈ wsX70, w ∈ Ts) (hown : s.vm.findClass own = some m.cls) (hK : va_K D vwCl [(cI, .int)] s) (hP : va_P D vwCl (wY cI q v f z) H) (hD : va_D A (wY cI q v f z)) (hS : va_S A H0 H locs) {x : Int32} (hl : (Cond.fieldLink own index "EndedByOthersModel" "step" "I").before args s = true) (hdg : decode cc pc = .ok (.putfield index, 3)) (kk : ∀ (H1 : Heap) (locs1 : List Loc), va_P D vwCl (wY cI q (upd v 5 x) f z) H1 → va_D A (wY cI q (upd v 5 x) f z) → va_S A H0 H1 locs1 → W p l e R s m args below meth c H1 locs1 cells slots Q (F0 m (pc + 3) ls rest)) : W p l e R s m args below meth c H locs cells slots Q (F0 m pc ls (.int x :: .ref (q 0) :: rest)) :=
  va_put (D := D) (ci := 7) (C := RX7) (T := TX7) (N := 31) (v := .int x) (ty := .int) hx hb hts hin tyX7 tyX7_ok nmX7 hown hK hP hD hS 0 rfl rfl 8 (by decide) hl (fun _ h9 => h9) rfl (by decide +kernel) rfl rfl (Nat.le_of_ble_eq_true rfl) hdg (fun H1 locs1 hP hD hS => kk H1 locs1 hP hD hS)
theorem yg_s6 (hx : p.tables.exec = Jvm.exec) (hb : c.code = cc) (hts : ∀ w ∈ Ts, w.before args s = true) (hin : ∀ w ∈ wsX70, w ∈ Ts) (hown : s.vm.findClass own = some m.cls) (hK : va_K D vwCl [(cI, .int)] s) (hP : va_P D vwCl (wY cI q v f z) H) (hl : (Cond.fieldLink own index "EndedByOthersModel" "speakers" "I").before args s = true) {x : Int32} (hv : v 6 = x) (hdg : decode cc pc = .ok (.getfield index, 3)) (kk : W p l e R s m args below meth c H locs cells slots Q (F0 m (pc + 3) ls (.int x :: rest))) : W p l e R s m args below meth c H locs cells slots Q (F0 m pc ls (.ref (q 0) :: rest)) := by
  subst hv
  exact va_get (D := D) (ci := 7) (C := RX7) (T := TX7) (N := 31) hx hb hts hin hown hK hP 0 rfl rfl 9 (by decide) hl (fun _ h9 => h9) rfl hdg kk
theorem yp_s6 (hx : p.tables.exec = Jvm.exec) (hb : c.code = cc) (hts : ∀ w ∈ Ts, w.before args s = true) (hin : ∀ w ∈ wsX70, w ∈ Ts) (hown : s.vm.findClass own = some m.cls) (hK : va_K D vwCl [(cI, .int)] s) (hP : va_P D vwCl (wY cI q v f z) H) (hD : va_D A (wY cI q v f z)) (hS : va_S A H0 H locs) {x : Int32} (hl : (Cond.fieldLink own index "EndedByOthersModel" "speakers" "I").before args s = true) (hdg : decode cc pc = .ok (.putfield index, 3)) (kk : ∀ (H1 : Heap) (locs1 : List Loc), va_P D vwCl (wY cI q (upd v 6 x) f z) H1 → va_D A (wY cI q (upd v 6 x) f z) → va_S A H0 H1 locs1 → W p l e R s m args below meth c H1 locs1 cells slots Q (F0 m (pc + 3) ls rest)) : W p l e R s m args below meth c H locs cells slots Q (F0 m pc ls (.int x :: .ref (q 0) :: rest)) :=
  va_put (D := D) (ci := 7) (C := RX7) (T := TX7) (N := 31) (v := .int x) (ty := .int) hx hb hts hin tyX7 tyX7_ok nmX7 hown hK hP hD hS 0 rfl rfl 9 (by decide) hl (fun _ h9 => h9) rfl (by decide +kernel) rfl rfl (Nat.le_of_ble_eq_true rfl) hdg (fun H1 locs1 hP hD hS => kk H1 locs1 hP hD hS)
theorem yg_s7 (hx : p.tables.exec = Jvm.exec) (hb : c.code = cc) (hts : ∀ w ∈ Ts, w.before args s = true) (hin : ∀ w ∈ wsX70, w ∈ Ts) (hown : s.vm.findClass own = some m.cls) (hK : va_K D vwCl [(cI, .int)] s) (hP : va_P D vwCl (wY cI q v f z) H) (hl : (Cond.fieldLink own index "EndedByOthersModel" "wants" "I").before args s = true) {x : Int32} (hv : v 7 = x) (hdg : decode cc pc = .ok (.getfield index, 3)) (kk : W p l e R s m args below meth c H locs cells slots Q (F0 m (pc + 3) ls (.int x :: rest))) : W p l e R s m args below meth c H locs cells slots Q (F0 m pc ls (.ref (q 0) :: rest)) := by
  subst hv
  exact va_get (D := D) (ci := 7) (C := RX7) (T := TX7) (N := 31) hx hb hts hin hown hK hP 0 rfl rfl 10 (by decide) hl (fun _ h9 => h9) rfl hdg kk
theorem yp_s7 (hx : p.tables.exec = Jvm.exec) (hb : c.code = cc) (hts : ∀ w ∈ Ts, w.before args s = true) (hin : ∀ w ∈ wsX70, w ∈ Ts) (hown : s.vm.findClass own = some m.cls) (hK : va_K D vwCl [(cI, .int)] s) (hP : va_P D vwCl (wY cI q v f z) H) (hD : va_D A (wY cI q v f z)) (hS : va_S A H0 H locs) {x : Int32} (hl : (Cond.fieldLink own index "EndedByOthersModel" "wants" "I").before args s = true) (hdg : decode cc pc = .ok (.putfield index, 3)) (kk : ∀ (H1 : Heap) (locs1 : List Loc), va_P D vwCl (wY cI q (upd v 7 x) f z) H1 → va_D A (wY cI q (upd v 7 x) f z) → va_S A H0 H1 locs1 → W p l e R s m args below meth c H1 locs1 cells slots Q (F0 m (pc + 3) ls rest)) : W p l e R s m args below meth c H locs cells slots Q (F0 m pc ls (.int x :: .ref (q 0) :: rest)) :=
  va_put (D := D) (ci := 7) (C := RX7) (T := TX7) (N := 31) (v := .int x) (ty := .int) hx hb hts hin tyX7 tyX7_ok nmX7 hown hK hP hD hS 0 rfl rfl 10 (by decide) hl (fun _ h9 => h9) rfl (by decide +kernel) rfl rfl (Nat.le_of_ble_eq_true rfl) hdg (fun H1 locs1 hP hD hS => kk H1 locs1 hP hD hS)
theorem yg_s8 (hx : p.tables.exec = Jvm.exec) (hb : c.code = cc) (hts : ∀ w ∈ Ts, w.before args s = true) (hin : ∀ w ∈ wsX70, w ∈ Ts) (hown : s.vm.findClass own = some m.cls) (hK : va_K D vwCl [(cI, .int)] s) (hP : va_P D vwCl (wY cI q v f z) H) (hl : (Cond.fieldLink own index "EndedByOthersModel" "roomsRead" "I").before args s = true) {x : Int32} (hv : v 8 = x) (hdg : decode cc pc = .ok (.getfield index, 3)) (kk : W p l e R s m args below meth c H locs cells slots Q (F0 m (pc + 3) ls (.int x :: rest))) : W p l e R s m args below meth c H locs cells slots Q (F0 m pc ls (.ref (q 0) :: rest)) := by
  subst hv
  exact va_get (D := D) (ci := 7) (C := RX7) (T := TX7) (N := 31) hx hb hts hin hown hK hP 0 rfl rfl 11 (by decide) hl (fun _ h9 => h9) rfl hdg kk
theorem yp_s8 (hx : p.tables.exec = Jvm.exec) (hb : c.code = cc) (hts : ∀ w ∈ Ts, w.before args s = true) (hin : ∀ w ∈ wsX70, w ∈ Ts) (hown : s.vm.findClass own = some m.cls) (hK : va_K D vwCl [(cI, .int)] s) (hP : va_P D vwCl (wY cI q v f z) H) (hD : va_D A (wY cI q v f z)) (hS : va_S A H0 H locs) {x : Int32} (hl : (Cond.fieldLink own index "EndedByOthersModel" "roomsRead" "I").before args s = true) (hdg : decode cc pc = .ok (.putfield index, 3)) (kk : ∀ (H1 : Heap) (locs1 : List Loc), va_P D vwCl (wY cI q (upd v 8 x) f z) H1 → va_D A (wY cI q (upd v 8 x) f z) → va_S A H0 H1 locs1 → W p l e R s m args below meth c H1 locs1 cells slots Q (F0 m (pc + 3) ls rest)) : W p l e R s m args below meth c H locs cells slots Q (F0 m pc ls (.int x :: .ref (q 0) :: rest)) :=
  va_put (D := D) (ci := 7) (C := RX7) (T := TX7) (N := 31) (v := .int x) (ty := .int) hx hb hts hin tyX7 tyX7_ok nmX7 hown hK hP hD hS 0 rfl rfl 11 (by decide) hl (fun _ h9 => h9) rfl (by decide +kernel) rfl rfl (Nat.le_of_ble_eq_true rfl) hdg (fun H1 locs1 hP hD hS => kk H1 locs1 hP hD hS)
theorem yg_r0_4 (hx : p.tables.exec = Jvm.exec) (hb : c.code = cc) (hts : ∀ w ∈ Ts, w.before args s = true) (hin : ∀ w ∈ wsX70, w ∈ Ts) (hown : s.vm.findClass own = some m.cls) (hK : va_K D vwCl [(cI, .int)] s) (hP : va_P D vwCl (wY cI q v f z) H) (hl : (Cond.fieldLink own index "EndedByOthersModel" "fitting" "[I").before args s = true) (hdg : decode cc pc = .ok (.getfield index, 3)) (kk : W p l e R s m args below meth c H locs cells slots Q (F0 m (pc + 3) ls (.ref (q 4) :: rest))) : W p l e R s m args below meth c H locs cells slots Q (F0 m pc ls (.ref (q 0) :: rest)) :=
  va_get (D := D) (ci := 7) (C := RX7) (T := TX7) (N := 31) hx hb hts hin hown hK hP 0 rfl rfl 12 (by decide) hl (fun _ h9 => h9) rfl hdg kk
theorem yg_r0_5 (hx : p.tables.exec = Jvm.exec) (hb : c.code = cc) (hts : ∀ w ∈ Ts, w.before args s = true) (hin : ∀ w ∈ wsX70, w ∈ Ts) (hown : s.vm.findClass own = some m.cls) (hK : va_K D vwCl [(cI, .int)] s) (hP : va_P D vwCl (wY cI q v f z) H) (hl : (Cond.fieldLink own index "EndedByOthersModel" "rows" "[I").before args s = true) (hdg : decode cc pc = .ok (.getfield index, 3)) (kk : W p l e R s m args below meth c H locs cells slots Q (F0 m (pc + 3) ls (.ref (q 5) :: rest))) : W p l e R s m args below meth c H locs cells slots Q (F0 m pc ls (.ref (q 0) :: rest)) :=
  va_get (D := D) (ci := 7) (C := RX7) (T := TX7) (N := 31) hx hb hts hin hown hK hP 0 rfl rfl 13 (by decide) hl (fun _ h9 => h9) rfl hdg kk
theorem yg_s9 (hx : p.tables.exec = Jvm.exec) (hb : c.code = cc) (hts : ∀ w ∈ Ts, w.before args s = true) (hin : ∀ w ∈ wsX70, w ∈ Ts) (hown : s.vm.findClass own = some m.cls) (hK : va_K D vwCl [(cI, .int)] s) (hP : va_P D vwCl (wY cI q v f z) H) (hl : (Cond.fieldLink own index "EndedByOthersModel" "sentences" "I").before args s = true) {x : Int32} (hv : v 9 = x) (hdg : decode cc pc = .ok (.getfield index, 3)) (kk : W p l e R s m args below meth c H locs cells slots Q (F0 m (pc + 3) ls (.int x :: rest))) : W p l e R s m args below meth c H locs cells slots Q (F0 m pc ls (.ref (q 0) :: rest)) := by
  subst hv
  exact va_get (D := D) (ci := 7) (C := RX7) (T := TX7) (N := 31) hx hb hts hin hown hK hP 0 rfl rfl 14 (by decide) hl (fun _ h9 => h9) rfl hdg kk
theorem yp_s9 (hx : p.tables.exec = Jvm.exec) (hb : c.code = cc) (hts : ∀ w ∈ Ts, w.before args s = true) (hin : ∀ w ∈ wsX70, w ∈ Ts) (hown : s.vm.findClass own = some m.cls) (hK : va_K D vwCl [(cI, .int)] s) (hP : va_P D vwCl (wY cI q v f z) H) (hD : va_D A (wY cI q v f z)) (hS : va_S A H0 H locs) {x : Int32} (hl : (Cond.fieldLink own index "EndedByOthersModel" "sentences" "I").before args s = true) (hdg : decode cc pc = .ok (.putfield index, 3)) (kk : ∀ (H1 : Heap) (locs1 : List Loc), va_P D vwCl (wY cI q (upd v 9 x) f z) H1 → va_D A (wY cI q (upd v 9 x) f z) → va_S A H0 H1 locs1 → W p l e R s m args below meth c H1 locs1 cells slots Q (F0 m (pc + 3) ls rest)) : W p l e R s m args below meth c H locs cells slots Q (F0 m pc ls (.int x :: .ref (q 0) :: rest)) :=
  va_put (D := D) (ci := 7) (C := RX7) (T := TX7) (N := 31) (v := .int x) (ty := .int) hx hb hts hin tyX7 tyX7_ok nmX7 hown hK hP hD hS 0 rfl rfl 14 (by decide) hl (fun _ h9 => h9) rfl (by decide +kernel) rfl rfl (Nat.le_of_ble_eq_true rfl) hdg (fun H1 locs1 hP hD hS => kk H1 locs1 hP hD hS)
theorem yg_r0_6 (hx : p.tables.exec = Jvm.exec) (hb : c.code = cc) (hts : ∀ w ∈ Ts, w.before args s = true) (hin : ∀ w ∈ wsX70, w ∈ Ts) (hown : s.vm.findClass own = some m.cls) (hK : va_K D vwCl [(cI, .int)] s) (hP : va_P D vwCl (wY cI q v f z) H) (hl : (Cond.fieldLink own index "EndedByOthersModel" "said" "[I").before args s = true) (hdg : decode cc pc = .ok (.getfield index, 3)) (kk : W p l e R s m args below meth c H locs cells slots Q (F0 m (pc + 3) ls (.ref (q 6) :: rest))) : W p l e R s m args below meth c H locs cells slots Q (F0 m pc ls (.ref (q 0) :: rest)) :=
  va_get (D := D) (ci := 7) (C := RX7) (T := TX7) (N := 31) hx hb hts hin hown hK hP 0 rfl rfl 15 (by decide) hl (fun _ h9 => h9) rfl hdg kk
theorem yg_r0_7 (hx : p.tables.exec = Jvm.exec) (hb : c.code = cc) (hts : ∀ w ∈ Ts, w.before args s = true) (hin : ∀ w ∈ wsX70, w ∈ Ts) (hown : s.vm.findClass own = some m.cls) (hK : va_K D vwCl [(cI, .int)] s) (hP : va_P D vwCl (wY cI q v f z) H) (hl : (Cond.fieldLink own index "EndedByOthersModel" "row" "[I").before args s = true) (hdg : decode cc pc = .ok (.getfield index, 3)) (kk : W p l e R s m args below meth c H locs cells slots Q (F0 m (pc + 3) ls (.ref (q 7) :: rest))) : W p l e R s m args below meth c H locs cells slots Q (F0 m pc ls (.ref (q 0) :: rest)) :=
  va_get (D := D) (ci := 7) (C := RX7) (T := TX7) (N := 31) hx hb hts hin hown hK hP 0 rfl rfl 16 (by decide) hl (fun _ h9 => h9) rfl hdg kk
theorem yg_r0_8 (hx : p.tables.exec = Jvm.exec) (hb : c.code = cc) (hts : ∀ w ∈ Ts, w.before args s = true) (hin : ∀ w ∈ wsX70, w ∈ Ts) (hown : s.vm.findClass own = some m.cls) (hK : va_K D vwCl [(cI, .int)] s) (hP : va_P D vwCl (wY cI q v f z) H) (hl : (Cond.fieldLink own index "EndedByOthersModel" "bestRow" "[I").before args s = true) (hdg : decode cc pc = .ok (.getfield index, 3)) (kk : W p l e R s m args below meth c H locs cells slots Q (F0 m (pc + 3) ls (.ref (q 8) :: rest))) : W p l e R s m args below meth c H locs cells slots Q (F0 m pc ls (.ref (q 0) :: rest)) :=
  va_get (D := D) (ci := 7) (C := RX7) (T := TX7) (N := 31) hx hb hts hin hown hK hP 0 rfl rfl 17 (by decide) hl (fun _ h9 => h9) rfl hdg kk
theorem yg_s10 (hx : p.tables.exec = Jvm.exec) (hb : c.code = cc) (hts : ∀ w ∈ Ts, w.before args s = true) (hin : ∀ w ∈ wsX70, w ∈ Ts) (hown : s.vm.findClass own = some m.cls) (hK : va_K D vwCl [(cI, .int)] s) (hP : va_P D vwCl (wY cI q v f z) H) (hl : (Cond.fieldLink own index "EndedByOthersModel" "heardMany" "I").before args s = true) {x : Int32} (hv : v 10 = x) (hdg : decode cc pc = .ok (.getfield index, 3)) (kk : W p l e R s m args below meth c H locs cells slots Q (F0 m (pc + 3) ls (.int x :: rest))) : W p l e R s m args below meth c H locs cells slots Q (F0 m pc ls (.ref (q 0) :: rest)) := by
  subst hv
  exact va_get (D := D) (ci := 7) (C := RX7) (T := TX7) (N := 31) hx hb hts hin hown hK hP 0 rfl rfl 18 (by decide) hl (fun _ h9 => h9) rfl hdg kk
theorem yp_s10 (hx : p.tables.exec = Jvm.exec) (hb : c.code = cc) (hts : ∀ w ∈ Ts, w.before args s = true) (hin : ∀ w ∈ wsX70, w ∈ Ts) (hown : s.vm.findClass own = some m.cls) (hK : va_K D vwCl [(cI, .int)] s) (hP : va_P D vwCl (wY cI q v f z) H) (hD : va_D A (wY cI q v f z)) (hS : va_S A H0 H locs) {x : Int32} (hl : (Cond.fieldLink own index "EndedByOthersModel" "heardMany" "I").before args s = true) (hdg : decode cc pc = .ok (.putfield index, 3)) (kk : ∀ (H1 : Heap) (locs1 : List Loc), va_P D vwCl (wY cI q (upd v 10 x) f z) H1 → va_D A (wY cI q (upd v 10 x) f z) → va_S A H0 H1 locs1 → W p l e R s m args below meth c H1 locs1 cells slots Q (F0 m (pc + 3) ls rest)) : W p l e R s m args below meth c H locs cells slots Q (F0 m pc ls (.int x :: .ref (q 0) :: rest)) :=
  va_put (D := D) (ci := 7) (C := RX7) (T := TX7) (N := 31) (v := .int x) (ty := .int) hx hb hts hin tyX7 tyX7_ok nmX7 hown hK hP hD hS 0 rfl rfl 18 (by decide) hl (fun _ h9 => h9) rfl (by decide +kernel) rfl rfl (Nat.le_of_ble_eq_true rfl) hdg (fun H1 locs1 hP hD hS => kk H1 locs1 hP hD hS)
theorem yg_r0_9 (hx : p.tables.exec = Jvm.exec) (hb : c.code = cc) (hts : ∀ w ∈ Ts, w.before args s = true) (hin : ∀ w ∈ wsX70, w ∈ Ts) (hown : s.vm.findClass own = some m.cls) (hK : va_K D vwCl [(cI, .int)] s) (hP : va_P D vwCl (wY cI q v f z) H) (hl : (Cond.fieldLink own index "EndedByOthersModel" "heards" "[I").before args s = true) (hdg : decode cc pc = .ok (.getfield index, 3)) (kk : W p l e R s m args below meth c H locs cells slots Q (F0 m (pc + 3) ls (.ref (q 9) :: rest))) : W p l e R s m args below meth c H locs cells slots Q (F0 m pc ls (.ref (q 0) :: rest)) :=
  va_get (D := D) (ci := 7) (C := RX7) (T := TX7) (N := 31) hx hb hts hin hown hK hP 0 rfl rfl 19 (by decide) hl (fun _ h9 => h9) rfl hdg kk
theorem yg_r0_10 (hx : p.tables.exec = Jvm.exec) (hb : c.code = cc) (hts : ∀ w ∈ Ts, w.before args s = true) (hin : ∀ w ∈ wsX70, w ∈ Ts) (hown : s.vm.findClass own = some m.cls) (hK : va_K D vwCl [(cI, .int)] s) (hP : va_P D vwCl (wY cI q v f z) H) (hl : (Cond.fieldLink own index "EndedByOthersModel" "parts" "[I").before args s = true) (hdg : decode cc pc = .ok (.getfield index, 3)) (kk : W p l e R s m args below meth c H locs cells slots Q (F0 m (pc + 3) ls (.ref (q 10) :: rest))) : W p l e R s m args below meth c H locs cells slots Q (F0 m pc ls (.ref (q 0) :: rest)) :=
  va_get (D := D) (ci := 7) (C := RX7) (T := TX7) (N := 31) hx hb hts hin hown hK hP 0 rfl rfl 20 (by decide) hl (fun _ h9 => h9) rfl hdg kk
theorem yg_s11 (hx : p.tables.exec = Jvm.exec) (hb : c.code = cc) (hts : ∀ w ∈ Ts, w.before args s = true) (hin : ∀ w ∈ wsX70, w ∈ Ts) (hown : s.vm.findClass own = some m.cls) (hK : va_K D vwCl [(cI, .int)] s) (hP : va_P D vwCl (wY cI q v f z) H) (hl : (Cond.fieldLink own index "EndedByOthersModel" "seedNow" "I").before args s = true) {x : Int32} (hv : v 11 = x) (hdg : decode cc pc = .ok (.getfield index, 3)) (kk : W p l e R s m args below meth c H locs cells slots Q (F0 m (pc + 3) ls (.int x :: rest))) : W p l e R s m args below meth c H locs cells slots Q (F0 m pc ls (.ref (q 0) :: rest)) := by
  subst hv
  exact va_get (D := D) (ci := 7) (C := RX7) (T := TX7) (N := 31) hx hb hts hin hown hK hP 0 rfl rfl 21 (by decide) hl (fun _ h9 => h9) rfl hdg kk
theorem yp_s11 (hx : p.tables.exec = Jvm.exec) (hb : c.code = cc) (hts : ∀ w ∈ Ts, w.before args s = true) (hin : ∀ w ∈ wsX70, w ∈ Ts) (hown : s.vm.findClass own = some m.cls) (hK : va_K D vwCl [(cI, .int)] s) (hP : va_P D vwCl (wY cI q v f z) H) (hD : va_D A (wY cI q v f z)) (hS : va_S A H0 H locs) {x : Int32} (hl : (Cond.fieldLink own index "EndedByOthersModel" "seedNow" "I").before args s = true) (hdg : decode cc pc = .ok (.putfield index, 3)) (kk : ∀ (H1 : Heap) (locs1 : List Loc), va_P D vwCl (wY cI q (upd v 11 x) f z) H1 → va_D A (wY cI q (upd v 11 x) f z) → va_S A H0 H1 locs1 → W p l e R s m args below meth c H1 locs1 cells slots Q (F0 m (pc + 3) ls rest)) : W p l e R s m args below meth c H locs cells slots Q (F0 m pc ls (.int x :: .ref (q 0) :: rest)) :=
  va_put (D := D) (ci := 7) (C := RX7) (T := TX7) (N := 31) (v := .int x) (ty := .int) hx hb hts hin tyX7 tyX7_ok nmX7 hown hK hP hD hS 0 rfl rfl 21 (by decide) hl (fun _ h9 => h9) rfl (by decide +kernel) rfl rfl (Nat.le_of_ble_eq_true rfl) hdg (fun H1 locs1 hP hD hS => kk H1 locs1 hP hD hS)
theorem yg_r0_11 (hx : p.tables.exec = Jvm.exec) (hb : c.code = cc) (hts : ∀ w ∈ Ts, w.before args s = true) (hin : ∀ w ∈ wsX70, w ∈ Ts) (hown : s.vm.findClass own = some m.cls) (hK : va_K D vwCl [(cI, .int)] s) (hP : va_P D vwCl (wY cI q v f z) H) (hl : (Cond.fieldLink own index "EndedByOthersModel" "savedRows" "[I").before args s = true) (hdg : decode cc pc = .ok (.getfield index, 3)) (kk : W p l e R s m args below meth c H locs cells slots Q (F0 m (pc + 3) ls (.ref (q 11) :: rest))) : W p l e R s m args below meth c H locs cells slots Q (F0 m pc ls (.ref (q 0) :: rest)) :=
  va_get (D := D) (ci := 7) (C := RX7) (T := TX7) (N := 31) hx hb hts hin hown hK hP 0 rfl rfl 22 (by decide) hl (fun _ h9 => h9) rfl hdg kk
theorem yg_s12 (hx : p.tables.exec = Jvm.exec) (hb : c.code = cc) (hts : ∀ w ∈ Ts, w.before args s = true) (hin : ∀ w ∈ wsX70, w ∈ Ts) (hown : s.vm.findClass own = some m.cls) (hK : va_K D vwCl [(cI, .int)] s) (hP : va_P D vwCl (wY cI q v f z) H) (hl : (Cond.fieldLink own index "EndedByOthersModel" "keptRoom" "I").before args s = true) {x : Int32} (hv : v 12 = x) (hdg : decode cc pc = .ok (.getfield index, 3)) (kk : W p l e R s m args below meth c H locs cells slots Q (F0 m (pc + 3) ls (.int x :: rest))) : W p l e R s m args below meth c H locs cells slots Q (F0 m pc ls (.ref (q 0) :: rest)) := by
  subst hv
  exact va_get (D := D) (ci := 7) (C := RX7) (T := TX7) (N := 31) hx hb hts hin hown hK hP 0 rfl rfl 23 (by decide) hl (fun _ h9 => h9) rfl hdg kk
theorem yp_s12 (hx : p.tables.exec = Jvm.exec) (hb : c.code = cc) (hts : ∀ w ∈ Ts, w.before args s = true) (hin : ∀ w ∈ wsX70, w ∈ Ts) (hown : s.vm.findClass own = some m.cls) (hK : va_K D vwCl [(cI, .int)] s) (hP : va_P D vwCl (wY cI q v f z) H) (hD : va_D A (wY cI q v f z)) (hS : va_S A H0 H locs) {x : Int32} (hl : (Cond.fieldLink own index "EndedByOthersModel" "keptRoom" "I").before args s = true) (hdg : decode cc pc = .ok (.putfield index, 3)) (kk : ∀ (H1 : Heap) (locs1 : List Loc), va_P D vwCl (wY cI q (upd v 12 x) f z) H1 → va_D A (wY cI q (upd v 12 x) f z) → va_S A H0 H1 locs1 → W p l e R s m args below meth c H1 locs1 cells slots Q (F0 m (pc + 3) ls rest)) : W p l e R s m args below meth c H locs cells slots Q (F0 m pc ls (.int x :: .ref (q 0) :: rest)) :=
  va_put (D := D) (ci := 7) (C := RX7) (T := TX7) (N := 31) (v := .int x) (ty := .int) hx hb hts hin tyX7 tyX7_ok nmX7 hown hK hP hD hS 0 rfl rfl 23 (by decide) hl (fun _ h9 => h9) rfl (by decide +kernel) rfl rfl (Nat.le_of_ble_eq_true rfl) hdg (fun H1 locs1 hP hD hS => kk H1 locs1 hP hD hS)
theorem yg_s13 (hx : p.tables.exec = Jvm.exec) (hb : c.code = cc) (hts : ∀ w ∈ Ts, w.before args s = true) (hin : ∀ w ∈ wsX70, w ∈ Ts) (hown : s.vm.findClass own = some m.cls) (hK : va_K D vwCl [(cI, .int)] s) (hP : va_P D vwCl (wY cI q v f z) H) (hl : (Cond.fieldLink own index "EndedByOthersModel" "keptSentences" "I").before args s = true) {x : Int32} (hv : v 13 = x) (hdg : decode cc pc = .ok (.getfield index, 3)) (kk : W p l e R s m args below meth c H locs cells slots Q (F0 m (pc + 3) ls (.int x :: rest))) : W p l e R s m args below meth c H locs cells slots Q (F0 m pc ls (.ref (q 0) :: rest)) := by
  subst hv
  exact va_get (D := D) (ci := 7) (C := RX7) (T := TX7) (N := 31) hx hb hts hin hown hK hP 0 rfl rfl 24 (by decide) hl (fun _ h9 => h9) rfl hdg kk
theorem yp_s13 (hx : p.tables.exec = Jvm.exec) (hb : c.code = cc) (hts : ∀ w ∈ Ts, w.before args s = true) (hin : ∀ w ∈ wsX70, w ∈ Ts) (hown : s.vm.findClass own = some m.cls) (hK : va_K D vwCl [(cI, .int)] s) (hP : va_P D vwCl (wY cI q v f z) H) (hD : va_D A (wY cI q v f z)) (hS : va_S A H0 H locs) {x : Int32} (hl : (Cond.fieldLink own index "EndedByOthersModel" "keptSentences" "I").before args s = true) (hdg : decode cc pc = .ok (.putfield index, 3)) (kk : ∀ (H1 : Heap) (locs1 : List Loc), va_P D vwCl (wY cI q (upd v 13 x) f z) H1 → va_D A (wY cI q (upd v 13 x) f z) → va_S A H0 H1 locs1 → W p l e R s m args below meth c H1 locs1 cells slots Q (F0 m (pc + 3) ls rest)) : W p l e R s m args below meth c H locs cells slots Q (F0 m pc ls (.int x :: .ref (q 0) :: rest)) :=
  va_put (D := D) (ci := 7) (C := RX7) (T := TX7) (N := 31) (v := .int x) (ty := .int) hx hb hts hin tyX7 tyX7_ok nmX7 hown hK hP hD hS 0 rfl rfl 24 (by decide) hl (fun _ h9 => h9) rfl (by decide +kernel) rfl rfl (Nat.le_of_ble_eq_true rfl) hdg (fun H1 locs1 hP hD hS => kk H1 locs1 hP hD hS)
theorem yg_s14 (hx : p.tables.exec = Jvm.exec) (hb : c.code = cc) (hts : ∀ w ∈ Ts, w.before args s = true) (hin : ∀ w ∈ wsX70, w ∈ Ts) (hown : s.vm.findClass own = some m.cls) (hK : va_K D vwCl [(cI, .int)] s) (hP : va_P D vwCl (wY cI q v f z) H) (hl : (Cond.fieldLink own index "EndedByOthersModel" "keptWants" "I").before args s = true) {x : Int32} (hv : v 14 = x) (hdg : decode cc pc = .ok (.getfield index, 3)) (kk : W p l e R s m args below meth c H locs cells slots Q (F0 m (pc + 3) ls (.int x :: rest))) : W p l e R s m args below meth c H locs cells slots Q (F0 m pc ls (.ref (q 0) :: rest)) := by
  subst hv
  exact va_get (D := D) (ci := 7) (C := RX7) (T := TX7) (N := 31) hx hb hts hin hown hK hP 0 rfl rfl 25 (by decide) hl (fun _ h9 => h9) rfl hdg kk
theorem yp_s14 (hx : p.tables.exec = Jvm.exec) (hb : c.code = cc) (hts : ∀ w ∈ Ts, w.before args s = true) (hin : ∀ w ∈ wsX70, w ∈ Ts) (hown : s.vm.findClass own = some m.cls) (hK : va_K D vwCl [(cI, .int)] s) (hP : va_P D vwCl (wY cI q v f z) H) (hD : va_D A (wY cI q v f z)) (hS : va_S A H0 H locs) {x : Int32} (hl : (Cond.fieldLink own index "EndedByOthersModel" "keptWants" "I").before args s = true) (hdg : decode cc pc = .ok (.putfield index, 3)) (kk : ∀ (H1 : Heap) (locs1 : List Loc), va_P D vwCl (wY cI q (upd v 14 x) f z) H1 → va_D A (wY cI q (upd v 14 x) f z) → va_S A H0 H1 locs1 → W p l e R s m args below meth c H1 locs1 cells slots Q (F0 m (pc + 3) ls rest)) : W p l e R s m args below meth c H locs cells slots Q (F0 m pc ls (.int x :: .ref (q 0) :: rest)) :=
  va_put (D := D) (ci := 7) (C := RX7) (T := TX7) (N := 31) (v := .int x) (ty := .int) hx hb hts hin tyX7 tyX7_ok nmX7 hown hK hP hD hS 0 rfl rfl 25 (by decide) hl (fun _ h9 => h9) rfl (by decide +kernel) rfl rfl (Nat.le_of_ble_eq_true rfl) hdg (fun H1 locs1 hP hD hS => kk H1 locs1 hP hD hS)
theorem yg_s15 (hx : p.tables.exec = Jvm.exec) (hb : c.code = cc) (hts : ∀ w ∈ Ts, w.before args s = true) (hin : ∀ w ∈ wsX70, w ∈ Ts) (hown : s.vm.findClass own = some m.cls) (hK : va_K D vwCl [(cI, .int)] s) (hP : va_P D vwCl (wY cI q v f z) H) (hl : (Cond.fieldLink own index "EndedByOthersModel" "keptHeard" "I").before args s = true) {x : Int32} (hv : v 15 = x) (hdg : decode cc pc = .ok (.getfield index, 3)) (kk : W p l e R s m args below meth c H locs cells slots Q (F0 m (pc + 3) ls (.int x :: rest))) : W p l e R s m args below meth c H locs cells slots Q (F0 m pc ls (.ref (q 0) :: rest)) := by
  subst hv
  exact va_get (D := D) (ci := 7) (C := RX7) (T := TX7) (N := 31) hx hb hts hin hown hK hP 0 rfl rfl 26 (by decide) hl (fun _ h9 => h9) rfl hdg kk
theorem yp_s15 (hx : p.tables.exec = Jvm.exec) (hb : c.code = cc) (hts : ∀ w ∈ Ts, w.before args s = true) (hin : ∀ w ∈ wsX70, w ∈ Ts) (hown : s.vm.findClass own = some m.cls) (hK : va_K D vwCl [(cI, .int)] s) (hP : va_P D vwCl (wY cI q v f z) H) (hD : va_D A (wY cI q v f z)) (hS : va_S A H0 H locs) {x : Int32} (hl : (Cond.fieldLink own index "EndedByOthersModel" "keptHeard" "I").before args s = true) (hdg : decode cc pc = .ok (.putfield index, 3)) (kk : ∀ (H1 : Heap) (locs1 : List Loc), va_P D vwCl (wY cI q (upd v 15 x) f z) H1 → va_D A (wY cI q (upd v 15 x) f z) → va_S A H0 H1 locs1 → W p l e R s m args below meth c H1 locs1 cells slots Q (F0 m (pc + 3) ls rest)) : W p l e R s m args below meth c H locs cells slots Q (F0 m pc ls (.int x :: .ref (q 0) :: rest)) :=
  va_put (D := D) (ci := 7) (C := RX7) (T := TX7) (N := 31) (v := .int x) (ty := .int) hx hb hts hin tyX7 tyX7_ok nmX7 hown hK hP hD hS 0 rfl rfl 26 (by decide) hl (fun _ h9 => h9) rfl (by decide +kernel) rfl rfl (Nat.le_of_ble_eq_true rfl) hdg (fun H1 locs1 hP hD hS => kk H1 locs1 hP hD hS)
theorem yg_r0_12 (hx : p.tables.exec = Jvm.exec) (hb : c.code = cc) (hts : ∀ w ∈ Ts, w.before args s = true) (hin : ∀ w ∈ wsX70, w ∈ Ts) (hown : s.vm.findClass own = some m.cls) (hK : va_K D vwCl [(cI, .int)] s) (hP : va_P D vwCl (wY cI q v f z) H) (hl : (Cond.fieldLink own index "EndedByOthersModel" "keptRows" "[I").before args s = true) (hdg : decode cc pc = .ok (.getfield index, 3)) (kk : W p l e R s m args below meth c H locs cells slots Q (F0 m (pc + 3) ls (.ref (q 12) :: rest))) : W p l e R s m args below meth c H locs cells slots Q (F0 m pc ls (.ref (q 0) :: rest)) :=
  va_get (D := D) (ci := 7) (C := RX7) (T := TX7) (N := 31) hx hb hts hin hown hK hP 0 rfl rfl 27 (by decide) hl (fun _ h9 => h9) rfl hdg kk
theorem yg_r0_13 (hx : p.tables.exec = Jvm.exec) (hb : c.code = cc) (hts : ∀ w ∈ Ts, w.before args s = true) (hin : ∀ w ∈ wsX70, w ∈ Ts) (hown : s.vm.findClass own = some m.cls) (hK : va_K D vwCl [(cI, .int)] s) (hP : va_P D vwCl (wY cI q v f z) H) (hl : (Cond.fieldLink own index "EndedByOthersModel" "keptSaid" "[I").before args s = true) (hdg : decode cc pc = .ok (.getfield index, 3)) (kk : W p l e R s m args below meth c H locs cells slots Q (F0 m (pc + 3) ls (.ref (q 13) :: rest))) : W p l e R s m args below meth c H locs cells slots Q (F0 m pc ls (.ref (q 0) :: rest)) :=
  va_get (D := D) (ci := 7) (C := RX7) (T := TX7) (N := 31) hx hb hts hin hown hK hP 0 rfl rfl 28 (by decide) hl (fun _ h9 => h9) rfl hdg kk
theorem yg_r0_14 (hx : p.tables.exec = Jvm.exec) (hb : c.code = cc) (hts : ∀ w ∈ Ts, w.before args s = true) (hin : ∀ w ∈ wsX70, w ∈ Ts) (hown : s.vm.findClass own = some m.cls) (hK : va_K D vwCl [(cI, .int)] s) (hP : va_P D vwCl (wY cI q v f z) H) (hl : (Cond.fieldLink own index "EndedByOthersModel" "keptHeards" "[I").before args s = true) (hdg : decode cc pc = .ok (.getfield index, 3)) (kk : W p l e R s m args below meth c H locs cells slots Q (F0 m (pc + 3) ls (.ref (q 14) :: rest))) : W p l e R s m args below meth c H locs cells slots Q (F0 m pc ls (.ref (q 0) :: rest)) :=
  va_get (D := D) (ci := 7) (C := RX7) (T := TX7) (N := 31) hx hb hts hin hown hK hP 0 rfl rfl 29 (by decide) hl (fun _ h9 => h9) rfl hdg kk
theorem yg_l0 (hx : p.tables.exec = Jvm.exec) (hb : c.code = cc) (hts : ∀ w ∈ Ts, w.before args s = true) (hin : ∀ w ∈ wsX70, w ∈ Ts) (hown : s.vm.findClass own = some m.cls) (hK : va_K D vwCl [(cI, .int)] s) (hP : va_P D vwCl (wY cI q v f z) H) (hl : (Cond.fieldLink own index "EndedByOthersModel" "hash" "J").before args s = true) {x : Int64} (hv : z = x) (hdg : decode cc pc = .ok (.getfield index, 3)) (kk : W p l e R s m args below meth c H locs cells slots Q (F0 m (pc + 3) ls (.long x :: rest))) : W p l e R s m args below meth c H locs cells slots Q (F0 m pc ls (.ref (q 0) :: rest)) := by
  subst hv
  exact va_get (D := D) (ci := 7) (C := RX7) (T := TX7) (N := 31) hx hb hts hin hown hK hP 0 rfl rfl 30 (by decide) hl (fun _ h9 => h9) rfl hdg kk
theorem yp_l0 (hx : p.tables.exec = Jvm.exec) (hb : c.code = cc) (hts : ∀ w ∈ Ts, w.before args s = true) (hin : ∀ w ∈ wsX70, w ∈ Ts) (hown : s.vm.findClass own = some m.cls) (hK : va_K D vwCl [(cI, .int)] s) (hP : va_P D vwCl (wY cI q v f z) H) (hD : va_D A (wY cI q v f z)) (hS : va_S A H0 H locs) {x : Int64} (hl : (Cond.fieldLink own index "EndedByOthersModel" "hash" "J").before args s = true) (hdg : decode cc pc = .ok (.putfield index, 3)) (kk : ∀ (H1 : Heap) (locs1 : List Loc), va_P D vwCl (wY cI q v f x) H1 → va_D A (wY cI q v f x) → va_S A H0 H1 locs1 → W p l e R s m args below meth c H1 locs1 cells slots Q (F0 m (pc + 3) ls rest)) : W p l e R s m args below meth c H locs cells slots Q (F0 m pc ls (.long x :: .ref (q 0) :: rest)) :=
  va_put (D := D) (ci := 7) (C := RX7) (T := TX7) (N := 31) (v := .long x) (ty := .long) hx hb hts hin tyX7 tyX7_ok nmX7 hown hK hP hD hS 0 rfl rfl 30 (by decide) hl (fun _ h9 => h9) rfl (by decide +kernel) rfl rfl (Nat.le_of_ble_eq_true rfl) hdg (fun H1 locs1 hP hD hS => kk H1 locs1 hP hD hS)
theorem yal_0 (hx : p.tables.exec = Jvm.exec) (hb : c.code = cc) (hK : va_K D vwCl [(cI, .int)] s) (hP : va_P D vwCl (wY cI q v f z) H) {i x : Int32} (hin : vp_in i 30) (hv : f 0 i.toNatClampNeg = x) (hdg : decode cc pc = .ok (.iaload, 1)) (kk : W p l e R s m args below meth c H locs cells slots Q (F0 m (pc + 1) ls (.int x :: rest))) : W p l e R s m args below meth c H locs cells slots Q (F0 m pc ls (.int i :: .ref (q 1) :: rest)) := by
  subst hv
  exact va_iald hx hb hK hP 1 0 (f := f 0) rfl rfl hin hdg kk
theorem yas_0 (hx : p.tables.exec = Jvm.exec) (hb : c.code = cc) (hK : va_K D vwCl [(cI, .int)] s) (hP : va_P D vwCl (wY cI q v f z) H) (hD : va_D A (wY cI q v f z)) (hS : va_S A H0 H locs) {i x : Int32} (hin : vp_in i 30) (hdg : decode cc pc = .ok (.iastore, 1)) (kk : ∀ (H1 : Heap) (locs1 : List Loc), va_P D vwCl (wY cI q v (va_up f 0 (upd (f 0) i.toNatClampNeg x)) z) H1 → va_D A (wY cI q v (va_up f 0 (upd (f 0) i.toNatClampNeg x)) z) → va_S A H0 H1 locs1 → W p l e R s m args below meth c H1 locs1 cells slots Q (F0 m (pc + 1) ls rest)) : W p l e R s m args below meth c H locs cells slots Q (F0 m pc ls (.int x :: .int i :: .ref (q 1) :: rest)) :=
  va_iast hx hb hK hP hD hS 1 0 (f := f 0) rfl rfl hin hdg (fun H1 locs1 hP hD hS => kk H1 locs1 hP hD hS)
theorem yln_0 (hx : p.tables.exec = Jvm.exec) (hb : c.code = cc) (hK : va_K D vwCl [(cI, .int)] s) (hP : va_P D vwCl (wY cI q v f z) H) (hdg : decode cc pc = .ok (.arraylength, 1)) (kk : W p l e R s m args below meth c H locs cells slots Q (F0 m (pc + 1) ls (.int 30 :: rest))) : W p l e R s m args below meth c H locs cells slots Q (F0 m pc ls (.ref (q 1) :: rest)) :=
  va_alen hx hb hK hP 1 0 (x := (30, .inl (f 0))) rfl rfl rfl hdg kk
theorem yal_1 (hx : p.tables.exec = Jvm.exec) (hb : c.code = cc) (hK : va_K D vwCl [(cI, .int)] s) (hP : va_P D vwCl (wY cI q v f z) H) {i x : Int32} (hin : vp_in i 4) (hv : f 1 i.toNatClampNeg = x) (hdg : decode cc pc = .ok (.iaload, 1)) (kk : W p l e R s m args below meth c H locs cells slots Q (F0 m (pc + 1) ls (.int x :: rest))) : W p l e R s m args below meth c H locs cells slots Q (F0 m pc ls (.int i :: .ref (q 2) :: rest)) := by
  subst hv
  exact va_iald hx hb hK hP 2 0 (f := f 1) rfl rfl hin hdg kk
theorem yas_1 (hx : p.tables.exec = Jvm.exec) (hb : c.code = cc) (hK : va_K D vwCl [(cI, .int)] s) (hP : va_P D vwCl (wY cI q v f z) H) (hD : va_D A (wY cI q v f z)) (hS : va_S A H0 H locs) {i x : Int32} (hin : vp_in i 4) (hdg : decode cc pc = .ok (.iastore, 1)) (kk : ∀ (H1 : Heap) (locs1 : List Loc), va_P D vwCl (wY cI q v (va_up f 1 (upd (f 1) i.toNatClampNeg x)) z) H1 → va_D A (wY cI q v (va_up f 1 (upd (f 1) i.toNatClampNeg x)) z) → va_S A H0 H1 locs1 → W p l e R s m args below meth c H1 locs1 cells slots Q (F0 m (pc + 1) ls rest)) : W p l e R s m args below meth c H locs cells slots Q (F0 m pc ls (.int x :: .int i :: .ref (q 2) :: rest)) :=
  va_iast hx hb hK hP hD hS 2 0 (f := f 1) rfl rfl hin hdg (fun H1 locs1 hP hD hS => kk H1 locs1 hP hD hS)
theorem yln_1 (hx : p.tables.exec = Jvm.exec) (hb : c.code = cc) (hK : va_K D vwCl [(cI, .int)] s) (hP : va_P D vwCl (wY cI q v f z) H) (hdg : decode cc pc = .ok (.arraylength, 1)) (kk : W p l e R s m args below meth c H locs cells slots Q (F0 m (pc + 1) ls (.int 4 :: rest))) : W p l e R s m args below meth c H locs cells slots Q (F0 m pc ls (.ref (q 2) :: rest)) :=
  va_alen hx hb hK hP 2 0 (x := (4, .inl (f 1))) rfl rfl rfl hdg kk
theorem yal_2 (hx : p.tables.exec = Jvm.exec) (hb : c.code = cc) (hK : va_K D vwCl [(cI, .int)] s) (hP : va_P D vwCl (wY cI q v f z) H) {i x : Int32} (hin : vp_in i 8) (hv : f 2 i.toNatClampNeg = x) (hdg : decode cc pc = .ok (.iaload, 1)) (kk : W p l e R s m args below meth c H locs cells slots Q (F0 m (pc + 1) ls (.int x :: rest))) : W p l e R s m args below meth c H locs cells slots Q (F0 m pc ls (.int i :: .ref (q 3) :: rest)) := by
  subst hv
  exact va_iald hx hb hK hP 3 0 (f := f 2) rfl rfl hin hdg kk
theorem yas_2 (hx : p.tables.exec = Jvm.exec) (hb : c.code = cc) (hK : va_K D vwCl [(cI, .int)] s) (hP : va_P D vwCl (wY cI q v f z) H) (hD : va_D A (wY cI q v f z)) (hS : va_S A H0 H locs) {i x : Int32} (hin : vp_in i 8) (hdg : decode cc pc = .ok (.iastore, 1)) (kk : ∀ (H1 : Heap) (locs1 : List Loc), va_P D vwCl (wY cI q v (va_up f 2 (upd (f 2) i.toNatClampNeg x)) z) H1 → va_D A (wY cI q v (va_up f 2 (upd (f 2) i.toNatClampNeg x)) z) → va_S A H0 H1 locs1 → W p l e R s m args below meth c H1 locs1 cells slots Q (F0 m (pc + 1) ls rest)) : W p l e R s m args below meth c H locs cells slots Q (F0 m pc ls (.int x :: .int i :: .ref (q 3) :: rest)) :=
  va_iast hx hb hK hP hD hS 3 0 (f := f 2) rfl rfl hin hdg (fun H1 locs1 hP hD hS => kk H1 locs1 hP hD hS)
theorem yln_2 (hx : p.tables.exec = Jvm.exec) (hb : c.code = cc) (hK : va_K D vwCl [(cI, .int)] s) (hP : va_P D vwCl (wY cI q v f z) H) (hdg : decode cc pc = .ok (.arraylength, 1)) (kk : W p l e R s m args below meth c H locs cells slots Q (F0 m (pc + 1) ls (.int 8 :: rest))) : W p l e R s m args below meth c H locs cells slots Q (F0 m pc ls (.ref (q 3) :: rest)) :=
  va_alen hx hb hK hP 3 0 (x := (8, .inl (f 2))) rfl rfl rfl hdg kk
theorem yal_3 (hx : p.tables.exec = Jvm.exec) (hb : c.code = cc) (hK : va_K D vwCl [(cI, .int)] s) (hP : va_P D vwCl (wY cI q v f z) H) {i x : Int32} (hin : vp_in i 4) (hv : f 3 i.toNatClampNeg = x) (hdg : decode cc pc = .ok (.iaload, 1)) (kk : W p l e R s m args below meth c H locs cells slots Q (F0 m (pc + 1) ls (.int x :: rest))) : W p l e R s m args below meth c H locs cells slots Q (F0 m pc ls (.int i :: .ref (q 4) :: rest)) := by
  subst hv
  exact va_iald hx hb hK hP 4 0 (f := f 3) rfl rfl hin hdg kk
theorem yas_3 (hx : p.tables.exec = Jvm.exec) (hb : c.code = cc) (hK : va_K D vwCl [(cI, .int)] s) (hP : va_P D vwCl (wY cI q v f z) H) (hD : va_D A (wY cI q v f z)) (hS : va_S A H0 H locs) {i x : Int32} (hin : vp_in i 4) (hdg : decode cc pc = .ok (.iastore, 1)) (kk : ∀ (H1 : Heap) (locs1 : List Loc), va_P D vwCl (wY cI q v (va_up f 3 (upd (f 3) i.toNatClampNeg x)) z) H1 → va_D A (wY cI q v (va_up f 3 (upd (f 3) i.toNatClampNeg x)) z) → va_S A H0 H1 locs1 → W p l e R s m args below meth c H1 locs1 cells slots Q (F0 m (pc + 1) ls rest)) : W p l e R s m args below meth c H locs cells slots Q (F0 m pc ls (.int x :: .int i :: .ref (q 4) :: rest)) :=
  va_iast hx hb hK hP hD hS 4 0 (f := f 3) rfl rfl hin hdg (fun H1 locs1 hP hD hS => kk H1 locs1 hP hD hS)
theorem yln_3 (hx : p.tables.exec = Jvm.exec) (hb : c.code = cc) (hK : va_K D vwCl [(cI, .int)] s) (hP : va_P D vwCl (wY cI q v f z) H) (hdg : decode cc pc = .ok (.arraylength, 1)) (kk : W p l e R s m args below meth c H locs cells slots Q (F0 m (pc + 1) ls (.int 4 :: rest))) : W p l e R s m args below meth c H locs cells slots Q (F0 m pc ls (.ref (q 4) :: rest)) :=
  va_alen hx hb hK hP 4 0 (x := (4, .inl (f 3))) rfl rfl rfl hdg kk
theorem yal_4 (hx : p.tables.exec = Jvm.exec) (hb : c.code = cc) (hK : va_K D vwCl [(cI, .int)] s) (hP : va_P D vwCl (wY cI q v f z) H) {i x : Int32} (hin : vp_in i 12) (hv : f 4 i.toNatClampNeg = x) (hdg : decode cc pc = .ok (.iaload, 1)) (kk : W p l e R s m args below meth c H locs cells slots Q (F0 m (pc + 1) ls (.int x :: rest))) : W p l e R s m args below meth c H locs cells slots Q (F0 m pc ls (.int i :: .ref (q 5) :: rest)) := by
  subst hv
  exact va_iald hx hb hK hP 5 0 (f := f 4) rfl rfl hin hdg kk
theorem yas_4 (hx : p.tables.exec = Jvm.exec) (hb : c.code = cc) (hK : va_K D vwCl [(cI, .int)] s) (hP : va_P D vwCl (wY cI q v f z) H) (hD : va_D A (wY cI q v f z)) (hS : va_S A H0 H locs) {i x : Int32} (hin : vp_in i 12) (hdg : decode cc pc = .ok (.iastore, 1)) (kk : ∀ (H1 : Heap) (locs1 : List Loc), va_P D vwCl (wY cI q v (va_up f 4 (upd (f 4) i.toNatClampNeg x)) z) H1 → va_D A (wY cI q v (va_up f 4 (upd (f 4) i.toNatClampNeg x)) z) → va_S A H0 H1 locs1 → W p l e R s m args below meth c H1 locs1 cells slots Q (F0 m (pc + 1) ls rest)) : W p l e R s m args below meth c H locs cells slots Q (F0 m pc ls (.int x :: .int i :: .ref (q 5) :: rest)) :=
  va_iast hx hb hK hP hD hS 5 0 (f := f 4) rfl rfl hin hdg (fun H1 locs1 hP hD hS => kk H1 locs1 hP hD hS)
theorem yln_4 (hx : p.tables.exec = Jvm.exec) (hb : c.code = cc) (hK : va_K D vwCl [(cI, .int)] s) (hP : va_P D vwCl (wY cI q v f z) H) (hdg : decode cc pc = .ok (.arraylength, 1)) (kk : W p l e R s m args below meth c H locs cells slots Q (F0 m (pc + 1) ls (.int 12 :: rest))) : W p l e R s m args below meth c H locs cells slots Q (F0 m pc ls (.ref (q 5) :: rest)) :=
  va_alen hx hb hK hP 5 0 (x := (12, .inl (f 4))) rfl rfl rfl hdg kk
theorem yal_5 (hx : p.tables.exec = Jvm.exec) (hb : c.code = cc) (hK : va_K D vwCl [(cI, .int)] s) (hP : va_P D vwCl (wY cI q v f z) H) {i x : Int32} (hin : vp_in i 32) (hv : f 5 i.toNatClampNeg = x) (hdg : decode cc pc = .ok (.iaload, 1)) (kk : W p l e R s m args below meth c H locs cells slots Q (F0 m (pc + 1) ls (.int x :: rest))) : W p l e R s m args below meth c H locs cells slots Q (F0 m pc ls (.int i :: .ref (q 6) :: rest)) := by
  subst hv
  exact va_iald hx hb hK hP 6 0 (f := f 5) rfl rfl hin hdg kk
theorem yas_5 (hx : p.tables.exec = Jvm.exec) (hb : c.code = cc) (hK : va_K D vwCl [(cI, .int)] s) (hP : va_P D vwCl (wY cI q v f z) H) (hD : va_D A (wY cI q v f z)) (hS : va_S A H0 H locs) {i x : Int32} (hin : vp_in i 32) (hdg : decode cc pc = .ok (.iastore, 1)) (kk : ∀ (H1 : Heap) (locs1 : List Loc), va_P D vwCl (wY cI q v (va_up f 5 (upd (f 5) i.toNatClampNeg x)) z) H1 → va_D A (wY cI q v (va_up f 5 (upd (f 5) i.toNatClampNeg x)) z) → va_S A H0 H1 locs1 → W p l e R s m args below meth c H1 locs1 cells slots Q (F0 m (pc + 1) ls rest)) : W p l e R s m args below meth c H locs cells slots Q (F0 m pc ls (.int x :: .int i :: .ref (q 6) :: rest)) :=
  va_iast hx hb hK hP hD hS 6 0 (f := f 5) rfl rfl hin hdg (fun H1 locs1 hP hD hS => kk H1 locs1 hP hD hS)
theorem yln_5 (hx : p.tables.exec = Jvm.exec) (hb : c.code = cc) (hK : va_K D vwCl [(cI, .int)] s) (hP : va_P D vwCl (wY cI q v f z) H) (hdg : decode cc pc = .ok (.arraylength, 1)) (kk : W p l e R s m args below meth c H locs cells slots Q (F0 m (pc + 1) ls (.int 32 :: rest))) : W p l e R s m args below meth c H locs cells slots Q (F0 m pc ls (.ref (q 6) :: rest)) :=
  va_alen hx hb hK hP 6 0 (x := (32, .inl (f 5))) rfl rfl rfl hdg kk
theorem yal_6 (hx : p.tables.exec = Jvm.exec) (hb : c.code = cc) (hK : va_K D vwCl [(cI, .int)] s) (hP : va_P D vwCl (wY cI q v f z) H) {i x : Int32} (hin : vp_in i 4) (hv : f 6 i.toNatClampNeg = x) (hdg : decode cc pc = .ok (.iaload, 1)) (kk : W p l e R s m args below meth c H locs cells slots Q (F0 m (pc + 1) ls (.int x :: rest))) : W p l e R s m args below meth c H locs cells slots Q (F0 m pc ls (.int i :: .ref (q 7) :: rest)) := by
  subst hv
  exact va_iald hx hb hK hP 7 0 (f := f 6) rfl rfl hin hdg kk
theorem yas_6 (hx : p.tables.exec = Jvm.exec) (hb : c.code = cc) (hK : va_K D vwCl [(cI, .int)] s) (hP : va_P D vwCl (wY cI q v f z) H) (hD : va_D A (wY cI q v f z)) (hS : va_S A H0 H locs) {i x : Int32} (hin : vp_in i 4) (hdg : decode cc pc = .ok (.iastore, 1)) (kk : ∀ (H1 : Heap) (locs1 : List Loc), va_P D vwCl (wY cI q v (va_up f 6 (upd (f 6) i.toNatClampNeg x)) z) H1 → va_D A (wY cI q v (va_up f 6 (upd (f 6) i.toNatClampNeg x)) z) → va_S A H0 H1 locs1 → W p l e R s m args below meth c H1 locs1 cells slots Q (F0 m (pc + 1) ls rest)) : W p l e R s m args below meth c H locs cells slots Q (F0 m pc ls (.int x :: .int i :: .ref (q 7) :: rest)) :=
  va_iast hx hb hK hP hD hS 7 0 (f := f 6) rfl rfl hin hdg (fun H1 locs1 hP hD hS => kk H1 locs1 hP hD hS)
theorem yln_6 (hx : p.tables.exec = Jvm.exec) (hb : c.code = cc) (hK : va_K D vwCl [(cI, .int)] s) (hP : va_P D vwCl (wY cI q v f z) H) (hdg : decode cc pc = .ok (.arraylength, 1)) (kk : W p l e R s m args below meth c H locs cells slots Q (F0 m (pc + 1) ls (.int 4 :: rest))) : W p l e R s m args below meth c H locs cells slots Q (F0 m pc ls (.ref (q 7) :: rest)) :=
  va_alen hx hb hK hP 7 0 (x := (4, .inl (f 6))) rfl rfl rfl hdg kk
theorem yal_7 (hx : p.tables.exec = Jvm.exec) (hb : c.code = cc) (hK : va_K D vwCl [(cI, .int)] s) (hP : va_P D vwCl (wY cI q v f z) H) {i x : Int32} (hin : vp_in i 4) (hv : f 7 i.toNatClampNeg = x) (hdg : decode cc pc = .ok (.iaload, 1)) (kk : W p l e R s m args below meth c H locs cells slots Q (F0 m (pc + 1) ls (.int x :: rest))) : W p l e R s m args below meth c H locs cells slots Q (F0 m pc ls (.int i :: .ref (q 8) :: rest)) := by
  subst hv
  exact va_iald hx hb hK hP 8 0 (f := f 7) rfl rfl hin hdg kk
theorem yas_7 (hx : p.tables.exec = Jvm.exec) (hb : c.code = cc) (hK : va_K D vwCl [(cI, .int)] s) (hP : va_P D vwCl (wY cI q v f z) H) (hD : va_D A (wY cI q v f z)) (hS : va_S A H0 H locs) {i x : Int32} (hin : vp_in i 4) (hdg : decode cc pc = .ok (.iastore, 1)) (kk : ∀ (H1 : Heap) (locs1 : List Loc), va_P D vwCl (wY cI q v (va_up f 7 (upd (f 7) i.toNatClampNeg x)) z) H1 → va_D A (wY cI q v (va_up f 7 (upd (f 7) i.toNatClampNeg x)) z) → va_S A H0 H1 locs1 → W p l e R s m args below meth c H1 locs1 cells slots Q (F0 m (pc + 1) ls rest)) : W p l e R s m args below meth c H locs cells slots Q (F0 m pc ls (.int x :: .int i :: .ref (q 8) :: rest)) :=
  va_iast hx hb hK hP hD hS 8 0 (f := f 7) rfl rfl hin hdg (fun H1 locs1 hP hD hS => kk H1 locs1 hP hD hS)
theorem yln_7 (hx : p.tables.exec = Jvm.exec) (hb : c.code = cc) (hK : va_K D vwCl [(cI, .int)] s) (hP : va_P D vwCl (wY cI q v f z) H) (hdg : decode cc pc = .ok (.arraylength, 1)) (kk : W p l e R s m args below meth c H locs cells slots Q (F0 m (pc + 1) ls (.int 4 :: rest))) : W p l e R s m args below meth c H locs cells slots Q (F0 m pc ls (.ref (q 8) :: rest)) :=
  va_alen hx hb hK hP 8 0 (x := (4, .inl (f 7))) rfl rfl rfl hdg kk
theorem yal_8 (hx : p.tables.exec = Jvm.exec) (hb : c.code = cc) (hK : va_K D vwCl [(cI, .int)] s) (hP : va_P D vwCl (wY cI q v f z) H) {i x : Int32} (hin : vp_in i 24) (hv : f 8 i.toNatClampNeg = x) (hdg : decode cc pc = .ok (.iaload, 1)) (kk : W p l e R s m args below meth c H locs cells slots Q (F0 m (pc + 1) ls (.int x :: rest))) : W p l e R s m args below meth c H locs cells slots Q (F0 m pc ls (.int i :: .ref (q 9) :: rest)) := by
  subst hv
  exact va_iald hx hb hK hP 9 0 (f := f 8) rfl rfl hin hdg kk
theorem yas_8 (hx : p.tables.exec = Jvm.exec) (hb : c.code = cc) (hK : va_K D vwCl [(cI, .int)] s) (hP : va_P D vwCl (wY cI q v f z) H) (hD : va_D A (wY cI q v f z)) (hS : va_S A H0 H locs) {i x : Int32} (hin : vp_in i 24) (hdg : decode cc pc = .ok (.iastore, 1)) (kk : ∀ (H1 : Heap) (locs1 : List Loc), va_P D vwCl (wY cI q v (va_up f 8 (upd (f 8) i.toNatClampNeg x)) z) H1 → va_D A (wY cI q v (va_up f 8 (upd (f 8) i.toNatClampNeg x)) z) → va_S A H0 H1 locs1 → W p l e R s m args below meth c H1 locs1 cells slots Q (F0 m (pc + 1) ls rest)) : W p l e R s m args below meth c H locs cells slots Q (F0 m pc ls (.int x :: .int i :: .ref (q 9) :: rest)) :=
  va_iast hx hb hK hP hD hS 9 0 (f := f 8) rfl rfl hin hdg (fun H1 locs1 hP hD hS => kk H1 locs1 hP hD hS)
theorem yln_8 (hx : p.tables.exec = Jvm.exec) (hb : c.code = cc) (hK : va_K D vwCl [(cI, .int)] s) (hP : va_P D vwCl (wY cI q v f z) H) (hdg : decode cc pc = .ok (.arraylength, 1)) (kk : W p l e R s m args below meth c H locs cells slots Q (F0 m (pc + 1) ls (.int 24 :: rest))) : W p l e R s m args below meth c H locs cells slots Q (F0 m pc ls (.ref (q 9) :: rest)) :=
  va_alen hx hb hK hP 9 0 (x := (24, .inl (f 8))) rfl rfl rfl hdg kk
theorem yal_9 (hx : p.tables.exec = Jvm.exec) (hb : c.code = cc) (hK : va_K D vwCl [(cI, .int)] s) (hP : va_P D vwCl (wY cI q v f z) H) {i x : Int32} (hin : vp_in i 7) (hv : f 9 i.toNatClampNeg = x) (hdg : decode cc pc = .ok (.iaload, 1)) (kk : W p l e R s m args below meth c H locs cells slots Q (F0 m (pc + 1) ls (.int x :: rest))) : W p l e R s m args below meth c H locs cells slots Q (F0 m pc ls (.int i :: .ref (q 10) :: rest)) := by
  subst hv
  exact va_iald hx hb hK hP 10 0 (f := f 9) rfl rfl hin hdg kk
theorem yas_9 (hx : p.tables.exec = Jvm.exec) (hb : c.code = cc) (hK : va_K D vwCl [(cI, .int)] s) (hP : va_P D vwCl (wY cI q v f z) H) (hD : va_D A (wY cI q v f z)) (hS : va_S A H0 H locs) {i x : Int32} (hin : vp_in i 7) (hdg : decode cc pc = .ok (.iastore, 1)) (kk : ∀ (H1 : Heap) (locs1 : List Loc), va_P D vwCl (wY cI q v (va_up f 9 (upd (f 9) i.toNatClampNeg x)) z) H1 → va_D A (wY cI q v (va_up f 9 (upd (f 9) i.toNatClampNeg x)) z) → va_S A H0 H1 locs1 → W p l e R s m args below meth c H1 locs1 cells slots Q (F0 m (pc + 1) ls rest)) : W p l e R s m args below meth c H locs cells slots Q (F0 m pc ls (.int x :: .int i :: .ref (q 10) :: rest)) :=
  va_iast hx hb hK hP hD hS 10 0 (f := f 9) rfl rfl hin hdg (fun H1 locs1 hP hD hS => kk H1 locs1 hP hD hS)
theorem yln_9 (hx : p.tables.exec = Jvm.exec) (hb : c.code = cc) (hK : va_K D vwCl [(cI, .int)] s) (hP : va_P D vwCl (wY cI q v f z) H) (hdg : decode cc pc = .ok (.arraylength, 1)) (kk : W p l e R s m args below meth c H locs cells slots Q (F0 m (pc + 1) ls (.int 7 :: rest))) : W p l e R s m args below meth c H locs cells slots Q (F0 m pc ls (.ref (q 10) :: rest)) :=
  va_alen hx hb hK hP 10 0 (x := (7, .inl (f 9))) rfl rfl rfl hdg kk
theorem yal_10 (hx : p.tables.exec = Jvm.exec) (hb : c.code = cc) (hK : va_K D vwCl [(cI, .int)] s) (hP : va_P D vwCl (wY cI q v f z) H) {i x : Int32} (hin : vp_in i 12) (hv : f 10 i.toNatClampNeg = x) (hdg : decode cc pc = .ok (.iaload, 1)) (kk : W p l e R s m args below meth c H locs cells slots Q (F0 m (pc + 1) ls (.int x :: rest))) : W p l e R s m args below meth c H locs cells slots Q (F0 m pc ls (.int i :: .ref (q 11) :: rest)) := by
  subst hv
  exact va_iald hx hb hK hP 11 0 (f := f 10) rfl rfl hin hdg kk
theorem yas_10 (hx : p.tables.exec = Jvm.exec) (hb : c.code = cc) (hK : va_K D vwCl [(cI, .int)] s) (hP : va_P D vwCl (wY cI q v f z) H) (hD : va_D A (wY cI q v f z)) (hS : va_S A H0 H locs) {i x : Int32} (hin : vp_in i 12) (hdg : decode cc pc = .ok (.iastore, 1)) (kk : ∀ (H1 : Heap) (locs1 : List Loc), va_P D vwCl (wY cI q v (va_up f 10 (upd (f 10) i.toNatClampNeg x)) z) H1 → va_D A (wY cI q v (va_up f 10 (upd (f 10) i.toNatClampNeg x)) z) → va_S A H0 H1 locs1 → W p l e R s m args below meth c H1 locs1 cells slots Q (F0 m (pc + 1) ls rest)) : W p l e R s m args below meth c H locs cells slots Q (F0 m pc ls (.int x :: .int i :: .ref (q 11) :: rest)) :=
  va_iast hx hb hK hP hD hS 11 0 (f := f 10) rfl rfl hin hdg (fun H1 locs1 hP hD hS => kk H1 locs1 hP hD hS)
theorem yln_10 (hx : p.tables.exec = Jvm.exec) (hb : c.code = cc) (hK : va_K D vwCl [(cI, .int)] s) (hP : va_P D vwCl (wY cI q v f z) H) (hdg : decode cc pc = .ok (.arraylength, 1)) (kk : W p l e R s m args below meth c H locs cells slots Q (F0 m (pc + 1) ls (.int 12 :: rest))) : W p l e R s m args below meth c H locs cells slots Q (F0 m pc ls (.ref (q 11) :: rest)) :=
  va_alen hx hb hK hP 11 0 (x := (12, .inl (f 10))) rfl rfl rfl hdg kk
theorem yal_11 (hx : p.tables.exec = Jvm.exec) (hb : c.code = cc) (hK : va_K D vwCl [(cI, .int)] s) (hP : va_P D vwCl (wY cI q v f z) H) {i x : Int32} (hin : vp_in i 12) (hv : f 11 i.toNatClampNeg = x) (hdg : decode cc pc = .ok (.iaload, 1)) (kk : W p l e R s m args below meth c H locs cells slots Q (F0 m (pc + 1) ls (.int x :: rest))) : W p l e R s m args below meth c H locs cells slots Q (F0 m pc ls (.int i :: .ref (q 12) :: rest)) := by
  subst hv
  exact va_iald hx hb hK hP 12 0 (f := f 11) rfl rfl hin hdg kk
theorem yas_11 (hx : p.tables.exec = Jvm.exec) (hb : c.code = cc) (hK : va_K D vwCl [(cI, .int)] s) (hP : va_P D vwCl (wY cI q v f z) H) (hD : va_D A (wY cI q v f z)) (hS : va_S A H0 H locs) {i x : Int32} (hin : vp_in i 12) (hdg : decode cc pc = .ok (.iastore, 1)) (kk : ∀ (H1 : Heap) (locs1 : List Loc), va_P D vwCl (wY cI q v (va_up f 11 (upd (f 11) i.toNatClampNeg x)) z) H1 → va_D A (wY cI q v (va_up f 11 (upd (f 11) i.toNatClampNeg x)) z) → va_S A H0 H1 locs1 → W p l e R s m args below meth c H1 locs1 cells slots Q (F0 m (pc + 1) ls rest)) : W p l e R s m args below meth c H locs cells slots Q (F0 m pc ls (.int x :: .int i :: .ref (q 12) :: rest)) :=
  va_iast hx hb hK hP hD hS 12 0 (f := f 11) rfl rfl hin hdg (fun H1 locs1 hP hD hS => kk H1 locs1 hP hD hS)
theorem yln_11 (hx : p.tables.exec = Jvm.exec) (hb : c.code = cc) (hK : va_K D vwCl [(cI, .int)] s) (hP : va_P D vwCl (wY cI q v f z) H) (hdg : decode cc pc = .ok (.arraylength, 1)) (kk : W p l e R s m args below meth c H locs cells slots Q (F0 m (pc + 1) ls (.int 12 :: rest))) : W p l e R s m args below meth c H locs cells slots Q (F0 m pc ls (.ref (q 12) :: rest)) :=
  va_alen hx hb hK hP 12 0 (x := (12, .inl (f 11))) rfl rfl rfl hdg kk
theorem yal_12 (hx : p.tables.exec = Jvm.exec) (hb : c.code = cc) (hK : va_K D vwCl [(cI, .int)] s) (hP : va_P D vwCl (wY cI q v f z) H) {i x : Int32} (hin : vp_in i 32) (hv : f 12 i.toNatClampNeg = x) (hdg : decode cc pc = .ok (.iaload, 1)) (kk : W p l e R s m args below meth c H locs cells slots Q (F0 m (pc + 1) ls (.int x :: rest))) : W p l e R s m args below meth c H locs cells slots Q (F0 m pc ls (.int i :: .ref (q 13) :: rest)) := by
  subst hv
  exact va_iald hx hb hK hP 13 0 (f := f 12) rfl rfl hin hdg kk
theorem yas_12 (hx : p.tables.exec = Jvm.exec) (hb : c.code = cc) (hK : va_K D vwCl [(cI, .int)] s) (hP : va_P D vwCl (wY cI q v f z) H) (hD : va_D A (wY cI q v f z)) (hS : va_S A H0 H locs) {i x : Int32} (hin : vp_in i 32) (hdg : decode cc pc = .ok (.iastore, 1)) (kk : ∀ (H1 : Heap) (locs1 : List Loc), va_P D vwCl (wY cI q v (va_up f 12 (upd (f 12) i.toNatClampNeg x)) z) H1 → va_D A (wY cI q v (va_up f 12 (upd (f 12) i.toNatClampNeg x)) z) → va_S A H0 H1 locs1 → W p l e R s m args below meth c H1 locs1 cells slots Q (F0 m (pc + 1) ls rest)) : W p l e R s m args below meth c H locs cells slots Q (F0 m pc ls (.int x :: .int i :: .ref (q 13) :: rest)) :=
  va_iast hx hb hK hP hD hS 13 0 (f := f 12) rfl rfl hin hdg (fun H1 locs1 hP hD hS => kk H1 locs1 hP hD hS)
theorem yln_12 (hx : p.tables.exec = Jvm.exec) (hb : c.code = cc) (hK : va_K D vwCl [(cI, .int)] s) (hP : va_P D vwCl (wY cI q v f z) H) (hdg : decode cc pc = .ok (.arraylength, 1)) (kk : W p l e R s m args below meth c H locs cells slots Q (F0 m (pc + 1) ls (.int 32 :: rest))) : W p l e R s m args below meth c H locs cells slots Q (F0 m pc ls (.ref (q 13) :: rest)) :=
  va_alen hx hb hK hP 13 0 (x := (32, .inl (f 12))) rfl rfl rfl hdg kk
theorem yal_13 (hx : p.tables.exec = Jvm.exec) (hb : c.code = cc) (hK : va_K D vwCl [(cI, .int)] s) (hP : va_P D vwCl (wY cI q v f z) H) {i x : Int32} (hin : vp_in i 24) (hv : f 13 i.toNatClampNeg = x) (hdg : decode cc pc = .ok (.iaload, 1)) (kk : W p l e R s m args below meth c H locs cells slots Q (F0 m (pc + 1) ls (.int x :: rest))) : W p l e R s m args below meth c H locs cells slots Q (F0 m pc ls (.int i :: .ref (q 14) :: rest)) := by
  subst hv
  exact va_iald hx hb hK hP 14 0 (f := f 13) rfl rfl hin hdg kk
theorem yas_13 (hx : p.tables.exec = Jvm.exec) (hb : c.code = cc) (hK : va_K D vwCl [(cI, .int)] s) (hP : va_P D vwCl (wY cI q v f z) H) (hD : va_D A (wY cI q v f z)) (hS : va_S A H0 H locs) {i x : Int32} (hin : vp_in i 24) (hdg : decode cc pc = .ok (.iastore, 1)) (kk : ∀ (H1 : Heap) (locs1 : List Loc), va_P D vwCl (wY cI q v (va_up f 13 (upd (f 13) i.toNatClampNeg x)) z) H1 → va_D A (wY cI q v (va_up f 13 (upd (f 13) i.toNatClampNeg x)) z) → va_S A H0 H1 locs1 → W p l e R s m args below meth c H1 locs1 cells slots Q (F0 m (pc + 1) ls rest)) : W p l e R s m args below meth c H locs cells slots Q (F0 m pc ls (.int x :: .int i :: .ref (q 14) :: rest)) :=
  va_iast hx hb hK hP hD hS 14 0 (f := f 13) rfl rfl hin hdg (fun H1 locs1 hP hD hS => kk H1 locs1 hP hD hS)
theorem yln_13 (hx : p.tables.exec = Jvm.exec) (hb : c.code = cc) (hK : va_K D vwCl [(cI, .int)] s) (hP : va_P D vwCl (wY cI q v f z) H) (hdg : decode cc pc = .ok (.arraylength, 1)) (kk : W p l e R s m args below meth c H locs cells slots Q (F0 m (pc + 1) ls (.int 24 :: rest))) : W p l e R s m args below meth c H locs cells slots Q (F0 m pc ls (.ref (q 14) :: rest)) :=
  va_alen hx hb hK hP 14 0 (x := (24, .inl (f 13))) rfl rfl rfl hdg kk
end
end
section
/-- the links between nest mates -/
def NW (U : State) : Prop :=
  (va_Nw (.methodLinkNest "EndedByOthers" 9 yX1_init "EndedByOthers") U ∧ va_Nw (.methodLinkNest "EndedByOthers" 18 yX2_init "EndedByOthers") U ∧ va_Nw (.methodLinkNest "EndedByOthers$Reader" 11 yX3_init "EndedByOthers") U ∧ va_Nw (.methodLinkNest "EndedByOthers" 25 yX3_init "EndedByOthers") U ∧ va_Nw (.methodLinkNest "EndedByOthers" 32 yX4_init "EndedByOthers") U) ∧
  (va_Nw (.methodLinkNest "EndedByOthers" 42 yX0_init "EndedByOthers") U ∧ va_Nw (.methodLinkNest "EndedByOthers" 49 yX5_init "EndedByOthers") U) ∧
  va_Nw (.methodLinkNest "EndedByOthers$Reader" 56 yX6_isEnding "EndedByOthers") U ∧ va_Nw (.methodLinkNest "EndedByOthers$Matching" 30 yX6_has "EndedByOthers") U ∧ va_Nw (.methodLinkNest "EndedByOthers$Trial" 53 yX6_endingBy "EndedByOthers") U
theorem NW.same {u U : State} (h : u.vm = U.vm) (hN : NW u) : NW U := by
  obtain ⟨⟨a1, a2, a3, a4, a5⟩, ⟨b1, b2⟩, c1, c2, c3⟩ := hN
  exact ⟨⟨a1.same rfl h, a2.same rfl h, a3.same rfl h, a4.same rfl h, a5.same rfl h⟩, ⟨b1.same rfl h, b2.same rfl h⟩, c1.same rfl h, c2.same rfl h, c3.same rfl h⟩
theorem NW.warm {s U : State} (hW : s.WarmedH U.vm) (hN : NW s) : NW U := by
  obtain ⟨⟨a1, a2, a3, a4, a5⟩, ⟨b1, b2⟩, c1, c2, c3⟩ := hN
  exact ⟨⟨a1.warmM hW, a2.warmM hW, a3.warmM hW, a4.warmM hW, a5.warmM hW⟩, ⟨b1.warmM hW, b2.warmM hW⟩, c1.warmM hW, c2.warmM hW, c3.warmM hW⟩
/-- a world that is read -/
def rP (D : va_G) (cI : ClassId) (w : va_W) (U : State) : Prop := va_P D vwCl w U.heap ∧ va_K D vwCl [(cI, .int)] U ∧ NW U
/-- a world that is written -/
def mP (D : va_G) (cI : ClassId) (w : va_W) (sz : Nat) (U : State) : Prop := U.heap.size = sz ∧ rP D cI w U ∧ va_D (fun _ => True) w
def sQ (post : Int32 → Prop) : Array Value → State → Outcome → State → Prop := fun _ st oc t => (∃ r : Int32, oc = .returned (some (.int r)) ∧ post r) ∧ t.heap = st.heap
def sQl (post : Int64 → Prop) : Array Value → State → Outcome → State → Prop := fun _ st oc t => (∃ r : Int64, oc = .returned (some (.long r)) ∧ post r) ∧ t.heap = st.heap
abbrev wST : Type := (Nat → Int32) × (Nat → Nat → Int32) × Int64
def mB (D : va_G) (cI : ClassId) (wf : (Nat → Int32) → (Nat → Nat → Int32) → Int64 → va_W) (A : Nat → Prop) : wST → State → Prop := fun u t => va_P D vwCl (wf u.1 u.2.1 u.2.2) t.heap ∧ va_K D vwCl [(cI, .int)] t ∧ va_D A (wf u.1 u.2.1 u.2.2)
def mQi (post : Int32 → (Nat → Int32) → (Nat → Nat → Int32) → Int64 → Prop) (D : va_G) (cI : ClassId) (wf : (Nat → Int32) → (Nat → Nat → Int32) → Int64 → va_W) (A : Nat → Prop) := va_Qi (fun r (u : wST) => post r u.1 u.2.1 u.2.2) (mB D cI wf A) A
def mQl (post : Int64 → (Nat → Int32) → (Nat → Nat → Int32) → Int64 → Prop) (D : va_G) (cI : ClassId) (wf : (Nat → Int32) → (Nat → Nat → Int32) → Int64 → va_W) (A : Nat → Prop) := va_Ql (fun r (u : wST) => post r u.1 u.2.1 u.2.2) (mB D cI wf A) A
def mQv (post : (Nat → Int32) → (Nat → Nat → Int32) → Int64 → Prop) (D : va_G) (cI : ClassId) (wf : (Nat → Int32) → (Nat → Nat → Int32) → Int64 → va_W) (A : Nat → Prop) := va_Qv (fun (u : wST) => post u.1 u.2.1 u.2.2) (mB D cI wf A) A
theorem rP.blind {D : va_G} {cI : ClassId} {w : va_W} {av : List Value} : FrameBlind (va_Pc av (rP D cI w)) := fun a U g mk h => ⟨h.1, h.2.1, va_K.moved (u := U) (U := U.calling g mk a) (Vm.Alike.refl U.vm) h.2.2.1, NW.same (u := U) (U := U.calling g mk a) rfl h.2.2.2⟩
theorem mP.blind {D : va_G} {cI : ClassId} {w : va_W} {sz : Nat} {av : List Value} : FrameBlind (va_Pc av (mP D cI w sz)) := fun a U g mk h => ⟨h.1, h.2.1, ⟨h.2.2.1.1, va_K.moved (u := U) (U := U.calling g mk a) (Vm.Alike.refl U.vm) h.2.2.1.2.1, NW.same (u := U) (U := U.calling g mk a) rfl h.2.2.1.2.2⟩, h.2.2.2⟩
theorem wPnil {D : va_G} {H : Heap} : va_P D vwCl [] H := fun k q h => by simp at h
theorem freeW {A0 : Nat → Prop} {ws : va_W} {H0 H : Heap} {locs : List Loc} (hD : va_D A0 ws) (hS : va_S A0 H0 H locs) (hA : ∀ q, H0.size ≤ q → A0 q) : ∀ q, va_A ws H.size q → A0 q := by
  intro q h
  rcases h with ⟨k, e, h⟩ | h
  · exact hD.2 k (q, e) h
  · exact hA q (Nat.le_trans hS.1 h)
section
variable {p : Program} {l : Launch} {e : Env} {R : Room} {s : State} {m : MethodId} {args : Array Value} {below : List Frame} {meth : Method} {c : Code} {H : Heap} {locs : List Loc} {cells slots : Nat} {Q : State → Prop} {cc : ByteArray} {pc : Nat} {ls : Array Slot} {rest st0 As : List Value} {D : va_G} {A : Nat → Prop} {cI : ClassId} {H0 : Heap} {Ts wsC : List Cond} {own C : String} {index nL maxL n : Nat} {y : MethodName} {rm : Room} {b : Addr} {w : va_W} {bytes : ByteArray} {ret : Option FieldType}
theorem rV_i {post : Int32 → Prop} (S : CallFix p m c cc nL s args Ts own) (hM : Met l y wsC rm (va_Pc (.ref b :: As) (rP D cI w)) (sQ post) 0 0 (fun _ => False)) (cw : CallW R s args own C index y bytes maxL ret wsC rm 0 0 n) (hK : va_K D vwCl [(cI, .int)] s) (hP : va_P D vwCl w H) (hN : NW s) (hrec : ∃ cell : Cell, H[b]? = some cell ∧ cell.vm.isStatics = false ∧ s.vm.findClass C = some cell.cls) (hn : As.length = n) (hsz : ls.size = nL) (hst : st0 = As.reverse ++ .ref b :: rest) (hW : (rest.map fun v => v.category).sum ≤ 8) (hdg : decode cc pc = .ok (.invokevirtual index, 3)) (hc : cells ≤ R.cells) (hs : slots ≤ R.slots)
    (kk : ∀ r : Int32, post r → W p l e R s m args below meth c H locs cells slots Q (F0 m (pc + 3) ls (.int r :: rest))) : W p l e R s m args below meth c H locs cells slots Q (F0 m pc ls st0) := by
  intro T hT X
  obtain ⟨v, st₀, t, T', L, h0, X', hL, e1, -, ⟨⟨r, hv, hp⟩, hh⟩, st⟩ := va_runV (g := F0 m pc ls st0) S hM cw ⟨rP.blind, hrec, fun U hU hW => ⟨rfl, by rw [hU]; exact hP, va_K.moved hW.alike hK, NW.warm hW hN⟩⟩ rfl hn hsz hst (lv_room hW) hdg ⟨hc, hs⟩ T hT X
  cases hv
  obtain ⟨t2, a1, b1⟩ := kk r hp T' (by rw [e1, hh, h0]) (Stand.forget X' (fun q h => (hL q h).elim))
  exact ⟨t2, st t2 a1, b1⟩
theorem rS_i {post : Int32 → Prop} (S : CallFix p m c cc nL s args Ts own) (hM : Met l y wsC rm (va_Pc As (rP D cI w)) (sQ post) 0 0 (fun _ => False)) (cw : CallB R s args own index y bytes maxL ret wsC rm 0 0 n ∧ (Cond.static y).before args s = true) (hK : va_K D vwCl [(cI, .int)] s) (hP : va_P D vwCl w H) (hN : NW s) (hn : As.length = n) (hsz : ls.size = nL) (hst : st0 = As.reverse ++ rest) (hW : (rest.map fun v => v.category).sum ≤ 8) (hdg : decode cc pc = .ok (.invokestatic index, 3)) (hc : cells ≤ R.cells) (hs : slots ≤ R.slots)
    (kk : ∀ r : Int32, post r → W p l e R s m args below meth c H locs cells slots Q (F0 m (pc + 3) ls (.int r :: rest))) : W p l e R s m args below meth c H locs cells slots Q (F0 m pc ls st0) := by
  intro T hT X
  obtain ⟨v, st₀, t, T', L, h0, X', hL, e1, -, ⟨⟨r, hv, hp⟩, hh⟩, st⟩ := va_runS (g := F0 m pc ls st0) S hM cw ⟨rP.blind, fun U hU hW => ⟨rfl, by rw [hU]; exact hP, va_K.moved hW.alike hK, NW.warm hW hN⟩⟩ rfl hn hsz hst (lv_room hW) hdg ⟨hc, hs⟩ T hT X
  cases hv
  obtain ⟨t2, a1, b1⟩ := kk r hp T' (by rw [e1, hh, h0]) (Stand.forget X' (fun q h => (hL q h).elim))
  exact ⟨t2, st t2 a1, b1⟩
theorem rS_l {post : Int64 → Prop} (S : CallFix p m c cc nL s args Ts own) (hM : Met l y wsC rm (va_Pc As (rP D cI w)) (sQl post) 0 0 (fun _ => False)) (cw : CallB R s args own index y bytes maxL ret wsC rm 0 0 n ∧ (Cond.static y).before args s = true) (hK : va_K D vwCl [(cI, .int)] s) (hP : va_P D vwCl w H) (hN : NW s) (hn : As.length = n) (hsz : ls.size = nL) (hst : st0 = As.reverse ++ rest) (hW : (rest.map fun v => v.category).sum ≤ 8) (hdg : decode cc pc = .ok (.invokestatic index, 3)) (hc : cells ≤ R.cells) (hs : slots ≤ R.slots)
    (kk : ∀ r : Int64, post r → W p l e R s m args below meth c H locs cells slots Q (F0 m (pc + 3) ls (.long r :: rest))) : W p l e R s m args below meth c H locs cells slots Q (F0 m pc ls st0) := by
  intro T hT X
  obtain ⟨v, st₀, t, T', L, h0, X', hL, e1, -, ⟨⟨r, hv, hp⟩, hh⟩, st⟩ := va_runS (g := F0 m pc ls st0) S hM cw ⟨rP.blind, fun U hU hW => ⟨rfl, by rw [hU]; exact hP, va_K.moved hW.alike hK, NW.warm hW hN⟩⟩ rfl hn hsz hst (lv_room hW) hdg ⟨hc, hs⟩ T hT X
  cases hv
  obtain ⟨t2, a1, b1⟩ := kk r hp T' (by rw [e1, hh, h0]) (Stand.forget X' (fun q h => (hL q h).elim))
  exact ⟨t2, st t2 a1, b1⟩
theorem rN_i {post : Int32 → Prop} {host : String} (S : CallFix p m c cc nL s args Ts own) (hM : Met l y wsC rm (va_Pc As (rP D cI w)) (sQ post) 0 0 (fun _ => False)) (cw : va_CN R s args own index y host bytes maxL ret wsC rm 0 0 n ∧ (Cond.static y).before args s = true ∧ True) (hK : va_K D vwCl [(cI, .int)] s) (hP : va_P D vwCl w H) (hN : NW s) (hn : As.length = n) (hsz : ls.size = nL) (hst : st0 = As.reverse ++ rest) (hW : (rest.map fun v => v.category).sum ≤ 8) (hdg : decode cc pc = .ok (.invokestatic index, 3)) (hc : cells ≤ R.cells) (hs : slots ≤ R.slots)
    (kk : ∀ r : Int32, post r → W p l e R s m args below meth c H locs cells slots Q (F0 m (pc + 3) ls (.int r :: rest))) : W p l e R s m args below meth c H locs cells slots Q (F0 m pc ls st0) := by
  intro T hT X
  obtain ⟨v, st₀, t, T', L, h0, X', hL, e1, -, ⟨⟨r, hv, hp⟩, hh⟩, st⟩ := va_runSN (g := F0 m pc ls st0) S hM cw ⟨rP.blind, fun U hU hW => ⟨rfl, by rw [hU]; exact hP, va_K.moved hW.alike hK, NW.warm hW hN⟩⟩ rfl hn hsz hst (lv_room hW) hdg ⟨hc, hs⟩ T hT X
  cases hv
  obtain ⟨t2, a1, b1⟩ := kk r hp T' (by rw [e1, hh, h0]) (Stand.forget X' (fun q h => (hL q h).elim))
  exact ⟨t2, st t2 a1, b1⟩
theorem mV_i {wf : (Nat → Int32) → (Nat → Nat → Int32) → Int64 → va_W} {post : Int32 → (Nat → Int32) → (Nat → Nat → Int32) → Int64 → Prop} (S : CallFix p m c cc nL s args Ts own) (hM : Met l y wsC rm (va_Pc (.ref b :: As) (mP D cI w H.size)) (mQi post D cI wf (va_A w H.size)) 0 0 (va_A w H.size)) (cw : CallW R s args own C index y bytes maxL ret wsC rm 0 0 n) (hK : va_K D vwCl [(cI, .int)] s) (hP : va_P D vwCl w H) (hN : NW s) (hD : va_D A w) (hS : va_S A H0 H locs) (hA : ∀ q, H0.size ≤ q → A q) (hrec : ∃ cell : Cell, H[b]? = some cell ∧ cell.vm.isStatics = false ∧ s.vm.findClass C = some cell.cls) (hn : As.length = n) (hsz : ls.size = nL) (hst : st0 = As.reverse ++ .ref b :: rest) (hW : (rest.map fun v => v.category).sum ≤ 8) (hdg : decode cc pc = .ok (.invokevirtual index, 3)) (hc : cells ≤ R.cells) (hs : slots ≤ R.slots)
    (kk : ∀ (r : Int32) (v1 : Nat → Int32) (f1 : Nat → Nat → Int32) (z1 : Int64), post r v1 f1 z1 → ∀ (H1 : Heap) (locs1 : List Loc), va_P D vwCl (wf v1 f1 z1) H1 → va_D A (wf v1 f1 z1) → va_S A H0 H1 locs1 → W p l e R s m args below meth c H1 locs1 cells slots Q (F0 m (pc + 3) ls (.int r :: rest))) : W p l e R s m args below meth c H locs cells slots Q (F0 m pc ls st0) := by
  have hF := freeW hD hS hA
  refine va_calli (va_runV (g := F0 m pc ls st0) S hM cw ⟨mP.blind, hrec, fun U hU hW => ⟨rfl, by rw [hU], ⟨by rw [hU]; exact hP, va_K.moved hW.alike hK, NW.warm hW hN⟩, hD.weaken (fun _ _ _ _ => trivial)⟩⟩ rfl hn hsz hst (lv_room hW) hdg ⟨hc, hs⟩) hS (fun q _ h => hF q h) hF (fun r u t H1 locs1 ht hvm hp hB hz hk hS1 => ?_)
  obtain ⟨hP1, hK1, hD1⟩ := hB
  rw [ht] at hP1
  exact kk r u.1 u.2.1 u.2.2 hp H1 locs1 hP1 (hD1.weaken (fun k q _ h => hF q.1 h)) hS1
theorem mV_l {wf : (Nat → Int32) → (Nat → Nat → Int32) → Int64 → va_W} {post : Int64 → (Nat → Int32) → (Nat → Nat → Int32) → Int64 → Prop} (S : CallFix p m c cc nL s args Ts own) (hM : Met l y wsC rm (va_Pc (.ref b :: As) (mP D cI w H.size)) (mQl post D cI wf (va_A w H.size)) 0 0 (va_A w H.size)) (cw : CallW R s args own C index y bytes maxL ret wsC rm 0 0 n) (hK : va_K D vwCl [(cI, .int)] s) (hP : va_P D vwCl w H) (hN : NW s) (hD : va_D A w) (hS : va_S A H0 H locs) (hA : ∀ q, H0.size ≤ q → A q) (hrec : ∃ cell : Cell, H[b]? = some cell ∧ cell.vm.isStatics = false ∧ s.vm.findClass C = some cell.cls) (hn : As.length = n) (hsz : ls.size = nL) (hst : st0 = As.reverse ++ .ref b :: rest) (hW : (rest.map fun v => v.category).sum ≤ 8) (hdg : decode cc pc = .ok (.invokevirtual index, 3)) (hc : cells ≤ R.cells) (hs : slots ≤ R.slots)
    (kk : ∀ (r : Int64) (v1 : Nat → Int32) (f1 : Nat → Nat → Int32) (z1 : Int64), post r v1 f1 z1 → ∀ (H1 : Heap) (locs1 : List Loc), va_P D vwCl (wf v1 f1 z1) H1 → va_D A (wf v1 f1 z1) → va_S A H0 H1 locs1 → W p l e R s m args below meth c H1 locs1 cells slots Q (F0 m (pc + 3) ls (.long r :: rest))) : W p l e R s m args below meth c H locs cells slots Q (F0 m pc ls st0) := by
  have hF := freeW hD hS hA
  refine va_calll (va_runV (g := F0 m pc ls st0) S hM cw ⟨mP.blind, hrec, fun U hU hW => ⟨rfl, by rw [hU], ⟨by rw [hU]; exact hP, va_K.moved hW.alike hK, NW.warm hW hN⟩, hD.weaken (fun _ _ _ _ => trivial)⟩⟩ rfl hn hsz hst (lv_room hW) hdg ⟨hc, hs⟩) hS (fun q _ h => hF q h) hF (fun r u t H1 locs1 ht hvm hp hB hz hk hS1 => ?_)
  obtain ⟨hP1, hK1, hD1⟩ := hB
  rw [ht] at hP1
  exact kk r u.1 u.2.1 u.2.2 hp H1 locs1 hP1 (hD1.weaken (fun k q _ h => hF q.1 h)) hS1
theorem mV_v {wf : (Nat → Int32) → (Nat → Nat → Int32) → Int64 → va_W} {post : (Nat → Int32) → (Nat → Nat → Int32) → Int64 → Prop} (S : CallFix p m c cc nL s args Ts own) (hM : Met l y wsC rm (va_Pc (.ref b :: As) (mP D cI w H.size)) (mQv post D cI wf (va_A w H.size)) 0 0 (va_A w H.size)) (cw : CallW R s args own C index y bytes maxL ret wsC rm 0 0 n) (hK : va_K D vwCl [(cI, .int)] s) (hP : va_P D vwCl w H) (hN : NW s) (hD : va_D A w) (hS : va_S A H0 H locs) (hA : ∀ q, H0.size ≤ q → A q) (hrec : ∃ cell : Cell, H[b]? = some cell ∧ cell.vm.isStatics = false ∧ s.vm.findClass C = some cell.cls) (hn : As.length = n) (hsz : ls.size = nL) (hst : st0 = As.reverse ++ .ref b :: rest) (hW : (rest.map fun v => v.category).sum ≤ 8) (hdg : decode cc pc = .ok (.invokevirtual index, 3)) (hc : cells ≤ R.cells) (hs : slots ≤ R.slots)
    (kk : ∀ (v1 : Nat → Int32) (f1 : Nat → Nat → Int32) (z1 : Int64), post v1 f1 z1 → ∀ (H1 : Heap) (locs1 : List Loc), va_P D vwCl (wf v1 f1 z1) H1 → va_D A (wf v1 f1 z1) → va_S A H0 H1 locs1 → W p l e R s m args below meth c H1 locs1 cells slots Q (F0 m (pc + 3) ls rest)) : W p l e R s m args below meth c H locs cells slots Q (F0 m pc ls st0) := by
  have hF := freeW hD hS hA
  refine va_callv (va_runV (g := F0 m pc ls st0) S hM cw ⟨mP.blind, hrec, fun U hU hW => ⟨rfl, by rw [hU], ⟨by rw [hU]; exact hP, va_K.moved hW.alike hK, NW.warm hW hN⟩, hD.weaken (fun _ _ _ _ => trivial)⟩⟩ rfl hn hsz hst (lv_room hW) hdg ⟨hc, hs⟩) hS (fun q _ h => hF q h) hF (fun u t H1 locs1 ht hvm hp hB hz hk hS1 => ?_)
  obtain ⟨hP1, hK1, hD1⟩ := hB
  rw [ht] at hP1
  exact kk u.1 u.2.1 u.2.2 hp H1 locs1 hP1 (hD1.weaken (fun k q _ h => hF q.1 h)) hS1
/-! the ends -/
theorem ri_ret {post : Int32 → Prop} {x : Int32} (hx : p.tables.exec = Jvm.exec) (hb : c.code = cc) (hr : meth.sig.returnType = some .int) (hlk : meth.locks = false) (h : post x) (hdg : decode cc pc = .ok (.ireturn, 1)) : W p l e R s m args below meth c s.heap [] 0 0 (MQ below (sQ post) args s 0 0 (fun _ => False)) (F0 m pc ls [.int x]) :=
  W.iret (v := x) hx hb hr (fun t ht _ => ⟨⟨x, rfl, h⟩, ht⟩) (fun _ h => by cases h) hdg hlk
theorem rz_ret {post : Int32 → Prop} {x : Int32} {ty : FieldType} (hx : p.tables.exec = Jvm.exec) (hb : c.code = cc) (hr : meth.sig.returnType = some ty) (hlk : meth.locks = false) (hn : narrow ty (.int x) = .int x) (h : post x) (hdg : decode cc pc = .ok (.ireturn, 1)) : W p l e R s m args below meth c s.heap [] 0 0 (MQ below (sQ post) args s 0 0 (fun _ => False)) (F0 m pc ls [.int x]) :=
  W.zret (v := x) hx hb hr hn (fun t ht _ => ⟨⟨x, rfl, h⟩, ht⟩) (fun _ h => by cases h) hdg hlk
theorem rl_ret {post : Int64 → Prop} {x : Int64} (hx : p.tables.exec = Jvm.exec) (hb : c.code = cc) (hr : meth.sig.returnType = some .long) (hlk : meth.locks = false) (h : post x) (hdg : decode cc pc = .ok (.lreturn, 1)) : W p l e R s m args below meth c s.heap [] 0 0 (MQ below (sQl post) args s 0 0 (fun _ => False)) (F0 m pc ls [.long x]) :=
  W.lret (v := x) hx hb hr (fun t ht _ => ⟨⟨x, rfl, h⟩, ht⟩) (fun _ h => by cases h) hdg hlk
theorem mi_ret {wf : (Nat → Int32) → (Nat → Nat → Int32) → Int64 → va_W} {post : Int32 → (Nat → Int32) → (Nat → Nat → Int32) → Int64 → Prop} {x : Int32} (u : wST) (hx : p.tables.exec = Jvm.exec) (hb : c.code = cc) (hr : meth.sig.returnType = some .int) (hlk : meth.locks = false) (h : post x u.1 u.2.1 u.2.2) (hK : va_K D vwCl [(cI, .int)] s) (hP : va_P D vwCl (wf u.1 u.2.1 u.2.2) H) (hD : va_D A (wf u.1 u.2.1 u.2.2)) (hS : va_S A s.heap H locs) (hdg : decode cc pc = .ok (.ireturn, 1)) : W p l e R s m args below meth c H locs 0 0 (MQ below (mQi post D cI wf A) args s 0 0 A) (F0 m pc ls [.int x]) :=
  W.iret (v := x) hx hb hr (fun t ht hW => ⟨⟨x, u, rfl, h, by rw [ht]; exact hP, va_K.moved hW.alike hK, hD⟩, hS.F ht⟩) hS.2.2 hdg hlk
theorem mz_ret {wf : (Nat → Int32) → (Nat → Nat → Int32) → Int64 → va_W} {post : Int32 → (Nat → Int32) → (Nat → Nat → Int32) → Int64 → Prop} {x : Int32} {ty : FieldType} (u : wST) (hx : p.tables.exec = Jvm.exec) (hb : c.code = cc) (hr : meth.sig.returnType = some ty) (hlk : meth.locks = false) (hn : narrow ty (.int x) = .int x) (h : post x u.1 u.2.1 u.2.2) (hK : va_K D vwCl [(cI, .int)] s) (hP : va_P D vwCl (wf u.1 u.2.1 u.2.2) H) (hD : va_D A (wf u.1 u.2.1 u.2.2)) (hS : va_S A s.heap H locs) (hdg : decode cc pc = .ok (.ireturn, 1)) : W p l e R s m args below meth c H locs 0 0 (MQ below (mQi post D cI wf A) args s 0 0 A) (F0 m pc ls [.int x]) :=
  W.zret (v := x) hx hb hr hn (fun t ht hW => ⟨⟨x, u, rfl, h, by rw [ht]; exact hP, va_K.moved hW.alike hK, hD⟩, hS.F ht⟩) hS.2.2 hdg hlk
theorem ml_ret {wf : (Nat → Int32) → (Nat → Nat → Int32) → Int64 → va_W} {post : Int64 → (Nat → Int32) → (Nat → Nat → Int32) → Int64 → Prop} {x : Int64} (u : wST) (hx : p.tables.exec = Jvm.exec) (hb : c.code = cc) (hr : meth.sig.returnType = some .long) (hlk : meth.locks = false) (h : post x u.1 u.2.1 u.2.2) (hK : va_K D vwCl [(cI, .int)] s) (hP : va_P D vwCl (wf u.1 u.2.1 u.2.2) H) (hD : va_D A (wf u.1 u.2.1 u.2.2)) (hS : va_S A s.heap H locs) (hdg : decode cc pc = .ok (.lreturn, 1)) : W p l e R s m args below meth c H locs 0 0 (MQ below (mQl post D cI wf A) args s 0 0 A) (F0 m pc ls [.long x]) :=
  W.lret (v := x) hx hb hr (fun t ht hW => ⟨⟨x, u, rfl, h, by rw [ht]; exact hP, va_K.moved hW.alike hK, hD⟩, hS.F ht⟩) hS.2.2 hdg hlk
theorem mv_ret {wf : (Nat → Int32) → (Nat → Nat → Int32) → Int64 → va_W} {post : (Nat → Int32) → (Nat → Nat → Int32) → Int64 → Prop} (u : wST) (hx : p.tables.exec = Jvm.exec) (hb : c.code = cc) (hr : meth.sig.returnType = none) (hlk : meth.locks = false) (h : post u.1 u.2.1 u.2.2) (hK : va_K D vwCl [(cI, .int)] s) (hP : va_P D vwCl (wf u.1 u.2.1 u.2.2) H) (hD : va_D A (wf u.1 u.2.1 u.2.2)) (hS : va_S A s.heap H locs) (hdg : decode cc pc = .ok (.return_, 1)) : W p l e R s m args below meth c H locs 0 0 (MQ below (mQv post D cI wf A) args s 0 0 A) (F0 m pc ls []) :=
  W.vret hx hb hr (fun t ht hW => ⟨⟨u, rfl, h, by rw [ht]; exact hP, va_K.moved hW.alike hK, hD⟩, hS.F ht⟩) hS.2.2 hdg hlk
end
end
