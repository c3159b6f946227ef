section
-- ===== PART A: goes FIRST, ahead of the names: the tables' words, and 'selects' of the private methods out of them =====
/-- a private method of a class that the tables say can be made, by its rows of tables_1 -/
def lw_okq (q : MethodName × Nat) : Prop := (q.1.cls ≠ "java/lang/invoke/MethodHandle" ∧ q.1.cls ≠ "java/lang/invoke/VarHandle") ∧ Cond.instantiable q.1.cls q.2 ∈ tables_1 ∧ Cond.privateMethod q.1 ∈ tables_1 ∧ Cond.instanceMethod q.1 ∈ tables_1
theorem lw_p0 : lw_okq (⟨"WhoKnows", "remember", "()V"⟩, 15) := ⟨⟨by decide +kernel, by decide +kernel⟩, List.mem_of_getElem? (i := 22) (by decide +kernel), List.mem_of_getElem? (i := 390) (by decide +kernel), List.mem_of_getElem? (i := 391) (by decide +kernel)⟩
theorem lw_p1 : lw_okq (⟨"WhoKnows$Model", "alikeBut", "(II)I"⟩, 4) := ⟨⟨by decide +kernel, by decide +kernel⟩, List.mem_of_getElem? (i := 30) (by decide +kernel), List.mem_of_getElem? (i := 434) (by decide +kernel), List.mem_of_getElem? (i := 435) (by decide +kernel)⟩
theorem lw_p2 : lw_okq (⟨"WhoKnows$Model", "nextOf", "(II)I"⟩, 4) := ⟨⟨by decide +kernel, by decide +kernel⟩, List.mem_of_getElem? (i := 30) (by decide +kernel), List.mem_of_getElem? (i := 464) (by decide +kernel), List.mem_of_getElem? (i := 465) (by decide +kernel)⟩
theorem lw_p3 : lw_okq (⟨"WhoKnows$Parser", "next", "()Z"⟩, 10) := ⟨⟨by decide +kernel, by decide +kernel⟩, List.mem_of_getElem? (i := 67) (by decide +kernel), List.mem_of_getElem? (i := 495) (by decide +kernel), List.mem_of_getElem? (i := 496) (by decide +kernel)⟩
theorem lw_p4 : lw_okq (⟨"WhoKnows$Tape", "behind", "(III)I"⟩, 5) := ⟨⟨by decide +kernel, by decide +kernel⟩, List.mem_of_getElem? (i := 73) (by decide +kernel), List.mem_of_getElem? (i := 503) (by decide +kernel), List.mem_of_getElem? (i := 504) (by decide +kernel)⟩
theorem lw_p5 : lw_okq (⟨"WhoKnows$Parser", "fail", "(I)Z"⟩, 10) := ⟨⟨by decide +kernel, by decide +kernel⟩, List.mem_of_getElem? (i := 67) (by decide +kernel), List.mem_of_getElem? (i := 510) (by decide +kernel), List.mem_of_getElem? (i := 511) (by decide +kernel)⟩
theorem lw_p6 : lw_okq (⟨"WhoKnows$Parser", "readAfters", "()Z"⟩, 10) := ⟨⟨by decide +kernel, by decide +kernel⟩, List.mem_of_getElem? (i := 67) (by decide +kernel), List.mem_of_getElem? (i := 514) (by decide +kernel), List.mem_of_getElem? (i := 515) (by decide +kernel)⟩
theorem lw_p7 : lw_okq (⟨"WhoKnows$Parser", "readEventNumber", "()Z"⟩, 10) := ⟨⟨by decide +kernel, by decide +kernel⟩, List.mem_of_getElem? (i := 67) (by decide +kernel), List.mem_of_getElem? (i := 571) (by decide +kernel), List.mem_of_getElem? (i := 572) (by decide +kernel)⟩
theorem lw_p8 : lw_okq (⟨"WhoKnows$Parser", "readSaying", "()Z"⟩, 10) := ⟨⟨by decide +kernel, by decide +kernel⟩, List.mem_of_getElem? (i := 67) (by decide +kernel), List.mem_of_getElem? (i := 579) (by decide +kernel), List.mem_of_getElem? (i := 580) (by decide +kernel)⟩
theorem lw_p9 : lw_okq (⟨"WhoKnows$Parser", "opOfName", "()I"⟩, 10) := ⟨⟨by decide +kernel, by decide +kernel⟩, List.mem_of_getElem? (i := 67) (by decide +kernel), List.mem_of_getElem? (i := 583) (by decide +kernel), List.mem_of_getElem? (i := 584) (by decide +kernel)⟩
theorem lw_p10 : lw_okq (⟨"WhoKnows$Parser", "factOfName", "()I"⟩, 10) := ⟨⟨by decide +kernel, by decide +kernel⟩, List.mem_of_getElem? (i := 67) (by decide +kernel), List.mem_of_getElem? (i := 587) (by decide +kernel), List.mem_of_getElem? (i := 588) (by decide +kernel)⟩
theorem lw_p11 : lw_okq (⟨"WhoKnows$Parser", "opAboutKnowers", "()I"⟩, 10) := ⟨⟨by decide +kernel, by decide +kernel⟩, List.mem_of_getElem? (i := 67) (by decide +kernel), List.mem_of_getElem? (i := 599) (by decide +kernel), List.mem_of_getElem? (i := 600) (by decide +kernel)⟩
theorem lw_p12 : lw_okq (⟨"WhoKnows$Parser", "take", "()Z"⟩, 10) := ⟨⟨by decide +kernel, by decide +kernel⟩, List.mem_of_getElem? (i := 67) (by decide +kernel), List.mem_of_getElem? (i := 608) (by decide +kernel), List.mem_of_getElem? (i := 609) (by decide +kernel)⟩
theorem lw_p13 : lw_okq (⟨"WhoKnows$Parser", "knowers", "(Z)I"⟩, 10) := ⟨⟨by decide +kernel, by decide +kernel⟩, List.mem_of_getElem? (i := 67) (by decide +kernel), List.mem_of_getElem? (i := 612) (by decide +kernel), List.mem_of_getElem? (i := 613) (by decide +kernel)⟩
theorem lw_p14 : lw_okq (⟨"WhoKnows$Parser", "made", "()LWhoKnows$Saying;"⟩, 10) := ⟨⟨by decide +kernel, by decide +kernel⟩, List.mem_of_getElem? (i := 67) (by decide +kernel), List.mem_of_getElem? (i := 625) (by decide +kernel), List.mem_of_getElem? (i := 626) (by decide +kernel)⟩
theorem lw_p15 : lw_okq (⟨"WhoKnows$Parser", "deepest", "()I"⟩, 10) := ⟨⟨by decide +kernel, by decide +kernel⟩, List.mem_of_getElem? (i := 67) (by decide +kernel), List.mem_of_getElem? (i := 669) (by decide +kernel), List.mem_of_getElem? (i := 670) (by decide +kernel)⟩
def lw_privs_1 : List (MethodName × Nat) := [(⟨"WhoKnows", "remember", "()V"⟩, 15), (⟨"WhoKnows$Model", "alikeBut", "(II)I"⟩, 4), (⟨"WhoKnows$Model", "nextOf", "(II)I"⟩, 4), (⟨"WhoKnows$Parser", "next", "()Z"⟩, 10), (⟨"WhoKnows$Tape", "behind", "(III)I"⟩, 5), (⟨"WhoKnows$Parser", "fail", "(I)Z"⟩, 10), (⟨"WhoKnows$Parser", "readAfters", "()Z"⟩, 10), (⟨"WhoKnows$Parser", "readEventNumber", "()Z"⟩, 10), (⟨"WhoKnows$Parser", "readSaying", "()Z"⟩, 10), (⟨"WhoKnows$Parser", "opOfName", "()I"⟩, 10), (⟨"WhoKnows$Parser", "factOfName", "()I"⟩, 10), (⟨"WhoKnows$Parser", "opAboutKnowers", "()I"⟩, 10), (⟨"WhoKnows$Parser", "take", "()Z"⟩, 10), (⟨"WhoKnows$Parser", "knowers", "(Z)I"⟩, 10), (⟨"WhoKnows$Parser", "made", "()LWhoKnows$Saying;"⟩, 10), (⟨"WhoKnows$Parser", "deepest", "()I"⟩, 10)]
theorem lw_r1 : ∀ q ∈ lw_privs_1, lw_okq q := List.forall_mem_cons.mpr ⟨lw_p0, List.forall_mem_cons.mpr ⟨lw_p1, List.forall_mem_cons.mpr ⟨lw_p2, List.forall_mem_cons.mpr ⟨lw_p3, List.forall_mem_cons.mpr ⟨lw_p4, List.forall_mem_cons.mpr ⟨lw_p5, List.forall_mem_cons.mpr ⟨lw_p6, List.forall_mem_cons.mpr ⟨lw_p7, List.forall_mem_cons.mpr ⟨lw_p8, List.forall_mem_cons.mpr ⟨lw_p9, List.forall_mem_cons.mpr ⟨lw_p10, List.forall_mem_cons.mpr ⟨lw_p11, List.forall_mem_cons.mpr ⟨lw_p12, List.forall_mem_cons.mpr ⟨lw_p13, List.forall_mem_cons.mpr ⟨lw_p14, List.forall_mem_cons.mpr ⟨lw_p15, fun _ h => absurd h List.not_mem_nil⟩⟩⟩⟩⟩⟩⟩⟩⟩⟩⟩⟩⟩⟩⟩⟩
theorem lw_p16 : lw_okq (⟨"WhoKnows", "isTold", "(I)Z"⟩, 15) := ⟨⟨by decide +kernel, by decide +kernel⟩, List.mem_of_getElem? (i := 22) (by decide +kernel), List.mem_of_getElem? (i := 684) (by decide +kernel), List.mem_of_getElem? (i := 685) (by decide +kernel)⟩
theorem lw_p17 : lw_okq (⟨"WhoKnows$Layer", "holdPairs", "(LWhoKnows$Model;LWhoKnows$Event;II)V"⟩, 6) := ⟨⟨by decide +kernel, by decide +kernel⟩, List.mem_of_getElem? (i := 180) (by decide +kernel), List.mem_of_getElem? (i := 742) (by decide +kernel), List.mem_of_getElem? (i := 743) (by decide +kernel)⟩
theorem lw_p18 : lw_okq (⟨"WhoKnows$Layer", "pairsOfWorlds", "(I)I"⟩, 6) := ⟨⟨by decide +kernel, by decide +kernel⟩, List.mem_of_getElem? (i := 180) (by decide +kernel), List.mem_of_getElem? (i := 747) (by decide +kernel), List.mem_of_getElem? (i := 748) (by decide +kernel)⟩
theorem lw_p19 : lw_okq (⟨"WhoKnows$Layer", "pairsOfCases", "(I)I"⟩, 6) := ⟨⟨by decide +kernel, by decide +kernel⟩, List.mem_of_getElem? (i := 180) (by decide +kernel), List.mem_of_getElem? (i := 751) (by decide +kernel), List.mem_of_getElem? (i := 752) (by decide +kernel)⟩
theorem lw_p20 : lw_okq (⟨"WhoKnows$Layer", "pair", "(II)I"⟩, 6) := ⟨⟨by decide +kernel, by decide +kernel⟩, List.mem_of_getElem? (i := 180) (by decide +kernel), List.mem_of_getElem? (i := 755) (by decide +kernel), List.mem_of_getElem? (i := 756) (by decide +kernel)⟩
theorem lw_p21 : lw_okq (⟨"WhoKnows$Layer", "becomes", "(II)I"⟩, 6) := ⟨⟨by decide +kernel, by decide +kernel⟩, List.mem_of_getElem? (i := 180) (by decide +kernel), List.mem_of_getElem? (i := 764) (by decide +kernel), List.mem_of_getElem? (i := 765) (by decide +kernel)⟩
theorem lw_p22 : lw_okq (⟨"WhoKnows", "isCase", "(II)Z"⟩, 15) := ⟨⟨by decide +kernel, by decide +kernel⟩, List.mem_of_getElem? (i := 22) (by decide +kernel), List.mem_of_getElem? (i := 784) (by decide +kernel), List.mem_of_getElem? (i := 785) (by decide +kernel)⟩
theorem lw_p23 : lw_okq (⟨"WhoKnows", "isEvent", "(I)Z"⟩, 15) := ⟨⟨by decide +kernel, by decide +kernel⟩, List.mem_of_getElem? (i := 22) (by decide +kernel), List.mem_of_getElem? (i := 788) (by decide +kernel), List.mem_of_getElem? (i := 789) (by decide +kernel)⟩
theorem lw_p24 : lw_okq (⟨"WhoKnows", "canBeIf", "(I)Z"⟩, 15) := ⟨⟨by decide +kernel, by decide +kernel⟩, List.mem_of_getElem? (i := 22) (by decide +kernel), List.mem_of_getElem? (i := 792) (by decide +kernel), List.mem_of_getElem? (i := 793) (by decide +kernel)⟩
theorem lw_p25 : lw_okq (⟨"WhoKnows$Heaps", "begin", "(LWhoKnows$Model;LWhoKnows$Model;)V"⟩, 6) := ⟨⟨by decide +kernel, by decide +kernel⟩, List.mem_of_getElem? (i := 232) (by decide +kernel), List.mem_of_getElem? (i := 838) (by decide +kernel), List.mem_of_getElem? (i := 839) (by decide +kernel)⟩
theorem lw_p26 : lw_okq (⟨"WhoKnows$Heaps", "factsOf", "(I)I"⟩, 6) := ⟨⟨by decide +kernel, by decide +kernel⟩, List.mem_of_getElem? (i := 232) (by decide +kernel), List.mem_of_getElem? (i := 842) (by decide +kernel), List.mem_of_getElem? (i := 843) (by decide +kernel)⟩
theorem lw_p27 : lw_okq (⟨"WhoKnows$Heaps", "part", "()Z"⟩, 6) := ⟨⟨by decide +kernel, by decide +kernel⟩, List.mem_of_getElem? (i := 232) (by decide +kernel), List.mem_of_getElem? (i := 846) (by decide +kernel), List.mem_of_getElem? (i := 847) (by decide +kernel)⟩
theorem lw_p28 : lw_okq (⟨"WhoKnows$Heaps", "look", "()V"⟩, 6) := ⟨⟨by decide +kernel, by decide +kernel⟩, List.mem_of_getElem? (i := 232) (by decide +kernel), List.mem_of_getElem? (i := 850) (by decide +kernel), List.mem_of_getElem? (i := 851) (by decide +kernel)⟩
theorem lw_p29 : lw_okq (⟨"WhoKnows$Heaps", "heapsOf", "(II)J"⟩, 6) := ⟨⟨by decide +kernel, by decide +kernel⟩, List.mem_of_getElem? (i := 232) (by decide +kernel), List.mem_of_getElem? (i := 855) (by decide +kernel), List.mem_of_getElem? (i := 856) (by decide +kernel)⟩
theorem lw_p30 : lw_okq (⟨"WhoKnows$Heaps", "alike", "(II)Z"⟩, 6) := ⟨⟨by decide +kernel, by decide +kernel⟩, List.mem_of_getElem? (i := 232) (by decide +kernel), List.mem_of_getElem? (i := 860) (by decide +kernel), List.mem_of_getElem? (i := 861) (by decide +kernel)⟩
theorem lw_p31 : lw_okq (⟨"WhoKnows$Heaps", "classesOf", "(I)I"⟩, 6) := ⟨⟨by decide +kernel, by decide +kernel⟩, List.mem_of_getElem? (i := 232) (by decide +kernel), List.mem_of_getElem? (i := 888) (by decide +kernel), List.mem_of_getElem? (i := 889) (by decide +kernel)⟩
def lw_privs_2 : List (MethodName × Nat) := [(⟨"WhoKnows", "isTold", "(I)Z"⟩, 15), (⟨"WhoKnows$Layer", "holdPairs", "(LWhoKnows$Model;LWhoKnows$Event;II)V"⟩, 6), (⟨"WhoKnows$Layer", "pairsOfWorlds", "(I)I"⟩, 6), (⟨"WhoKnows$Layer", "pairsOfCases", "(I)I"⟩, 6), (⟨"WhoKnows$Layer", "pair", "(II)I"⟩, 6), (⟨"WhoKnows$Layer", "becomes", "(II)I"⟩, 6), (⟨"WhoKnows", "isCase", "(II)Z"⟩, 15), (⟨"WhoKnows", "isEvent", "(I)Z"⟩, 15), (⟨"WhoKnows", "canBeIf", "(I)Z"⟩, 15), (⟨"WhoKnows$Heaps", "begin", "(LWhoKnows$Model;LWhoKnows$Model;)V"⟩, 6), (⟨"WhoKnows$Heaps", "factsOf", "(I)I"⟩, 6), (⟨"WhoKnows$Heaps", "part", "()Z"⟩, 6), (⟨"WhoKnows$Heaps", "look", "()V"⟩, 6), (⟨"WhoKnows$Heaps", "heapsOf", "(II)J"⟩, 6), (⟨"WhoKnows$Heaps", "alike", "(II)Z"⟩, 6), (⟨"WhoKnows$Heaps", "classesOf", "(I)I"⟩, 6)]
theorem lw_r2 : ∀ q ∈ lw_privs_2, lw_okq q := List.forall_mem_cons.mpr ⟨lw_p16, List.forall_mem_cons.mpr ⟨lw_p17, List.forall_mem_cons.mpr ⟨lw_p18, List.forall_mem_cons.mpr ⟨lw_p19, List.forall_mem_cons.mpr ⟨lw_p20, List.forall_mem_cons.mpr ⟨lw_p21, List.forall_mem_cons.mpr ⟨lw_p22, List.forall_mem_cons.mpr ⟨lw_p23, List.forall_mem_cons.mpr ⟨lw_p24, List.forall_mem_cons.mpr ⟨lw_p25, List.forall_mem_cons.mpr ⟨lw_p26, List.forall_mem_cons.mpr ⟨lw_p27, List.forall_mem_cons.mpr ⟨lw_p28, List.forall_mem_cons.mpr ⟨lw_p29, List.forall_mem_cons.mpr ⟨lw_p30, List.forall_mem_cons.mpr ⟨lw_p31, fun _ h => absurd h List.not_mem_nil⟩⟩⟩⟩⟩⟩⟩⟩⟩⟩⟩⟩⟩⟩⟩⟩
theorem lw_p32 : lw_okq (⟨"WhoKnows", "canTakeTurns", "(II)Z"⟩, 15) := ⟨⟨by decide +kernel, by decide +kernel⟩, List.mem_of_getElem? (i := 22) (by decide +kernel), List.mem_of_getElem? (i := 908) (by decide +kernel), List.mem_of_getElem? (i := 909) (by decide +kernel)⟩
theorem lw_p33 : lw_okq (⟨"WhoKnows", "isPerson", "(I)Z"⟩, 15) := ⟨⟨by decide +kernel, by decide +kernel⟩, List.mem_of_getElem? (i := 22) (by decide +kernel), List.mem_of_getElem? (i := 963) (by decide +kernel), List.mem_of_getElem? (i := 964) (by decide +kernel)⟩
theorem lw_p34 : lw_okq (⟨"WhoKnows", "toldSayings", "()I"⟩, 15) := ⟨⟨by decide +kernel, by decide +kernel⟩, List.mem_of_getElem? (i := 22) (by decide +kernel), List.mem_of_getElem? (i := 1025) (by decide +kernel), List.mem_of_getElem? (i := 1026) (by decide +kernel)⟩
theorem lw_p35 : lw_okq (⟨"WhoKnows", "toldEvents", "()I"⟩, 15) := ⟨⟨by decide +kernel, by decide +kernel⟩, List.mem_of_getElem? (i := 22) (by decide +kernel), List.mem_of_getElem? (i := 1029) (by decide +kernel), List.mem_of_getElem? (i := 1030) (by decide +kernel)⟩
theorem lw_p36 : lw_okq (⟨"WhoKnowsModel", "acts", "()V"⟩, 45) := ⟨⟨by decide +kernel, by decide +kernel⟩, List.mem_of_getElem? (i := 1033) (by decide +kernel), List.mem_of_getElem? (i := 1184) (by decide +kernel), List.mem_of_getElem? (i := 1185) (by decide +kernel)⟩
theorem lw_p37 : lw_okq (⟨"WhoKnowsModel", "copy", "(II)V"⟩, 45) := ⟨⟨by decide +kernel, by decide +kernel⟩, List.mem_of_getElem? (i := 1033) (by decide +kernel), List.mem_of_getElem? (i := 1188) (by decide +kernel), List.mem_of_getElem? (i := 1189) (by decide +kernel)⟩
theorem lw_p38 : lw_okq (⟨"WhoKnowsModel", "addWorld", "(I)V"⟩, 45) := ⟨⟨by decide +kernel, by decide +kernel⟩, List.mem_of_getElem? (i := 1033) (by decide +kernel), List.mem_of_getElem? (i := 1192) (by decide +kernel), List.mem_of_getElem? (i := 1193) (by decide +kernel)⟩
theorem lw_p39 : lw_okq (⟨"WhoKnowsModel", "isWorld", "(I)Z"⟩, 45) := ⟨⟨by decide +kernel, by decide +kernel⟩, List.mem_of_getElem? (i := 1033) (by decide +kernel), List.mem_of_getElem? (i := 1204) (by decide +kernel), List.mem_of_getElem? (i := 1205) (by decide +kernel)⟩
theorem lw_p40 : lw_okq (⟨"WhoKnowsModel", "seen", "(III)I"⟩, 45) := ⟨⟨by decide +kernel, by decide +kernel⟩, List.mem_of_getElem? (i := 1033) (by decide +kernel), List.mem_of_getElem? (i := 1208) (by decide +kernel), List.mem_of_getElem? (i := 1209) (by decide +kernel)⟩
theorem lw_p41 : lw_okq (⟨"WhoKnowsModel", "see", "(IIIZ)V"⟩, 45) := ⟨⟨by decide +kernel, by decide +kernel⟩, List.mem_of_getElem? (i := 1033) (by decide +kernel), List.mem_of_getElem? (i := 1212) (by decide +kernel), List.mem_of_getElem? (i := 1213) (by decide +kernel)⟩
theorem lw_p42 : lw_okq (⟨"WhoKnowsModel", "reached", "(III)I"⟩, 45) := ⟨⟨by decide +kernel, by decide +kernel⟩, List.mem_of_getElem? (i := 1033) (by decide +kernel), List.mem_of_getElem? (i := 1237) (by decide +kernel), List.mem_of_getElem? (i := 1238) (by decide +kernel)⟩
theorem lw_p43 : lw_okq (⟨"WhoKnowsModel", "next", "()V"⟩, 45) := ⟨⟨by decide +kernel, by decide +kernel⟩, List.mem_of_getElem? (i := 1033) (by decide +kernel), List.mem_of_getElem? (i := 1254) (by decide +kernel), List.mem_of_getElem? (i := 1255) (by decide +kernel)⟩
theorem lw_p44 : lw_okq (⟨"WhoKnowsModel", "byteAt", "(I)I"⟩, 45) := ⟨⟨by decide +kernel, by decide +kernel⟩, List.mem_of_getElem? (i := 1033) (by decide +kernel), List.mem_of_getElem? (i := 1258) (by decide +kernel), List.mem_of_getElem? (i := 1259) (by decide +kernel)⟩
theorem lw_p45 : lw_okq (⟨"WhoKnowsModel", "fails", "(I)V"⟩, 45) := ⟨⟨by decide +kernel, by decide +kernel⟩, List.mem_of_getElem? (i := 1033) (by decide +kernel), List.mem_of_getElem? (i := 1266) (by decide +kernel), List.mem_of_getElem? (i := 1267) (by decide +kernel)⟩
theorem lw_p46 : lw_okq (⟨"WhoKnowsModel", "readAfters", "()V"⟩, 45) := ⟨⟨by decide +kernel, by decide +kernel⟩, List.mem_of_getElem? (i := 1033) (by decide +kernel), List.mem_of_getElem? (i := 1270) (by decide +kernel), List.mem_of_getElem? (i := 1271) (by decide +kernel)⟩
theorem lw_p47 : lw_okq (⟨"WhoKnowsModel", "nameHere", "()I"⟩, 45) := ⟨⟨by decide +kernel, by decide +kernel⟩, List.mem_of_getElem? (i := 1033) (by decide +kernel), List.mem_of_getElem? (i := 1274) (by decide +kernel), List.mem_of_getElem? (i := 1275) (by decide +kernel)⟩
def lw_privs_3 : List (MethodName × Nat) := [(⟨"WhoKnows", "canTakeTurns", "(II)Z"⟩, 15), (⟨"WhoKnows", "isPerson", "(I)Z"⟩, 15), (⟨"WhoKnows", "toldSayings", "()I"⟩, 15), (⟨"WhoKnows", "toldEvents", "()I"⟩, 15), (⟨"WhoKnowsModel", "acts", "()V"⟩, 45), (⟨"WhoKnowsModel", "copy", "(II)V"⟩, 45), (⟨"WhoKnowsModel", "addWorld", "(I)V"⟩, 45), (⟨"WhoKnowsModel", "isWorld", "(I)Z"⟩, 45), (⟨"WhoKnowsModel", "seen", "(III)I"⟩, 45), (⟨"WhoKnowsModel", "see", "(IIIZ)V"⟩, 45), (⟨"WhoKnowsModel", "reached", "(III)I"⟩, 45), (⟨"WhoKnowsModel", "next", "()V"⟩, 45), (⟨"WhoKnowsModel", "byteAt", "(I)I"⟩, 45), (⟨"WhoKnowsModel", "fails", "(I)V"⟩, 45), (⟨"WhoKnowsModel", "readAfters", "()V"⟩, 45), (⟨"WhoKnowsModel", "nameHere", "()I"⟩, 45)]
theorem lw_r3 : ∀ q ∈ lw_privs_3, lw_okq q := List.forall_mem_cons.mpr ⟨lw_p32, List.forall_mem_cons.mpr ⟨lw_p33, List.forall_mem_cons.mpr ⟨lw_p34, List.forall_mem_cons.mpr ⟨lw_p35, List.forall_mem_cons.mpr ⟨lw_p36, List.forall_mem_cons.mpr ⟨lw_p37, List.forall_mem_cons.mpr ⟨lw_p38, List.forall_mem_cons.mpr ⟨lw_p39, List.forall_mem_cons.mpr ⟨lw_p40, List.forall_mem_cons.mpr ⟨lw_p41, List.forall_mem_cons.mpr ⟨lw_p42, List.forall_mem_cons.mpr ⟨lw_p43, List.forall_mem_cons.mpr ⟨lw_p44, List.forall_mem_cons.mpr ⟨lw_p45, List.forall_mem_cons.mpr ⟨lw_p46, List.forall_mem_cons.mpr ⟨lw_p47, fun _ h => absurd h List.not_mem_nil⟩⟩⟩⟩⟩⟩⟩⟩⟩⟩⟩⟩⟩⟩⟩⟩
theorem lw_p48 : lw_okq (⟨"WhoKnowsModel", "readAct", "()V"⟩, 45) := ⟨⟨by decide +kernel, by decide +kernel⟩, List.mem_of_getElem? (i := 1033) (by decide +kernel), List.mem_of_getElem? (i := 1278) (by decide +kernel), List.mem_of_getElem? (i := 1279) (by decide +kernel)⟩
theorem lw_p49 : lw_okq (⟨"WhoKnowsModel", "counts", "()V"⟩, 45) := ⟨⟨by decide +kernel, by decide +kernel⟩, List.mem_of_getElem? (i := 1033) (by decide +kernel), List.mem_of_getElem? (i := 1282) (by decide +kernel), List.mem_of_getElem? (i := 1283) (by decide +kernel)⟩
theorem lw_p50 : lw_okq (⟨"WhoKnowsModel", "groupHere", "()I"⟩, 45) := ⟨⟨by decide +kernel, by decide +kernel⟩, List.mem_of_getElem? (i := 1033) (by decide +kernel), List.mem_of_getElem? (i := 1286) (by decide +kernel), List.mem_of_getElem? (i := 1287) (by decide +kernel)⟩
theorem lw_p51 : lw_okq (⟨"WhoKnowsModel", "copyActs", "(II)V"⟩, 45) := ⟨⟨by decide +kernel, by decide +kernel⟩, List.mem_of_getElem? (i := 1033) (by decide +kernel), List.mem_of_getElem? (i := 1294) (by decide +kernel), List.mem_of_getElem? (i := 1295) (by decide +kernel)⟩
theorem lw_p52 : lw_okq (⟨"WhoKnowsModel", "isSaying", "(I)Z"⟩, 45) := ⟨⟨by decide +kernel, by decide +kernel⟩, List.mem_of_getElem? (i := 1033) (by decide +kernel), List.mem_of_getElem? (i := 1306) (by decide +kernel), List.mem_of_getElem? (i := 1307) (by decide +kernel)⟩
theorem lw_p53 : lw_okq (⟨"WhoKnowsModel", "depthOf", "(I)I"⟩, 45) := ⟨⟨by decide +kernel, by decide +kernel⟩, List.mem_of_getElem? (i := 1033) (by decide +kernel), List.mem_of_getElem? (i := 1310) (by decide +kernel), List.mem_of_getElem? (i := 1311) (by decide +kernel)⟩
theorem lw_p54 : lw_okq (⟨"WhoKnowsModel", "clearEvent", "(II)V"⟩, 45) := ⟨⟨by decide +kernel, by decide +kernel⟩, List.mem_of_getElem? (i := 1033) (by decide +kernel), List.mem_of_getElem? (i := 1318) (by decide +kernel), List.mem_of_getElem? (i := 1319) (by decide +kernel)⟩
theorem lw_p55 : lw_okq (⟨"WhoKnowsModel", "isCase", "(II)Z"⟩, 45) := ⟨⟨by decide +kernel, by decide +kernel⟩, List.mem_of_getElem? (i := 1033) (by decide +kernel), List.mem_of_getElem? (i := 1326) (by decide +kernel), List.mem_of_getElem? (i := 1327) (by decide +kernel)⟩
theorem lw_p56 : lw_okq (⟨"WhoKnowsModel", "isEvent", "(I)Z"⟩, 45) := ⟨⟨by decide +kernel, by decide +kernel⟩, List.mem_of_getElem? (i := 1033) (by decide +kernel), List.mem_of_getElem? (i := 1330) (by decide +kernel), List.mem_of_getElem? (i := 1331) (by decide +kernel)⟩
theorem lw_p57 : lw_okq (⟨"WhoKnowsModel", "isPlain", "(I)Z"⟩, 45) := ⟨⟨by decide +kernel, by decide +kernel⟩, List.mem_of_getElem? (i := 1033) (by decide +kernel), List.mem_of_getElem? (i := 1334) (by decide +kernel), List.mem_of_getElem? (i := 1335) (by decide +kernel)⟩
theorem lw_p58 : lw_okq (⟨"WhoKnowsModel", "giveIf", "(III)V"⟩, 45) := ⟨⟨by decide +kernel, by decide +kernel⟩, List.mem_of_getElem? (i := 1033) (by decide +kernel), List.mem_of_getElem? (i := 1338) (by decide +kernel), List.mem_of_getElem? (i := 1339) (by decide +kernel)⟩
theorem lw_p59 : lw_okq (⟨"WhoKnowsModel", "truthOf", "(II)I"⟩, 45) := ⟨⟨by decide +kernel, by decide +kernel⟩, List.mem_of_getElem? (i := 1033) (by decide +kernel), List.mem_of_getElem? (i := 1359) (by decide +kernel), List.mem_of_getElem? (i := 1360) (by decide +kernel)⟩
theorem lw_p60 : lw_okq (⟨"WhoKnowsModel", "laid", "(II)I"⟩, 45) := ⟨⟨by decide +kernel, by decide +kernel⟩, List.mem_of_getElem? (i := 1033) (by decide +kernel), List.mem_of_getElem? (i := 1363) (by decide +kernel), List.mem_of_getElem? (i := 1364) (by decide +kernel)⟩
theorem lw_p61 : lw_okq (⟨"WhoKnowsModel", "canBe", "(III)I"⟩, 45) := ⟨⟨by decide +kernel, by decide +kernel⟩, List.mem_of_getElem? (i := 1033) (by decide +kernel), List.mem_of_getElem? (i := 1367) (by decide +kernel), List.mem_of_getElem? (i := 1368) (by decide +kernel)⟩
theorem lw_p62 : lw_okq (⟨"WhoKnowsModel", "trueAt", "(II)I"⟩, 45) := ⟨⟨by decide +kernel, by decide +kernel⟩, List.mem_of_getElem? (i := 1033) (by decide +kernel), List.mem_of_getElem? (i := 1371) (by decide +kernel), List.mem_of_getElem? (i := 1372) (by decide +kernel)⟩
theorem lw_p63 : lw_okq (⟨"WhoKnowsModel", "knownBy", "(IIII)I"⟩, 45) := ⟨⟨by decide +kernel, by decide +kernel⟩, List.mem_of_getElem? (i := 1033) (by decide +kernel), List.mem_of_getElem? (i := 1378) (by decide +kernel), List.mem_of_getElem? (i := 1379) (by decide +kernel)⟩
def lw_privs_4 : List (MethodName × Nat) := [(⟨"WhoKnowsModel", "readAct", "()V"⟩, 45), (⟨"WhoKnowsModel", "counts", "()V"⟩, 45), (⟨"WhoKnowsModel", "groupHere", "()I"⟩, 45), (⟨"WhoKnowsModel", "copyActs", "(II)V"⟩, 45), (⟨"WhoKnowsModel", "isSaying", "(I)Z"⟩, 45), (⟨"WhoKnowsModel", "depthOf", "(I)I"⟩, 45), (⟨"WhoKnowsModel", "clearEvent", "(II)V"⟩, 45), (⟨"WhoKnowsModel", "isCase", "(II)Z"⟩, 45), (⟨"WhoKnowsModel", "isEvent", "(I)Z"⟩, 45), (⟨"WhoKnowsModel", "isPlain", "(I)Z"⟩, 45), (⟨"WhoKnowsModel", "giveIf", "(III)V"⟩, 45), (⟨"WhoKnowsModel", "truthOf", "(II)I"⟩, 45), (⟨"WhoKnowsModel", "laid", "(II)I"⟩, 45), (⟨"WhoKnowsModel", "canBe", "(III)I"⟩, 45), (⟨"WhoKnowsModel", "trueAt", "(II)I"⟩, 45), (⟨"WhoKnowsModel", "knownBy", "(IIII)I"⟩, 45)]
theorem lw_r4 : ∀ q ∈ lw_privs_4, lw_okq q := List.forall_mem_cons.mpr ⟨lw_p48, List.forall_mem_cons.mpr ⟨lw_p49, List.forall_mem_cons.mpr ⟨lw_p50, List.forall_mem_cons.mpr ⟨lw_p51, List.forall_mem_cons.mpr ⟨lw_p52, List.forall_mem_cons.mpr ⟨lw_p53, List.forall_mem_cons.mpr ⟨lw_p54, List.forall_mem_cons.mpr ⟨lw_p55, List.forall_mem_cons.mpr ⟨lw_p56, List.forall_mem_cons.mpr ⟨lw_p57, List.forall_mem_cons.mpr ⟨lw_p58, List.forall_mem_cons.mpr ⟨lw_p59, List.forall_mem_cons.mpr ⟨lw_p60, List.forall_mem_cons.mpr ⟨lw_p61, List.forall_mem_cons.mpr ⟨lw_p62, List.forall_mem_cons.mpr ⟨lw_p63, fun _ h => absurd h List.not_mem_nil⟩⟩⟩⟩⟩⟩⟩⟩⟩⟩⟩⟩⟩⟩⟩⟩
theorem lw_p64 : lw_okq (⟨"WhoKnowsModel", "both", "(IIIII)I"⟩, 45) := ⟨⟨by decide +kernel, by decide +kernel⟩, List.mem_of_getElem? (i := 1033) (by decide +kernel), List.mem_of_getElem? (i := 1382) (by decide +kernel), List.mem_of_getElem? (i := 1383) (by decide +kernel)⟩
theorem lw_p65 : lw_okq (⟨"WhoKnowsModel", "broughtBack", "(III)I"⟩, 45) := ⟨⟨by decide +kernel, by decide +kernel⟩, List.mem_of_getElem? (i := 1033) (by decide +kernel), List.mem_of_getElem? (i := 1386) (by decide +kernel), List.mem_of_getElem? (i := 1387) (by decide +kernel)⟩
theorem lw_p66 : lw_okq (⟨"WhoKnowsModel", "isTrue", "(II)Z"⟩, 45) := ⟨⟨by decide +kernel, by decide +kernel⟩, List.mem_of_getElem? (i := 1033) (by decide +kernel), List.mem_of_getElem? (i := 1394) (by decide +kernel), List.mem_of_getElem? (i := 1395) (by decide +kernel)⟩
theorem lw_p67 : lw_okq (⟨"WhoKnowsModel", "canHappen", "(II)Z"⟩, 45) := ⟨⟨by decide +kernel, by decide +kernel⟩, List.mem_of_getElem? (i := 1033) (by decide +kernel), List.mem_of_getElem? (i := 1402) (by decide +kernel), List.mem_of_getElem? (i := 1403) (by decide +kernel)⟩
theorem lw_p68 : lw_okq (⟨"WhoKnowsModel", "layHeaps", "(II)V"⟩, 45) := ⟨⟨by decide +kernel, by decide +kernel⟩, List.mem_of_getElem? (i := 1033) (by decide +kernel), List.mem_of_getElem? (i := 1410) (by decide +kernel), List.mem_of_getElem? (i := 1411) (by decide +kernel)⟩
theorem lw_p69 : lw_okq (⟨"WhoKnowsModel", "factsIn", "(III)I"⟩, 45) := ⟨⟨by decide +kernel, by decide +kernel⟩, List.mem_of_getElem? (i := 1033) (by decide +kernel), List.mem_of_getElem? (i := 1414) (by decide +kernel), List.mem_of_getElem? (i := 1415) (by decide +kernel)⟩
theorem lw_p70 : lw_okq (⟨"WhoKnowsModel", "ledTo", "(IIIII)J"⟩, 45) := ⟨⟨by decide +kernel, by decide +kernel⟩, List.mem_of_getElem? (i := 1033) (by decide +kernel), List.mem_of_getElem? (i := 1418) (by decide +kernel), List.mem_of_getElem? (i := 1419) (by decide +kernel)⟩
theorem lw_p71 : lw_okq (⟨"WhoKnowsModel", "areAlike", "(II)Z"⟩, 45) := ⟨⟨by decide +kernel, by decide +kernel⟩, List.mem_of_getElem? (i := 1033) (by decide +kernel), List.mem_of_getElem? (i := 1422) (by decide +kernel), List.mem_of_getElem? (i := 1423) (by decide +kernel)⟩
theorem lw_p72 : lw_okq (⟨"WhoKnowsModel", "heapOf", "(I)I"⟩, 45) := ⟨⟨by decide +kernel, by decide +kernel⟩, List.mem_of_getElem? (i := 1033) (by decide +kernel), List.mem_of_getElem? (i := 1426) (by decide +kernel), List.mem_of_getElem? (i := 1427) (by decide +kernel)⟩
theorem lw_p73 : lw_okq (⟨"WhoKnowsModel", "isModel", "(I)Z"⟩, 45) := ⟨⟨by decide +kernel, by decide +kernel⟩, List.mem_of_getElem? (i := 1033) (by decide +kernel), List.mem_of_getElem? (i := 1450) (by decide +kernel), List.mem_of_getElem? (i := 1451) (by decide +kernel)⟩
theorem lw_p74 : lw_okq (⟨"WhoKnowsModel", "areAsked", "(II)Z"⟩, 45) := ⟨⟨by decide +kernel, by decide +kernel⟩, List.mem_of_getElem? (i := 1033) (by decide +kernel), List.mem_of_getElem? (i := 1462) (by decide +kernel), List.mem_of_getElem? (i := 1463) (by decide +kernel)⟩
theorem lw_p75 : lw_okq (⟨"WhoKnowsModel", "layKnowing", "(III)I"⟩, 45) := ⟨⟨by decide +kernel, by decide +kernel⟩, List.mem_of_getElem? (i := 1033) (by decide +kernel), List.mem_of_getElem? (i := 1467) (by decide +kernel), List.mem_of_getElem? (i := 1468) (by decide +kernel)⟩
theorem lw_p76 : lw_okq (⟨"WhoKnowsModel", "staying", "(II)I"⟩, 45) := ⟨⟨by decide +kernel, by decide +kernel⟩, List.mem_of_getElem? (i := 1033) (by decide +kernel), List.mem_of_getElem? (i := 1471) (by decide +kernel), List.mem_of_getElem? (i := 1472) (by decide +kernel)⟩
theorem lw_p77 : lw_okq (⟨"WhoKnowsModel", "keepOnly", "(II)V"⟩, 45) := ⟨⟨by decide +kernel, by decide +kernel⟩, List.mem_of_getElem? (i := 1033) (by decide +kernel), List.mem_of_getElem? (i := 1475) (by decide +kernel), List.mem_of_getElem? (i := 1476) (by decide +kernel)⟩
theorem lw_p78 : lw_okq (⟨"WhoKnowsModel", "goes", "(IIII)Z"⟩, 45) := ⟨⟨by decide +kernel, by decide +kernel⟩, List.mem_of_getElem? (i := 1033) (by decide +kernel), List.mem_of_getElem? (i := 1489) (by decide +kernel), List.mem_of_getElem? (i := 1490) (by decide +kernel)⟩
theorem lw_p79 : lw_okq (⟨"WhoKnowsModel", "isOne", "(I)Z"⟩, 45) := ⟨⟨by decide +kernel, by decide +kernel⟩, List.mem_of_getElem? (i := 1033) (by decide +kernel), List.mem_of_getElem? (i := 1501) (by decide +kernel), List.mem_of_getElem? (i := 1502) (by decide +kernel)⟩
def lw_privs_5 : List (MethodName × Nat) := [(⟨"WhoKnowsModel", "both", "(IIIII)I"⟩, 45), (⟨"WhoKnowsModel", "broughtBack", "(III)I"⟩, 45), (⟨"WhoKnowsModel", "isTrue", "(II)Z"⟩, 45), (⟨"WhoKnowsModel", "canHappen", "(II)Z"⟩, 45), (⟨"WhoKnowsModel", "layHeaps", "(II)V"⟩, 45), (⟨"WhoKnowsModel", "factsIn", "(III)I"⟩, 45), (⟨"WhoKnowsModel", "ledTo", "(IIIII)J"⟩, 45), (⟨"WhoKnowsModel", "areAlike", "(II)Z"⟩, 45), (⟨"WhoKnowsModel", "heapOf", "(I)I"⟩, 45), (⟨"WhoKnowsModel", "isModel", "(I)Z"⟩, 45), (⟨"WhoKnowsModel", "areAsked", "(II)Z"⟩, 45), (⟨"WhoKnowsModel", "layKnowing", "(III)I"⟩, 45), (⟨"WhoKnowsModel", "staying", "(II)I"⟩, 45), (⟨"WhoKnowsModel", "keepOnly", "(II)V"⟩, 45), (⟨"WhoKnowsModel", "goes", "(IIII)Z"⟩, 45), (⟨"WhoKnowsModel", "isOne", "(I)Z"⟩, 45)]
theorem lw_r5 : ∀ q ∈ lw_privs_5, lw_okq q := List.forall_mem_cons.mpr ⟨lw_p64, List.forall_mem_cons.mpr ⟨lw_p65, List.forall_mem_cons.mpr ⟨lw_p66, List.forall_mem_cons.mpr ⟨lw_p67, List.forall_mem_cons.mpr ⟨lw_p68, List.forall_mem_cons.mpr ⟨lw_p69, List.forall_mem_cons.mpr ⟨lw_p70, List.forall_mem_cons.mpr ⟨lw_p71, List.forall_mem_cons.mpr ⟨lw_p72, List.forall_mem_cons.mpr ⟨lw_p73, List.forall_mem_cons.mpr ⟨lw_p74, List.forall_mem_cons.mpr ⟨lw_p75, List.forall_mem_cons.mpr ⟨lw_p76, List.forall_mem_cons.mpr ⟨lw_p77, List.forall_mem_cons.mpr ⟨lw_p78, List.forall_mem_cons.mpr ⟨lw_p79, fun _ h => absurd h List.not_mem_nil⟩⟩⟩⟩⟩⟩⟩⟩⟩⟩⟩⟩⟩⟩⟩⟩
theorem lw_p80 : lw_okq (⟨"WhoKnowsModel", "allKnow", "(II)Z"⟩, 45) := ⟨⟨by decide +kernel, by decide +kernel⟩, List.mem_of_getElem? (i := 1033) (by decide +kernel), List.mem_of_getElem? (i := 1513) (by decide +kernel), List.mem_of_getElem? (i := 1514) (by decide +kernel)⟩
def lw_privs_6 : List (MethodName × Nat) := [(⟨"WhoKnowsModel", "allKnow", "(II)Z"⟩, 45)]
theorem lw_r6 : ∀ q ∈ lw_privs_6, lw_okq q := List.forall_mem_cons.mpr ⟨lw_p80, fun _ h => absurd h List.not_mem_nil⟩
def lw_privs : List (MethodName × Nat) := lw_privs_1 ++ (lw_privs_2 ++ (lw_privs_3 ++ (lw_privs_4 ++ (lw_privs_5 ++ (lw_privs_6)))))
def lw_tbl : List Cond := k2_sels lw_privs ++ tables_1
theorem lw_privs_ok : ∀ q ∈ lw_privs, lw_okq q := by
  show ∀ q ∈ lw_privs_1 ++ (lw_privs_2 ++ (lw_privs_3 ++ (lw_privs_4 ++ (lw_privs_5 ++ (lw_privs_6))))), lw_okq q
  exact List.forall_mem_append.mpr ⟨lw_r1, List.forall_mem_append.mpr ⟨lw_r2, List.forall_mem_append.mpr ⟨lw_r3, List.forall_mem_append.mpr ⟨lw_r4, List.forall_mem_append.mpr ⟨lw_r5, lw_r6⟩⟩⟩⟩⟩
end
section
def RX0 : String := "WhoKnows$Event"
def TX0 : u_T := fun k => match k with
  | 0 => ("WhoKnows$Event", "cases", "I", false)
  | 1 => ("WhoKnows$Event", "realCase", "I", false)
  | 2 => ("WhoKnows$Event", "ifs", "[LWhoKnows$Saying;", true)
  | 3 => ("WhoKnows$Event", "so", "[I", true)
  | 4 => ("WhoKnows$Event", "not", "[I", true)
  | _ => ("WhoKnows$Event", "possible", "[I", true)
def tyX0 : Nat → FieldType := fun k => match k with
  | 0 => .int
  | 1 => .int
  | 2 => .array (.object "WhoKnows$Saying")
  | 3 => .array .int
  | 4 => .array .int
  | _ => .array .int
theorem nmX0 : ∀ a, a < 6 → ∀ b, b < 6 → a ≠ b → (TX0 a).2.1 ≠ (TX0 b).2.1 := by decide +kernel
theorem tyX0_ok : ∀ k, k < 6 → parseFieldDescriptor (TX0 k).2.2.1 = some (tyX0 k) := by decide +kernel
abbrev cX0_init : ByteArray := prog_2_method_1_code
def yX0_init : MethodName := ⟨RX0, "<init>", "()V"⟩
abbrev cX0_begin : ByteArray := prog_2_method_2_code
def yX0_begin : MethodName := ⟨RX0, "begin", "(I)V"⟩
abbrev cX0_hold : ByteArray := prog_2_method_3_code
def yX0_hold : MethodName := ⟨RX0, "hold", "(IIIZ)I"⟩
abbrev cX0_sayAloud : ByteArray := prog_2_method_4_code
def yX0_sayAloud : MethodName := ⟨RX0, "sayAloud", "(LWhoKnows$Saying;)V"⟩
abbrev cX0_sayApart : ByteArray := prog_2_method_5_code
def yX0_sayApart : MethodName := ⟨RX0, "sayApart", "(LWhoKnows$Saying;II)V"⟩
abbrev cX0_changed : ByteArray := prog_2_method_6_code
def yX0_changed : MethodName := ⟨RX0, "changed", "(II)I"⟩
def RX1 : String := "WhoKnows$Heaps"
def TX1 : u_T := fun k => match k with
  | 0 => ("WhoKnows$Heaps", "left", "LWhoKnows$Model;", false)
  | 1 => ("WhoKnows$Heaps", "right", "LWhoKnows$Model;", false)
  | 2 => ("WhoKnows$Heaps", "size", "I", false)
  | 3 => ("WhoKnows$Heaps", "least", "[I", true)
  | 4 => ("WhoKnows$Heaps", "next", "[I", true)
  | _ => ("WhoKnows$Heaps", "seen", "[J", true)
def tyX1 : Nat → FieldType := fun k => match k with
  | 0 => .object "WhoKnows$Model"
  | 1 => .object "WhoKnows$Model"
  | 2 => .int
  | 3 => .array .int
  | 4 => .array .int
  | _ => .array .long
theorem nmX1 : ∀ a, a < 6 → ∀ b, b < 6 → a ≠ b → (TX1 a).2.1 ≠ (TX1 b).2.1 := by decide +kernel
theorem tyX1_ok : ∀ k, k < 6 → parseFieldDescriptor (TX1 k).2.2.1 = some (tyX1 k) := by decide +kernel
abbrev cX1_init : ByteArray := prog_3_method_1_code
def yX1_init : MethodName := ⟨RX1, "<init>", "()V"⟩
abbrev cX1_begin : ByteArray := prog_3_method_2_code
def yX1_begin : MethodName := ⟨RX1, "begin", "(LWhoKnows$Model;LWhoKnows$Model;)V"⟩
abbrev cX1_factsOf : ByteArray := prog_3_method_3_code
def yX1_factsOf : MethodName := ⟨RX1, "factsOf", "(I)I"⟩
abbrev cX1_look : ByteArray := prog_3_method_4_code
def yX1_look : MethodName := ⟨RX1, "look", "()V"⟩
abbrev cX1_heapsOf : ByteArray := prog_3_method_5_code
def yX1_heapsOf : MethodName := ⟨RX1, "heapsOf", "(II)J"⟩
abbrev cX1_alike : ByteArray := prog_3_method_6_code
def yX1_alike : MethodName := ⟨RX1, "alike", "(II)Z"⟩
abbrev cX1_part : ByteArray := prog_3_method_7_code
def yX1_part : MethodName := ⟨RX1, "part", "()Z"⟩
abbrev cX1_settle : ByteArray := prog_3_method_8_code
def yX1_settle : MethodName := ⟨RX1, "settle", "(LWhoKnows$Model;LWhoKnows$Model;)V"⟩
abbrev cX1_howMany : ByteArray := prog_3_method_9_code
def yX1_howMany : MethodName := ⟨RX1, "howMany", "()I"⟩
abbrev cX1_roundThatParts : ByteArray := prog_3_method_10_code
def yX1_roundThatParts : MethodName := ⟨RX1, "roundThatParts", "(LWhoKnows$Model;II)I"⟩
abbrev cX1_meltDown : ByteArray := prog_3_method_11_code
def yX1_meltDown : MethodName := ⟨RX1, "meltDown", "(LWhoKnows$Model;)V"⟩
abbrev cX1_classesOf : ByteArray := prog_3_method_12_code
def yX1_classesOf : MethodName := ⟨RX1, "classesOf", "(I)I"⟩
def RX2 : String := "WhoKnows$Judge"
def TX2 : u_T := fun k => match k with
  | 0 => ("WhoKnows$Judge", "told", "[LWhoKnows$Saying;", true)
  | 1 => ("WhoKnows$Judge", "events", "[LWhoKnows$Event;", true)
  | 2 => ("WhoKnows$Judge", "truths", "[I", true)
  | _ => ("WhoKnows$Judge", "ahead", "[LWhoKnows$Layer;", true)
def tyX2 : Nat → FieldType := fun k => match k with
  | 0 => .array (.object "WhoKnows$Saying")
  | 1 => .array (.object "WhoKnows$Event")
  | 2 => .array .int
  | _ => .array (.object "WhoKnows$Layer")
theorem nmX2 : ∀ a, a < 4 → ∀ b, b < 4 → a ≠ b → (TX2 a).2.1 ≠ (TX2 b).2.1 := by decide +kernel
theorem tyX2_ok : ∀ k, k < 4 → parseFieldDescriptor (TX2 k).2.2.1 = some (tyX2 k) := by decide +kernel
abbrev cX2_init : ByteArray := prog_4_method_1_code
def yX2_init : MethodName := ⟨RX2, "<init>", "()V"⟩
abbrev cX2_whole : ByteArray := prog_4_method_2_code
def yX2_whole : MethodName := ⟨RX2, "whole", "(LWhoKnows$Model;LWhoKnows$Saying;)I"⟩
abbrev cX2_plain : ByteArray := prog_4_method_3_code
def yX2_plain : MethodName := ⟨RX2, "plain", "(LWhoKnows$Model;LWhoKnows$Saying;)I"⟩
def RX3 : String := "WhoKnows$Layer"
def TX3 : u_T := fun k => match k with
  | 0 => ("WhoKnows$Layer", "behind", "LWhoKnows$Model;", true)
  | 1 => ("WhoKnows$Layer", "pairs", "I", false)
  | 2 => ("WhoKnows$Layer", "worlds", "I", false)
  | 3 => ("WhoKnows$Layer", "canBe", "[I", true)
  | 4 => ("WhoKnows$Layer", "firstPair", "[I", true)
  | _ => ("WhoKnows$Layer", "pairsOfCase", "[I", true)
def tyX3 : Nat → FieldType := fun k => match k with
  | 0 => .object "WhoKnows$Model"
  | 1 => .int
  | 2 => .int
  | 3 => .array .int
  | 4 => .array .int
  | _ => .array .int
theorem nmX3 : ∀ a, a < 6 → ∀ b, b < 6 → a ≠ b → (TX3 a).2.1 ≠ (TX3 b).2.1 := by decide +kernel
theorem tyX3_ok : ∀ k, k < 6 → parseFieldDescriptor (TX3 k).2.2.1 = some (tyX3 k) := by decide +kernel
abbrev cX3_init : ByteArray := prog_5_method_1_code
def yX3_init : MethodName := ⟨RX3, "<init>", "()V"⟩
abbrev cX3_measure : ByteArray := prog_5_method_2_code
def yX3_measure : MethodName := ⟨RX3, "measure", "(LWhoKnows$Model;LWhoKnows$Event;LWhoKnows$Judge;)V"⟩
abbrev cX3_lets : ByteArray := prog_5_method_3_code
def yX3_lets : MethodName := ⟨RX3, "lets", "(II)Z"⟩
abbrev cX3_pair : ByteArray := prog_5_method_4_code
def yX3_pair : MethodName := ⟨RX3, "pair", "(II)I"⟩
abbrev cX3_build : ByteArray := prog_5_method_5_code
def yX3_build : MethodName := ⟨RX3, "build", "(LWhoKnows$Model;LWhoKnows$Event;)V"⟩
abbrev cX3_holdPairs : ByteArray := prog_5_method_6_code
def yX3_holdPairs : MethodName := ⟨RX3, "holdPairs", "(LWhoKnows$Model;LWhoKnows$Event;II)V"⟩
abbrev cX3_pairsOfWorlds : ByteArray := prog_5_method_7_code
def yX3_pairsOfWorlds : MethodName := ⟨RX3, "pairsOfWorlds", "(I)I"⟩
abbrev cX3_pairsOfCases : ByteArray := prog_5_method_8_code
def yX3_pairsOfCases : MethodName := ⟨RX3, "pairsOfCases", "(I)I"⟩
abbrev cX3_comingTo : ByteArray := prog_5_method_9_code
def yX3_comingTo : MethodName := ⟨RX3, "comingTo", "(II)I"⟩
abbrev cX3_becomes : ByteArray := prog_5_method_10_code
def yX3_becomes : MethodName := ⟨RX3, "becomes", "(II)I"⟩
def RX4 : String := "WhoKnows$Model"
def TX4 : u_T := fun k => match k with
  | 0 => ("WhoKnows$Model", "size", "I", false)
  | 1 => ("WhoKnows$Model", "realOne", "I", false)
  | 2 => ("WhoKnows$Model", "facts", "[I", true)
  | _ => ("WhoKnows$Model", "possible", "[I", true)
def tyX4 : Nat → FieldType := fun k => match k with
  | 0 => .int
  | 1 => .int
  | 2 => .array .int
  | _ => .array .int
theorem nmX4 : ∀ a, a < 4 → ∀ b, b < 4 → a ≠ b → (TX4 a).2.1 ≠ (TX4 b).2.1 := by decide +kernel
theorem tyX4_ok : ∀ k, k < 4 → parseFieldDescriptor (TX4 k).2.2.1 = some (tyX4 k) := by decide +kernel
abbrev cX4_init : ByteArray := prog_6_method_1_code
def yX4_init : MethodName := ⟨RX4, "<init>", "()V"⟩
abbrev cX4_contains : ByteArray := prog_6_method_2_code
def yX4_contains : MethodName := ⟨RX4, "contains", "(I)Z"⟩
abbrev cX4_all : ByteArray := prog_6_method_3_code
def yX4_all : MethodName := ⟨RX4, "all", "()I"⟩
abbrev cX4_held : ByteArray := prog_6_method_4_code
def yX4_held : MethodName := ⟨RX4, "held", "(II)I"⟩
abbrev cX4_clear : ByteArray := prog_6_method_5_code
def yX4_clear : MethodName := ⟨RX4, "clear", "()V"⟩
abbrev cX4_add : ByteArray := prog_6_method_6_code
def yX4_add : MethodName := ⟨RX4, "add", "(I)I"⟩
abbrev cX4_hold : ByteArray := prog_6_method_7_code
def yX4_hold : MethodName := ⟨RX4, "hold", "(IIIZ)V"⟩
abbrev cX4_blindfold : ByteArray := prog_6_method_8_code
def yX4_blindfold : MethodName := ⟨RX4, "blindfold", "(I)I"⟩
abbrev cX4_alikeBut : ByteArray := prog_6_method_9_code
def yX4_alikeBut : MethodName := ⟨RX4, "alikeBut", "(II)I"⟩
abbrev cX4_lost : ByteArray := prog_6_method_10_code
def yX4_lost : MethodName := ⟨RX4, "lost", "(I)I"⟩
abbrev cX4_become : ByteArray := prog_6_method_11_code
def yX4_become : MethodName := ⟨RX4, "become", "(LWhoKnows$Model;)V"⟩
abbrev cX4_withFact : ByteArray := prog_6_method_12_code
def yX4_withFact : MethodName := ⟨RX4, "withFact", "(I)I"⟩
abbrev cX4_nextOf : ByteArray := prog_6_method_13_code
def yX4_nextOf : MethodName := ⟨RX4, "nextOf", "(II)I"⟩
abbrev cX4_leadingTo : ByteArray := prog_6_method_14_code
def yX4_leadingTo : MethodName := ⟨RX4, "leadingTo", "(III)I"⟩
abbrev cX4_togetherWithin : ByteArray := prog_6_method_15_code
def yX4_togetherWithin : MethodName := ⟨RX4, "togetherWithin", "(II)I"⟩
abbrev cX4_reached : ByteArray := prog_6_method_16_code
def yX4_reached : MethodName := ⟨RX4, "reached", "(II)I"⟩
abbrev cX4_cut : ByteArray := prog_6_method_17_code
def yX4_cut : MethodName := ⟨RX4, "cut", "(I)V"⟩
abbrev cX4_squeezed : ByteArray := prog_6_method_18_code
def yX4_squeezed : MethodName := ⟨RX4, "squeezed", "(II)I"⟩
def RX5 : String := "WhoKnows$Parser"
def TX5 : u_T := fun k => match k with
  | 0 => ("WhoKnows$Parser", "tape", "LWhoKnows$Tape;", true)
  | 1 => ("WhoKnows$Parser", "ops", "[I", true)
  | 2 => ("WhoKnows$Parser", "args", "[I", true)
  | 3 => ("WhoKnows$Parser", "after", "[I", true)
  | 4 => ("WhoKnows$Parser", "depths", "[I", true)
  | 5 => ("WhoKnows$Parser", "nodes", "I", false)
  | 6 => ("WhoKnows$Parser", "tokens", "I", false)
  | 7 => ("WhoKnows$Parser", "afters", "I", false)
  | 8 => ("WhoKnows$Parser", "wrong", "I", false)
  | _ => ("WhoKnows$Parser", "place", "I", false)
def tyX5 : Nat → FieldType := fun k => match k with
  | 0 => .object "WhoKnows$Tape"
  | 1 => .array .int
  | 2 => .array .int
  | 3 => .array .int
  | 4 => .array .int
  | 5 => .int
  | 6 => .int
  | 7 => .int
  | 8 => .int
  | _ => .int
theorem nmX5 : ∀ a, a < 10 → ∀ b, b < 10 → a ≠ b → (TX5 a).2.1 ≠ (TX5 b).2.1 := by decide +kernel
theorem tyX5_ok : ∀ k, k < 10 → parseFieldDescriptor (TX5 k).2.2.1 = some (tyX5 k) := by decide +kernel
abbrev cX5_init : ByteArray := prog_7_method_1_code
def yX5_init : MethodName := ⟨RX5, "<init>", "()V"⟩
abbrev cX5_parse : ByteArray := prog_7_method_2_code
def yX5_parse : MethodName := ⟨RX5, "parse", "()LWhoKnows$Saying;"⟩
abbrev cX5_fail : ByteArray := prog_7_method_3_code
def yX5_fail : MethodName := ⟨RX5, "fail", "(I)Z"⟩
abbrev cX5_next : ByteArray := prog_7_method_4_code
def yX5_next : MethodName := ⟨RX5, "next", "()Z"⟩
abbrev cX5_take : ByteArray := prog_7_method_5_code
def yX5_take : MethodName := ⟨RX5, "take", "()Z"⟩
abbrev cX5_readAfters : ByteArray := prog_7_method_6_code
def yX5_readAfters : MethodName := ⟨RX5, "readAfters", "()Z"⟩
abbrev cX5_readEventNumber : ByteArray := prog_7_method_7_code
def yX5_readEventNumber : MethodName := ⟨RX5, "readEventNumber", "()Z"⟩
abbrev cX5_readSaying : ByteArray := prog_7_method_8_code
def yX5_readSaying : MethodName := ⟨RX5, "readSaying", "()Z"⟩
abbrev cX5_knowers : ByteArray := prog_7_method_9_code
def yX5_knowers : MethodName := ⟨RX5, "knowers", "(Z)I"⟩
abbrev cX5_factOfName : ByteArray := prog_7_method_10_code
def yX5_factOfName : MethodName := ⟨RX5, "factOfName", "()I"⟩
abbrev cX5_opOfName : ByteArray := prog_7_method_11_code
def yX5_opOfName : MethodName := ⟨RX5, "opOfName", "()I"⟩
abbrev cX5_opAboutKnowers : ByteArray := prog_7_method_12_code
def yX5_opAboutKnowers : MethodName := ⟨RX5, "opAboutKnowers", "()I"⟩
abbrev cX5_made : ByteArray := prog_7_method_13_code
def yX5_made : MethodName := ⟨RX5, "made", "()LWhoKnows$Saying;"⟩
abbrev cX5_deepest : ByteArray := prog_7_method_14_code
def yX5_deepest : MethodName := ⟨RX5, "deepest", "()I"⟩
def RX6 : String := "WhoKnows$Planner"
def TX6 : u_T := fun k => match k with
  | 0 => ("WhoKnows$Planner", "steps", "[LWhoKnows$Layer;", true)
  | 1 => ("WhoKnows$Planner", "aim", "LWhoKnows$Saying;", false)
  | 2 => ("WhoKnows$Planner", "hide", "LWhoKnows$Saying;", false)
  | 3 => ("WhoKnows$Planner", "length", "I", false)
  | _ => ("WhoKnows$Planner", "row", "I", false)
def tyX6 : Nat → FieldType := fun k => match k with
  | 0 => .array (.object "WhoKnows$Layer")
  | 1 => .object "WhoKnows$Saying"
  | 2 => .object "WhoKnows$Saying"
  | 3 => .int
  | _ => .int
theorem nmX6 : ∀ a, a < 5 → ∀ b, b < 5 → a ≠ b → (TX6 a).2.1 ≠ (TX6 b).2.1 := by decide +kernel
theorem tyX6_ok : ∀ k, k < 5 → parseFieldDescriptor (TX6 k).2.2.1 = some (tyX6 k) := by decide +kernel
abbrev cX6_init : ByteArray := prog_8_method_1_code
def yX6_init : MethodName := ⟨RX6, "<init>", "()V"⟩
abbrev cX6_find : ByteArray := prog_8_method_2_code
def yX6_find : MethodName := ⟨RX6, "find", "(LWhoKnows$Model;LWhoKnows$Judge;LWhoKnows$Saying;LWhoKnows$Saying;I)Z"⟩
abbrev cX6_goesOn : ByteArray := prog_8_method_3_code
def yX6_goesOn : MethodName := ⟨RX6, "goesOn", "(LWhoKnows$Planner;LWhoKnows$Judge;LWhoKnows$Model;I)Z"⟩
def RX7 : String := "WhoKnows$Rounds"
def TX7 : u_T := fun k => match k with
  | 0 => ("WhoKnows$Rounds", "trial", "LWhoKnows$Model;", true)
  | 1 => ("WhoKnows$Rounds", "first", "[I", true)
  | 2 => ("WhoKnows$Rounds", "gone", "I", false)
  | 3 => ("WhoKnows$Rounds", "stay", "I", false)
  | _ => ("WhoKnows$Rounds", "knew", "I", false)
def tyX7 : Nat → FieldType := fun k => match k with
  | 0 => .object "WhoKnows$Model"
  | 1 => .array .int
  | 2 => .int
  | 3 => .int
  | _ => .int
theorem nmX7 : ∀ a, a < 5 → ∀ b, b < 5 → a ≠ b → (TX7 a).2.1 ≠ (TX7 b).2.1 := by decide +kernel
theorem tyX7_ok : ∀ k, k < 5 → parseFieldDescriptor (TX7 k).2.2.1 = some (tyX7 k) := by decide +kernel
abbrev cX7_init : ByteArray := prog_9_method_1_code
def yX7_init : MethodName := ⟨RX7, "<init>", "()V"⟩
abbrev cX7_ask : ByteArray := prog_9_method_2_code
def yX7_ask : MethodName := ⟨RX7, "ask", "(LWhoKnows$Model;LWhoKnows$Judge;II)V"⟩
abbrev cX7_go : ByteArray := prog_9_method_3_code
def yX7_go : MethodName := ⟨RX7, "go", "(LWhoKnows$Model;LWhoKnows$Judge;II)V"⟩
def RX8 : String := "WhoKnows$Saying"
def TX8 : u_T := fun k => match k with
  | 0 => ("WhoKnows$Saying", "ops", "[I", true)
  | 1 => ("WhoKnows$Saying", "args", "[I", true)
  | 2 => ("WhoKnows$Saying", "tokens", "I", true)
  | 3 => ("WhoKnows$Saying", "afters", "I", true)
  | 4 => ("WhoKnows$Saying", "after", "[I", true)
  | 5 => ("WhoKnows$Saying", "deep", "I", false)
  | _ => ("WhoKnows$Saying", "names", "I", false)
def tyX8 : Nat → FieldType := fun k => match k with
  | 0 => .array .int
  | 1 => .array .int
  | 2 => .int
  | 3 => .int
  | 4 => .array .int
  | 5 => .int
  | _ => .int
theorem nmX8 : ∀ a, a < 7 → ∀ b, b < 7 → a ≠ b → (TX8 a).2.1 ≠ (TX8 b).2.1 := by decide +kernel
theorem tyX8_ok : ∀ k, k < 7 → parseFieldDescriptor (TX8 k).2.2.1 = some (tyX8 k) := by decide +kernel
abbrev cX8_init : ByteArray := prog_10_method_1_code
def yX8_init : MethodName := ⟨RX8, "<init>", "(III)V"⟩
def RX9 : String := "WhoKnows$Sheet"
def TX9 : u_T := fun k => match k with
  | 0 => ("WhoKnows$Sheet", "isThere", "Z", false)
  | 1 => ("WhoKnows$Sheet", "size", "I", false)
  | 2 => ("WhoKnows$Sheet", "lane", "I", false)
  | _ => ("WhoKnows$Sheet", "cells", "[I", true)
def tyX9 : Nat → FieldType := fun k => match k with
  | 0 => .boolean
  | 1 => .int
  | 2 => .int
  | _ => .array .int
theorem nmX9 : ∀ a, a < 4 → ∀ b, b < 4 → a ≠ b → (TX9 a).2.1 ≠ (TX9 b).2.1 := by decide +kernel
theorem tyX9_ok : ∀ k, k < 4 → parseFieldDescriptor (TX9 k).2.2.1 = some (tyX9 k) := by decide +kernel
abbrev cX9_init : ByteArray := prog_11_method_1_code
def yX9_init : MethodName := ⟨RX9, "<init>", "()V"⟩
abbrev cX9_begin : ByteArray := prog_11_method_2_code
def yX9_begin : MethodName := ⟨RX9, "begin", "(II)V"⟩
abbrev cX9_put : ByteArray := prog_11_method_3_code
def yX9_put : MethodName := ⟨RX9, "put", "(II)V"⟩
abbrev cX9_check : ByteArray := prog_11_method_4_code
def yX9_check : MethodName := ⟨RX9, "check", "(III)I"⟩
def RX10 : String := "WhoKnows$Tape"
def TX10 : u_T := fun k => match k with
  | 0 => ("WhoKnows$Tape", "bytes", "[B", true)
  | 1 => ("WhoKnows$Tape", "length", "I", false)
  | 2 => ("WhoKnows$Tape", "at", "I", false)
  | 3 => ("WhoKnows$Tape", "kind", "I", false)
  | _ => ("WhoKnows$Tape", "start", "I", false)
def tyX10 : Nat → FieldType := fun k => match k with
  | 0 => .array .byte
  | 1 => .int
  | 2 => .int
  | 3 => .int
  | _ => .int
theorem nmX10 : ∀ a, a < 5 → ∀ b, b < 5 → a ≠ b → (TX10 a).2.1 ≠ (TX10 b).2.1 := by decide +kernel
theorem tyX10_ok : ∀ k, k < 5 → parseFieldDescriptor (TX10 k).2.2.1 = some (tyX10 k) := by decide +kernel
abbrev cX10_init : ByteArray := prog_12_method_1_code
def yX10_init : MethodName := ⟨RX10, "<init>", "()V"⟩
abbrev cX10_add : ByteArray := prog_12_method_2_code
def yX10_add : MethodName := ⟨RX10, "add", "(J)Z"⟩
abbrev cX10_rewind : ByteArray := prog_12_method_3_code
def yX10_rewind : MethodName := ⟨RX10, "rewind", "()V"⟩
abbrev cX10_readToken : ByteArray := prog_12_method_4_code
def yX10_readToken : MethodName := ⟨RX10, "readToken", "()V"⟩
abbrev cX10_isLetter : ByteArray := prog_12_method_5_code
def yX10_isLetter : MethodName := ⟨RX10, "isLetter", "(B)Z"⟩
abbrev cX10_behind : ByteArray := prog_12_method_6_code
def yX10_behind : MethodName := ⟨RX10, "behind", "(III)I"⟩
abbrev cX10_figure : ByteArray := prog_12_method_7_code
def yX10_figure : MethodName := ⟨RX10, "figure", "()I"⟩
abbrev cX10_isName : ByteArray := prog_12_method_8_code
def yX10_isName : MethodName := ⟨RX10, "isName", "(Ljava/lang/String;)Z"⟩
abbrev cX10_group : ByteArray := prog_12_method_9_code
def yX10_group : MethodName := ⟨RX10, "group", "()I"⟩
def RX11 : String := "WhoKnows"
def TX11 : u_T := fun k => match k with
  | 0 => ("WhoKnows", "now", "LWhoKnows$Model;", true)
  | 1 => ("WhoKnows", "past", "[LWhoKnows$Model;", true)
  | 2 => ("WhoKnows", "acts", "I", false)
  | 3 => ("WhoKnows", "nextPast", "I", false)
  | 4 => ("WhoKnows", "parser", "LWhoKnows$Parser;", true)
  | 5 => ("WhoKnows", "judge", "LWhoKnows$Judge;", true)
  | 6 => ("WhoKnows", "layer", "LWhoKnows$Layer;", true)
  | 7 => ("WhoKnows", "heaps", "LWhoKnows$Heaps;", true)
  | 8 => ("WhoKnows", "kept", "[LWhoKnows$Model;", true)
  | 9 => ("WhoKnows", "keptCount", "I", false)
  | 10 => ("WhoKnows", "rounds", "LWhoKnows$Rounds;", true)
  | 11 => ("WhoKnows", "planner", "LWhoKnows$Planner;", true)
  | 12 => ("WhoKnows", "persons", "I", false)
  | 13 => ("WhoKnows", "known", "I", false)
  | _ => ("WhoKnows", "sheets", "[LWhoKnows$Sheet;", true)
def tyX11 : Nat → FieldType := fun k => match k with
  | 0 => .object "WhoKnows$Model"
  | 1 => .array (.object "WhoKnows$Model")
  | 2 => .int
  | 3 => .int
  | 4 => .object "WhoKnows$Parser"
  | 5 => .object "WhoKnows$Judge"
  | 6 => .object "WhoKnows$Layer"
  | 7 => .object "WhoKnows$Heaps"
  | 8 => .array (.object "WhoKnows$Model")
  | 9 => .int
  | 10 => .object "WhoKnows$Rounds"
  | 11 => .object "WhoKnows$Planner"
  | 12 => .int
  | 13 => .int
  | _ => .array (.object "WhoKnows$Sheet")
theorem nmX11 : ∀ a, a < 15 → ∀ b, b < 15 → a ≠ b → (TX11 a).2.1 ≠ (TX11 b).2.1 := by decide +kernel
theorem tyX11_ok : ∀ k, k < 15 → parseFieldDescriptor (TX11 k).2.2.1 = some (tyX11 k) := by decide +kernel
abbrev cX11_init : ByteArray := prog_1_method_1_code
def yX11_init : MethodName := ⟨RX11, "<init>", "()V"⟩
abbrev cX11_models : ByteArray := prog_1_method_2_code
def yX11_models : MethodName := ⟨RX11, "models", "(I)[LWhoKnows$Model;"⟩
abbrev cX11_within : ByteArray := prog_1_method_3_code
def yX11_within : MethodName := ⟨RX11, "within", "(III)Z"⟩
abbrev cX11_has : ByteArray := prog_1_method_4_code
def yX11_has : MethodName := ⟨RX11, "has", "(II)Z"⟩
abbrev cX11_isTold : ByteArray := prog_1_method_5_code
def yX11_isTold : MethodName := ⟨RX11, "isTold", "(I)Z"⟩
abbrev cX11_isEvent : ByteArray := prog_1_method_6_code
def yX11_isEvent : MethodName := ⟨RX11, "isEvent", "(I)Z"⟩
abbrev cX11_isCase : ByteArray := prog_1_method_7_code
def yX11_isCase : MethodName := ⟨RX11, "isCase", "(II)Z"⟩
abbrev cX11_canBeIf : ByteArray := prog_1_method_8_code
def yX11_canBeIf : MethodName := ⟨RX11, "canBeIf", "(I)Z"⟩
abbrev cX11_isPerson : ByteArray := prog_1_method_9_code
def yX11_isPerson : MethodName := ⟨RX11, "isPerson", "(I)Z"⟩
abbrev cX11_remember : ByteArray := prog_1_method_10_code
def yX11_remember : MethodName := ⟨RX11, "remember", "()V"⟩
abbrev cX11_world : ByteArray := prog_1_method_11_code
def yX11_world : MethodName := ⟨RX11, "world", "(I)I"⟩
abbrev cX11_sees : ByteArray := prog_1_method_12_code
def yX11_sees : MethodName := ⟨RX11, "sees", "(IIIZZ)I"⟩
abbrev cX11_blind : ByteArray := prog_1_method_13_code
def yX11_blind : MethodName := ⟨RX11, "blind", "(I)I"⟩
abbrev cX11_real : ByteArray := prog_1_method_14_code
def yX11_real : MethodName := ⟨RX11, "real", "(I)I"⟩
abbrev cX11_of : ByteArray := prog_1_method_15_code
def yX11_of : MethodName := ⟨RX11, "of", "(II)I"⟩
abbrev cX11_reach : ByteArray := prog_1_method_16_code
def yX11_reach : MethodName := ⟨RX11, "reach", "(II)I"⟩
abbrev cX11_feed : ByteArray := prog_1_method_17_code
def yX11_feed : MethodName := ⟨RX11, "feed", "(J)I"⟩
abbrev cX11_end : ByteArray := prog_1_method_18_code
def yX11_end : MethodName := ⟨RX11, "end", "(I)I"⟩
abbrev cX11_say : ByteArray := prog_1_method_19_code
def yX11_say : MethodName := ⟨RX11, "say", "(I)I"⟩
abbrev cX11_fault : ByteArray := prog_1_method_20_code
def yX11_fault : MethodName := ⟨RX11, "fault", "()I"⟩
abbrev cX11_saying : ByteArray := prog_1_method_21_code
def yX11_saying : MethodName := ⟨RX11, "saying", "(II)I"⟩
abbrev cX11_truth : ByteArray := prog_1_method_22_code
def yX11_truth : MethodName := ⟨RX11, "truth", "(I)I"⟩
abbrev cX11_holds : ByteArray := prog_1_method_23_code
def yX11_holds : MethodName := ⟨RX11, "holds", "(I)I"⟩
abbrev cX11_event : ByteArray := prog_1_method_24_code
def yX11_event : MethodName := ⟨RX11, "event", "(II)I"⟩
abbrev cX11_when : ByteArray := prog_1_method_25_code
def yX11_when : MethodName := ⟨RX11, "when", "(IIIII)I"⟩
abbrev cX11_hears : ByteArray := prog_1_method_26_code
def yX11_hears : MethodName := ⟨RX11, "hears", "(IIIIZ)I"⟩
abbrev cX11_happens : ByteArray := prog_1_method_27_code
def yX11_happens : MethodName := ⟨RX11, "happens", "(II)I"⟩
abbrev cX11_word : ByteArray := prog_1_method_28_code
def yX11_word : MethodName := ⟨RX11, "word", "(IIII)I"⟩
abbrev cX11_lay : ByteArray := prog_1_method_29_code
def yX11_lay : MethodName := ⟨RX11, "lay", "(I)I"⟩
abbrev cX11_classes : ByteArray := prog_1_method_30_code
def yX11_classes : MethodName := ⟨RX11, "classes", "()I"⟩
abbrev cX11_classOf : ByteArray := prog_1_method_31_code
def yX11_classOf : MethodName := ⟨RX11, "classOf", "(I)I"⟩
abbrev cX11_depth : ByteArray := prog_1_method_32_code
def yX11_depth : MethodName := ⟨RX11, "depth", "(II)I"⟩
abbrev cX11_melt : ByteArray := prog_1_method_33_code
def yX11_melt : MethodName := ⟨RX11, "melt", "()I"⟩
abbrev cX11_keep : ByteArray := prog_1_method_34_code
def yX11_keep : MethodName := ⟨RX11, "keep", "()I"⟩
abbrev cX11_stand : ByteArray := prog_1_method_35_code
def yX11_stand : MethodName := ⟨RX11, "stand", "(I)I"⟩
abbrev cX11_same : ByteArray := prog_1_method_36_code
def yX11_same : MethodName := ⟨RX11, "same", "(I)I"⟩
abbrev cX11_canTakeTurns : ByteArray := prog_1_method_37_code
def yX11_canTakeTurns : MethodName := ⟨RX11, "canTakeTurns", "(II)Z"⟩
abbrev cX11_turn : ByteArray := prog_1_method_38_code
def yX11_turn : MethodName := ⟨RX11, "turn", "(II)I"⟩
abbrev cX11_turns : ByteArray := prog_1_method_39_code
def yX11_turns : MethodName := ⟨RX11, "turns", "(III)I"⟩
abbrev cX11_plan : ByteArray := prog_1_method_40_code
def yX11_plan : MethodName := ⟨RX11, "plan", "(IIII)I"⟩
abbrev cX11_secretsOf : ByteArray := prog_1_method_41_code
def yX11_secretsOf : MethodName := ⟨RX11, "secretsOf", "(II)I"⟩
abbrev cX11_called : ByteArray := prog_1_method_42_code
def yX11_called : MethodName := ⟨RX11, "called", "(III)I"⟩
abbrev cX11_allKnowAll : ByteArray := prog_1_method_43_code
def yX11_allKnowAll : MethodName := ⟨RX11, "allKnowAll", "(II)Z"⟩
abbrev cX11_canEnd : ByteArray := prog_1_method_44_code
def yX11_canEnd : MethodName := ⟨RX11, "canEnd", "(III)Z"⟩
abbrev cX11_firstCall : ByteArray := prog_1_method_45_code
def yX11_firstCall : MethodName := ⟨RX11, "firstCall", "(III)I"⟩
abbrev cX11_people : ByteArray := prog_1_method_46_code
def yX11_people : MethodName := ⟨RX11, "people", "(I)I"⟩
abbrev cX11_call : ByteArray := prog_1_method_47_code
def yX11_call : MethodName := ⟨RX11, "call", "(II)I"⟩
abbrev cX11_secrets : ByteArray := prog_1_method_48_code
def yX11_secrets : MethodName := ⟨RX11, "secrets", "(I)I"⟩
abbrev cX11_fewest : ByteArray := prog_1_method_49_code
def yX11_fewest : MethodName := ⟨RX11, "fewest", "(I)I"⟩
abbrev cX11_sheet : ByteArray := prog_1_method_50_code
def yX11_sheet : MethodName := ⟨RX11, "sheet", "(III)I"⟩
abbrev cX11_write : ByteArray := prog_1_method_51_code
def yX11_write : MethodName := ⟨RX11, "write", "(III)I"⟩
abbrev cX11_read : ByteArray := prog_1_method_52_code
def yX11_read : MethodName := ⟨RX11, "read", "(IIII)I"⟩
abbrev cX11_undo : ByteArray := prog_1_method_53_code
def yX11_undo : MethodName := ⟨RX11, "undo", "()I"⟩
abbrev cX11_count : ByteArray := prog_1_method_54_code
def yX11_count : MethodName := ⟨RX11, "count", "(I)I"⟩
abbrev cX11_toldSayings : ByteArray := prog_1_method_55_code
def yX11_toldSayings : MethodName := ⟨RX11, "toldSayings", "()I"⟩
abbrev cX11_toldEvents : ByteArray := prog_1_method_56_code
def yX11_toldEvents : MethodName := ⟨RX11, "toldEvents", "()I"⟩
abbrev cX11_under : ByteArray := prog_1_method_57_code
def yX11_under : MethodName := ⟨RX11, "under", "(I)I"⟩
def RX12 : String := "WhoKnowsModel"
def TX12 : u_T := fun k => match k with
  | 0 => ("WhoKnowsModel", "manys", "[I", true)
  | 1 => ("WhoKnowsModel", "reals", "[I", true)
  | 2 => ("WhoKnowsModel", "factsOf", "[I", true)
  | 3 => ("WhoKnowsModel", "possible", "[I", true)
  | 4 => ("WhoKnowsModel", "undos", "I", false)
  | 5 => ("WhoKnowsModel", "models", "I", false)
  | 6 => ("WhoKnowsModel", "tape", "[I", true)
  | 7 => ("WhoKnowsModel", "taped", "I", false)
  | 8 => ("WhoKnowsModel", "fault", "I", false)
  | 9 => ("WhoKnowsModel", "wrong", "I", false)
  | 10 => ("WhoKnowsModel", "wrongAt", "I", false)
  | 11 => ("WhoKnowsModel", "spot", "I", false)
  | 12 => ("WhoKnowsModel", "place", "I", false)
  | 13 => ("WhoKnowsModel", "token", "I", false)
  | 14 => ("WhoKnowsModel", "value", "I", false)
  | 15 => ("WhoKnowsModel", "ends", "[I", true)
  | 16 => ("WhoKnowsModel", "letters", "[I", true)
  | 17 => ("WhoKnowsModel", "actOf", "[I", true)
  | 18 => ("WhoKnowsModel", "whom", "[I", true)
  | 19 => ("WhoKnowsModel", "actMany", "[I", true)
  | 20 => ("WhoKnowsModel", "tokens", "[I", true)
  | 21 => ("WhoKnowsModel", "afters", "[I", true)
  | 22 => ("WhoKnowsModel", "afterOf", "[I", true)
  | 23 => ("WhoKnowsModel", "counted", "I", false)
  | 24 => ("WhoKnowsModel", "pile", "[I", true)
  | 25 => ("WhoKnowsModel", "caseMany", "[I", true)
  | 26 => ("WhoKnowsModel", "happen", "[I", true)
  | 27 => ("WhoKnowsModel", "hasIf", "[Z", true)
  | 28 => ("WhoKnowsModel", "becomes", "[I", true)
  | 29 => ("WhoKnowsModel", "goneOf", "[I", true)
  | 30 => ("WhoKnowsModel", "heard", "[I", true)
  | 31 => ("WhoKnowsModel", "pairs", "[I", true)
  | 32 => ("WhoKnowsModel", "heaps", "[I", true)
  | 33 => ("WhoKnowsModel", "rounds", "I", false)
  | 34 => ("WhoKnowsModel", "heapMany", "I", false)
  | 35 => ("WhoKnowsModel", "led", "[J", true)
  | 36 => ("WhoKnowsModel", "newAt", "[I", true)
  | 37 => ("WhoKnowsModel", "knowing", "[I", true)
  | 38 => ("WhoKnowsModel", "firsts", "[I", true)
  | 39 => ("WhoKnowsModel", "people", "I", false)
  | 40 => ("WhoKnowsModel", "secrets", "[I", true)
  | 41 => ("WhoKnowsModel", "tried", "[I", true)
  | 42 => ("WhoKnowsModel", "lanes", "[I", true)
  | 43 => ("WhoKnowsModel", "lengths", "[I", true)
  | _ => ("WhoKnowsModel", "cells", "[I", true)
def tyX12 : Nat → FieldType := fun k => match k with
  | 0 => .array .int
  | 1 => .array .int
  | 2 => .array .int
  | 3 => .array .int
  | 4 => .int
  | 5 => .int
  | 6 => .array .int
  | 7 => .int
  | 8 => .int
  | 9 => .int
  | 10 => .int
  | 11 => .int
  | 12 => .int
  | 13 => .int
  | 14 => .int
  | 15 => .array .int
  | 16 => .array .int
  | 17 => .array .int
  | 18 => .array .int
  | 19 => .array .int
  | 20 => .array .int
  | 21 => .array .int
  | 22 => .array .int
  | 23 => .int
  | 24 => .array .int
  | 25 => .array .int
  | 26 => .array .int
  | 27 => .array .boolean
  | 28 => .array .int
  | 29 => .array .int
  | 30 => .array .int
  | 31 => .array .int
  | 32 => .array .int
  | 33 => .int
  | 34 => .int
  | 35 => .array .long
  | 36 => .array .int
  | 37 => .array .int
  | 38 => .array .int
  | 39 => .int
  | 40 => .array .int
  | 41 => .array .int
  | 42 => .array .int
  | 43 => .array .int
  | _ => .array .int
theorem nmX12 : ∀ a, a < 45 → ∀ b, b < 45 → a ≠ b → (TX12 a).2.1 ≠ (TX12 b).2.1 := by decide +kernel
theorem tyX12_ok : ∀ k, k < 45 → parseFieldDescriptor (TX12 k).2.2.1 = some (tyX12 k) := by decide +kernel
abbrev cX12_init : ByteArray := prog_14_method_1_code
def yX12_init : MethodName := ⟨RX12, "<init>", "()V"⟩
abbrev cX12_in : ByteArray := prog_14_method_3_code
def yX12_in : MethodName := ⟨RX12, "in", "(JJJ)Z"⟩
abbrev cX12_copy : ByteArray := prog_14_method_4_code
def yX12_copy : MethodName := ⟨RX12, "copy", "(II)V"⟩
abbrev cX12_seen : ByteArray := prog_14_method_5_code
def yX12_seen : MethodName := ⟨RX12, "seen", "(III)I"⟩
abbrev cX12_acts : ByteArray := prog_14_method_6_code
def yX12_acts : MethodName := ⟨RX12, "acts", "()V"⟩
abbrev cX12_isKnower : ByteArray := prog_14_method_7_code
def yX12_isKnower : MethodName := ⟨RX12, "isKnower", "(I)Z"⟩
abbrev cX12_isWorld : ByteArray := prog_14_method_8_code
def yX12_isWorld : MethodName := ⟨RX12, "isWorld", "(I)Z"⟩
abbrev cX12_all : ByteArray := prog_14_method_9_code
def yX12_all : MethodName := ⟨RX12, "all", "(I)I"⟩
abbrev cX12_size : ByteArray := prog_14_method_10_code
def yX12_size : MethodName := ⟨RX12, "size", "(I)I"⟩
abbrev cX12_addWorld : ByteArray := prog_14_method_11_code
def yX12_addWorld : MethodName := ⟨RX12, "addWorld", "(I)V"⟩
abbrev cX12_world : ByteArray := prog_14_method_12_code
def yX12_world : MethodName := ⟨RX12, "world", "(I)I"⟩
abbrev cX12_see : ByteArray := prog_14_method_13_code
def yX12_see : MethodName := ⟨RX12, "see", "(IIIZ)V"⟩
abbrev cX12_sees : ByteArray := prog_14_method_14_code
def yX12_sees : MethodName := ⟨RX12, "sees", "(IIIZZ)I"⟩
abbrev cX12_blind : ByteArray := prog_14_method_15_code
def yX12_blind : MethodName := ⟨RX12, "blind", "(I)I"⟩
abbrev cX12_real : ByteArray := prog_14_method_16_code
def yX12_real : MethodName := ⟨RX12, "real", "(I)I"⟩
abbrev cX12_of : ByteArray := prog_14_method_17_code
def yX12_of : MethodName := ⟨RX12, "of", "(II)I"⟩
abbrev cX12_reached : ByteArray := prog_14_method_18_code
def yX12_reached : MethodName := ⟨RX12, "reached", "(III)I"⟩
abbrev cX12_reach : ByteArray := prog_14_method_19_code
def yX12_reach : MethodName := ⟨RX12, "reach", "(II)I"⟩
abbrev cX12_feed : ByteArray := prog_14_method_20_code
def yX12_feed : MethodName := ⟨RX12, "feed", "(J)I"⟩
abbrev cX12_end : ByteArray := prog_14_method_21_code
def yX12_end : MethodName := ⟨RX12, "end", "(I)I"⟩
abbrev cX12_byteAt : ByteArray := prog_14_method_22_code
def yX12_byteAt : MethodName := ⟨RX12, "byteAt", "(I)I"⟩
abbrev cX12_fails : ByteArray := prog_14_method_23_code
def yX12_fails : MethodName := ⟨RX12, "fails", "(I)V"⟩
abbrev cX12_next : ByteArray := prog_14_method_24_code
def yX12_next : MethodName := ⟨RX12, "next", "()V"⟩
abbrev cX12_nameHere : ByteArray := prog_14_method_25_code
def yX12_nameHere : MethodName := ⟨RX12, "nameHere", "()I"⟩
abbrev cX12_groupHere : ByteArray := prog_14_method_26_code
def yX12_groupHere : MethodName := ⟨RX12, "groupHere", "()I"⟩
abbrev cX12_counts : ByteArray := prog_14_method_27_code
def yX12_counts : MethodName := ⟨RX12, "counts", "()V"⟩
abbrev cX12_wantsOf : ByteArray := prog_14_method_28_code
def yX12_wantsOf : MethodName := ⟨RX12, "wantsOf", "(I)I"⟩
abbrev cX12_readAct : ByteArray := prog_14_method_29_code
def yX12_readAct : MethodName := ⟨RX12, "readAct", "()V"⟩
abbrev cX12_readAfters : ByteArray := prog_14_method_30_code
def yX12_readAfters : MethodName := ⟨RX12, "readAfters", "()V"⟩
abbrev cX12_copyActs : ByteArray := prog_14_method_31_code
def yX12_copyActs : MethodName := ⟨RX12, "copyActs", "(II)V"⟩
abbrev cX12_say : ByteArray := prog_14_method_32_code
def yX12_say : MethodName := ⟨RX12, "say", "(I)I"⟩
abbrev cX12_fault : ByteArray := prog_14_method_33_code
def yX12_fault : MethodName := ⟨RX12, "fault", "()I"⟩
abbrev cX12_isSaying : ByteArray := prog_14_method_34_code
def yX12_isSaying : MethodName := ⟨RX12, "isSaying", "(I)Z"⟩
abbrev cX12_depthOf : ByteArray := prog_14_method_35_code
def yX12_depthOf : MethodName := ⟨RX12, "depthOf", "(I)I"⟩
abbrev cX12_saying : ByteArray := prog_14_method_36_code
def yX12_saying : MethodName := ⟨RX12, "saying", "(II)I"⟩
abbrev cX12_knownBy : ByteArray := prog_14_method_37_code
def yX12_knownBy : MethodName := ⟨RX12, "knownBy", "(IIII)I"⟩
abbrev cX12_trueAt : ByteArray := prog_14_method_38_code
def yX12_trueAt : MethodName := ⟨RX12, "trueAt", "(II)I"⟩
abbrev cX12_isEvent : ByteArray := prog_14_method_39_code
def yX12_isEvent : MethodName := ⟨RX12, "isEvent", "(I)Z"⟩
abbrev cX12_isCase : ByteArray := prog_14_method_40_code
def yX12_isCase : MethodName := ⟨RX12, "isCase", "(II)Z"⟩
abbrev cX12_clearEvent : ByteArray := prog_14_method_41_code
def yX12_clearEvent : MethodName := ⟨RX12, "clearEvent", "(II)V"⟩
abbrev cX12_event : ByteArray := prog_14_method_42_code
def yX12_event : MethodName := ⟨RX12, "event", "(II)I"⟩
abbrev cX12_isPlain : ByteArray := prog_14_method_43_code
def yX12_isPlain : MethodName := ⟨RX12, "isPlain", "(I)Z"⟩
abbrev cX12_giveIf : ByteArray := prog_14_method_44_code
def yX12_giveIf : MethodName := ⟨RX12, "giveIf", "(III)V"⟩
abbrev cX12_when : ByteArray := prog_14_method_45_code
def yX12_when : MethodName := ⟨RX12, "when", "(IIIII)I"⟩
abbrev cX12_hears : ByteArray := prog_14_method_46_code
def yX12_hears : MethodName := ⟨RX12, "hears", "(IIIIZ)I"⟩
abbrev cX12_happens : ByteArray := prog_14_method_47_code
def yX12_happens : MethodName := ⟨RX12, "happens", "(II)I"⟩
abbrev cX12_word : ByteArray := prog_14_method_48_code
def yX12_word : MethodName := ⟨RX12, "word", "(IIII)I"⟩
abbrev cX12_canBe : ByteArray := prog_14_method_49_code
def yX12_canBe : MethodName := ⟨RX12, "canBe", "(III)I"⟩
abbrev cX12_laid : ByteArray := prog_14_method_50_code
def yX12_laid : MethodName := ⟨RX12, "laid", "(II)I"⟩
abbrev cX12_both : ByteArray := prog_14_method_51_code
def yX12_both : MethodName := ⟨RX12, "both", "(IIIII)I"⟩
abbrev cX12_broughtBack : ByteArray := prog_14_method_52_code
def yX12_broughtBack : MethodName := ⟨RX12, "broughtBack", "(III)I"⟩
abbrev cX12_truthOf : ByteArray := prog_14_method_53_code
def yX12_truthOf : MethodName := ⟨RX12, "truthOf", "(II)I"⟩
abbrev cX12_truth : ByteArray := prog_14_method_54_code
def yX12_truth : MethodName := ⟨RX12, "truth", "(I)I"⟩
abbrev cX12_isTrue : ByteArray := prog_14_method_55_code
def yX12_isTrue : MethodName := ⟨RX12, "isTrue", "(II)Z"⟩
abbrev cX12_holds : ByteArray := prog_14_method_56_code
def yX12_holds : MethodName := ⟨RX12, "holds", "(I)I"⟩
abbrev cX12_canHappen : ByteArray := prog_14_method_57_code
def yX12_canHappen : MethodName := ⟨RX12, "canHappen", "(II)Z"⟩
abbrev cX12_lay : ByteArray := prog_14_method_58_code
def yX12_lay : MethodName := ⟨RX12, "lay", "(I)I"⟩
abbrev cX12_factsIn : ByteArray := prog_14_method_59_code
def yX12_factsIn : MethodName := ⟨RX12, "factsIn", "(III)I"⟩
abbrev cX12_ledTo : ByteArray := prog_14_method_60_code
def yX12_ledTo : MethodName := ⟨RX12, "ledTo", "(IIIII)J"⟩
abbrev cX12_layHeaps : ByteArray := prog_14_method_61_code
def yX12_layHeaps : MethodName := ⟨RX12, "layHeaps", "(II)V"⟩
abbrev cX12_areAlike : ByteArray := prog_14_method_62_code
def yX12_areAlike : MethodName := ⟨RX12, "areAlike", "(II)Z"⟩
abbrev cX12_heapOf : ByteArray := prog_14_method_63_code
def yX12_heapOf : MethodName := ⟨RX12, "heapOf", "(I)I"⟩
abbrev cX12_classes : ByteArray := prog_14_method_64_code
def yX12_classes : MethodName := ⟨RX12, "classes", "()I"⟩
abbrev cX12_classOf : ByteArray := prog_14_method_65_code
def yX12_classOf : MethodName := ⟨RX12, "classOf", "(I)I"⟩
abbrev cX12_depth : ByteArray := prog_14_method_66_code
def yX12_depth : MethodName := ⟨RX12, "depth", "(II)I"⟩
abbrev cX12_melt : ByteArray := prog_14_method_67_code
def yX12_melt : MethodName := ⟨RX12, "melt", "()I"⟩
abbrev cX12_keep : ByteArray := prog_14_method_68_code
def yX12_keep : MethodName := ⟨RX12, "keep", "()I"⟩
abbrev cX12_isModel : ByteArray := prog_14_method_69_code
def yX12_isModel : MethodName := ⟨RX12, "isModel", "(I)Z"⟩
abbrev cX12_stand : ByteArray := prog_14_method_70_code
def yX12_stand : MethodName := ⟨RX12, "stand", "(I)I"⟩
abbrev cX12_same : ByteArray := prog_14_method_71_code
def yX12_same : MethodName := ⟨RX12, "same", "(I)I"⟩
abbrev cX12_areAsked : ByteArray := prog_14_method_72_code
def yX12_areAsked : MethodName := ⟨RX12, "areAsked", "(II)Z"⟩
abbrev cX12_layKnowing : ByteArray := prog_14_method_73_code
def yX12_layKnowing : MethodName := ⟨RX12, "layKnowing", "(III)I"⟩
abbrev cX12_staying : ByteArray := prog_14_method_74_code
def yX12_staying : MethodName := ⟨RX12, "staying", "(II)I"⟩
abbrev cX12_keepOnly : ByteArray := prog_14_method_75_code
def yX12_keepOnly : MethodName := ⟨RX12, "keepOnly", "(II)V"⟩
abbrev cX12_turn : ByteArray := prog_14_method_76_code
def yX12_turn : MethodName := ⟨RX12, "turn", "(II)I"⟩
abbrev cX12_turns : ByteArray := prog_14_method_77_code
def yX12_turns : MethodName := ⟨RX12, "turns", "(III)I"⟩
abbrev cX12_goes : ByteArray := prog_14_method_78_code
def yX12_goes : MethodName := ⟨RX12, "goes", "(IIII)Z"⟩
abbrev cX12_plan : ByteArray := prog_14_method_79_code
def yX12_plan : MethodName := ⟨RX12, "plan", "(IIII)I"⟩
abbrev cX12_people : ByteArray := prog_14_method_80_code
def yX12_people : MethodName := ⟨RX12, "people", "(I)I"⟩
abbrev cX12_isOne : ByteArray := prog_14_method_81_code
def yX12_isOne : MethodName := ⟨RX12, "isOne", "(I)Z"⟩
abbrev cX12_call : ByteArray := prog_14_method_82_code
def yX12_call : MethodName := ⟨RX12, "call", "(II)I"⟩
abbrev cX12_secrets : ByteArray := prog_14_method_83_code
def yX12_secrets : MethodName := ⟨RX12, "secrets", "(I)I"⟩
abbrev cX12_allKnow : ByteArray := prog_14_method_84_code
def yX12_allKnow : MethodName := ⟨RX12, "allKnow", "(II)Z"⟩
abbrev cX12_fewest : ByteArray := prog_14_method_85_code
def yX12_fewest : MethodName := ⟨RX12, "fewest", "(I)I"⟩
abbrev cX12_sheet : ByteArray := prog_14_method_86_code
def yX12_sheet : MethodName := ⟨RX12, "sheet", "(III)I"⟩
abbrev cX12_write : ByteArray := prog_14_method_87_code
def yX12_write : MethodName := ⟨RX12, "write", "(III)I"⟩
abbrev cX12_read : ByteArray := prog_14_method_88_code
def yX12_read : MethodName := ⟨RX12, "read", "(IIII)I"⟩
abbrev cX12_undo : ByteArray := prog_14_method_89_code
def yX12_undo : MethodName := ⟨RX12, "undo", "()I"⟩
abbrev cX12_count : ByteArray := prog_14_method_90_code
def yX12_count : MethodName := ⟨RX12, "count", "(I)I"⟩
def RL : String := "WhoKnowsLaw"
abbrev cL_law : ByteArray := code
def yL_law : MethodName := ⟨RL, "law", "([I)Z"⟩
abbrev vwCl : List vw_C := [(RX0, TX0, 6), (RX1, TX1, 6), (RX2, TX2, 4), (RX3, TX3, 6), (RX4, TX4, 4), (RX5, TX5, 10), (RX6, TX6, 5), (RX7, TX7, 5), (RX8, TX8, 7), (RX9, TX9, 4), (RX10, TX10, 5), (RX11, TX11, 15), (RX12, TX12, 45)]
end
section
/-! my own layer over the kit's rows: a state of a walk is (pc, locals, stack, world, cells, slots); H, locs and the slots' array are hidden -/
abbrev EV : Type := va_G × (Nat → ClassId) × (Nat → Nat)
abbrev cyT (E : EV) : List (ClassId × FieldType) := [(E.2.1 0, .byte), (E.2.1 1, .int), (E.2.1 2, .long), (E.2.1 3, .boolean), (E.2.1 4, .object "WhoKnows$Event"), (E.2.1 5, .object "WhoKnows$Layer"), (E.2.1 6, .object "WhoKnows$Model"), (E.2.1 7, .object "WhoKnows$Saying"), (E.2.1 8, .object "WhoKnows$Sheet")]
def kkN : List Cond := [.methodLinkNest RX11 9 yX4_init RX11, .methodLinkNest RX11 26 yX5_init RX11, .methodLinkNest RX5 11 yX10_init RX11, .methodLinkNest RX2 33 yX0_init RX11, .methodLinkNest RX2 34 yX3_init RX11, .methodLinkNest RX3 11 yX4_init RX11, .methodLinkNest RX11 40 yX3_init RX11, .methodLinkNest RX11 47 yX1_init RX11, .methodLinkNest RX11 57 yX7_init RX11, .methodLinkNest RX7 11 yX4_init RX11, .methodLinkNest RX6 17 yX3_init RX11, .methodLinkNest RX11 75 yX9_init RX11, .methodLinkNest RX4 51 yX11_has RX11, .methodLinkNest RX10 45 yX11_has RX11, .methodLinkNest RX5 104 yX11_under RX11, .methodLinkNest RX2 80 yX11_under RX11, .methodLinkNest RX3 63 yX11_has RX11, .methodLinkNest RX0 42 yX11_has RX11, .methodLinkNest RX1 51 yX11_has RX11, .methodLinkNest RX7 39 yX11_has RX11, .methodLinkNest RX6 47 yX11_has RX11, .methodLinkNest RX9 26 yX11_within RX11]
def kkA : List String := ["WhoKnows$Event", "WhoKnows$Layer", "WhoKnows$Model", "WhoKnows$Saying", "WhoKnows$Sheet"]
def kkS : List (Nat × String) := [(77, "after"), (116, String.singleton 'p'), (118, String.singleton 'q'), (120, String.singleton 'r'), (122, String.singleton 's'), (124, "yes"), (126, "not"), (128, "and"), (130, "or"), (95, "know"), (135, "every"), (137, "whether"), (139, "common"), (141, "together")]
def kkNW (U : State) : Prop := ∀ w ∈ kkN, va_Nw w U
def TB : List Cond := lw_tbl.filter goodWord
theorem tbm {w : Cond} (h : w ∈ lw_tbl) (g : goodWord w = true) : w ∈ TB := List.mem_filter.mpr ⟨h, g⟩
theorem tb_in {w : Cond} (h : w ∈ TB) : w ∈ lw_tbl := (List.mem_filter.mp h).1
theorem tbG {big ws : List Cond} (hb : ∀ w ∈ TB, w ∈ big) (h : ∀ w ∈ ws, w ∈ TB) : GoodIn big ws := fun w hw => ⟨hb w (h w hw), good_of_word (List.mem_filter.mp (h w hw)).2⟩
theorem tq1 {w : Cond} (h : w ∈ tables_1_1) : w ∈ lw_tbl := List.mem_append_right _ (List.mem_append_left _ h)
theorem tq2 {w : Cond} (h : w ∈ tables_1_2) : w ∈ lw_tbl := List.mem_append_right _ (List.mem_append_right _ (List.mem_append_left _ h))
theorem tq3 {w : Cond} (h : w ∈ tables_1_3) : w ∈ lw_tbl := List.mem_append_right _ (List.mem_append_right _ (List.mem_append_right _ (List.mem_append_left _ h)))
theorem tq4 {w : Cond} (h : w ∈ tables_1_4) : w ∈ lw_tbl := List.mem_append_right _ (List.mem_append_right _ (List.mem_append_right _ (List.mem_append_right _ (List.mem_append_left _ h))))
theorem tq5 {w : Cond} (h : w ∈ tables_1_5) : w ∈ lw_tbl := List.mem_append_right _ (List.mem_append_right _ (List.mem_append_right _ (List.mem_append_right _ (List.mem_append_right _ (List.mem_append_left _ h)))))
theorem tq6 {w : Cond} (h : w ∈ tables_1_6) : w ∈ lw_tbl := List.mem_append_right _ (List.mem_append_right _ (List.mem_append_right _ (List.mem_append_right _ (List.mem_append_right _ (List.mem_append_right _ (List.mem_append_left _ h))))))
theorem tq7 {w : Cond} (h : w ∈ tables_1_7) : w ∈ lw_tbl := List.mem_append_right _ (List.mem_append_right _ (List.mem_append_right _ (List.mem_append_right _ (List.mem_append_right _ (List.mem_append_right _ (List.mem_append_right _ h))))))
theorem tq0 {w : Cond} (h : w ∈ k2_sels lw_privs) : w ∈ lw_tbl := List.mem_append_left _ h
def KK (E : EV) (U : State) : Prop := va_K E.1 vwCl (cyT E) U ∧ kkNW U ∧ (∀ C ∈ kkA, va_AO C U) ∧ ∀ q ∈ kkS, vk_R RX5 q.1 q.2 (E.2.2 q.1) U
theorem kkNW.warm {s U : State} (hW : s.WarmedH U.vm) (h : kkNW s) : kkNW U := by
  intro w hw
  have h1 := h w hw
  have key : ∀ w ∈ kkN, (∃ a i x h, w = Cond.methodLinkNest a i x h) ∨ ∃ a i b n d h, w = Cond.fieldLinkNest a i b n d h := by
    unfold kkN
    simp only [List.forall_mem_cons, List.not_mem_nil, false_implies, implies_true, and_true]
    repeat' constructor
    all_goals first | exact Or.inl ⟨_, _, _, _, rfl⟩ | exact Or.inr ⟨_, _, _, _, _, _, rfl⟩
  rcases key w hw with ⟨a, i, x, h', rfl⟩ | ⟨a, i, b, n, d, h', rfl⟩
  · exact va_Nw.warmM hW h1
  · exact va_Nw.warmF hW h1
theorem kkNW.same {s U : State} (hv : s.vm = U.vm) (h : kkNW s) : kkNW U := by
  intro w hw
  have h1 := h w hw
  have key : ∀ w ∈ kkN, w.onTables = true := by decide +kernel
  exact va_Nw.same (key w hw) hv h1
theorem KK.warm {E : EV} {s U : State} (hW : s.WarmedH U.vm) (h : KK E s) : KK E U :=
  ⟨va_K.moved hW.alike h.1, h.2.1.warm hW, fun C hC => va_AO.moved hW.alike (h.2.2.1 C hC), fun q hq => vk_R.warm hW (h.2.2.2 q hq)⟩
theorem KK.same {E : EV} {s U : State} (hv : s.vm = U.vm) (h : KK E s) : KK E U :=
  ⟨va_K.moved (hv ▸ Vm.Alike.refl s.vm) h.1, h.2.1.same hv, fun C hC => va_AO.moved (hv ▸ Vm.Alike.refl s.vm) (h.2.2.1 C hC), fun q hq => vk_R.same hv.symm (h.2.2.2 q hq)⟩
/-- the fixed things of a walk: program, launch, environment, room, start, method, arguments, what is below, method's row, code, own cells, aim -/
abbrev XT : Type := Program × Launch × Env × Room × State × MethodId × Array Value × List Frame × Method × Code × (Nat → Prop) × (State → Prop)
def WW (X : XT) (nL : Nat) (E : EV) (pc : Nat) (lv : List (Nat × Value)) (st : List Value) (ws : va_W) (k n : Nat) : Prop :=
  ∀ (H : Heap) (locs : List Loc) (ls : Array Slot), va_P E.1 vwCl ws H → va_D X.2.2.2.2.2.2.2.2.2.2.1 ws → va_S X.2.2.2.2.2.2.2.2.2.2.1 X.2.2.2.2.1.heap H locs → lv_has ls nL lv →
    W X.1 X.2.1 X.2.2.1 X.2.2.2.1 X.2.2.2.2.1 X.2.2.2.2.2.1 X.2.2.2.2.2.2.1 X.2.2.2.2.2.2.2.1 X.2.2.2.2.2.2.2.2.1 X.2.2.2.2.2.2.2.2.2.1 H locs k n X.2.2.2.2.2.2.2.2.2.2.2 (F0 X.2.2.2.2.2.1 pc ls st)
/-- what is known of them -/
def CX (X : XT) (rm : Room) (cc : ByteArray) (nL : Nat) (own : String) (ret : Option FieldType) (E : EV) : Prop :=
  X.1.tables.exec = Jvm.exec ∧ X.2.2.2.2.2.2.2.2.2.1.code = cc ∧ X.2.2.2.2.2.2.2.2.2.1.maxLocals = nL ∧ X.2.2.2.2.1.vm.findClass own = some X.2.2.2.2.2.1.cls ∧ (∀ w ∈ TB, w.before X.2.2.2.2.2.2.1 X.2.2.2.2.1 = true) ∧
  KK E X.2.2.2.2.1 ∧ (∀ q : Nat, X.2.2.2.2.1.heap.size ≤ q → X.2.2.2.2.2.2.2.2.2.2.1 q) ∧ X.2.2.2.2.2.2.2.2.1.sig.returnType = ret ∧ X.2.2.2.2.2.2.2.2.1.locks = false ∧ X.2.2.2.1 = rm
/-- the aim of a method's walk: its contract's end -/
def RT (X : XT) (Qf : (Nat → Prop) → Array Value → State → Outcome → State → Prop) (mc ms : Nat) : Prop :=
  X.2.2.2.2.2.2.2.2.2.2.2 = MQ X.2.2.2.2.2.2.2.1 (Qf X.2.2.2.2.2.2.2.2.2.2.1) X.2.2.2.2.2.2.1 X.2.2.2.2.1 mc ms X.2.2.2.2.2.2.2.2.2.2.1
def at0 (E : EV) (A : Nat → Prop) (u : va_W) (t : State) : Prop := va_P E.1 vwCl u t.heap ∧ va_D A u
abbrev Qi (E : EV) (post : Int32 → va_W → Prop) (A : Nat → Prop) : Array Value → State → Outcome → State → Prop := va_Qi post (at0 E A) A
abbrev Ql (E : EV) (post : Int64 → va_W → Prop) (A : Nat → Prop) : Array Value → State → Outcome → State → Prop := va_Ql post (at0 E A) A
abbrev Qv (E : EV) (post : va_W → Prop) (A : Nat → Prop) : Array Value → State → Outcome → State → Prop := va_Qv post (at0 E A) A
abbrev Qq (E : EV) (post : Option Nat → va_W → Prop) (A : Nat → Prop) : Array Value → State → Outcome → State → Prop := va_Qq post (at0 E A) A
/-- a contract: from the arguments av and the world w0 -/
def CT (l : Launch) (y : MethodName) (ws : List Cond) (rm : Room) (E : EV) (av : List Value) (w0 : va_W) (Qf : (Nat → Prop) → Array Value → State → Outcome → State → Prop) (mc ms : Nat) : Prop :=
  ∀ sz : Nat, Met l y ws rm (va_Pc av (fun U => U.heap.size = sz ∧ va_P E.1 vwCl w0 U.heap ∧ KK E U ∧ va_D (fun _ => True) w0)) (Qf (va_A w0 sz)) mc ms (va_A w0 sz)
theorem ct_of {l : Launch} {y : MethodName} {rm : Room} {E : EV} {av : List Value} {w0 : va_W} {Qf : (Nat → Prop) → Array Value → State → Outcome → State → Prop} {mc ms : Nat} {cc : ByteArray} {maxL : Nat} {ret : Option FieldType}
    (hy : plainName y.cls = true) (hlen : Nat.ble (lg_sl av).length maxL = true)
    (body : ∀ X : XT, CX X rm cc maxL y.cls ret E → RT X Qf mc ms → X.2.2.2.2.2.2.2.2.1.name = y.name → WW X maxL E 0 (lv_args 0 av) [] w0 0 0) : CT l y (Cond.code y cc maxL ret :: TB) rm E av w0 Qf mc ms := by
  intro sz
  refine Met.ofW (cc := cc) (maxL := maxL) (ret := ret) hy rfl ?_
  intro p e s m args below meth c s₁ B hml hv
  obtain ⟨rfl, hsz, hP, hK, hD0⟩ := hv
  subst hsz
  have hD := hD0.self (sz := s.heap.size)
  have hl := lv_entry av (n := maxL) (Nat.le_of_ble_eq_true hlen)
  rw [lg_entry_eq]
  exact body (p, l, e, (headSpec (Cond.code y cc maxL ret :: TB) rm).room, s, m, av.toArray, below, meth, c, va_A w0 s.heap.size, MQ below (Qf (va_A w0 s.heap.size)) av.toArray s mc ms (va_A w0 s.heap.size))
    ⟨B.exec, B.bytes, hml, findClass_of_methodNamed B.named, fun w hw => atoms_spec (ws := Cond.code y cc maxL ret :: TB) B.pre w (List.mem_cons_of_mem _ hw), hK, fun q h => Or.inr h, B.returns, B.notSynchronized, rfl⟩ rfl (name_of_methodNamed B.named B.method).1
    s.heap [] _ hP hD va_S.rf hl

-- ROWS
theorem fm_of {ws wc : va_W} {is : List Nat} (h : is.map (fun i => ws[i]?) = wc.map some) : is.filterMap (fun i => ws[i]?) = wc := by
  have h1 : (is.map (fun i => ws[i]?)).filterMap id = is.filterMap (fun i => ws[i]?) := by
    rw [List.filterMap_map]; rfl
  rw [← h1, h, List.filterMap_map]
  simp
def NoMH (y : MethodName) (n : Nat) : Prop := y.cls ≠ "java/lang/invoke/MethodHandle" ∧ y.cls ≠ "java/lang/invoke/VarHandle" ∧ (parseMethodDescriptor y.desc).map (fun d => d.parameters.length) = some n
def MI (y : MethodName) (bytes : ByteArray) (maxL : Nat) (rt : Option FieldType) (n : Nat) : Prop := Cond.code y bytes maxL rt ∈ TB ∧ Cond.initialized y.cls ∈ TB ∧ NoMH y n ∧ Cond.instanceMethod y ∈ TB ∧ Cond.selects y.cls y y ∈ TB
def MS (y : MethodName) (bytes : ByteArray) (maxL : Nat) (rt : Option FieldType) (n : Nat) : Prop := Cond.code y bytes maxL rt ∈ TB ∧ Cond.initialized y.cls ∈ TB ∧ NoMH y n ∧ Cond.static y ∈ TB
def MN (y : MethodName) (bytes : ByteArray) (maxL : Nat) (n : Nat) : Prop := Cond.code y bytes maxL none ∈ TB ∧ Cond.initialized y.cls ∈ TB ∧ NoMH y n ∧ Cond.instanceMethod y ∈ TB ∧ y.name = "<init>"
def RunOf (X : XT) (nL : Nat) (E : EV) (pc : Nat) (st rest : List Value) (wc : va_W) (Qf : (Nat → Prop) → Array Value → State → Outcome → State → Prop) (av : List Value) (mc ms : Nat) : Prop :=
  ∀ (H : Heap) (locs : List Loc) (ls : Array Slot) (k n : Nat), va_P E.1 vwCl wc H → va_D (fun _ => True) wc → ls.size = nL → k + mc ≤ X.2.2.2.1.cells → n + ms ≤ X.2.2.2.1.slots →
    va_Run X.1 X.2.1 X.2.2.1 X.2.2.2.1 X.2.2.2.2.1 X.2.2.2.2.2.1 X.2.2.2.2.2.2.1 X.2.2.2.2.2.2.2.1 X.2.2.2.2.2.2.2.2.1 X.2.2.2.2.2.2.2.2.2.1 H locs k n mc ms (F0 X.2.2.2.2.2.1 pc ls st) rest (Qf (va_A wc H.size) av.toArray) (va_A wc H.size)
/-- the rooms of a call fit -/
def RmOk (rm rm2 : Room) (maxL mc ms : Nat) : Bool := Nat.ble (rm2.frames + 1) rm.frames && (Nat.ble (8 + (maxL + 11) + rm2.locals) rm.locals && (Nat.beq rm2.cells mc && Nat.beq rm2.slots ms))
theorem RmOk.use {rm rm2 : Room} {maxL mc ms : Nat} (h : RmOk rm rm2 maxL mc ms = true) : rm2.frames + 1 ≤ rm.frames ∧ 8 + (maxL + 11) + rm2.locals ≤ rm.locals ∧ rm2.cells = mc ∧ rm2.slots = ms := by
  simp only [RmOk, Bool.and_eq_true] at h
  exact ⟨Nat.le_of_ble_eq_true h.1, Nat.le_of_ble_eq_true h.2.1, Nat.eq_of_beq_eq_true h.2.2.1, Nat.eq_of_beq_eq_true h.2.2.2⟩
theorem blind0 {E : EV} {av : List Value} {w0 : va_W} {sz : Nat} : FrameBlind (va_Pc av (fun U => U.heap.size = sz ∧ va_P E.1 vwCl w0 U.heap ∧ KK E U ∧ va_D (fun _ => True) w0)) := by
  intro a U g mk q
  obtain ⟨q0, q1, qP, qK, qD⟩ := q
  exact ⟨q0, q1, qP, KK.same (s := U) (U := U.calling g mk a) rfl qK, qD⟩
section RUN
variable {X : XT} {rm : Room} {cc : ByteArray} {nL : Nat} {own : String} {ret : Option FieldType} {E : EV} {pc : Nat} {lv : List (Nat × Value)} {st rest : List Value} {ws : va_W} {k n : Nat}
variable {y : MethodName} {bytes : ByteArray} {maxL mc ms na idx : Nat} {rt : Option FieldType} {rm2 : Room} {As : List Value} {b : Nat} {wc : va_W} {Qf : (Nat → Prop) → Array Value → State → Outcome → State → Prop}
theorem run_V (C : CX X rm cc nL own ret E) (hM : CT X.2.1 y (Cond.code y bytes maxL rt :: TB) rm2 E (.ref b :: As) wc Qf mc ms) (hI : MI y bytes maxL rt na) (hl : Cond.methodLink own idx y ∈ TB) (hR : RmOk rm rm2 maxL mc ms = true)
    (q0 ci : Nat) {fs : List Value} {T : u_T} {Nf : Nat} (hq : wc[q0]? = some (b, .inr (ci, fs))) (hc : vwCl[ci]? = some (y.cls, T, Nf)) (hn : As.length = na) (hst : st = As.reverse ++ .ref b :: rest) (hW : Nat.ble (rest.map fun v => v.category).sum 8 = true) (hd : decode cc pc = .ok (.invokevirtual idx, 3)) :
    RunOf X nL E pc st rest wc Qf (.ref b :: As) mc ms := by
  intro H locs ls k n hP hD hsz hk hs
  obtain ⟨p, l, e, R, s, m, args, below, meth, c, A, Q⟩ := X
  obtain ⟨hx, hb, hml, hown, hts, hK, hA, hr, hlk, hrm⟩ := C
  dsimp only at *
  subst hrm
  obtain ⟨r1, r2, r3, r4⟩ := RmOk.use hR
  obtain ⟨i1, i2, i3, i4, i5⟩ := hI
  have hG : GoodIn TB (Cond.code y bytes maxL rt :: TB) := tbG (fun _ h => h) (fun w h => (List.mem_cons.mp h).elim (fun e => e ▸ i1) id)
  have cw : CallW R s args own y.cls idx y bytes maxL rt (Cond.code y bytes maxL rt :: TB) rm2 mc ms na := ⟨callB_of na hts hG rfl r3 r4 (hts _ i2) (hts _ hl) i3 ⟨r1, r2⟩, hts _ i4, hts _ i5⟩
  exact va_runV (Ts := TB) ⟨hx, hb, hml, hown, hts⟩ (hM H.size) cw ⟨blind0, va_recv hK.1 hP hc hq, fun U hU hW' => ⟨rfl, by rw [hU], by rw [hU]; exact hP, KK.warm hW' hK, hD⟩⟩ rfl hn hsz hst (lv_room (Nat.le_of_ble_eq_true hW)) hd ⟨hk, hs⟩
theorem run_S (C : CX X rm cc nL own ret E) (hM : CT X.2.1 y (Cond.code y bytes maxL rt :: TB) rm2 E As wc Qf mc ms) (hI : MS y bytes maxL rt na) (hl : Cond.methodLink own idx y ∈ TB) (hR : RmOk rm rm2 maxL mc ms = true)
    (hn : As.length = na) (hst : st = As.reverse ++ rest) (hW : Nat.ble (rest.map fun v => v.category).sum 8 = true) (hd : decode cc pc = .ok (.invokestatic idx, 3)) :
    RunOf X nL E pc st rest wc Qf As mc ms := by
  intro H locs ls k n hP hD hsz hk hs
  obtain ⟨p, l, e, R, s, m, args, below, meth, c, A, Q⟩ := X
  obtain ⟨hx, hb, hml, hown, hts, hK, hA, hr, hlk, hrm⟩ := C
  dsimp only at *
  subst hrm
  obtain ⟨r1, r2, r3, r4⟩ := RmOk.use hR
  obtain ⟨i1, i2, i3, i4⟩ := hI
  have hG : GoodIn TB (Cond.code y bytes maxL rt :: TB) := tbG (fun _ h => h) (fun w h => (List.mem_cons.mp h).elim (fun e => e ▸ i1) id)
  have cw : CallB R s args own idx y bytes maxL rt (Cond.code y bytes maxL rt :: TB) rm2 mc ms na ∧ (Cond.static y).before args s = true := ⟨callB_of na hts hG rfl r3 r4 (hts _ i2) (hts _ hl) i3 ⟨r1, r2⟩, hts _ i4⟩
  exact va_runS (Ts := TB) ⟨hx, hb, hml, hown, hts⟩ (hM H.size) cw ⟨blind0, fun U hU hW' => ⟨rfl, by rw [hU], by rw [hU]; exact hP, KK.warm hW' hK, hD⟩⟩ rfl hn hsz hst (lv_room (Nat.le_of_ble_eq_true hW)) hd ⟨hk, hs⟩
theorem run_I (C : CX X rm cc nL own ret E) (hM : CT X.2.1 y (Cond.code y bytes maxL none :: TB) rm2 E (.ref b :: As) wc Qf mc ms) (hI : MN y bytes maxL na) (hl : Cond.methodLink own idx y ∈ TB) (hR : RmOk rm rm2 maxL mc ms = true)
    (hn : As.length = na) (hst : st = As.reverse ++ .ref b :: rest) (hW : Nat.ble (rest.map fun v => v.category).sum 8 = true) (hd : decode cc pc = .ok (.invokespecial idx, 3)) :
    RunOf X nL E pc st rest wc Qf (.ref b :: As) mc ms := by
  intro H locs ls k n hP hD hsz hk hs
  obtain ⟨p, l, e, R, s, m, args, below, meth, c, A, Q⟩ := X
  obtain ⟨hx, hb, hml, hown, hts, hK, hA, hr, hlk, hrm⟩ := C
  dsimp only at *
  subst hrm
  obtain ⟨r1, r2, r3, r4⟩ := RmOk.use hR
  obtain ⟨i1, i2, i3, i4, i5⟩ := hI
  have hG : GoodIn TB (Cond.code y bytes maxL none :: TB) := tbG (fun _ h => h) (fun w h => (List.mem_cons.mp h).elim (fun e => e ▸ i1) id)
  exact va_runI (Ts := TB) ⟨hx, hb, hml, hown, hts⟩ (hM H.size) ⟨callB_of na hts hG rfl r3 r4 (hts _ i2) (hts _ hl) i3 ⟨r1, r2⟩, i5, hts _ i4⟩ ⟨blind0, fun U hU hW' => ⟨rfl, by rw [hU], by rw [hU]; exact hP, KK.warm hW' hK, hD⟩⟩ rfl hn hsz hst (lv_room (Nat.le_of_ble_eq_true hW)) hd ⟨hk, hs⟩
theorem run_IN {host : String} (C : CX X rm cc nL own ret E) (hM : CT X.2.1 y (Cond.code y bytes maxL none :: TB) rm2 E (.ref b :: As) wc Qf mc ms) (hI : MN y bytes maxL na) (hl : Cond.methodLinkNest own idx y host ∈ kkN) (hR : RmOk rm rm2 maxL mc ms = true)
    (hn : As.length = na) (hst : st = As.reverse ++ .ref b :: rest) (hW : Nat.ble (rest.map fun v => v.category).sum 8 = true) (hd : decode cc pc = .ok (.invokespecial idx, 3)) :
    RunOf X nL E pc st rest wc Qf (.ref b :: As) mc ms := by
  intro H locs ls k n hP hD hsz hk hs
  obtain ⟨p, l, e, R, s, m, args, below, meth, c, A, Q⟩ := X
  obtain ⟨hx, hb, hml, hown, hts, hK, hA, hr, hlk, hrm⟩ := C
  dsimp only at *
  subst hrm
  obtain ⟨r1, r2, r3, r4⟩ := RmOk.use hR
  obtain ⟨i1, i2, i3, i4, i5⟩ := hI
  have hG : GoodIn TB (Cond.code y bytes maxL none :: TB) := tbG (fun _ h => h) (fun w h => (List.mem_cons.mp h).elim (fun e => e ▸ i1) id)
  exact va_runIN (Ts := TB) ⟨hx, hb, hml, hown, hts⟩ (hM H.size) ⟨va_cnB na hts hG rfl r3 r4 (hK.2.1 _ hl) (hts _ i2) i3 ⟨r1, r2⟩, i5, hts _ i4⟩ ⟨blind0, fun U hU hW' => ⟨rfl, by rw [hU], by rw [hU]; exact hP, KK.warm hW' hK, hD⟩⟩ rfl hn hsz hst (lv_room (Nat.le_of_ble_eq_true hW)) hd ⟨hk, hs⟩
theorem run_SN {host : String} (C : CX X rm cc nL own ret E) (hM : CT X.2.1 y (Cond.code y bytes maxL rt :: TB) rm2 E As wc Qf mc ms) (hI : MS y bytes maxL rt na) (hl : Cond.methodLinkNest own idx y host ∈ kkN) (hR : RmOk rm rm2 maxL mc ms = true)
    (hn : As.length = na) (hst : st = As.reverse ++ rest) (hW : Nat.ble (rest.map fun v => v.category).sum 8 = true) (hd : decode cc pc = .ok (.invokestatic idx, 3)) :
    RunOf X nL E pc st rest wc Qf As mc ms := by
  intro H locs ls k n hP hD hsz hk hs
  obtain ⟨p, l, e, R, s, m, args, below, meth, c, A, Q⟩ := X
  obtain ⟨hx, hb, hml, hown, hts, hK, hA, hr, hlk, hrm⟩ := C
  dsimp only at *
  subst hrm
  obtain ⟨r1, r2, r3, r4⟩ := RmOk.use hR
  obtain ⟨i1, i2, i3, i4⟩ := hI
  have hG : GoodIn TB (Cond.code y bytes maxL rt :: TB) := tbG (fun _ h => h) (fun w h => (List.mem_cons.mp h).elim (fun e => e ▸ i1) id)
  exact va_runSN (Ts := TB) ⟨hx, hb, hml, hown, hts⟩ (hM H.size) ⟨va_cnB na hts hG rfl r3 r4 (hK.2.1 _ hl) (hts _ i2) i3 ⟨r1, r2⟩, hts _ i4, trivial⟩ ⟨blind0, fun U hU hW' => ⟨rfl, by rw [hU], by rw [hU]; exact hP, KK.warm hW' hK, hD⟩⟩ rfl hn hsz hst (lv_room (Nat.le_of_ble_eq_true hW)) hd ⟨hk, hs⟩
/-- places: apart, and the two lists have none in common -/
def plOk (isC isR : List Nat) : Bool := va_nd isC && (va_nd isR && isR.all (fun i => isC.all (fun j => !(Nat.beq i j))))
theorem plOk.use {isC isR : List Nat} (h : plOk isC isR = true) : va_nd isC = true ∧ va_nd isR = true ∧ ∀ i ∈ isR, i ∉ isC := by
  simp only [plOk, Bool.and_eq_true] at h
  refine ⟨h.1, h.2.1, fun i hi hj => ?_⟩
  have h1 := List.all_eq_true.mp (List.all_eq_true.mp h.2.2 i hi) i hj
  simp at h1
/-- cells and slots behind a call -/
def cnOk (rm : Room) (k n mc ms k' n' : Nat) : Bool := Nat.ble (k + mc) k' && (Nat.ble (n + ms) n' && (Nat.ble k' rm.cells && Nat.ble n' rm.slots))
theorem cnOk.use {rm : Room} {k n mc ms k' n' : Nat} (h : cnOk rm k n mc ms k' n' = true) : k + mc ≤ k' ∧ n + ms ≤ n' ∧ k' ≤ rm.cells ∧ n' ≤ rm.slots := by
  simp only [cnOk, Bool.and_eq_true] at h
  exact ⟨Nat.le_of_ble_eq_true h.1, Nat.le_of_ble_eq_true h.2.1, Nat.le_of_ble_eq_true h.2.2.1, Nat.le_of_ble_eq_true h.2.2.2⟩
variable {wr : va_W} {av : List Value} {k' n' : Nat}
theorem ww_ci {post : Int32 → va_W → Prop} (C : CX X rm cc nL own ret E) (hr : RunOf X nL E pc st rest wc (Qi E post) av mc ms) (isC isR : List Nat) (hC : isC.map (fun i => ws[i]?) = wc.map some) (hR : isR.map (fun i => ws[i]?) = wr.map some) (hnd : plOk isC isR = true) (hk : cnOk rm k n mc ms k' n' = true)
    (kk : ∀ (r : Int32) (u : va_W), post r u → WW X nL E (pc + 3) lv (.int r :: rest) (wr ++ u) k' n') : WW X nL E pc lv st ws k n := by
  intro H locs ls hP hD hS hl
  obtain ⟨p, l, e, R, s, m, args, below, meth, c, A, Q⟩ := X
  obtain ⟨hx, hb, hml, hown, hts, hK, hA, hr', hlk, hrm⟩ := C
  dsimp only at *
  subst hrm
  obtain ⟨n1, n2, n3⟩ := plOk.use hnd
  obtain ⟨k1, k2, k3, k4⟩ := cnOk.use hk
  have hPc := hP.sub isC (fm_of hC)
  have hDc := (hD.sub isC n1 hC).weaken (B := fun _ => True) (fun _ _ _ _ => trivial)
  have hFc := va_free hD hS hA isC hC
  refine va_calli (hr H locs ls k n hPc hDc hl.1 (Nat.le_trans k1 k3) (Nat.le_trans k2 k4)) hS (fun q _ h => hFc q h) hFc (fun r u t H1 locs1 ht hvm hw hB hz1 hk1 hS1 => ?_)
  obtain ⟨hP1, hD1⟩ := hB
  rw [ht] at hP1
  obtain ⟨hP2, hD2⟩ := va_join hP hD isC isR hC hR n2 n3 hk1 hFc hP1 hD1
  exact W.widen k1 k2 (kk r u hw H1 locs1 ls hP2 hD2 hS1 hl)
theorem ww_cl {post : Int64 → va_W → Prop} (C : CX X rm cc nL own ret E) (hr : RunOf X nL E pc st rest wc (Ql E post) av mc ms) (isC isR : List Nat) (hC : isC.map (fun i => ws[i]?) = wc.map some) (hR : isR.map (fun i => ws[i]?) = wr.map some) (hnd : plOk isC isR = true) (hk : cnOk rm k n mc ms k' n' = true)
    (kk : ∀ (r : Int64) (u : va_W), post r u → WW X nL E (pc + 3) lv (.long r :: rest) (wr ++ u) k' n') : WW X nL E pc lv st ws k n := by
  intro H locs ls hP hD hS hl
  obtain ⟨p, l, e, R, s, m, args, below, meth, c, A, Q⟩ := X
  obtain ⟨hx, hb, hml, hown, hts, hK, hA, hr', hlk, hrm⟩ := C
  dsimp only at *
  subst hrm
  obtain ⟨n1, n2, n3⟩ := plOk.use hnd
  obtain ⟨k1, k2, k3, k4⟩ := cnOk.use hk
  have hPc := hP.sub isC (fm_of hC)
  have hDc := (hD.sub isC n1 hC).weaken (B := fun _ => True) (fun _ _ _ _ => trivial)
  have hFc := va_free hD hS hA isC hC
  refine va_calll (hr H locs ls k n hPc hDc hl.1 (Nat.le_trans k1 k3) (Nat.le_trans k2 k4)) hS (fun q _ h => hFc q h) hFc (fun r u t H1 locs1 ht hvm hw hB hz1 hk1 hS1 => ?_)
  obtain ⟨hP1, hD1⟩ := hB
  rw [ht] at hP1
  obtain ⟨hP2, hD2⟩ := va_join hP hD isC isR hC hR n2 n3 hk1 hFc hP1 hD1
  exact W.widen k1 k2 (kk r u hw H1 locs1 ls hP2 hD2 hS1 hl)
theorem ww_cv {post : va_W → Prop} (C : CX X rm cc nL own ret E) (hr : RunOf X nL E pc st rest wc (Qv E post) av mc ms) (isC isR : List Nat) (hC : isC.map (fun i => ws[i]?) = wc.map some) (hR : isR.map (fun i => ws[i]?) = wr.map some) (hnd : plOk isC isR = true) (hk : cnOk rm k n mc ms k' n' = true)
    (kk : ∀ (u : va_W), post u → WW X nL E (pc + 3) lv rest (wr ++ u) k' n') : WW X nL E pc lv st ws k n := by
  intro H locs ls hP hD hS hl
  obtain ⟨p, l, e, R, s, m, args, below, meth, c, A, Q⟩ := X
  obtain ⟨hx, hb, hml, hown, hts, hK, hA, hr', hlk, hrm⟩ := C
  dsimp only at *
  subst hrm
  obtain ⟨n1, n2, n3⟩ := plOk.use hnd
  obtain ⟨k1, k2, k3, k4⟩ := cnOk.use hk
  have hPc := hP.sub isC (fm_of hC)
  have hDc := (hD.sub isC n1 hC).weaken (B := fun _ => True) (fun _ _ _ _ => trivial)
  have hFc := va_free hD hS hA isC hC
  refine va_callv (hr H locs ls k n hPc hDc hl.1 (Nat.le_trans k1 k3) (Nat.le_trans k2 k4)) hS (fun q _ h => hFc q h) hFc (fun u t H1 locs1 ht hvm hw hB hz1 hk1 hS1 => ?_)
  obtain ⟨hP1, hD1⟩ := hB
  rw [ht] at hP1
  obtain ⟨hP2, hD2⟩ := va_join hP hD isC isR hC hR n2 n3 hk1 hFc hP1 hD1
  exact W.widen k1 k2 (kk u hw H1 locs1 ls hP2 hD2 hS1 hl)
theorem ww_cq {post : Option Nat → va_W → Prop} (C : CX X rm cc nL own ret E) (hr : RunOf X nL E pc st rest wc (Qq E post) av mc ms) (isC isR : List Nat) (hC : isC.map (fun i => ws[i]?) = wc.map some) (hR : isR.map (fun i => ws[i]?) = wr.map some) (hnd : plOk isC isR = true) (hk : cnOk rm k n mc ms k' n' = true)
    (kk : ∀ (r : Option Nat) (u : va_W), post r u → WW X nL E (pc + 3) lv (va_rf r :: rest) (wr ++ u) k' n') : WW X nL E pc lv st ws k n := by
  intro H locs ls hP hD hS hl
  obtain ⟨p, l, e, R, s, m, args, below, meth, c, A, Q⟩ := X
  obtain ⟨hx, hb, hml, hown, hts, hK, hA, hr', hlk, hrm⟩ := C
  dsimp only at *
  subst hrm
  obtain ⟨n1, n2, n3⟩ := plOk.use hnd
  obtain ⟨k1, k2, k3, k4⟩ := cnOk.use hk
  have hPc := hP.sub isC (fm_of hC)
  have hDc := (hD.sub isC n1 hC).weaken (B := fun _ => True) (fun _ _ _ _ => trivial)
  have hFc := va_free hD hS hA isC hC
  refine va_callq (hr H locs ls k n hPc hDc hl.1 (Nat.le_trans k1 k3) (Nat.le_trans k2 k4)) hS (fun q _ h => hFc q h) hFc (fun r u t H1 locs1 ht hvm hw hB hz1 hk1 hS1 => ?_)
  obtain ⟨hP1, hD1⟩ := hB
  rw [ht] at hP1
  obtain ⟨hP2, hD2⟩ := va_join hP hD isC isR hC hR n2 n3 hk1 hFc hP1 hD1
  exact W.widen k1 k2 (kk r u hw H1 locs1 ls hP2 hD2 hS1 hl)
end RUN
end
section
section ROW
variable {X : XT} {rm : Room} {cc : ByteArray} {nL : Nat} {own : String} {ret : Option FieldType} {E : EV} {pc : Nat} {lv : List (Nat × Value)} {st : List Value} {ws : va_W} {k n : Nat}
theorem ww_iconst (C : CX X rm cc nL own ret E) {z : Int} {v : Int32} (hd : decode cc pc = .ok (.iconst z, 1)) (hv : Int32.ofInt z = v) (kk : WW X nL E (pc + 1) lv (.int v :: st) ws k n) : WW X nL E pc lv st ws k n :=
  fun H locs ls hP hD hS hl => lv_iconst C.1 C.2.1 hd hv (kk H locs ls hP hD hS hl)
theorem ww_bipush (C : CX X rm cc nL own ret E) {z : Int} {v : Int32} (hd : decode cc pc = .ok (.bipush z, 2)) (hv : (Int8.ofInt z).toInt32 = v) (kk : WW X nL E (pc + 2) lv (.int v :: st) ws k n) : WW X nL E pc lv st ws k n :=
  fun H locs ls hP hD hS hl => lv_bipush C.1 C.2.1 hd hv (kk H locs ls hP hD hS hl)
theorem ww_sipush (C : CX X rm cc nL own ret E) {z : Int} {v : Int32} (hd : decode cc pc = .ok (.sipush z, 3)) (hv : (Int16.ofInt z).toInt32 = v) (kk : WW X nL E (pc + 3) lv (.int v :: st) ws k n) : WW X nL E pc lv st ws k n :=
  fun H locs ls hP hD hS hl => lv_sipush C.1 C.2.1 hd hv (kk H locs ls hP hD hS hl)
theorem ww_lconst (C : CX X rm cc nL own ret E) {z : Fin 2} {v : Int64} (hd : decode cc pc = .ok (.lconst z, 1)) (hv : Int64.ofNat (z : Nat) = v) (kk : WW X nL E (pc + 1) lv (.long v :: st) ws k n) : WW X nL E pc lv st ws k n :=
  fun H locs ls hP hD hS hl => lv_lconst C.1 C.2.1 hd hv (kk H locs ls hP hD hS hl)
theorem ww_null (C : CX X rm cc nL own ret E) (hd : decode cc pc = .ok (.aconst_null, 1)) (kk : WW X nL E (pc + 1) lv (.null :: st) ws k n) : WW X nL E pc lv st ws k n :=
  fun H locs ls hP hD hS hl => lv_null C.1 C.2.1 hd (kk H locs ls hP hD hS hl)
theorem ww_iload_n (C : CX X rm cc nL own ret E) {f : Fin 4} {i : Nat} {x : Int32} (hd : decode cc pc = .ok (.iload_n f, 1)) (j : Nat) (hi : (f : Nat) = i) (hj : lv[j]? = some (i, .int x)) (kk : WW X nL E (pc + 1) lv (.int x :: st) ws k n) : WW X nL E pc lv st ws k n :=
  fun H locs ls hP hD hS hl => lv_iload_n C.1 C.2.1 hd hi (lv_at hl j hj) (kk H locs ls hP hD hS hl)
theorem ww_iload (C : CX X rm cc nL own ret E) {i : Nat} {x : Int32} (hd : decode cc pc = .ok (.iload i, 2)) (j : Nat) (hj : lv[j]? = some (i, .int x)) (kk : WW X nL E (pc + 2) lv (.int x :: st) ws k n) : WW X nL E pc lv st ws k n :=
  fun H locs ls hP hD hS hl => lv_iload C.1 C.2.1 hd (lv_at hl j hj) (kk H locs ls hP hD hS hl)
theorem ww_lload_n (C : CX X rm cc nL own ret E) {f : Fin 4} {i : Nat} {x : Int64} (hd : decode cc pc = .ok (.lload_n f, 1)) (j : Nat) (hi : (f : Nat) = i) (hj : lv[j]? = some (i, .long x)) (kk : WW X nL E (pc + 1) lv (.long x :: st) ws k n) : WW X nL E pc lv st ws k n :=
  fun H locs ls hP hD hS hl => lv_lload_n C.1 C.2.1 hd hi (lv_at hl j hj) (kk H locs ls hP hD hS hl)
theorem ww_lload (C : CX X rm cc nL own ret E) {i : Nat} {x : Int64} (hd : decode cc pc = .ok (.lload i, 2)) (j : Nat) (hj : lv[j]? = some (i, .long x)) (kk : WW X nL E (pc + 2) lv (.long x :: st) ws k n) : WW X nL E pc lv st ws k n :=
  fun H locs ls hP hD hS hl => lv_lload C.1 C.2.1 hd (lv_at hl j hj) (kk H locs ls hP hD hS hl)
theorem ww_aload_n (C : CX X rm cc nL own ret E) {f : Fin 4} {i : Nat} {x : Nat} (hd : decode cc pc = .ok (.aload_n f, 1)) (j : Nat) (hi : (f : Nat) = i) (hj : lv[j]? = some (i, .ref x)) (kk : WW X nL E (pc + 1) lv (.ref x :: st) ws k n) : WW X nL E pc lv st ws k n :=
  fun H locs ls hP hD hS hl => lv_aload_n C.1 C.2.1 hd hi (lv_at hl j hj) (kk H locs ls hP hD hS hl)
theorem ww_aload (C : CX X rm cc nL own ret E) {i : Nat} {x : Nat} (hd : decode cc pc = .ok (.aload i, 2)) (j : Nat) (hj : lv[j]? = some (i, .ref x)) (kk : WW X nL E (pc + 2) lv (.ref x :: st) ws k n) : WW X nL E pc lv st ws k n :=
  fun H locs ls hP hD hS hl => lv_aload C.1 C.2.1 hd (lv_at hl j hj) (kk H locs ls hP hD hS hl)
theorem ww_aload_nN (C : CX X rm cc nL own ret E) {f : Fin 4} {i : Nat} (hd : decode cc pc = .ok (.aload_n f, 1)) (j : Nat) (hi : (f : Nat) = i) (hj : lv[j]? = some (i, .null)) (kk : WW X nL E (pc + 1) lv (.null :: st) ws k n) : WW X nL E pc lv st ws k n :=
  fun H locs ls hP hD hS hl => lv_aload_nN C.1 C.2.1 hd hi (lv_at hl j hj) (kk H locs ls hP hD hS hl)
theorem ww_aloadN (C : CX X rm cc nL own ret E) {i : Nat} (hd : decode cc pc = .ok (.aload i, 2)) (j : Nat) (hj : lv[j]? = some (i, .null)) (kk : WW X nL E (pc + 2) lv (.null :: st) ws k n) : WW X nL E pc lv st ws k n :=
  fun H locs ls hP hD hS hl => lv_aloadN C.1 C.2.1 hd (lv_at hl j hj) (kk H locs ls hP hD hS hl)
theorem ww_istore_n (C : CX X rm cc nL own ret E) {f : Fin 4} {i : Nat} {x : Int32} {lv' : List (Nat × Value)} (hd : decode cc pc = .ok (.istore_n f, 1)) (hi : (f : Nat) = i) (hn : Nat.blt i nL = true) (hv : (i, Value.int x) :: lv.filter (fun q => !(q.1 == i) && !(q.1 + 1 == i && q.2.category == 2)) = lv') (kk : WW X nL E (pc + 1) lv' st ws k n) : WW X nL E pc lv (.int x :: st) ws k n :=
  fun H locs ls hP hD hS hl => lv_istore_n C.1 C.2.1 hd hi hl (Nat.le_of_ble_eq_true hn) hv (fun ls hl => kk H locs ls hP hD hS hl)
theorem ww_istore (C : CX X rm cc nL own ret E) {i : Nat} {x : Int32} {lv' : List (Nat × Value)} (hd : decode cc pc = .ok (.istore i, 2)) (hn : Nat.blt i nL = true) (hv : (i, Value.int x) :: lv.filter (fun q => !(q.1 == i) && !(q.1 + 1 == i && q.2.category == 2)) = lv') (kk : WW X nL E (pc + 2) lv' st ws k n) : WW X nL E pc lv (.int x :: st) ws k n :=
  fun H locs ls hP hD hS hl => lv_istore C.1 C.2.1 hd hl (Nat.le_of_ble_eq_true hn) hv (fun ls hl => kk H locs ls hP hD hS hl)
theorem ww_lstore_n (C : CX X rm cc nL own ret E) {f : Fin 4} {i : Nat} {x : Int64} {lv' : List (Nat × Value)} (hd : decode cc pc = .ok (.lstore_n f, 1)) (hi : (f : Nat) = i) (hn : Nat.blt (i + 1) nL = true) (hv : (i, Value.long x) :: lv.filter (fun q => !(q.1 == i) && (!(q.1 == i + 1) && !(q.1 + 1 == i && q.2.category == 2))) = lv') (kk : WW X nL E (pc + 1) lv' st ws k n) : WW X nL E pc lv (.long x :: st) ws k n :=
  fun H locs ls hP hD hS hl => lv_lstore_n C.1 C.2.1 hd hi hl (Nat.le_of_ble_eq_true hn) hv (fun ls hl => kk H locs ls hP hD hS hl)
theorem ww_lstore (C : CX X rm cc nL own ret E) {i : Nat} {x : Int64} {lv' : List (Nat × Value)} (hd : decode cc pc = .ok (.lstore i, 2)) (hn : Nat.blt (i + 1) nL = true) (hv : (i, Value.long x) :: lv.filter (fun q => !(q.1 == i) && (!(q.1 == i + 1) && !(q.1 + 1 == i && q.2.category == 2))) = lv') (kk : WW X nL E (pc + 2) lv' st ws k n) : WW X nL E pc lv (.long x :: st) ws k n :=
  fun H locs ls hP hD hS hl => lv_lstore C.1 C.2.1 hd hl (Nat.le_of_ble_eq_true hn) hv (fun ls hl => kk H locs ls hP hD hS hl)
theorem ww_astore_n (C : CX X rm cc nL own ret E) {f : Fin 4} {i : Nat} {x : Nat} {lv' : List (Nat × Value)} (hd : decode cc pc = .ok (.astore_n f, 1)) (hi : (f : Nat) = i) (hn : Nat.blt i nL = true) (hv : (i, Value.ref x) :: lv.filter (fun q => !(q.1 == i) && !(q.1 + 1 == i && q.2.category == 2)) = lv') (kk : WW X nL E (pc + 1) lv' st ws k n) : WW X nL E pc lv (.ref x :: st) ws k n :=
  fun H locs ls hP hD hS hl => lv_astore_n C.1 C.2.1 hd hi hl (Nat.le_of_ble_eq_true hn) hv (fun ls hl => kk H locs ls hP hD hS hl)
theorem ww_astore (C : CX X rm cc nL own ret E) {i : Nat} {x : Nat} {lv' : List (Nat × Value)} (hd : decode cc pc = .ok (.astore i, 2)) (hn : Nat.blt i nL = true) (hv : (i, Value.ref x) :: lv.filter (fun q => !(q.1 == i) && !(q.1 + 1 == i && q.2.category == 2)) = lv') (kk : WW X nL E (pc + 2) lv' st ws k n) : WW X nL E pc lv (.ref x :: st) ws k n :=
  fun H locs ls hP hD hS hl => lv_astore C.1 C.2.1 hd hl (Nat.le_of_ble_eq_true hn) hv (fun ls hl => kk H locs ls hP hD hS hl)
theorem ww_astore_nN (C : CX X rm cc nL own ret E) {f : Fin 4} {i : Nat} {lv' : List (Nat × Value)} (hd : decode cc pc = .ok (.astore_n f, 1)) (hi : (f : Nat) = i) (hn : Nat.blt i nL = true) (hv : (i, Value.null) :: lv.filter (fun q => !(q.1 == i) && !(q.1 + 1 == i && q.2.category == 2)) = lv') (kk : WW X nL E (pc + 1) lv' st ws k n) : WW X nL E pc lv (.null :: st) ws k n :=
  fun H locs ls hP hD hS hl => lv_astore_nN C.1 C.2.1 hd hi hl (Nat.le_of_ble_eq_true hn) hv (fun ls hl => kk H locs ls hP hD hS hl)
theorem ww_astoreN (C : CX X rm cc nL own ret E) {i : Nat} {lv' : List (Nat × Value)} (hd : decode cc pc = .ok (.astore i, 2)) (hn : Nat.blt i nL = true) (hv : (i, Value.null) :: lv.filter (fun q => !(q.1 == i) && !(q.1 + 1 == i && q.2.category == 2)) = lv') (kk : WW X nL E (pc + 2) lv' st ws k n) : WW X nL E pc lv (.null :: st) ws k n :=
  fun H locs ls hP hD hS hl => lv_astoreN C.1 C.2.1 hd hl (Nat.le_of_ble_eq_true hn) hv (fun ls hl => kk H locs ls hP hD hS hl)
theorem ww_iinc (C : CX X rm cc nL own ret E) {i j : Nat} {z : Int} {x v : Int32} {lv' : List (Nat × Value)} (hd : decode cc pc = .ok (.iinc i z, 3)) (hj : lv[j]? = some (i, .int x)) (hx : x + Int32.ofInt z = v) (hn : Nat.blt i nL = true) (hv : (i, Value.int v) :: lv.filter (fun q => !(q.1 == i) && !(q.1 + 1 == i && q.2.category == 2)) = lv') (kk : WW X nL E (pc + 3) lv' st ws k n) : WW X nL E pc lv st ws k n :=
  fun H locs ls hP hD hS hl => lv_iinc C.1 C.2.1 hd hl hj hx (Nat.le_of_ble_eq_true hn) hv (fun ls hl => kk H locs ls hP hD hS hl)
theorem ww_iadd (C : CX X rm cc nL own ret E) {x y : Int32} {v : Int32} (hd : decode cc pc = .ok (.iadd, 1)) (hv : x + y = v) (kk : WW X nL E (pc + 1) lv (.int v :: st) ws k n) : WW X nL E pc lv (.int y :: .int x :: st) ws k n :=
  by
  subst hv
  exact fun H locs ls hP hD hS hl => lv_iadd C.1 C.2.1 hd (kk H locs ls hP hD hS hl)
theorem ww_isub (C : CX X rm cc nL own ret E) {x y : Int32} {v : Int32} (hd : decode cc pc = .ok (.isub, 1)) (hv : x - y = v) (kk : WW X nL E (pc + 1) lv (.int v :: st) ws k n) : WW X nL E pc lv (.int y :: .int x :: st) ws k n :=
  by
  subst hv
  exact fun H locs ls hP hD hS hl => lv_isub C.1 C.2.1 hd (kk H locs ls hP hD hS hl)
theorem ww_imul (C : CX X rm cc nL own ret E) {x y : Int32} {v : Int32} (hd : decode cc pc = .ok (.imul, 1)) (hv : x * y = v) (kk : WW X nL E (pc + 1) lv (.int v :: st) ws k n) : WW X nL E pc lv (.int y :: .int x :: st) ws k n :=
  by
  subst hv
  exact fun H locs ls hP hD hS hl => lv_imul C.1 C.2.1 hd (kk H locs ls hP hD hS hl)
theorem ww_iand (C : CX X rm cc nL own ret E) {x y : Int32} {v : Int32} (hd : decode cc pc = .ok (.iand, 1)) (hv : x &&& y = v) (kk : WW X nL E (pc + 1) lv (.int v :: st) ws k n) : WW X nL E pc lv (.int y :: .int x :: st) ws k n :=
  by
  subst hv
  exact fun H locs ls hP hD hS hl => lv_iand C.1 C.2.1 hd (kk H locs ls hP hD hS hl)
theorem ww_ior (C : CX X rm cc nL own ret E) {x y : Int32} {v : Int32} (hd : decode cc pc = .ok (.ior, 1)) (hv : x ||| y = v) (kk : WW X nL E (pc + 1) lv (.int v :: st) ws k n) : WW X nL E pc lv (.int y :: .int x :: st) ws k n :=
  by
  subst hv
  exact fun H locs ls hP hD hS hl => lv_ior C.1 C.2.1 hd (kk H locs ls hP hD hS hl)
theorem ww_ixor (C : CX X rm cc nL own ret E) {x y : Int32} {v : Int32} (hd : decode cc pc = .ok (.ixor, 1)) (hv : x ^^^ y = v) (kk : WW X nL E (pc + 1) lv (.int v :: st) ws k n) : WW X nL E pc lv (.int y :: .int x :: st) ws k n :=
  by
  subst hv
  exact fun H locs ls hP hD hS hl => lv_ixor C.1 C.2.1 hd (kk H locs ls hP hD hS hl)
theorem ww_ineg (C : CX X rm cc nL own ret E) {x : Int32} {v : Int32} (hd : decode cc pc = .ok (.ineg, 1)) (hv : -x = v) (kk : WW X nL E (pc + 1) lv (.int v :: st) ws k n) : WW X nL E pc lv (.int x :: st) ws k n :=
  by
  subst hv
  exact fun H locs ls hP hD hS hl => lv_ineg C.1 C.2.1 hd (kk H locs ls hP hD hS hl)
theorem ww_idiv (C : CX X rm cc nL own ret E) {x y : Int32} {v : Int32} (hd : decode cc pc = .ok (.idiv, 1)) (hz : ¬ y = 0) (hv : x / y = v) (kk : WW X nL E (pc + 1) lv (.int v :: st) ws k n) : WW X nL E pc lv (.int y :: .int x :: st) ws k n :=
  by
  subst hv
  exact fun H locs ls hP hD hS hl => lv_idiv C.1 C.2.1 hd hz (kk H locs ls hP hD hS hl)
theorem ww_irem (C : CX X rm cc nL own ret E) {x y : Int32} {v : Int32} (hd : decode cc pc = .ok (.irem, 1)) (hz : ¬ y = 0) (hv : x - x / y * y = v) (kk : WW X nL E (pc + 1) lv (.int v :: st) ws k n) : WW X nL E pc lv (.int y :: .int x :: st) ws k n :=
  by
  subst hv
  exact fun H locs ls hP hD hS hl => lv_irem C.1 C.2.1 hd hz (kk H locs ls hP hD hS hl)
theorem ww_ishl (C : CX X rm cc nL own ret E) {x y : Int32} {v : Int32} (hd : decode cc pc = .ok (.ishl, 1)) (hv : x <<< (y &&& 31) = v) (kk : WW X nL E (pc + 1) lv (.int v :: st) ws k n) : WW X nL E pc lv (.int y :: .int x :: st) ws k n :=
  by
  subst hv
  exact fun H locs ls hP hD hS hl => lv_ishl C.1 C.2.1 hd (kk H locs ls hP hD hS hl)
theorem ww_ishr (C : CX X rm cc nL own ret E) {x y : Int32} {v : Int32} (hd : decode cc pc = .ok (.ishr, 1)) (hv : x >>> (y &&& 31) = v) (kk : WW X nL E (pc + 1) lv (.int v :: st) ws k n) : WW X nL E pc lv (.int y :: .int x :: st) ws k n :=
  by
  subst hv
  exact fun H locs ls hP hD hS hl => lv_ishr C.1 C.2.1 hd (kk H locs ls hP hD hS hl)
theorem ww_iushr (C : CX X rm cc nL own ret E) {x y : Int32} {v : Int32} (hd : decode cc pc = .ok (.iushr, 1)) (hv : (x.toUInt32 >>> (y.toUInt32 &&& Int32.toUInt32 31)).toInt32 = v) (kk : WW X nL E (pc + 1) lv (.int v :: st) ws k n) : WW X nL E pc lv (.int y :: .int x :: st) ws k n :=
  fun H locs ls hP hD hS hl => lv_iushr C.1 C.2.1 hd hv (kk H locs ls hP hD hS hl)
theorem ww_ladd (C : CX X rm cc nL own ret E) {x y : Int64} {v : Int64} (hd : decode cc pc = .ok (.ladd, 1)) (hv : x + y = v) (kk : WW X nL E (pc + 1) lv (.long v :: st) ws k n) : WW X nL E pc lv (.long y :: .long x :: st) ws k n :=
  by
  subst hv
  exact fun H locs ls hP hD hS hl => lv_ladd C.1 C.2.1 hd (kk H locs ls hP hD hS hl)
theorem ww_lsub (C : CX X rm cc nL own ret E) {x y : Int64} {v : Int64} (hd : decode cc pc = .ok (.lsub, 1)) (hv : x - y = v) (kk : WW X nL E (pc + 1) lv (.long v :: st) ws k n) : WW X nL E pc lv (.long y :: .long x :: st) ws k n :=
  by
  subst hv
  exact fun H locs ls hP hD hS hl => lv_lsub C.1 C.2.1 hd (kk H locs ls hP hD hS hl)
theorem ww_lor (C : CX X rm cc nL own ret E) {x y : Int64} {v : Int64} (hd : decode cc pc = .ok (.lor, 1)) (hv : x ||| y = v) (kk : WW X nL E (pc + 1) lv (.long v :: st) ws k n) : WW X nL E pc lv (.long y :: .long x :: st) ws k n :=
  by
  subst hv
  exact fun H locs ls hP hD hS hl => lv_lor C.1 C.2.1 hd (kk H locs ls hP hD hS hl)
theorem ww_land (C : CX X rm cc nL own ret E) {x y : Int64} {v : Int64} (hd : decode cc pc = .ok (.land, 1)) (hv : x &&& y = v) (kk : WW X nL E (pc + 1) lv (.long v :: st) ws k n) : WW X nL E pc lv (.long y :: .long x :: st) ws k n :=
  by
  subst hv
  exact fun H locs ls hP hD hS hl => lv_land C.1 C.2.1 hd (kk H locs ls hP hD hS hl)
theorem ww_lushr (C : CX X rm cc nL own ret E) {x : Int64} {y : Int32} {v : Int64} (hd : decode cc pc = .ok (.lushr, 1)) (hv : (x.toUInt64 >>> (y.toInt64.toUInt64 &&& Int64.toUInt64 63)).toInt64 = v) (kk : WW X nL E (pc + 1) lv (.long v :: st) ws k n) : WW X nL E pc lv (.int y :: .long x :: st) ws k n :=
  fun H locs ls hP hD hS hl => lv_lushr C.1 C.2.1 hd hv (kk H locs ls hP hD hS hl)
theorem ww_lshl (C : CX X rm cc nL own ret E) {x : Int64} {y : Int32} {v : Int64} (hd : decode cc pc = .ok (.lshl, 1)) (hv : x <<< (y.toInt64 &&& 63) = v) (kk : WW X nL E (pc + 1) lv (.long v :: st) ws k n) : WW X nL E pc lv (.int y :: .long x :: st) ws k n :=
  fun H locs ls hP hD hS hl => lv_lshl C.1 C.2.1 hd hv (kk H locs ls hP hD hS hl)
theorem ww_lshr (C : CX X rm cc nL own ret E) {x : Int64} {y : Int32} {v : Int64} (hd : decode cc pc = .ok (.lshr, 1)) (hv : x >>> (y.toInt64 &&& 63) = v) (kk : WW X nL E (pc + 1) lv (.long v :: st) ws k n) : WW X nL E pc lv (.int y :: .long x :: st) ws k n :=
  fun H locs ls hP hD hS hl => lv_lshr C.1 C.2.1 hd hv (kk H locs ls hP hD hS hl)
theorem ww_i2l (C : CX X rm cc nL own ret E) {x : Int32} {v : Int64} (hd : decode cc pc = .ok (.i2l, 1)) (hv : x.toInt64 = v) (kk : WW X nL E (pc + 1) lv (.long v :: st) ws k n) : WW X nL E pc lv (.int x :: st) ws k n :=
  fun H locs ls hP hD hS hl => lv_i2l C.1 C.2.1 hd hv (kk H locs ls hP hD hS hl)
theorem ww_l2i (C : CX X rm cc nL own ret E) {x : Int64} {v : Int32} (hd : decode cc pc = .ok (.l2i, 1)) (hv : x.toInt32 = v) (kk : WW X nL E (pc + 1) lv (.int v :: st) ws k n) : WW X nL E pc lv (.long x :: st) ws k n :=
  fun H locs ls hP hD hS hl => lv_l2i C.1 C.2.1 hd hv (kk H locs ls hP hD hS hl)
theorem ww_i2b (C : CX X rm cc nL own ret E) {x : Int32} {v : Int32} (hd : decode cc pc = .ok (.i2b, 1)) (hv : x.toInt8.toInt32 = v) (kk : WW X nL E (pc + 1) lv (.int v :: st) ws k n) : WW X nL E pc lv (.int x :: st) ws k n :=
  fun H locs ls hP hD hS hl => lv_i2b C.1 C.2.1 hd hv (kk H locs ls hP hD hS hl)
theorem ww_i2s (C : CX X rm cc nL own ret E) {x : Int32} {v : Int32} (hd : decode cc pc = .ok (.i2s, 1)) (hv : x.toInt16.toInt32 = v) (kk : WW X nL E (pc + 1) lv (.int v :: st) ws k n) : WW X nL E pc lv (.int x :: st) ws k n :=
  fun H locs ls hP hD hS hl => lv_i2s C.1 C.2.1 hd hv (kk H locs ls hP hD hS hl)
theorem ww_i2c (C : CX X rm cc nL own ret E) {x : Int32} {v : Int32} (hd : decode cc pc = .ok (.i2c, 1)) (hv : (x.toUInt32 % 65536).toInt32 = v) (kk : WW X nL E (pc + 1) lv (.int v :: st) ws k n) : WW X nL E pc lv (.int x :: st) ws k n :=
  fun H locs ls hP hD hS hl => lv_i2c C.1 C.2.1 hd hv (kk H locs ls hP hD hS hl)
theorem ww_lcmp (C : CX X rm cc nL own ret E) {x y : Int64} {v : Int32} (hd : decode cc pc = .ok (.lcmp, 1)) (hv : lg_cmp x y = v) (kk : WW X nL E (pc + 1) lv (.int v :: st) ws k n) : WW X nL E pc lv (.long y :: .long x :: st) ws k n :=
  by
  subst hv
  exact fun H locs ls hP hD hS hl => W.lcmp C.1 C.2.1 hd (kk H locs ls hP hD hS hl)
theorem ww_dup (C : CX X rm cc nL own ret E) {a : Value} (hd : decode cc pc = .ok (.dup, 1)) (ha : a.category = 1) (kk : WW X nL E (pc + 1) lv (a :: a :: st) ws k n) : WW X nL E pc lv (a :: st) ws k n :=
  fun H locs ls hP hD hS hl => lv_dup C.1 C.2.1 hd ha (kk H locs ls hP hD hS hl)
theorem ww_pop (C : CX X rm cc nL own ret E) {a : Value} (hd : decode cc pc = .ok (.pop, 1)) (ha : a.category = 1) (kk : WW X nL E (pc + 1) lv st ws k n) : WW X nL E pc lv (a :: st) ws k n :=
  fun H locs ls hP hD hS hl => lv_pop C.1 C.2.1 hd ha (kk H locs ls hP hD hS hl)
theorem ww_dup_x1 (C : CX X rm cc nL own ret E) {a b : Value} (hd : decode cc pc = .ok (.dup_x1, 1)) (ha : a.category = 1) (hb : b.category = 1) (kk : WW X nL E (pc + 1) lv (a :: b :: a :: st) ws k n) : WW X nL E pc lv (a :: b :: st) ws k n :=
  fun H locs ls hP hD hS hl => lv_dup_x1 C.1 C.2.1 hd ha hb (kk H locs ls hP hD hS hl)
theorem ww_dup2 (C : CX X rm cc nL own ret E) {a b : Value} (hd : decode cc pc = .ok (.dup2, 1)) (ha : a.category = 1) (hb : b.category = 1) (kk : WW X nL E (pc + 1) lv (a :: b :: a :: b :: st) ws k n) : WW X nL E pc lv (a :: b :: st) ws k n :=
  fun H locs ls hP hD hS hl => lv_dup2_11 C.1 C.2.1 hd ha hb (kk H locs ls hP hD hS hl)
theorem ww_if_eq (C : CX X rm cc nL own ret E) {x : Int32} {off : Int} {tgt : Nat} (hd : decode cc pc = .ok (.ifCond .eq off, 3)) (ht : (pc : Int) + off = (tgt : Int)) (kt : x = 0 → WW X nL E tgt lv st ws k n) (kf : ¬ (x = 0) → WW X nL E (pc + 3) lv st ws k n) : WW X nL E pc lv (.int x :: st) ws k n :=
  fun H locs ls hP hD hS hl => lv_if_eq C.1 C.2.1 hd ht (fun h => kt (h) H locs ls hP hD hS hl) (fun h => kf (h) H locs ls hP hD hS hl)
theorem ww_if_eq_t (C : CX X rm cc nL own ret E) {x : Int32} {off : Int} {tgt : Nat} (hd : decode cc pc = .ok (.ifCond .eq off, 3)) (ht : (pc : Int) + off = (tgt : Int)) (h : x = 0) (kk : WW X nL E tgt lv st ws k n) : WW X nL E pc lv (.int x :: st) ws k n :=
  ww_if_eq C hd ht (fun _ => kk) (fun h2 => absurd h h2)
theorem ww_if_eq_f (C : CX X rm cc nL own ret E) {x : Int32} {off : Int} {tgt : Nat} (hd : decode cc pc = .ok (.ifCond .eq off, 3)) (ht : (pc : Int) + off = (tgt : Int)) (h : ¬ (x = 0)) (kk : WW X nL E (pc + 3) lv st ws k n) : WW X nL E pc lv (.int x :: st) ws k n :=
  ww_if_eq C hd ht (fun h2 => absurd h2 h) (fun _ => kk)
theorem ww_icmp_eq (C : CX X rm cc nL own ret E) {x y : Int32} {off : Int} {tgt : Nat} (hd : decode cc pc = .ok (.if_icmp .eq off, 3)) (ht : (pc : Int) + off = (tgt : Int)) (kt : x = y → WW X nL E tgt lv st ws k n) (kf : ¬ (x = y) → WW X nL E (pc + 3) lv st ws k n) : WW X nL E pc lv (.int y :: .int x :: st) ws k n :=
  fun H locs ls hP hD hS hl => lv_icmp_eq C.1 C.2.1 hd ht (fun h => kt (h) H locs ls hP hD hS hl) (fun h => kf (h) H locs ls hP hD hS hl)
theorem ww_icmp_eq_t (C : CX X rm cc nL own ret E) {x y : Int32} {off : Int} {tgt : Nat} (hd : decode cc pc = .ok (.if_icmp .eq off, 3)) (ht : (pc : Int) + off = (tgt : Int)) (h : x = y) (kk : WW X nL E tgt lv st ws k n) : WW X nL E pc lv (.int y :: .int x :: st) ws k n :=
  ww_icmp_eq C hd ht (fun _ => kk) (fun h2 => absurd h h2)
theorem ww_icmp_eq_f (C : CX X rm cc nL own ret E) {x y : Int32} {off : Int} {tgt : Nat} (hd : decode cc pc = .ok (.if_icmp .eq off, 3)) (ht : (pc : Int) + off = (tgt : Int)) (h : ¬ (x = y)) (kk : WW X nL E (pc + 3) lv st ws k n) : WW X nL E pc lv (.int y :: .int x :: st) ws k n :=
  ww_icmp_eq C hd ht (fun h2 => absurd h2 h) (fun _ => kk)
theorem ww_if_ne (C : CX X rm cc nL own ret E) {x : Int32} {off : Int} {tgt : Nat} (hd : decode cc pc = .ok (.ifCond .ne off, 3)) (ht : (pc : Int) + off = (tgt : Int)) (kt : ¬ x = 0 → WW X nL E tgt lv st ws k n) (kf : x = 0 → WW X nL E (pc + 3) lv st ws k n) : WW X nL E pc lv (.int x :: st) ws k n :=
  fun H locs ls hP hD hS hl => lv_if_ne C.1 C.2.1 hd ht (fun h => kt (h) H locs ls hP hD hS hl) (fun h => kf (h) H locs ls hP hD hS hl)
theorem ww_if_ne_t (C : CX X rm cc nL own ret E) {x : Int32} {off : Int} {tgt : Nat} (hd : decode cc pc = .ok (.ifCond .ne off, 3)) (ht : (pc : Int) + off = (tgt : Int)) (h : ¬ x = 0) (kk : WW X nL E tgt lv st ws k n) : WW X nL E pc lv (.int x :: st) ws k n :=
  ww_if_ne C hd ht (fun _ => kk) (fun h2 => absurd h2 h)
theorem ww_if_ne_f (C : CX X rm cc nL own ret E) {x : Int32} {off : Int} {tgt : Nat} (hd : decode cc pc = .ok (.ifCond .ne off, 3)) (ht : (pc : Int) + off = (tgt : Int)) (h : x = 0) (kk : WW X nL E (pc + 3) lv st ws k n) : WW X nL E pc lv (.int x :: st) ws k n :=
  ww_if_ne C hd ht (fun h2 => absurd h h2) (fun _ => kk)
theorem ww_icmp_ne (C : CX X rm cc nL own ret E) {x y : Int32} {off : Int} {tgt : Nat} (hd : decode cc pc = .ok (.if_icmp .ne off, 3)) (ht : (pc : Int) + off = (tgt : Int)) (kt : ¬ x = y → WW X nL E tgt lv st ws k n) (kf : x = y → WW X nL E (pc + 3) lv st ws k n) : WW X nL E pc lv (.int y :: .int x :: st) ws k n :=
  fun H locs ls hP hD hS hl => lv_icmp_ne C.1 C.2.1 hd ht (fun h => kt (h) H locs ls hP hD hS hl) (fun h => kf (h) H locs ls hP hD hS hl)
theorem ww_icmp_ne_t (C : CX X rm cc nL own ret E) {x y : Int32} {off : Int} {tgt : Nat} (hd : decode cc pc = .ok (.if_icmp .ne off, 3)) (ht : (pc : Int) + off = (tgt : Int)) (h : ¬ x = y) (kk : WW X nL E tgt lv st ws k n) : WW X nL E pc lv (.int y :: .int x :: st) ws k n :=
  ww_icmp_ne C hd ht (fun _ => kk) (fun h2 => absurd h2 h)
theorem ww_icmp_ne_f (C : CX X rm cc nL own ret E) {x y : Int32} {off : Int} {tgt : Nat} (hd : decode cc pc = .ok (.if_icmp .ne off, 3)) (ht : (pc : Int) + off = (tgt : Int)) (h : x = y) (kk : WW X nL E (pc + 3) lv st ws k n) : WW X nL E pc lv (.int y :: .int x :: st) ws k n :=
  ww_icmp_ne C hd ht (fun h2 => absurd h h2) (fun _ => kk)
theorem ww_if_lt (C : CX X rm cc nL own ret E) {x : Int32} {off : Int} {tgt : Nat} (hd : decode cc pc = .ok (.ifCond .lt off, 3)) (ht : (pc : Int) + off = (tgt : Int)) (kt : x < 0 → WW X nL E tgt lv st ws k n) (kf : ¬ (x < 0) → WW X nL E (pc + 3) lv st ws k n) : WW X nL E pc lv (.int x :: st) ws k n :=
  fun H locs ls hP hD hS hl => lv_if_lt C.1 C.2.1 hd ht (fun h => kt (h) H locs ls hP hD hS hl) (fun h => kf (h) H locs ls hP hD hS hl)
theorem ww_if_lt_t (C : CX X rm cc nL own ret E) {x : Int32} {off : Int} {tgt : Nat} (hd : decode cc pc = .ok (.ifCond .lt off, 3)) (ht : (pc : Int) + off = (tgt : Int)) (h : x < 0) (kk : WW X nL E tgt lv st ws k n) : WW X nL E pc lv (.int x :: st) ws k n :=
  ww_if_lt C hd ht (fun _ => kk) (fun h2 => absurd h h2)
theorem ww_if_lt_f (C : CX X rm cc nL own ret E) {x : Int32} {off : Int} {tgt : Nat} (hd : decode cc pc = .ok (.ifCond .lt off, 3)) (ht : (pc : Int) + off = (tgt : Int)) (h : ¬ (x < 0)) (kk : WW X nL E (pc + 3) lv st ws k n) : WW X nL E pc lv (.int x :: st) ws k n :=
  ww_if_lt C hd ht (fun h2 => absurd h2 h) (fun _ => kk)
theorem ww_icmp_lt (C : CX X rm cc nL own ret E) {x y : Int32} {off : Int} {tgt : Nat} (hd : decode cc pc = .ok (.if_icmp .lt off, 3)) (ht : (pc : Int) + off = (tgt : Int)) (kt : x < y → WW X nL E tgt lv st ws k n) (kf : ¬ (x < y) → WW X nL E (pc + 3) lv st ws k n) : WW X nL E pc lv (.int y :: .int x :: st) ws k n :=
  fun H locs ls hP hD hS hl => lv_icmp_lt C.1 C.2.1 hd ht (fun h => kt (h) H locs ls hP hD hS hl) (fun h => kf (h) H locs ls hP hD hS hl)
theorem ww_icmp_lt_t (C : CX X rm cc nL own ret E) {x y : Int32} {off : Int} {tgt : Nat} (hd : decode cc pc = .ok (.if_icmp .lt off, 3)) (ht : (pc : Int) + off = (tgt : Int)) (h : x < y) (kk : WW X nL E tgt lv st ws k n) : WW X nL E pc lv (.int y :: .int x :: st) ws k n :=
  ww_icmp_lt C hd ht (fun _ => kk) (fun h2 => absurd h h2)
theorem ww_icmp_lt_f (C : CX X rm cc nL own ret E) {x y : Int32} {off : Int} {tgt : Nat} (hd : decode cc pc = .ok (.if_icmp .lt off, 3)) (ht : (pc : Int) + off = (tgt : Int)) (h : ¬ (x < y)) (kk : WW X nL E (pc + 3) lv st ws k n) : WW X nL E pc lv (.int y :: .int x :: st) ws k n :=
  ww_icmp_lt C hd ht (fun h2 => absurd h2 h) (fun _ => kk)
theorem ww_if_ge (C : CX X rm cc nL own ret E) {x : Int32} {off : Int} {tgt : Nat} (hd : decode cc pc = .ok (.ifCond .ge off, 3)) (ht : (pc : Int) + off = (tgt : Int)) (kt : 0 ≤ x → WW X nL E tgt lv st ws k n) (kf : ¬ (0 ≤ x) → WW X nL E (pc + 3) lv st ws k n) : WW X nL E pc lv (.int x :: st) ws k n :=
  fun H locs ls hP hD hS hl => lv_if_ge C.1 C.2.1 hd ht (fun h => kt (h) H locs ls hP hD hS hl) (fun h => kf (h) H locs ls hP hD hS hl)
theorem ww_if_ge_t (C : CX X rm cc nL own ret E) {x : Int32} {off : Int} {tgt : Nat} (hd : decode cc pc = .ok (.ifCond .ge off, 3)) (ht : (pc : Int) + off = (tgt : Int)) (h : 0 ≤ x) (kk : WW X nL E tgt lv st ws k n) : WW X nL E pc lv (.int x :: st) ws k n :=
  ww_if_ge C hd ht (fun _ => kk) (fun h2 => absurd h h2)
theorem ww_if_ge_f (C : CX X rm cc nL own ret E) {x : Int32} {off : Int} {tgt : Nat} (hd : decode cc pc = .ok (.ifCond .ge off, 3)) (ht : (pc : Int) + off = (tgt : Int)) (h : ¬ (0 ≤ x)) (kk : WW X nL E (pc + 3) lv st ws k n) : WW X nL E pc lv (.int x :: st) ws k n :=
  ww_if_ge C hd ht (fun h2 => absurd h2 h) (fun _ => kk)
theorem ww_icmp_ge (C : CX X rm cc nL own ret E) {x y : Int32} {off : Int} {tgt : Nat} (hd : decode cc pc = .ok (.if_icmp .ge off, 3)) (ht : (pc : Int) + off = (tgt : Int)) (kt : y ≤ x → WW X nL E tgt lv st ws k n) (kf : ¬ (y ≤ x) → WW X nL E (pc + 3) lv st ws k n) : WW X nL E pc lv (.int y :: .int x :: st) ws k n :=
  fun H locs ls hP hD hS hl => lv_icmp_ge C.1 C.2.1 hd ht (fun h => kt (h) H locs ls hP hD hS hl) (fun h => kf (h) H locs ls hP hD hS hl)
theorem ww_icmp_ge_t (C : CX X rm cc nL own ret E) {x y : Int32} {off : Int} {tgt : Nat} (hd : decode cc pc = .ok (.if_icmp .ge off, 3)) (ht : (pc : Int) + off = (tgt : Int)) (h : y ≤ x) (kk : WW X nL E tgt lv st ws k n) : WW X nL E pc lv (.int y :: .int x :: st) ws k n :=
  ww_icmp_ge C hd ht (fun _ => kk) (fun h2 => absurd h h2)
theorem ww_icmp_ge_f (C : CX X rm cc nL own ret E) {x y : Int32} {off : Int} {tgt : Nat} (hd : decode cc pc = .ok (.if_icmp .ge off, 3)) (ht : (pc : Int) + off = (tgt : Int)) (h : ¬ (y ≤ x)) (kk : WW X nL E (pc + 3) lv st ws k n) : WW X nL E pc lv (.int y :: .int x :: st) ws k n :=
  ww_icmp_ge C hd ht (fun h2 => absurd h2 h) (fun _ => kk)
theorem ww_if_gt (C : CX X rm cc nL own ret E) {x : Int32} {off : Int} {tgt : Nat} (hd : decode cc pc = .ok (.ifCond .gt off, 3)) (ht : (pc : Int) + off = (tgt : Int)) (kt : 0 < x → WW X nL E tgt lv st ws k n) (kf : ¬ (0 < x) → WW X nL E (pc + 3) lv st ws k n) : WW X nL E pc lv (.int x :: st) ws k n :=
  fun H locs ls hP hD hS hl => lv_if_gt C.1 C.2.1 hd ht (fun h => kt (h) H locs ls hP hD hS hl) (fun h => kf (h) H locs ls hP hD hS hl)
theorem ww_if_gt_t (C : CX X rm cc nL own ret E) {x : Int32} {off : Int} {tgt : Nat} (hd : decode cc pc = .ok (.ifCond .gt off, 3)) (ht : (pc : Int) + off = (tgt : Int)) (h : 0 < x) (kk : WW X nL E tgt lv st ws k n) : WW X nL E pc lv (.int x :: st) ws k n :=
  ww_if_gt C hd ht (fun _ => kk) (fun h2 => absurd h h2)
theorem ww_if_gt_f (C : CX X rm cc nL own ret E) {x : Int32} {off : Int} {tgt : Nat} (hd : decode cc pc = .ok (.ifCond .gt off, 3)) (ht : (pc : Int) + off = (tgt : Int)) (h : ¬ (0 < x)) (kk : WW X nL E (pc + 3) lv st ws k n) : WW X nL E pc lv (.int x :: st) ws k n :=
  ww_if_gt C hd ht (fun h2 => absurd h2 h) (fun _ => kk)
theorem ww_icmp_gt (C : CX X rm cc nL own ret E) {x y : Int32} {off : Int} {tgt : Nat} (hd : decode cc pc = .ok (.if_icmp .gt off, 3)) (ht : (pc : Int) + off = (tgt : Int)) (kt : y < x → WW X nL E tgt lv st ws k n) (kf : ¬ (y < x) → WW X nL E (pc + 3) lv st ws k n) : WW X nL E pc lv (.int y :: .int x :: st) ws k n :=
  fun H locs ls hP hD hS hl => lv_icmp_gt C.1 C.2.1 hd ht (fun h => kt (h) H locs ls hP hD hS hl) (fun h => kf (h) H locs ls hP hD hS hl)
theorem ww_icmp_gt_t (C : CX X rm cc nL own ret E) {x y : Int32} {off : Int} {tgt : Nat} (hd : decode cc pc = .ok (.if_icmp .gt off, 3)) (ht : (pc : Int) + off = (tgt : Int)) (h : y < x) (kk : WW X nL E tgt lv st ws k n) : WW X nL E pc lv (.int y :: .int x :: st) ws k n :=
  ww_icmp_gt C hd ht (fun _ => kk) (fun h2 => absurd h h2)
theorem ww_icmp_gt_f (C : CX X rm cc nL own ret E) {x y : Int32} {off : Int} {tgt : Nat} (hd : decode cc pc = .ok (.if_icmp .gt off, 3)) (ht : (pc : Int) + off = (tgt : Int)) (h : ¬ (y < x)) (kk : WW X nL E (pc + 3) lv st ws k n) : WW X nL E pc lv (.int y :: .int x :: st) ws k n :=
  ww_icmp_gt C hd ht (fun h2 => absurd h2 h) (fun _ => kk)
theorem ww_if_le (C : CX X rm cc nL own ret E) {x : Int32} {off : Int} {tgt : Nat} (hd : decode cc pc = .ok (.ifCond .le off, 3)) (ht : (pc : Int) + off = (tgt : Int)) (kt : x ≤ 0 → WW X nL E tgt lv st ws k n) (kf : ¬ (x ≤ 0) → WW X nL E (pc + 3) lv st ws k n) : WW X nL E pc lv (.int x :: st) ws k n :=
  fun H locs ls hP hD hS hl => lv_if_le C.1 C.2.1 hd ht (fun h => kt (h) H locs ls hP hD hS hl) (fun h => kf (h) H locs ls hP hD hS hl)
theorem ww_if_le_t (C : CX X rm cc nL own ret E) {x : Int32} {off : Int} {tgt : Nat} (hd : decode cc pc = .ok (.ifCond .le off, 3)) (ht : (pc : Int) + off = (tgt : Int)) (h : x ≤ 0) (kk : WW X nL E tgt lv st ws k n) : WW X nL E pc lv (.int x :: st) ws k n :=
  ww_if_le C hd ht (fun _ => kk) (fun h2 => absurd h h2)
theorem ww_if_le_f (C : CX X rm cc nL own ret E) {x : Int32} {off : Int} {tgt : Nat} (hd : decode cc pc = .ok (.ifCond .le off, 3)) (ht : (pc : Int) + off = (tgt : Int)) (h : ¬ (x ≤ 0)) (kk : WW X nL E (pc + 3) lv st ws k n) : WW X nL E pc lv (.int x :: st) ws k n :=
  ww_if_le C hd ht (fun h2 => absurd h2 h) (fun _ => kk)
theorem ww_icmp_le (C : CX X rm cc nL own ret E) {x y : Int32} {off : Int} {tgt : Nat} (hd : decode cc pc = .ok (.if_icmp .le off, 3)) (ht : (pc : Int) + off = (tgt : Int)) (kt : x ≤ y → WW X nL E tgt lv st ws k n) (kf : ¬ (x ≤ y) → WW X nL E (pc + 3) lv st ws k n) : WW X nL E pc lv (.int y :: .int x :: st) ws k n :=
  fun H locs ls hP hD hS hl => lv_icmp_le C.1 C.2.1 hd ht (fun h => kt (h) H locs ls hP hD hS hl) (fun h => kf (h) H locs ls hP hD hS hl)
theorem ww_icmp_le_t (C : CX X rm cc nL own ret E) {x y : Int32} {off : Int} {tgt : Nat} (hd : decode cc pc = .ok (.if_icmp .le off, 3)) (ht : (pc : Int) + off = (tgt : Int)) (h : x ≤ y) (kk : WW X nL E tgt lv st ws k n) : WW X nL E pc lv (.int y :: .int x :: st) ws k n :=
  ww_icmp_le C hd ht (fun _ => kk) (fun h2 => absurd h h2)
theorem ww_icmp_le_f (C : CX X rm cc nL own ret E) {x y : Int32} {off : Int} {tgt : Nat} (hd : decode cc pc = .ok (.if_icmp .le off, 3)) (ht : (pc : Int) + off = (tgt : Int)) (h : ¬ (x ≤ y)) (kk : WW X nL E (pc + 3) lv st ws k n) : WW X nL E pc lv (.int y :: .int x :: st) ws k n :=
  ww_icmp_le C hd ht (fun h2 => absurd h2 h) (fun _ => kk)
theorem ww_goto (C : CX X rm cc nL own ret E) {off : Int} {tgt : Nat} (hd : decode cc pc = .ok (.goto off, 3)) (ht : (pc : Int) + off = (tgt : Int)) (kk : WW X nL E tgt lv st ws k n) : WW X nL E pc lv st ws k n :=
  fun H locs ls hP hD hS hl => lv_goto C.1 C.2.1 hd ht (kk H locs ls hP hD hS hl)
theorem ww_ifnonnull (C : CX X rm cc nL own ret E) {a : Nat} {off : Int} {tgt : Nat} (hd : decode cc pc = .ok (.ifnonnull off, 3)) (ht : (pc : Int) + off = (tgt : Int)) (kk : WW X nL E tgt lv st ws k n) : WW X nL E pc lv (.ref a :: st) ws k n :=
  fun H locs ls hP hD hS hl => lv_ifnonnull C.1 C.2.1 hd ht (kk H locs ls hP hD hS hl)
theorem ww_ifnonnullN (C : CX X rm cc nL own ret E) {off : Int} (hd : decode cc pc = .ok (.ifnonnull off, 3)) (kk : WW X nL E (pc + 3) lv st ws k n) : WW X nL E pc lv (.null :: st) ws k n :=
  fun H locs ls hP hD hS hl => lv_ifnonnullN C.1 C.2.1 hd (kk H locs ls hP hD hS hl)
theorem ww_ifnull (C : CX X rm cc nL own ret E) {a : Nat} {off : Int} (hd : decode cc pc = .ok (.ifnull off, 3)) (kk : WW X nL E (pc + 3) lv st ws k n) : WW X nL E pc lv (.ref a :: st) ws k n :=
  fun H locs ls hP hD hS hl => lv_ifnull C.1 C.2.1 hd (kk H locs ls hP hD hS hl)
theorem ww_ifnullN (C : CX X rm cc nL own ret E) {off : Int} {tgt : Nat} (hd : decode cc pc = .ok (.ifnull off, 3)) (ht : (pc : Int) + off = (tgt : Int)) (kk : WW X nL E tgt lv st ws k n) : WW X nL E pc lv (.null :: st) ws k n :=
  fun H locs ls hP hD hS hl => lv_ifnullN C.1 C.2.1 hd ht (kk H locs ls hP hD hS hl)
theorem ww_tableIn (C : CX X rm cc nL own ret E) {dflt lo hi : Int} {offs : Array Int} {len : Nat} {x : Int32} {off : Int} {tgt : Nat} (hd : decode cc pc = .ok (.tableswitch dflt lo hi offs, len)) (h1 : ¬ x.toInt < lo) (h2 : ¬ hi < x.toInt) (ho : offs[(x.toInt - lo).toNat]? = some off) (ht : (pc : Int) + off = (tgt : Int)) (kk : WW X nL E tgt lv st ws k n) : WW X nL E pc lv (.int x :: st) ws k n :=
  fun H locs ls hP hD hS hl => lv_tableIn C.1 C.2.1 hd h1 h2 ho ht (kk H locs ls hP hD hS hl)
theorem ww_tableOut (C : CX X rm cc nL own ret E) {dflt lo hi : Int} {offs : Array Int} {len : Nat} {x : Int32} {tgt : Nat} (hd : decode cc pc = .ok (.tableswitch dflt lo hi offs, len)) (h : x.toInt < lo ∨ hi < x.toInt) (ht : (pc : Int) + dflt = (tgt : Int)) (kk : WW X nL E tgt lv st ws k n) : WW X nL E pc lv (.int x :: st) ws k n :=
  fun H locs ls hP hD hS hl => lv_tableOut C.1 C.2.1 hd h ht (kk H locs ls hP hD hS hl)
theorem ww_ldc (C : CX X rm cc nL own ret E) {idx : Nat} {v : Int32} (hc : Cond.constant own idx v ∈ TB) (hd : decode cc pc = .ok (.ldc idx, 2)) (kk : WW X nL E (pc + 2) lv (.int v :: st) ws k n) : WW X nL E pc lv st ws k n :=
  fun H locs ls hP hD hS hl => lv_ldc C.1 C.2.1 C.2.2.2.1 (C.2.2.2.2.1 _ hc) hd (kk H locs ls hP hD hS hl)
theorem ww_ldc2 (C : CX X rm cc nL own ret E) {idx : Nat} {v : Int64} (hc : Cond.constantLong own idx v ∈ TB) (hd : decode cc pc = .ok (.ldc2_w idx, 3)) (kk : WW X nL E (pc + 3) lv (.long v :: st) ws k n) : WW X nL E pc lv st ws k n :=
  fun H locs ls hP hD hS hl => lv_ldc2 C.1 C.2.1 C.2.2.2.1 (C.2.2.2.2.1 _ hc) hd (kk H locs ls hP hD hS hl)
theorem ww_ldcS (C : CX X rm cc nL own ret E) {idx : Nat} {tx : String} (hs : (idx, tx) ∈ kkS) (ho : own = RX5) (hd : decode cc pc = .ok (.ldc idx, 2)) (kk : WW X nL E (pc + 2) lv (.ref (E.2.2 idx) :: st) ws k n) : WW X nL E pc lv st ws k n :=
  by
  subst ho
  exact fun H locs ls hP hD hS hl => va_ldcS C.1 C.2.1 C.2.2.2.1 (C.2.2.2.2.2.1.2.2.2 _ hs) hd (kk H locs ls hP hD hS hl)
/-- a field: by the pool's entry idx of class own, the field k of class number ci -/
def FG (own : String) (idx ci f : Nat) : Prop := ∃ (Cn : String) (T : u_T) (Nf : Nat), (∀ w ∈ u_ws Cn T Nf, w ∈ TB) ∧ Cond.fieldLink own idx Cn (T f).2.1 (T f).2.2.1 ∈ TB ∧ vwCl[ci]? = some (Cn, T, Nf) ∧ f < Nf ∧ (T f).1 = Cn
def FP (own : String) (idx ci f : Nat) (ty : FieldType) (fin : Bool) : Prop := ∃ (Cn : String) (T : u_T) (Nf : Nat) (ty0 : Nat → FieldType), (∀ w ∈ u_ws Cn T Nf, w ∈ TB) ∧ Cond.fieldLink own idx Cn (T f).2.1 (T f).2.2.1 ∈ TB ∧ vwCl[ci]? = some (Cn, T, Nf) ∧ f < Nf ∧ (T f).1 = Cn ∧ (∀ k, k < Nf → parseFieldDescriptor (T k).2.2.1 = some (ty0 k)) ∧ (∀ a, a < Nf → ∀ b, b < Nf → a ≠ b → (T a).2.1 ≠ (T b).2.1) ∧ (T f).2.2.2 = fin ∧ parseFieldDescriptor (T f).2.2.1 = some ty
theorem ww_get (C : CX X rm cc nL own ret E) {idx ci f a : Nat} {fs : List Value} {v : Value} (hg : FG own idx ci f) (q0 : Nat) (he : ws[q0]? = some (a, .inr (ci, fs))) (hv : fs[f]? = some v) (hd : decode cc pc = .ok (.getfield idx, 3)) (kk : WW X nL E (pc + 3) lv (v :: st) ws k n) : WW X nL E pc lv (.ref a :: st) ws k n :=
  by
  obtain ⟨Cn, T, Nf, g1, g2, g3, g4, g5⟩ := hg
  exact fun H locs ls hP hD hS hl => va_get C.1 C.2.1 C.2.2.2.2.1 g1 C.2.2.2.1 C.2.2.2.2.2.1.1 hP q0 he g3 f g4 (C.2.2.2.2.1 _ g2) (fun _ h9 => by rw [← g5]; exact h9) hv hd (kk H locs ls hP hD hS hl)
theorem ww_put (C : CX X rm cc nL own ret E) {idx ci f a : Nat} {ty : FieldType} {fs : List Value} {v : Value} {ws' : va_W} (hg : FP own idx ci f ty false) (q0 : Nat) (he : ws[q0]? = some (a, .inr (ci, fs))) (hn : narrow ty v = v) (hf : fits ty v = true) (hl9 : Nat.blt f fs.length = true) (hw : ws.set q0 (a, .inr (ci, fs.set f v)) = ws') (hd : decode cc pc = .ok (.putfield idx, 3)) (kk : WW X nL E (pc + 3) lv st ws' k n) : WW X nL E pc lv (v :: .ref a :: st) ws k n :=
  by
  obtain ⟨Cn, T, Nf, ty0, g1, g2, g3, g4, g5, g6, g7, g8, g9⟩ := hg
  subst hw
  exact fun H locs ls hP hD hS hl => va_put C.1 C.2.1 C.2.2.2.2.1 g1 ty0 g6 g7 C.2.2.2.1 C.2.2.2.2.2.1.1 hP hD hS q0 he g3 f g4 (C.2.2.2.2.1 _ g2) (fun _ h9 => by rw [← g5]; exact h9) g8 g9 hn hf (Nat.le_of_ble_eq_true hl9) hd (fun H1 locs1 hP hD hS => kk H1 locs1 ls hP hD hS hl)
theorem ww_putF (C : CX X rm cc nL own ret E) {idx ci f a : Nat} {ty : FieldType} {fs : List Value} {v : Value} {ws' : va_W} (hg : FP own idx ci f ty true) (hin : X.2.2.2.2.2.2.2.2.1.name = "<init>") (ho : ∃ T Nf, vwCl[ci]? = some (own, T, Nf)) (q0 : Nat) (he : ws[q0]? = some (a, .inr (ci, fs))) (hn : narrow ty v = v) (hf : fits ty v = true) (hl9 : Nat.blt f fs.length = true) (hw : ws.set q0 (a, .inr (ci, fs.set f v)) = ws') (hd : decode cc pc = .ok (.putfield idx, 3)) (kk : WW X nL E (pc + 3) lv st ws' k n) : WW X nL E pc lv (v :: .ref a :: st) ws k n :=
  by
  obtain ⟨Cn, T, Nf, ty0, g1, g2, g3, g4, g5, g6, g7, g8, g9⟩ := hg
  subst hw
  obtain ⟨T2, N2, ho⟩ := ho
  have eo : Cn = own := by rw [g3] at ho; exact (Prod.mk.inj (Option.some.inj ho)).1
  exact fun H locs ls hP hD hS hl => va_putF C.1 C.2.1 C.2.2.2.2.1 g1 ty0 g6 g7 C.2.2.2.1 C.2.2.2.2.2.1.1 hP hD hS q0 he g3 f g4 (C.2.2.2.2.1 _ g2) (fun _ h9 => by rw [← g5]; exact h9) g8 hin (g5.trans eo) g9 hn hf (Nat.le_of_ble_eq_true hl9) hd (fun H1 locs1 hP hD hS => kk H1 locs1 ls hP hD hS hl)
theorem ww_iald (C : CX X rm cc nL own ret E) {a N : Nat} {f : Nat → Int32} {i v : Int32} (q0 : Nat) (he : ws[q0]? = some (a, .inl (E.2.1 1, N, .inl f))) (hi : vp_in i N) (hv : f i.toNatClampNeg = v) (hd : decode cc pc = .ok (.iaload, 1)) (kk : WW X nL E (pc + 1) lv (.int v :: st) ws k n) : WW X nL E pc lv (.int i :: .ref a :: st) ws k n :=
  by
  subst hv
  exact fun H locs ls hP hD hS hl => va_iald C.1 C.2.1 C.2.2.2.2.2.1.1 hP q0 1 he rfl hi hd (kk H locs ls hP hD hS hl)
theorem ww_bald (C : CX X rm cc nL own ret E) {a N : Nat} {f : Nat → Int32} {i v : Int32} (q0 : Nat) (he : ws[q0]? = some (a, .inl (E.2.1 0, N, .inl f))) (hi : vp_in i N) (hv : f i.toNatClampNeg = v) (hd : decode cc pc = .ok (.baload, 1)) (kk : WW X nL E (pc + 1) lv (.int v :: st) ws k n) : WW X nL E pc lv (.int i :: .ref a :: st) ws k n :=
  by
  subst hv
  exact fun H locs ls hP hD hS hl => va_bald C.1 C.2.1 C.2.2.2.2.2.1.1 hP q0 0 he rfl hi hd (kk H locs ls hP hD hS hl)
theorem ww_zald (C : CX X rm cc nL own ret E) {a N : Nat} {f : Nat → Int32} {i v : Int32} (q0 : Nat) (he : ws[q0]? = some (a, .inl (E.2.1 3, N, .inl f))) (hi : vp_in i N) (hv : f i.toNatClampNeg = v) (hd : decode cc pc = .ok (.baload, 1)) (kk : WW X nL E (pc + 1) lv (.int v :: st) ws k n) : WW X nL E pc lv (.int i :: .ref a :: st) ws k n :=
  by
  subst hv
  exact fun H locs ls hP hD hS hl => va_zald C.1 C.2.1 C.2.2.2.2.2.1.1 hP q0 3 he rfl hi hd (kk H locs ls hP hD hS hl)
theorem ww_lald (C : CX X rm cc nL own ret E) {a N : Nat} {f : Nat → Int64} {i : Int32} {v : Int64} (q0 : Nat) (he : ws[q0]? = some (a, .inl (E.2.1 2, N, .inr (.inl f)))) (hi : vp_in i N) (hv : f i.toNatClampNeg = v) (hd : decode cc pc = .ok (.laload, 1)) (kk : WW X nL E (pc + 1) lv (.long v :: st) ws k n) : WW X nL E pc lv (.int i :: .ref a :: st) ws k n :=
  by
  subst hv
  exact fun H locs ls hP hD hS hl => va_lald C.1 C.2.1 C.2.2.2.2.2.1.1 hP q0 2 he rfl hi hd (kk H locs ls hP hD hS hl)
theorem ww_ald (C : CX X rm cc nL own ret E) {a N t0 : Nat} {Cn : String} {cA : ClassId} {f : Nat → Option Nat} {i : Int32} {v : Option Nat} (q0 : Nat) (he : ws[q0]? = some (a, .inl (cA, N, .inr (.inr (.inr (.inr f)))))) (ht : (cyT E)[t0]? = some (cA, .object Cn)) (hi : vp_in i N) (hv : f i.toNatClampNeg = v) (hd : decode cc pc = .ok (.aaload, 1)) (kk : WW X nL E (pc + 1) lv (va_rf v :: st) ws k n) : WW X nL E pc lv (.int i :: .ref a :: st) ws k n :=
  by
  subst hv
  exact fun H locs ls hP hD hS hl => va_aldq C.1 C.2.1 C.2.2.2.2.2.1.1 hP q0 t0 he ht hi hd (kk H locs ls hP hD hS hl)
theorem ww_iast (C : CX X rm cc nL own ret E) {a N : Nat} {f f' : Nat → Int32} {i x : Int32} {ws' : va_W} (q0 : Nat) (he : ws[q0]? = some (a, .inl (E.2.1 1, N, .inl f))) (hi : vp_in i N) (hv : upd f i.toNatClampNeg x = f') (hw : ws.set q0 (a, .inl (E.2.1 1, N, .inl f')) = ws') (hd : decode cc pc = .ok (.iastore, 1)) (kk : WW X nL E (pc + 1) lv st ws' k n) : WW X nL E pc lv (.int x :: .int i :: .ref a :: st) ws k n :=
  by
  subst hv
  subst hw
  exact fun H locs ls hP hD hS hl => va_iast C.1 C.2.1 C.2.2.2.2.2.1.1 hP hD hS q0 1 he rfl hi hd (fun H1 locs1 hP hD hS => kk H1 locs1 ls hP hD hS hl)
theorem ww_bast (C : CX X rm cc nL own ret E) {a N : Nat} {f f' : Nat → Int32} {i x : Int32} {ws' : va_W} (q0 : Nat) (he : ws[q0]? = some (a, .inl (E.2.1 0, N, .inl f))) (hi : vp_in i N) (hv : upd f i.toNatClampNeg (vp_nar .byte x) = f') (hw : ws.set q0 (a, .inl (E.2.1 0, N, .inl f')) = ws') (hd : decode cc pc = .ok (.bastore, 1)) (kk : WW X nL E (pc + 1) lv st ws' k n) : WW X nL E pc lv (.int x :: .int i :: .ref a :: st) ws k n :=
  by
  subst hv
  subst hw
  exact fun H locs ls hP hD hS hl => va_bast C.1 C.2.1 C.2.2.2.2.2.1.1 hP hD hS q0 0 he rfl hi hd (fun H1 locs1 hP hD hS => kk H1 locs1 ls hP hD hS hl)
theorem ww_zast (C : CX X rm cc nL own ret E) {a N : Nat} {f f' : Nat → Int32} {i x : Int32} {ws' : va_W} (q0 : Nat) (he : ws[q0]? = some (a, .inl (E.2.1 3, N, .inl f))) (hi : vp_in i N) (hv : upd f i.toNatClampNeg (vp_nar .boolean x) = f') (hw : ws.set q0 (a, .inl (E.2.1 3, N, .inl f')) = ws') (hd : decode cc pc = .ok (.bastore, 1)) (kk : WW X nL E (pc + 1) lv st ws' k n) : WW X nL E pc lv (.int x :: .int i :: .ref a :: st) ws k n :=
  by
  subst hv
  subst hw
  exact fun H locs ls hP hD hS hl => va_zast C.1 C.2.1 C.2.2.2.2.2.1.1 hP hD hS q0 3 he rfl hi hd (fun H1 locs1 hP hD hS => kk H1 locs1 ls hP hD hS hl)
theorem ww_last (C : CX X rm cc nL own ret E) {a N : Nat} {f f' : Nat → Int64} {i : Int32} {x : Int64} {ws' : va_W} (q0 : Nat) (he : ws[q0]? = some (a, .inl (E.2.1 2, N, .inr (.inl f)))) (hi : vp_in i N) (hv : vp_updL f i.toNatClampNeg x = f') (hw : ws.set q0 (a, .inl (E.2.1 2, N, .inr (.inl f'))) = ws') (hd : decode cc pc = .ok (.lastore, 1)) (kk : WW X nL E (pc + 1) lv st ws' k n) : WW X nL E pc lv (.long x :: .int i :: .ref a :: st) ws k n :=
  by
  subst hv
  subst hw
  exact fun H locs ls hP hD hS hl => va_last C.1 C.2.1 C.2.2.2.2.2.1.1 hP hD hS q0 2 he rfl hi hd (fun H1 locs1 hP hD hS => kk H1 locs1 ls hP hD hS hl)
theorem ww_ast (C : CX X rm cc nL own ret E) {a N t0 ci v : Nat} {Cn : String} {T : u_T} {Nf : Nat} {cA : ClassId} {vs : List Value} {f f' : Nat → Option Nat} {i : Int32} {ws' : va_W} (q0 qk : Nat) (he : ws[q0]? = some (a, .inl (cA, N, .inr (.inr (.inr (.inr f)))))) (ht : (cyT E)[t0]? = some (cA, .object Cn)) (hk : ws[qk]? = some (v, .inr (ci, vs))) (hc : vwCl[ci]? = some (Cn, T, Nf)) (hi : vp_in i N) (hv : va_up f i.toNatClampNeg (some v) = f') (hw : ws.set q0 (a, .inl (cA, N, .inr (.inr (.inr (.inr f'))))) = ws') (hd : decode cc pc = .ok (.aastore, 1)) (kk : WW X nL E (pc + 1) lv st ws' k n) : WW X nL E pc lv (.ref v :: .int i :: .ref a :: st) ws k n :=
  by
  subst hv
  subst hw
  exact fun H locs ls hP hD hS hl => va_astq C.1 C.2.1 C.2.2.2.2.2.1.1 hP hD hS q0 t0 qk ci he ht hk hc hi hd (fun H1 locs1 hP hD hS => kk H1 locs1 ls hP hD hS hl)
theorem ww_astN (C : CX X rm cc nL own ret E) {a N t0 : Nat} {Cn : String} {cA : ClassId} {f f' : Nat → Option Nat} {i : Int32} {ws' : va_W} (q0 : Nat) (he : ws[q0]? = some (a, .inl (cA, N, .inr (.inr (.inr (.inr f)))))) (ht : (cyT E)[t0]? = some (cA, .object Cn)) (hi : vp_in i N) (hv : va_up f i.toNatClampNeg none = f') (hw : ws.set q0 (a, .inl (cA, N, .inr (.inr (.inr (.inr f'))))) = ws') (hd : decode cc pc = .ok (.aastore, 1)) (kk : WW X nL E (pc + 1) lv st ws' k n) : WW X nL E pc lv (.null :: .int i :: .ref a :: st) ws k n :=
  by
  subst hv
  subst hw
  exact fun H locs ls hP hD hS hl => va_astqN C.1 C.2.1 C.2.2.2.2.2.1.1 hP hD hS q0 t0 he ht hi hd (fun H1 locs1 hP hD hS => kk H1 locs1 ls hP hD hS hl)
theorem ww_alen (C : CX X rm cc nL own ret E) {a t0 : Nat} {cA : ClassId} {x : vp_A} {ty : FieldType} {v : Int32} (q0 : Nat) (he : ws[q0]? = some (a, .inl (cA, x))) (ht : (cyT E)[t0]? = some (cA, ty)) (hv : Int32.ofNat x.1 = v) (hd : decode cc pc = .ok (.arraylength, 1)) (kk : WW X nL E (pc + 1) lv (.int v :: st) ws k n) : WW X nL E pc lv (.ref a :: st) ws k n :=
  fun H locs ls hP hD hS hl => va_alen C.1 C.2.1 C.2.2.2.2.2.1.1 hP q0 t0 he ht hv hd (kk H locs ls hP hD hS hl)
def CN (own : String) (idx ci Nf : Nat) (fs : List Value) : Prop := ∃ (Cn : String) (T : u_T) (ty0 : Nat → FieldType), (∀ w ∈ u_ws Cn T Nf, w ∈ TB) ∧ Cond.classLink own idx Cn ∈ TB ∧ Cond.instantiable Cn Nf ∈ TB ∧ Cond.initialized Cn ∈ TB ∧ vwCl[ci]? = some (Cn, T, Nf) ∧ (∀ k, k < Nf → parseFieldDescriptor (T k).2.2.1 = some (ty0 k)) ∧ (∀ j, j < Nf → defaultValue (ty0 j) = vp_V fs j)
theorem new_ty (C : CX X rm cc nL own ret E) (t0 : Nat) {cA cB : ClassId} {ty : FieldType} (hp : ty = .int ∨ ty = .byte ∨ ty = .long ∨ ty = .boolean) (ht : (cyT E)[t0]? = some (cB, ty)) {tl : List (ClassId × FieldType)} (h : va_K E.1 vwCl (tl ++ [(cA, ty)]) X.2.2.2.2.1) : cA = cB := by
  have h1 := (C.2.2.2.2.2.1.1.2 t0 _ ht).2
  have h2 := (h.2 tl.length (cA, ty) (by simp)).2
  rcases hp with rfl | rfl | rfl | rfl
  · exact Option.some.inj ((va_nm_int h2).symm.trans (va_nm_int h1))
  · exact Option.some.inj ((va_nm_byte h2).symm.trans (va_nm_byte h1))
  · exact Option.some.inj ((va_nm_long h2).symm.trans (va_nm_long h1))
  · exact Option.some.inj ((va_nm_boolean h2).symm.trans (va_nm_boolean h1))
theorem new_tq (C : CX X rm cc nL own ret E) (t0 : Nat) {cA cB : ClassId} {Cn : String} (ht : (cyT E)[t0]? = some (cB, .object Cn)) {tl : List (ClassId × FieldType)} (h : va_K E.1 vwCl (tl ++ [(cA, .object Cn)]) X.2.2.2.2.1) : cA = cB := by
  have h1 := (C.2.2.2.2.2.1.1.2 t0 _ ht).2
  have h2 := (h.2 tl.length (cA, .object Cn) (by simp)).2
  obtain ⟨_, _, _, _, _, h3⟩ := h1
  obtain ⟨_, _, _, _, _, h4⟩ := h2
  exact Option.some.inj (h4.symm.trans h3)
def cnN (rm : Room) (k n s k' n' : Nat) : Bool := Nat.ble (k + 1) k' && (Nat.ble (n + s) n' && (Nat.ble k' rm.cells && Nat.ble n' rm.slots))
theorem cnN.use {rm : Room} {k n s k' n' : Nat} (h : cnN rm k n s k' n' = true) : k + 1 ≤ k' ∧ n + s ≤ n' ∧ k + 1 ≤ rm.cells ∧ n + s ≤ rm.slots := by
  simp only [cnN, Bool.and_eq_true] at h
  have h1 := Nat.le_of_ble_eq_true h.1
  have h2 := Nat.le_of_ble_eq_true h.2.1
  exact ⟨h1, h2, Nat.le_trans h1 (Nat.le_of_ble_eq_true h.2.2.1), Nat.le_trans h2 (Nat.le_of_ble_eq_true h.2.2.2)⟩
theorem ww_new (C : CX X rm cc nL own ret E) {idx ci Nf k' n' : Nat} {fs : List Value} (hc : CN own idx ci Nf fs) (hk : cnN rm k n Nf k' n' = true) (hd : decode cc pc = .ok (.new idx, 3)) (kk : ∀ q : Nat, WW X nL E (pc + 3) lv (.ref q :: st) (ws ++ [(q, .inr (ci, fs))]) k' n') : WW X nL E pc lv st ws k n :=
  by
  obtain ⟨Cn, T, ty0, g1, g2, g3, g4, g5, g6, g7⟩ := hc
  obtain ⟨k1, k2, k3, k4⟩ := cnN.use hk
  have hrm := C.2.2.2.2.2.2.2.2.2
  exact fun H locs ls hP hD hS hl => va_new C.1 C.2.1 C.2.2.2.2.1 g1 ty0 g6 C.2.2.2.1 (C.2.2.2.2.1 _ g2) (C.2.2.2.2.1 _ g3) (C.2.2.2.2.1 _ g4) C.2.2.2.2.2.1.1 hP hD hS C.2.2.2.2.2.2.1 g5 g7 (by rw [hrm]; exact k3) (by rw [hrm]; exact k4) hd (fun q H1 hP hD hS => W.widen k1 k2 (kk q H1 locs ls hP hD hS hl))
theorem ww_newi (C : CX X rm cc nL own ret E) {N k' n' : Nat} {x : Int32} (ha : Cond.arrayClass .int ∈ TB) (hn : ¬ x < 0) (hN : x.toNatClampNeg = N) (hb : Nat.ble (N * componentBytes .int) 536870912 = true) (hk : cnN rm k n N k' n' = true) (hd : decode cc pc = .ok (.newarray .int, 2)) (kk : ∀ q : Nat, WW X nL E (pc + 2) lv (.ref q :: st) (ws ++ [(q, .inl (E.2.1 1, (N, .inl (fun _ => 0))))]) k' n') : WW X nL E pc lv (.int x :: st) ws k n :=
  by
  obtain ⟨k1, k2, k3, k4⟩ := cnN.use hk
  have hrm := C.2.2.2.2.2.2.2.2.2
  refine fun H locs ls hP hD hS hl => va_newa (atype := .int) (a0 := (N, .inl (fun _ => 0))) C.1 C.2.1 (C.2.2.2.2.1 _ ha) rfl C.2.2.2.2.2.1.1 hP hD hS C.2.2.2.2.2.2.1 (fun cA => rfl) hn hN (Nat.le_of_ble_eq_true hb) (by rw [hrm]; exact k3) (by rw [hrm]; exact k4) hd (fun q cA H1 hK hP hD hS => ?_)
  have e := new_ty C 1 (cB := E.2.1 1) (by simp) rfl hK
  subst e
  exact W.widen k1 k2 (kk q H1 locs ls hP hD hS hl)
theorem ww_newb (C : CX X rm cc nL own ret E) {N k' n' : Nat} {x : Int32} (ha : Cond.arrayClass .byte ∈ TB) (hn : ¬ x < 0) (hN : x.toNatClampNeg = N) (hb : Nat.ble (N * componentBytes .byte) 536870912 = true) (hk : cnN rm k n N k' n' = true) (hd : decode cc pc = .ok (.newarray .byte, 2)) (kk : ∀ q : Nat, WW X nL E (pc + 2) lv (.ref q :: st) (ws ++ [(q, .inl (E.2.1 0, (N, .inl (fun _ => 0))))]) k' n') : WW X nL E pc lv (.int x :: st) ws k n :=
  by
  obtain ⟨k1, k2, k3, k4⟩ := cnN.use hk
  have hrm := C.2.2.2.2.2.2.2.2.2
  refine fun H locs ls hP hD hS hl => va_newa (atype := .byte) (a0 := (N, .inl (fun _ => 0))) C.1 C.2.1 (C.2.2.2.2.1 _ ha) rfl C.2.2.2.2.2.1.1 hP hD hS C.2.2.2.2.2.2.1 (fun cA => rfl) hn hN (Nat.le_of_ble_eq_true hb) (by rw [hrm]; exact k3) (by rw [hrm]; exact k4) hd (fun q cA H1 hK hP hD hS => ?_)
  have e := new_ty C 0 (cB := E.2.1 0) (by simp) rfl hK
  subst e
  exact W.widen k1 k2 (kk q H1 locs ls hP hD hS hl)
theorem ww_newz (C : CX X rm cc nL own ret E) {N k' n' : Nat} {x : Int32} (ha : Cond.arrayClass .boolean ∈ TB) (hn : ¬ x < 0) (hN : x.toNatClampNeg = N) (hb : Nat.ble (N * componentBytes .boolean) 536870912 = true) (hk : cnN rm k n N k' n' = true) (hd : decode cc pc = .ok (.newarray .boolean, 2)) (kk : ∀ q : Nat, WW X nL E (pc + 2) lv (.ref q :: st) (ws ++ [(q, .inl (E.2.1 3, (N, .inl (fun _ => 0))))]) k' n') : WW X nL E pc lv (.int x :: st) ws k n :=
  by
  obtain ⟨k1, k2, k3, k4⟩ := cnN.use hk
  have hrm := C.2.2.2.2.2.2.2.2.2
  refine fun H locs ls hP hD hS hl => va_newa (atype := .boolean) (a0 := (N, .inl (fun _ => 0))) C.1 C.2.1 (C.2.2.2.2.1 _ ha) rfl C.2.2.2.2.2.1.1 hP hD hS C.2.2.2.2.2.2.1 (fun cA => rfl) hn hN (Nat.le_of_ble_eq_true hb) (by rw [hrm]; exact k3) (by rw [hrm]; exact k4) hd (fun q cA H1 hK hP hD hS => ?_)
  have e := new_ty C 3 (cB := E.2.1 3) (by simp) rfl hK
  subst e
  exact W.widen k1 k2 (kk q H1 locs ls hP hD hS hl)
theorem ww_newl (C : CX X rm cc nL own ret E) {N k' n' : Nat} {x : Int32} (ha : Cond.arrayClass .long ∈ TB) (hn : ¬ x < 0) (hN : x.toNatClampNeg = N) (hb : Nat.ble (N * componentBytes .long) 536870912 = true) (hk : cnN rm k n N k' n' = true) (hd : decode cc pc = .ok (.newarray .long, 2)) (kk : ∀ q : Nat, WW X nL E (pc + 2) lv (.ref q :: st) (ws ++ [(q, .inl (E.2.1 2, (N, .inr (.inl (fun _ => 0)))))]) k' n') : WW X nL E pc lv (.int x :: st) ws k n :=
  by
  obtain ⟨k1, k2, k3, k4⟩ := cnN.use hk
  have hrm := C.2.2.2.2.2.2.2.2.2
  refine fun H locs ls hP hD hS hl => va_newa (atype := .long) (a0 := (N, .inr (.inl (fun _ => 0)))) C.1 C.2.1 (C.2.2.2.2.1 _ ha) rfl C.2.2.2.2.2.1.1 hP hD hS C.2.2.2.2.2.2.1 (fun cA => rfl) hn hN (Nat.le_of_ble_eq_true hb) (by rw [hrm]; exact k3) (by rw [hrm]; exact k4) hd (fun q cA H1 hK hP hD hS => ?_)
  have e := new_ty C 2 (cB := E.2.1 2) (by simp) rfl hK
  subst e
  exact W.widen k1 k2 (kk q H1 locs ls hP hD hS hl)
theorem ww_newq (C : CX X rm cc nL own ret E) {N k' n' t0 idx : Nat} {x : Int32} {Cn : String} {cB : ClassId} (hl0 : Cond.classLink own idx Cn ∈ TB) (ho : Cn ∈ kkA) (ht : (cyT E)[t0]? = some (cB, .object Cn)) (hn : ¬ x < 0) (hN : x.toNatClampNeg = N) (hb : Nat.ble (N * 4) 536870912 = true) (hk : cnN rm k n N k' n' = true) (hd : decode cc pc = .ok (.anewarray idx, 3)) (kk : ∀ q : Nat, WW X nL E (pc + 3) lv (.ref q :: st) (ws ++ [(q, .inl (cB, N, .inr (.inr (.inr (.inr (fun _ => none))))))]) k' n') : WW X nL E pc lv (.int x :: st) ws k n :=
  by
  obtain ⟨k1, k2, k3, k4⟩ := cnN.use hk
  have hrm := C.2.2.2.2.2.2.2.2.2
  refine fun H locs ls hP hD hS hl => va_newq C.1 C.2.1 C.2.2.2.1 (C.2.2.2.2.1 _ hl0) (C.2.2.2.2.2.1.2.2.1 _ ho) C.2.2.2.2.2.1.1 hP hD hS C.2.2.2.2.2.2.1 hn hN (Nat.le_of_ble_eq_true hb) (by rw [hrm]; exact k3) (by rw [hrm]; exact k4) hd (fun q cA H1 hK hP hD hS => ?_)
  have e := new_tq C t0 ht hK
  subst e
  exact W.widen k1 k2 (kk q H1 locs ls hP hD hS hl)
theorem ww_objInit (C : CX X rm cc nL own ret E) {a idx : Nat} (h1 : Cond.methodLink own idx objectInit ∈ TB) (h2 : Cond.instanceMethod objectInit ∈ TB) (h3 : Cond.code objectInit ⟨#[0xb1]⟩ 1 none ∈ TB) (hr : (Nat.ble 1 rm.frames && Nat.ble ((st.map fun v => v.category).sum + 12) rm.locals) = true) (hd : decode cc pc = .ok (.invokespecial idx, 3)) (kk : WW X nL E (pc + 3) lv st ws k n) : WW X nL E pc lv (.ref a :: st) ws k n :=
  by
  have hrm := C.2.2.2.2.2.2.2.2.2
  simp only [Bool.and_eq_true] at hr
  exact fun H locs ls hP hD hS hl => W.objInit C.1 C.2.1 C.2.2.2.1 (C.2.2.2.2.1 _ h1) (C.2.2.2.2.1 _ h2) (C.2.2.2.2.1 _ h3) rfl (by rw [C.2.2.1]; exact hl.1) rfl hd (by rw [hrm]; exact Nat.le_of_ble_eq_true hr.1) (by rw [hrm]; have := Nat.le_of_ble_eq_true hr.2; show 2 * 0 + _ + 12 ≤ _; omega) (kk H locs ls hP hD hS hl)
theorem ww_copyi (C : CX X rm cc nL own ret E) {a a0 N0 N1 idx : Nat} {f g h : Nat → Int32} {sp dp x : Int32} {ws' : va_W} (h1 : Cond.methodLink own idx arraycopyName ∈ TB) (h2 : Cond.native arraycopyName ∈ TB) (h3 : Cond.static arraycopyName ∈ TB) (h4 : Cond.initialized "java/lang/System" ∈ TB) (q0 q1 : Nat) (he0 : ws[q0]? = some (a0, .inl (E.2.1 1, N0, .inl f))) (he1 : ws[q1]? = some (a, .inl (E.2.1 1, N1, .inl g))) (s1 : ¬ sp < 0) (s2 : ¬ dp < 0) (s3 : ¬ x < 0) (s4 : sp.toNatClampNeg + x.toNatClampNeg ≤ N0) (s5 : dp.toNatClampNeg + x.toNatClampNeg ≤ N1) (hr : (Nat.ble 1 rm.frames && Nat.ble ((st.map fun v => v.category).sum + (nativeFrameWords "java/lang/System" "arraycopy" 5 + 11)) rm.locals) = true) (hv : va_cpy f g sp.toNatClampNeg dp.toNatClampNeg x.toNatClampNeg = h) (hw : ws.set q1 (a, .inl (E.2.1 1, N1, .inl h)) = ws') (hd : decode cc pc = .ok (.invokestatic idx, 3)) (kk : WW X nL E (pc + 3) lv st ws' k n) : WW X nL E pc lv (.int x :: .int dp :: .ref a :: .int sp :: .ref a0 :: st) ws k n :=
  by
  have hrm := C.2.2.2.2.2.2.2.2.2
  simp only [Bool.and_eq_true] at hr
  subst hv
  subst hw
  exact fun H locs ls hP hD hS hl => va_copyi C.1 C.2.1 (C.2.2.1.trans hl.1.symm) C.2.2.2.1 (C.2.2.2.2.1 _ h1) (C.2.2.2.2.1 _ h2) (C.2.2.2.2.1 _ h3) (C.2.2.2.2.1 _ h4) C.2.2.2.2.2.1.1 hP hD hS q0 q1 1 1 he0 he1 rfl rfl rfl s1 s2 s3 s4 s5 (fun _ _ => rfl) (by rw [hrm]; exact Nat.le_of_ble_eq_true hr.1) (by rw [hrm]; exact Nat.le_of_ble_eq_true hr.2) hd (fun H1 locs1 hP hD hS => kk H1 locs1 ls hP hD hS hl)
theorem ww_mmin (C : CX X rm cc nL own ret E) {idx : Nat} {x y v : Int32} (h1 : Cond.methodLink own idx Lib.Math.min.name ∈ TB) (h2 : Cond.static Lib.Math.min.name ∈ TB) (h3 : Cond.initialized "java/lang/Math" ∈ TB) (h4 : Cond.code Lib.Math.min.name Lib.Math.min.code 2 (some .int) ∈ TB) (hr : (Nat.ble 1 rm.frames && (Nat.ble ((st.map fun v => v.category).sum + 13) rm.locals && (Nat.ble k rm.cells && Nat.ble n rm.slots))) = true) (hv : (if y < x then y else x) = v) (hd : decode cc pc = .ok (.invokestatic idx, 3)) (kk : WW X nL E (pc + 3) lv (.int v :: st) ws k n) : WW X nL E pc lv (.int y :: .int x :: st) ws k n :=
  by
  have hrm := C.2.2.2.2.2.2.2.2.2
  simp only [Bool.and_eq_true] at hr
  subst hv
  exact fun H locs ls hP hD hS hl => va_mmin C.1 C.2.1 (C.2.2.1.trans hl.1.symm) C.2.2.2.1 (C.2.2.2.2.1 _ h1) (C.2.2.2.2.1 _ h2) (C.2.2.2.2.1 _ h3) (C.2.2.2.2.1 _ h4) (by rw [hrm]; exact Nat.le_of_ble_eq_true hr.1) (by rw [hrm]; exact Nat.le_of_ble_eq_true hr.2.1) (by rw [hrm]; exact Nat.le_of_ble_eq_true hr.2.2.1) (by rw [hrm]; exact Nat.le_of_ble_eq_true hr.2.2.2) hd (kk H locs ls hP hD hS hl)
theorem ww_mmax (C : CX X rm cc nL own ret E) {idx : Nat} {x y v : Int32} (h1 : Cond.methodLink own idx Lib.Math.max.name ∈ TB) (h2 : Cond.static Lib.Math.max.name ∈ TB) (h3 : Cond.initialized "java/lang/Math" ∈ TB) (h4 : Cond.code Lib.Math.max.name Lib.Math.max.code 2 (some .int) ∈ TB) (hr : (Nat.ble 1 rm.frames && (Nat.ble ((st.map fun v => v.category).sum + 13) rm.locals && (Nat.ble k rm.cells && Nat.ble n rm.slots))) = true) (hv : (if x < y then y else x) = v) (hd : decode cc pc = .ok (.invokestatic idx, 3)) (kk : WW X nL E (pc + 3) lv (.int v :: st) ws k n) : WW X nL E pc lv (.int y :: .int x :: st) ws k n :=
  by
  have hrm := C.2.2.2.2.2.2.2.2.2
  simp only [Bool.and_eq_true] at hr
  subst hv
  exact fun H locs ls hP hD hS hl => va_mmax C.1 C.2.1 (C.2.2.1.trans hl.1.symm) C.2.2.2.1 (C.2.2.2.2.1 _ h1) (C.2.2.2.2.1 _ h2) (C.2.2.2.2.1 _ h3) (C.2.2.2.2.1 _ h4) (by rw [hrm]; exact Nat.le_of_ble_eq_true hr.1) (by rw [hrm]; exact Nat.le_of_ble_eq_true hr.2.1) (by rw [hrm]; exact Nat.le_of_ble_eq_true hr.2.2.1) (by rw [hrm]; exact Nat.le_of_ble_eq_true hr.2.2.2) hd (kk H locs ls hP hD hS hl)
theorem ww_iret {v : Int32} {post : Int32 → va_W → Prop} {u : va_W} {mc ms : Nat} (C : CX X rm cc nL own (some .int) E) (hT : RT X (Qi E post) mc ms) (isU : List Nat) (hU : isU.map (fun i => ws[i]?) = u.map some) (hnd : va_nd isU = true) (hk : Nat.ble k mc = true) (hn : Nat.ble n ms = true) (hd : decode cc pc = .ok (.ireturn, 1)) (hp : post v u) : WW X nL E pc lv [.int v] ws k n := by
  intro H locs ls hP hD hS hl
  obtain ⟨p, l, e, R, s, m, args, below, meth, c, A, Q⟩ := X
  obtain ⟨hx, hb, hml, hown, hts, hK, hA, hr, hlk, hrm⟩ := C
  dsimp only [RT] at *
  subst hT
  refine W.widen (Nat.le_of_ble_eq_true hk) (Nat.le_of_ble_eq_true hn) ?_
  exact W.iret hx hb hr (fun t ht hW => ⟨⟨v, u, rfl, hp, by rw [ht]; exact hP.sub isU (fm_of hU), hD.sub isU hnd hU⟩, hS.F ht⟩) hS.2.2 hd hlk
theorem ww_zret {v : Int32} {post : Int32 → va_W → Prop} {u : va_W} {mc ms : Nat} (C : CX X rm cc nL own (some .boolean) E) (hT : RT X (Qi E post) mc ms) (isU : List Nat) (hU : isU.map (fun i => ws[i]?) = u.map some) (hnd : va_nd isU = true) (hk : Nat.ble k mc = true) (hn : Nat.ble n ms = true) (hz : narrow .boolean (.int v) = .int v) (hd : decode cc pc = .ok (.ireturn, 1)) (hp : post v u) : WW X nL E pc lv [.int v] ws k n := by
  intro H locs ls hP hD hS hl
  obtain ⟨p, l, e, R, s, m, args, below, meth, c, A, Q⟩ := X
  obtain ⟨hx, hb, hml, hown, hts, hK, hA, hr, hlk, hrm⟩ := C
  dsimp only [RT] at *
  subst hT
  refine W.widen (Nat.le_of_ble_eq_true hk) (Nat.le_of_ble_eq_true hn) ?_
  exact W.zret hx hb hr hz (fun t ht hW => ⟨⟨v, u, rfl, hp, by rw [ht]; exact hP.sub isU (fm_of hU), hD.sub isU hnd hU⟩, hS.F ht⟩) hS.2.2 hd hlk
theorem ww_lret {v : Int64} {post : Int64 → va_W → Prop} {u : va_W} {mc ms : Nat} (C : CX X rm cc nL own (some .long) E) (hT : RT X (Ql E post) mc ms) (isU : List Nat) (hU : isU.map (fun i => ws[i]?) = u.map some) (hnd : va_nd isU = true) (hk : Nat.ble k mc = true) (hn : Nat.ble n ms = true) (hd : decode cc pc = .ok (.lreturn, 1)) (hp : post v u) : WW X nL E pc lv [.long v] ws k n := by
  intro H locs ls hP hD hS hl
  obtain ⟨p, l, e, R, s, m, args, below, meth, c, A, Q⟩ := X
  obtain ⟨hx, hb, hml, hown, hts, hK, hA, hr, hlk, hrm⟩ := C
  dsimp only [RT] at *
  subst hT
  refine W.widen (Nat.le_of_ble_eq_true hk) (Nat.le_of_ble_eq_true hn) ?_
  exact W.lret hx hb hr (fun t ht hW => ⟨⟨v, u, rfl, hp, by rw [ht]; exact hP.sub isU (fm_of hU), hD.sub isU hnd hU⟩, hS.F ht⟩) hS.2.2 hd hlk
theorem ww_vret  {post : va_W → Prop} {u : va_W} {mc ms : Nat} (C : CX X rm cc nL own none E) (hT : RT X (Qv E post) mc ms) (isU : List Nat) (hU : isU.map (fun i => ws[i]?) = u.map some) (hnd : va_nd isU = true) (hk : Nat.ble k mc = true) (hn : Nat.ble n ms = true) (hd : decode cc pc = .ok (.return_, 1)) (hp : post u) : WW X nL E pc lv [] ws k n := by
  intro H locs ls hP hD hS hl
  obtain ⟨p, l, e, R, s, m, args, below, meth, c, A, Q⟩ := X
  obtain ⟨hx, hb, hml, hown, hts, hK, hA, hr, hlk, hrm⟩ := C
  dsimp only [RT] at *
  subst hT
  refine W.widen (Nat.le_of_ble_eq_true hk) (Nat.le_of_ble_eq_true hn) ?_
  exact W.vret hx hb hr (fun t ht hW => ⟨⟨u, rfl, hp, by rw [ht]; exact hP.sub isU (fm_of hU), hD.sub isU hnd hU⟩, hS.F ht⟩) hS.2.2 hd hlk
theorem ww_qret {v : Option Nat} {rt : FieldType} {post : Option Nat → va_W → Prop} {u : va_W} {mc ms : Nat} (C : CX X rm cc nL own (some rt) E) (hT : RT X (Qq E post) mc ms) (hrt : (∃ n, rt = .object n) ∨ ∃ t, rt = .array t) (isU : List Nat) (hU : isU.map (fun i => ws[i]?) = u.map some) (hnd : va_nd isU = true) (hk : Nat.ble k mc = true) (hn : Nat.ble n ms = true) (hd : decode cc pc = .ok (.areturn, 1)) (hp : post v u) : WW X nL E pc lv [va_rf v] ws k n := by
  intro H locs ls hP hD hS hl
  obtain ⟨p, l, e, R, s, m, args, below, meth, c, A, Q⟩ := X
  obtain ⟨hx, hb, hml, hown, hts, hK, hA, hr, hlk, hrm⟩ := C
  dsimp only [RT] at *
  subst hT
  refine W.widen (Nat.le_of_ble_eq_true hk) (Nat.le_of_ble_eq_true hn) ?_
  exact W.aret hx hb hr hrt (va_rf_or v) (fun t ht hW => ⟨⟨v, u, rfl, hp, by rw [ht]; exact hP.sub isU (fm_of hU), hD.sub isU hnd hU⟩, hS.F ht⟩) hS.2.2 hd hlk
/-- the same state, told otherwise -/
theorem ww_eq {st' : List Value} {ws' : va_W} {lv' : List (Nat × Value)} (kk : WW X nL E pc lv' st' ws' k n) (h1 : lv = lv') (h2 : st = st') (h3 : ws = ws') : WW X nL E pc lv st ws k n := by
  subst h1; subst h2; subst h3; exact kk
/-- fewer locals -/
theorem ww_lv {lv' : List (Nat × Value)} (ks : List Nat) (h : lv_pick lv ks = lv') (kk : WW X nL E pc lv' st ws k n) : WW X nL E pc lv st ws k n :=
  fun H locs ls hP hD hS hl => kk H locs ls hP hD hS (lv_sub hl ks h)
/-- fewer cells, or in another order -/
theorem ww_sub {ws' : va_W} (is : List Nat) (hnd : va_nd is = true) (h : is.map (fun i => ws[i]?) = ws'.map some) (kk : WW X nL E pc lv st ws' k n) : WW X nL E pc lv st ws k n :=
  fun H locs ls hP hD hS hl => kk H locs ls (hP.sub is (fm_of h)) (hD.sub is hnd h) hS hl
theorem ww_widen {k' n' : Nat} (hk : Nat.ble k k' = true) (hn : Nat.ble n n' = true) (kk : WW X nL E pc lv st ws k' n') : WW X nL E pc lv st ws k n :=
  fun H locs ls hP hD hS hl => W.widen (Nat.le_of_ble_eq_true hk) (Nat.le_of_ble_eq_true hn) (kk H locs ls hP hD hS hl)
end ROW
theorem vin {i : Int32} {N : Nat} (h : (decide (0 ≤ i.toInt) && decide (i.toInt < (N : Int))) = true) : vp_in i N := by
  simp only [Bool.and_eq_true, decide_eq_true_eq] at h
  exact vp_in_iff.mpr h
theorem i_lt {x y : Int32} {a b : Int} (hx : x.toInt = a) (hy : y.toInt = b) (h : x < y) : a < b := by subst hx; subst hy; exact Int32.lt_iff_toInt_lt.mp h
theorem i_nlt {x y : Int32} {a b : Int} (hx : x.toInt = a) (hy : y.toInt = b) (h : ¬ x < y) : b ≤ a := by subst hx; subst hy; have := mt Int32.lt_iff_toInt_lt.mpr h; omega
theorem i_le {x y : Int32} {a b : Int} (hx : x.toInt = a) (hy : y.toInt = b) (h : x ≤ y) : a ≤ b := by subst hx; subst hy; exact Int32.le_iff_toInt_le.mp h
theorem i_nle {x y : Int32} {a b : Int} (hx : x.toInt = a) (hy : y.toInt = b) (h : ¬ x ≤ y) : b < a := by subst hx; subst hy; have := mt Int32.le_iff_toInt_le.mpr h; omega
theorem i_eq {x y : Int32} {a b : Int} (hx : x.toInt = a) (hy : y.toInt = b) (h : x = y) : a = b := by subst hx; subst hy; rw [h]
theorem i_ne {x y : Int32} {a b : Int} (hx : x.toInt = a) (hy : y.toInt = b) (h : ¬ x = y) : a ≠ b := by subst hx; subst hy; exact fun e => h (Int32.toInt_inj.mp e)
theorem i_nne {x y : Int32} {a b : Int} (hx : x.toInt = a) (hy : y.toInt = b) (h : ¬ ¬ x = y) : a = b := i_eq hx hy (Classical.not_not.mp h)
/-- an int between bounds, as a natural number -/
theorem i_nat {x : Int32} {N : Nat} (h0 : 0 ≤ x.toInt) (h1 : x.toInt ≤ (N : Int)) : ∃ j : Nat, j ≤ N ∧ x = nI j := by
  refine ⟨x.toInt.toNat, by omega, ?_⟩
  apply Int32.toInt_inj.mp
  have hb := Int32.toInt_lt x
  rw [nI_toInt (by omega)]
  omega
end
section
theorem uw_of {C : String} {T : u_T} {N : Nat} (ps : List Nat) (h : ∀ k, k < N → (ps[k]?.bind (fun i => tables_1[i]?)) = some (u_lay C T k)) (g : ∀ k, k < N → goodWord (u_lay C T k) = true) : ∀ w ∈ u_ws C T N, w ∈ TB := by
  intro w hw
  obtain ⟨k, hk, rfl⟩ := List.mem_map.mp hw
  have hk := List.mem_range.mp hk
  have h1 := h k hk
  cases hp : ps[k]? with
  | none => rw [hp] at h1; cases h1
  | some i => rw [hp] at h1; exact tbm (List.mem_append_right _ (List.mem_of_getElem? h1)) (g k hk)
theorem vup_s {α : Type} {f : Nat → α} {k : Nat} {v : α} : va_up f k v k = v := by simp [va_up]
theorem vup_n {α : Type} {f : Nat → α} {k j : Nat} {v : α} (h : j ≠ k) : va_up f k v j = f j := by simp [va_up, h]
theorem lc_v (x y : Int64) : (x.toInt < y.toInt ∧ lg_cmp x y = -1) ∨ (x.toInt = y.toInt ∧ lg_cmp x y = 0) ∨ (y.toInt < x.toInt ∧ lg_cmp x y = 1) := by
  unfold lg_cmp
  simp only [gt_iff_lt, Int64.lt_iff_toInt_lt, ← Int64.toInt_inj]
  by_cases h1 : y.toInt < x.toInt
  · exact Or.inr (Or.inr ⟨h1, by simp [h1]⟩)
  · by_cases h2 : x.toInt = y.toInt
    · exact Or.inr (Or.inl ⟨h2, by simp [h2]⟩)
    · exact Or.inl ⟨by omega, by simp [h1, h2]⟩
theorem lc_lt_t {x y : Int64} {a b : Int} (hx : x.toInt = a) (hy : y.toInt = b) (h : lg_cmp x y < 0) : a < b := by
  subst hx; subst hy
  rcases lc_v x y with ⟨h1, h2⟩ | ⟨h1, h2⟩ | ⟨h1, h2⟩ <;> rw [h2] at h <;> first | omega | (exact absurd h (by decide))
theorem lc_lt_f {x y : Int64} {a b : Int} (hx : x.toInt = a) (hy : y.toInt = b) (h : ¬ (lg_cmp x y < 0)) : a ≥ b := by
  subst hx; subst hy
  rcases lc_v x y with ⟨h1, h2⟩ | ⟨h1, h2⟩ | ⟨h1, h2⟩ <;> rw [h2] at h <;> first | omega | (exact absurd h (by decide))
theorem lc_ge_t {x y : Int64} {a b : Int} (hx : x.toInt = a) (hy : y.toInt = b) (h : 0 ≤ lg_cmp x y) : a ≥ b := by
  subst hx; subst hy
  rcases lc_v x y with ⟨h1, h2⟩ | ⟨h1, h2⟩ | ⟨h1, h2⟩ <;> rw [h2] at h <;> first | omega | (exact absurd h (by decide))
theorem lc_ge_f {x y : Int64} {a b : Int} (hx : x.toInt = a) (hy : y.toInt = b) (h : ¬ (0 ≤ lg_cmp x y)) : a < b := by
  subst hx; subst hy
  rcases lc_v x y with ⟨h1, h2⟩ | ⟨h1, h2⟩ | ⟨h1, h2⟩ <;> rw [h2] at h <;> first | omega | (exact absurd h (by decide))
theorem lc_gt_t {x y : Int64} {a b : Int} (hx : x.toInt = a) (hy : y.toInt = b) (h : 0 < lg_cmp x y) : a > b := by
  subst hx; subst hy
  rcases lc_v x y with ⟨h1, h2⟩ | ⟨h1, h2⟩ | ⟨h1, h2⟩ <;> rw [h2] at h <;> first | omega | (exact absurd h (by decide))
theorem lc_gt_f {x y : Int64} {a b : Int} (hx : x.toInt = a) (hy : y.toInt = b) (h : ¬ (0 < lg_cmp x y)) : a ≤ b := by
  subst hx; subst hy
  rcases lc_v x y with ⟨h1, h2⟩ | ⟨h1, h2⟩ | ⟨h1, h2⟩ <;> rw [h2] at h <;> first | omega | (exact absurd h (by decide))
theorem lc_le_t {x y : Int64} {a b : Int} (hx : x.toInt = a) (hy : y.toInt = b) (h : lg_cmp x y ≤ 0) : a ≤ b := by
  subst hx; subst hy
  rcases lc_v x y with ⟨h1, h2⟩ | ⟨h1, h2⟩ | ⟨h1, h2⟩ <;> rw [h2] at h <;> first | omega | (exact absurd h (by decide))
theorem lc_le_f {x y : Int64} {a b : Int} (hx : x.toInt = a) (hy : y.toInt = b) (h : ¬ (lg_cmp x y ≤ 0)) : a > b := by
  subst hx; subst hy
  rcases lc_v x y with ⟨h1, h2⟩ | ⟨h1, h2⟩ | ⟨h1, h2⟩ <;> rw [h2] at h <;> first | omega | (exact absurd h (by decide))
theorem lc_eq_t {x y : Int64} {a b : Int} (hx : x.toInt = a) (hy : y.toInt = b) (h : lg_cmp x y = 0) : a = b := by
  subst hx; subst hy
  rcases lc_v x y with ⟨h1, h2⟩ | ⟨h1, h2⟩ | ⟨h1, h2⟩ <;> rw [h2] at h <;> first | omega | (exact absurd h (by decide))
theorem lc_eq_f {x y : Int64} {a b : Int} (hx : x.toInt = a) (hy : y.toInt = b) (h : ¬ (lg_cmp x y = 0)) : a ≠ b := by
  subst hx; subst hy
  rcases lc_v x y with ⟨h1, h2⟩ | ⟨h1, h2⟩ | ⟨h1, h2⟩ <;> rw [h2] at h <;> first | omega | (exact absurd h (by decide))
theorem lc_ne_t {x y : Int64} {a b : Int} (hx : x.toInt = a) (hy : y.toInt = b) (h : ¬ lg_cmp x y = 0) : a ≠ b := by
  subst hx; subst hy
  rcases lc_v x y with ⟨h1, h2⟩ | ⟨h1, h2⟩ | ⟨h1, h2⟩ <;> rw [h2] at h <;> first | omega | (exact absurd h (by decide))
theorem lc_ne_f {x y : Int64} {a b : Int} (hx : x.toInt = a) (hy : y.toInt = b) (h : lg_cmp x y = 0) : a = b := by
  subst hx; subst hy
  rcases lc_v x y with ⟨h1, h2⟩ | ⟨h1, h2⟩ | ⟨h1, h2⟩ <;> rw [h2] at h <;> first | omega | (exact absurd h (by decide))
theorem sp_0_1 {x : Int32} (h0 : (0 : Int) ≤ x.toInt) (h1 : x.toInt ≤ 1) : x = 0 ∨ x = 1 := by
  simp only [← Int32.toInt_inj]
  have e : ∀ c : Int32, c.toInt = c.toInt := fun _ => rfl
  have e0 : (0 : Int32).toInt = 0 := rfl
  have e1 : (1 : Int32).toInt = 1 := rfl
  omega
theorem sp_0_2 {x : Int32} (h0 : (0 : Int) ≤ x.toInt) (h1 : x.toInt ≤ 2) : x = 0 ∨ x = 1 ∨ x = 2 := by
  simp only [← Int32.toInt_inj]
  have e : ∀ c : Int32, c.toInt = c.toInt := fun _ => rfl
  have e0 : (0 : Int32).toInt = 0 := rfl
  have e1 : (1 : Int32).toInt = 1 := rfl
  have e2 : (2 : Int32).toInt = 2 := rfl
  omega
theorem sp_0_3 {x : Int32} (h0 : (0 : Int) ≤ x.toInt) (h1 : x.toInt ≤ 3) : x = 0 ∨ x = 1 ∨ x = 2 ∨ x = 3 := by
  simp only [← Int32.toInt_inj]
  have e : ∀ c : Int32, c.toInt = c.toInt := fun _ => rfl
  have e0 : (0 : Int32).toInt = 0 := rfl
  have e1 : (1 : Int32).toInt = 1 := rfl
  have e2 : (2 : Int32).toInt = 2 := rfl
  have e3 : (3 : Int32).toInt = 3 := rfl
  omega
theorem sp_0_7 {x : Int32} (h0 : (0 : Int) ≤ x.toInt) (h1 : x.toInt ≤ 7) : x = 0 ∨ x = 1 ∨ x = 2 ∨ x = 3 ∨ x = 4 ∨ x = 5 ∨ x = 6 ∨ x = 7 := by
  simp only [← Int32.toInt_inj]
  have e : ∀ c : Int32, c.toInt = c.toInt := fun _ => rfl
  have e0 : (0 : Int32).toInt = 0 := rfl
  have e1 : (1 : Int32).toInt = 1 := rfl
  have e2 : (2 : Int32).toInt = 2 := rfl
  have e3 : (3 : Int32).toInt = 3 := rfl
  have e4 : (4 : Int32).toInt = 4 := rfl
  have e5 : (5 : Int32).toInt = 5 := rfl
  have e6 : (6 : Int32).toInt = 6 := rfl
  have e7 : (7 : Int32).toInt = 7 := rfl
  omega
theorem sp_0_8 {x : Int32} (h0 : (0 : Int) ≤ x.toInt) (h1 : x.toInt ≤ 8) : x = 0 ∨ x = 1 ∨ x = 2 ∨ x = 3 ∨ x = 4 ∨ x = 5 ∨ x = 6 ∨ x = 7 ∨ x = 8 := by
  simp only [← Int32.toInt_inj]
  have e : ∀ c : Int32, c.toInt = c.toInt := fun _ => rfl
  have e0 : (0 : Int32).toInt = 0 := rfl
  have e1 : (1 : Int32).toInt = 1 := rfl
  have e2 : (2 : Int32).toInt = 2 := rfl
  have e3 : (3 : Int32).toInt = 3 := rfl
  have e4 : (4 : Int32).toInt = 4 := rfl
  have e5 : (5 : Int32).toInt = 5 := rfl
  have e6 : (6 : Int32).toInt = 6 := rfl
  have e7 : (7 : Int32).toInt = 7 := rfl
  have e8 : (8 : Int32).toInt = 8 := rfl
  omega
theorem sp_1_4 {x : Int32} (h0 : (1 : Int) ≤ x.toInt) (h1 : x.toInt ≤ 4) : x = 1 ∨ x = 2 ∨ x = 3 ∨ x = 4 := by
  simp only [← Int32.toInt_inj]
  have e : ∀ c : Int32, c.toInt = c.toInt := fun _ => rfl
  have e1 : (1 : Int32).toInt = 1 := rfl
  have e2 : (2 : Int32).toInt = 2 := rfl
  have e3 : (3 : Int32).toInt = 3 := rfl
  have e4 : (4 : Int32).toInt = 4 := rfl
  omega
theorem sp_2_4 {x : Int32} (h0 : (2 : Int) ≤ x.toInt) (h1 : x.toInt ≤ 4) : x = 2 ∨ x = 3 ∨ x = 4 := by
  simp only [← Int32.toInt_inj]
  have e : ∀ c : Int32, c.toInt = c.toInt := fun _ => rfl
  have e2 : (2 : Int32).toInt = 2 := rfl
  have e3 : (3 : Int32).toInt = 3 := rfl
  have e4 : (4 : Int32).toInt = 4 := rfl
  omega
theorem sp_0_37 {x : Int32} (h0 : (0 : Int) ≤ x.toInt) (h1 : x.toInt ≤ 37) : x = 0 ∨ x = 1 ∨ x = 2 ∨ x = 3 ∨ x = 4 ∨ x = 5 ∨ x = 6 ∨ x = 7 ∨ x = 8 ∨ x = 9 ∨ x = 10 ∨ x = 11 ∨ x = 12 ∨ x = 13 ∨ x = 14 ∨ x = 15 ∨ x = 16 ∨ x = 17 ∨ x = 18 ∨ x = 19 ∨ x = 20 ∨ x = 21 ∨ x = 22 ∨ x = 23 ∨ x = 24 ∨ x = 25 ∨ x = 26 ∨ x = 27 ∨ x = 28 ∨ x = 29 ∨ x = 30 ∨ x = 31 ∨ x = 32 ∨ x = 33 ∨ x = 34 ∨ x = 35 ∨ x = 36 ∨ x = 37 := by
  simp only [← Int32.toInt_inj]
  have e : ∀ c : Int32, c.toInt = c.toInt := fun _ => rfl
  have e0 : (0 : Int32).toInt = 0 := rfl
  have e1 : (1 : Int32).toInt = 1 := rfl
  have e2 : (2 : Int32).toInt = 2 := rfl
  have e3 : (3 : Int32).toInt = 3 := rfl
  have e4 : (4 : Int32).toInt = 4 := rfl
  have e5 : (5 : Int32).toInt = 5 := rfl
  have e6 : (6 : Int32).toInt = 6 := rfl
  have e7 : (7 : Int32).toInt = 7 := rfl
  have e8 : (8 : Int32).toInt = 8 := rfl
  have e9 : (9 : Int32).toInt = 9 := rfl
  have e10 : (10 : Int32).toInt = 10 := rfl
  have e11 : (11 : Int32).toInt = 11 := rfl
  have e12 : (12 : Int32).toInt = 12 := rfl
  have e13 : (13 : Int32).toInt = 13 := rfl
  have e14 : (14 : Int32).toInt = 14 := rfl
  have e15 : (15 : Int32).toInt = 15 := rfl
  have e16 : (16 : Int32).toInt = 16 := rfl
  have e17 : (17 : Int32).toInt = 17 := rfl
  have e18 : (18 : Int32).toInt = 18 := rfl
  have e19 : (19 : Int32).toInt = 19 := rfl
  have e20 : (20 : Int32).toInt = 20 := rfl
  have e21 : (21 : Int32).toInt = 21 := rfl
  have e22 : (22 : Int32).toInt = 22 := rfl
  have e23 : (23 : Int32).toInt = 23 := rfl
  have e24 : (24 : Int32).toInt = 24 := rfl
  have e25 : (25 : Int32).toInt = 25 := rfl
  have e26 : (26 : Int32).toInt = 26 := rfl
  have e27 : (27 : Int32).toInt = 27 := rfl
  have e28 : (28 : Int32).toInt = 28 := rfl
  have e29 : (29 : Int32).toInt = 29 := rfl
  have e30 : (30 : Int32).toInt = 30 := rfl
  have e31 : (31 : Int32).toInt = 31 := rfl
  have e32 : (32 : Int32).toInt = 32 := rfl
  have e33 : (33 : Int32).toInt = 33 := rfl
  have e34 : (34 : Int32).toInt = 34 := rfl
  have e35 : (35 : Int32).toInt = 35 := rfl
  have e36 : (36 : Int32).toInt = 36 := rfl
  have e37 : (37 : Int32).toInt = 37 := rfl
  omega
theorem sp_0_6 {x : Int32} (h0 : (0 : Int) ≤ x.toInt) (h1 : x.toInt ≤ 6) : x = 0 ∨ x = 1 ∨ x = 2 ∨ x = 3 ∨ x = 4 ∨ x = 5 ∨ x = 6 := by
  simp only [← Int32.toInt_inj]
  have e : ∀ c : Int32, c.toInt = c.toInt := fun _ => rfl
  have e0 : (0 : Int32).toInt = 0 := rfl
  have e1 : (1 : Int32).toInt = 1 := rfl
  have e2 : (2 : Int32).toInt = 2 := rfl
  have e3 : (3 : Int32).toInt = 3 := rfl
  have e4 : (4 : Int32).toInt = 4 := rfl
  have e5 : (5 : Int32).toInt = 5 := rfl
  have e6 : (6 : Int32).toInt = 6 := rfl
  omega
theorem sp_10_13 {x : Int32} (h0 : (10 : Int) ≤ x.toInt) (h1 : x.toInt ≤ 13) : x = 10 ∨ x = 11 ∨ x = 12 ∨ x = 13 := by
  simp only [← Int32.toInt_inj]
  have e : ∀ c : Int32, c.toInt = c.toInt := fun _ => rfl
  have e10 : (10 : Int32).toInt = 10 := rfl
  have e11 : (11 : Int32).toInt = 11 := rfl
  have e12 : (12 : Int32).toInt = 12 := rfl
  have e13 : (13 : Int32).toInt = 13 := rfl
  omega
theorem sp_1_15 {x : Int32} (h0 : (1 : Int) ≤ x.toInt) (h1 : x.toInt ≤ 15) : x = 1 ∨ x = 2 ∨ x = 3 ∨ x = 4 ∨ x = 5 ∨ x = 6 ∨ x = 7 ∨ x = 8 ∨ x = 9 ∨ x = 10 ∨ x = 11 ∨ x = 12 ∨ x = 13 ∨ x = 14 ∨ x = 15 := by
  obtain ⟨j, hj, rfl⟩ := i_nat (N := 15) (by omega) h1
  have h2 := nI_toInt (n := j) (by omega)
  rw [h2] at h0
  have h3 : j = 1 ∨ j = 2 ∨ j = 3 ∨ j = 4 ∨ j = 5 ∨ j = 6 ∨ j = 7 ∨ j = 8 ∨ j = 9 ∨ j = 10 ∨ j = 11 ∨ j = 12 ∨ j = 13 ∨ j = 14 ∨ j = 15 := by omega
  rcases h3 with rfl | rfl | rfl | rfl | rfl | rfl | rfl | rfl | rfl | rfl | rfl | rfl | rfl | rfl | rfl <;> decide
theorem nb4 {x : Int32} (h0 : (1 : Int) ≤ x.toInt) (h1 : x.toInt ≤ 15) (a0 : x >>> ((0 : Int32) &&& 31) &&& 1 = 0) (a1 : x >>> ((1 : Int32) &&& 31) &&& 1 = 0) (a2 : x >>> ((2 : Int32) &&& 31) &&& 1 = 0) (a3 : x >>> ((3 : Int32) &&& 31) &&& 1 = 0) : False := by
  rcases sp_1_15 h0 h1 with rfl | rfl | rfl | rfl | rfl | rfl | rfl | rfl | rfl | rfl | rfl | rfl | rfl | rfl | rfl <;> first | exact absurd a0 (by decide) | exact absurd a1 (by decide) | exact absurd a2 (by decide) | exact absurd a3 (by decide)
theorem nb4e {x a0 a1 a2 a3 b0 b1 b2 b3 : Int32} (h0 : (1 : Int) ≤ x.toInt) (h1 : x.toInt ≤ 15) (e0 : x >>> ((0 : Int32) &&& 31) = a0) (e1 : x >>> ((1 : Int32) &&& 31) = a1) (e2 : x >>> ((2 : Int32) &&& 31) = a2) (e3 : x >>> ((3 : Int32) &&& 31) = a3) (f0 : a0 &&& (1 : Int32) = b0) (f1 : a1 &&& (1 : Int32) = b1) (f2 : a2 &&& (1 : Int32) = b2) (f3 : a3 &&& (1 : Int32) = b3) (g0 : b0 = 0) (g1 : b1 = 0) (g2 : b2 = 0) (g3 : b3 = 0) : False := by
  subst e0; subst e1; subst e2; subst e3; subst f0; subst f1; subst f2; subst f3
  exact nb4 h0 h1 g0 g1 g2 g3
end
section
theorem dX11_within_0 : decode cX11_within 0 = .ok (.iload_n 0, 1) := by decide +kernel
theorem dX11_within_1 : decode cX11_within 1 = .ok (.iload_n 1, 1) := by decide +kernel
theorem dX11_within_2 : decode cX11_within 2 = .ok (.if_icmp .lt 12, 3) := by decide +kernel
theorem dX11_within_14 : decode cX11_within 14 = .ok (.iconst 0, 1) := by decide +kernel
theorem dX11_within_15 : decode cX11_within 15 = .ok (.ireturn, 1) := by decide +kernel
theorem dX11_within_5 : decode cX11_within 5 = .ok (.iload_n 0, 1) := by decide +kernel
theorem dX11_within_6 : decode cX11_within 6 = .ok (.iload_n 2, 1) := by decide +kernel
theorem dX11_within_7 : decode cX11_within 7 = .ok (.if_icmp .gt 7, 3) := by decide +kernel
theorem dX11_within_10 : decode cX11_within 10 = .ok (.iconst 1, 1) := by decide +kernel
theorem dX11_within_11 : decode cX11_within 11 = .ok (.goto 4, 3) := by decide +kernel
set_option maxRecDepth 100000 in
set_option maxHeartbeats 4000000 in
theorem c_within (l : Launch) (E : EV) (v : Int32) (lo : Int32) (hi : Int32) (zv : Int) (zl : Int) (zh : Int) (hz_zv : v.toInt = zv) (hz_zl : lo.toInt = zl) (hz_zh : hi.toInt = zh) : CT l yX11_within (Cond.code yX11_within cX11_within 3 (some .boolean) :: TB) ({ frames := 0, cells := 0, slots := 0, locals := 0 }) E [.int v, .int lo, .int hi] [] (Qi E (fun (r : Int32) u => (r = 1 ∧ u = [] ∧ (zl ≤ zv) ∧ (zv ≤ zh)) ∨ (r = 0 ∧ u = [] ∧ (zv < zl ∨ zh < zv)))) 0 0 := by
  refine ct_of rfl rfl ?_
  intro X C hT hin
  show WW X 3 E 0 [(0, .int v), (1, .int lo), (2, .int hi)] [] [] 0 0
  refine ww_iload_n C dX11_within_0 0 rfl rfl ?_
  refine ww_iload_n C dX11_within_1 1 rfl rfl ?_
  refine ww_icmp_lt (tgt := 14) C dX11_within_2 (by decide) (fun c_1 => ?_) (fun c_1 => ?_)
  · have zc_1 : v.toInt < lo.toInt := i_lt rfl rfl c_1
    refine ww_iconst (v := 0) C dX11_within_14 rfl ?_
    exact ww_zret (u := []) C hT [] rfl rfl rfl rfl rfl dX11_within_15 (Or.inr ⟨rfl, rfl, (by first | assumption | omega | decide)⟩)
  · have zc_1 : v.toInt ≥ lo.toInt := i_nlt rfl rfl c_1
    refine ww_iload_n C dX11_within_5 0 rfl rfl ?_
    refine ww_iload_n C dX11_within_6 2 rfl rfl ?_
    refine ww_icmp_gt (tgt := 14) C dX11_within_7 (by decide) (fun c_2 => ?_) (fun c_2 => ?_)
    · have zc_2 : v.toInt > hi.toInt := i_lt rfl rfl c_2
      refine ww_iconst (v := 0) C dX11_within_14 rfl ?_
      exact ww_zret (u := []) C hT [] rfl rfl rfl rfl rfl dX11_within_15 (Or.inr ⟨rfl, rfl, (by first | assumption | omega | decide)⟩)
    · have zc_2 : v.toInt ≤ hi.toInt := i_nlt rfl rfl c_2
      refine ww_iconst (v := 1) C dX11_within_10 rfl ?_
      refine ww_goto (tgt := 15) C dX11_within_11 (by decide) ?_
      exact ww_zret (u := []) C hT [] rfl rfl rfl rfl rfl dX11_within_15 (Or.inl ⟨rfl, rfl, (by first | assumption | omega | decide), (by first | assumption | omega | decide)⟩)
theorem dX11_has_0 : decode cX11_has 0 = .ok (.iload_n 0, 1) := by decide +kernel
theorem dX11_has_1 : decode cX11_has 1 = .ok (.iload_n 1, 1) := by decide +kernel
theorem dX11_has_2 : decode cX11_has 2 = .ok (.ishr, 1) := by decide +kernel
theorem dX11_has_3 : decode cX11_has 3 = .ok (.iconst 1, 1) := by decide +kernel
theorem dX11_has_4 : decode cX11_has 4 = .ok (.iand, 1) := by decide +kernel
theorem dX11_has_5 : decode cX11_has 5 = .ok (.ifCond .eq 7, 3) := by decide +kernel
theorem dX11_has_12 : decode cX11_has 12 = .ok (.iconst 0, 1) := by decide +kernel
theorem dX11_has_13 : decode cX11_has 13 = .ok (.ireturn, 1) := by decide +kernel
theorem dX11_has_8 : decode cX11_has 8 = .ok (.iconst 1, 1) := by decide +kernel
theorem dX11_has_9 : decode cX11_has 9 = .ok (.goto 4, 3) := by decide +kernel
set_option maxRecDepth 100000 in
set_option maxHeartbeats 4000000 in
theorem c_has (l : Launch) (E : EV) (b : Int32) (p : Int32)  : CT l yX11_has (Cond.code yX11_has cX11_has 2 (some .boolean) :: TB) ({ frames := 0, cells := 0, slots := 0, locals := 0 }) E [.int b, .int p] [] (Qi E (fun (r : Int32) u => (r = 1 ∧ u = [] ∧ (¬ (b >>> (p &&& 31) &&& 1 = 0))) ∨ (r = 0 ∧ u = [] ∧ (b >>> (p &&& 31) &&& 1 = 0)))) 0 0 := by
  refine ct_of rfl rfl ?_
  intro X C hT hin
  show WW X 2 E 0 [(0, .int b), (1, .int p)] [] [] 0 0
  refine ww_iload_n C dX11_has_0 0 rfl rfl ?_
  refine ww_iload_n C dX11_has_1 1 rfl rfl ?_
  obtain ⟨x_1, ex_1⟩ : ∃ z : Int32, b >>> (p &&& 31) = z := ⟨_, rfl⟩
  refine ww_ishr (v := x_1) C dX11_has_2 ex_1 ?_
  refine ww_iconst (v := 1) C dX11_has_3 rfl ?_
  obtain ⟨x_2, ex_2⟩ : ∃ z : Int32, x_1 &&& (1 : Int32) = z := ⟨_, rfl⟩
  refine ww_iand (v := x_2) C dX11_has_4 ex_2 ?_
  refine ww_if_eq (tgt := 12) C dX11_has_5 (by decide) (fun c_3 => ?_) (fun c_3 => ?_)
  · have zc_3 : x_2.toInt = 0 := i_eq rfl rfl c_3
    refine ww_iconst (v := 0) C dX11_has_12 rfl ?_
    exact ww_zret (u := []) C hT [] rfl rfl rfl rfl rfl dX11_has_13 (Or.inr ⟨rfl, rfl, (by subst_vars; assumption)⟩)
  · have zc_3 : x_2.toInt ≠ 0 := i_ne rfl rfl c_3
    refine ww_iconst (v := 1) C dX11_has_8 rfl ?_
    refine ww_goto (tgt := 13) C dX11_has_9 (by decide) ?_
    exact ww_zret (u := []) C hT [] rfl rfl rfl rfl rfl dX11_has_13 (Or.inl ⟨rfl, rfl, (by subst_vars; assumption)⟩)
theorem dX4_contains_0 : decode cX4_contains 0 = .ok (.iload_n 1, 1) := by decide +kernel
theorem dX4_contains_1 : decode cX4_contains 1 = .ok (.ifCond .lt 15, 3) := by decide +kernel
theorem dX4_contains_16 : decode cX4_contains 16 = .ok (.iconst 0, 1) := by decide +kernel
theorem dX4_contains_17 : decode cX4_contains 17 = .ok (.ireturn, 1) := by decide +kernel
theorem dX4_contains_4 : decode cX4_contains 4 = .ok (.iload_n 1, 1) := by decide +kernel
theorem dX4_contains_5 : decode cX4_contains 5 = .ok (.aload_n 0, 1) := by decide +kernel
theorem dX4_contains_6 : decode cX4_contains 6 = .ok (.getfield 18, 3) := by decide +kernel
theorem uw_X4 : ∀ w ∈ u_ws RX4 TX4 4, w ∈ TB := uw_of [52, 54, 56, 58] (by decide +kernel) (by decide +kernel)
theorem wf_X4_18 : Cond.fieldLink RX4 18 RX4 "size" "I" ∈ TB := tbm (tq1 (List.mem_of_getElem? (i := 36) (by decide +kernel))) (by decide +kernel)
theorem fg_X4_18 : FG RX4 18 4 0 := ⟨RX4, TX4, 4, uw_X4, wf_X4_18, rfl, by decide, rfl⟩
theorem dX4_contains_9 : decode cX4_contains 9 = .ok (.if_icmp .ge 7, 3) := by decide +kernel
set_option maxRecDepth 100000 in
set_option maxHeartbeats 4000000 in
theorem c_contains0 (l : Launch) (E : EV) (h : Nat) (a : Nat) (b : Nat) (w : Int32)  : CT l yX4_contains (Cond.code yX4_contains cX4_contains 2 (some .boolean) :: TB) ({ frames := 0, cells := 0, slots := 0, locals := 0 }) E [.ref h, .int w] [(h, .inr (4, [.int 0, .int 0, .ref a, .ref b]))] (Qi E (fun (r : Int32) u => (r = 0 ∧ u = [(h, .inr (4, [.int 0, .int 0, .ref a, .ref b]))]))) 0 0 := by
  refine ct_of rfl rfl ?_
  intro X C hT hin
  show WW X 2 E 0 [(0, .ref h), (1, .int w)] [] [(h, .inr (4, [.int 0, .int 0, .ref a, .ref b]))] 0 0
  refine ww_iload_n C dX4_contains_0 1 rfl rfl ?_
  refine ww_if_lt (tgt := 16) C dX4_contains_1 (by decide) (fun c_1 => ?_) (fun c_1 => ?_)
  · have zc_1 : w.toInt < 0 := i_lt rfl rfl c_1
    refine ww_iconst (v := 0) C dX4_contains_16 rfl ?_
    exact ww_zret (u := [(h, .inr (4, [.int 0, .int 0, .ref a, .ref b]))]) C hT [0] rfl rfl rfl rfl rfl dX4_contains_17 (⟨rfl, rfl⟩)
  · have zc_1 : w.toInt ≥ 0 := i_nlt rfl rfl c_1
    refine ww_iload_n C dX4_contains_4 1 rfl rfl ?_
    refine ww_aload_n C dX4_contains_5 0 rfl rfl ?_
    refine ww_get C fg_X4_18 0 rfl rfl dX4_contains_6 ?_
    refine ww_icmp_ge (tgt := 16) C dX4_contains_9 (by decide) (fun c_2 => ?_) (fun c_2 => ?_)
    · have zc_2 : w.toInt ≥ 0 := i_le rfl rfl c_2
      refine ww_iconst (v := 0) C dX4_contains_16 rfl ?_
      exact ww_zret (u := [(h, .inr (4, [.int 0, .int 0, .ref a, .ref b]))]) C hT [0] rfl rfl rfl rfl rfl dX4_contains_17 (⟨rfl, rfl⟩)
    · have zc_2 : w.toInt < 0 := i_nle rfl rfl c_2
      omega
theorem dX4_init_0 : decode cX4_init 0 = .ok (.aload_n 0, 1) := by decide +kernel
theorem dX4_init_1 : decode cX4_init 1 = .ok (.invokespecial 3, 3) := by decide +kernel
theorem wl_X4_3 : Cond.methodLink RX4 3 objectInit ∈ TB := tbm (tq1 (List.mem_of_getElem? (i := 34) (by decide +kernel))) (by decide +kernel)
theorem wi_obj : Cond.instanceMethod objectInit ∈ TB := tbm (tq1 (List.mem_of_getElem? (i := 27) (by decide +kernel))) (by decide +kernel)
theorem wc_obj : Cond.code objectInit ⟨#[0xb1]⟩ 1 none ∈ TB := tbm (tq1 (List.mem_of_getElem? (i := 28) (by decide +kernel))) (by decide +kernel)
theorem dX4_init_4 : decode cX4_init 4 = .ok (.aload_n 0, 1) := by decide +kernel
theorem dX4_init_5 : decode cX4_init 5 = .ok (.bipush 24, 2) := by decide +kernel
theorem dX4_init_7 : decode cX4_init 7 = .ok (.newarray .int, 2) := by decide +kernel
theorem wa_int : Cond.arrayClass .int ∈ TB := tbm (tq1 (List.mem_of_getElem? (i := 61) (by decide +kernel))) (by decide +kernel)
theorem dX4_init_9 : decode cX4_init 9 = .ok (.putfield 9, 3) := by decide +kernel
theorem wf_X4_9 : Cond.fieldLink RX4 9 RX4 "facts" "[I" ∈ TB := tbm (tq1 (List.mem_of_getElem? (i := 45) (by decide +kernel))) (by decide +kernel)
theorem fp_X4_9 : FP RX4 9 4 2 (.array .int) true := ⟨RX4, TX4, 4, tyX4, uw_X4, wf_X4_9, rfl, by decide, rfl, tyX4_ok, nmX4, rfl, by decide +kernel⟩
theorem dX4_init_12 : decode cX4_init 12 = .ok (.aload_n 0, 1) := by decide +kernel
theorem dX4_init_13 : decode cX4_init 13 = .ok (.bipush 96, 2) := by decide +kernel
theorem dX4_init_15 : decode cX4_init 15 = .ok (.newarray .int, 2) := by decide +kernel
theorem dX4_init_17 : decode cX4_init 17 = .ok (.putfield 15, 3) := by decide +kernel
theorem wf_X4_15 : Cond.fieldLink RX4 15 RX4 "possible" "[I" ∈ TB := tbm (tq1 (List.mem_of_getElem? (i := 49) (by decide +kernel))) (by decide +kernel)
theorem fp_X4_15 : FP RX4 15 4 3 (.array .int) true := ⟨RX4, TX4, 4, tyX4, uw_X4, wf_X4_15, rfl, by decide, rfl, tyX4_ok, nmX4, rfl, by decide +kernel⟩
theorem dX4_init_20 : decode cX4_init 20 = .ok (.return_, 1) := by decide +kernel
set_option maxRecDepth 100000 in
set_option maxHeartbeats 4000000 in
theorem k_Model (l : Launch) (E : EV) (h : Nat)  : CT l yX4_init (Cond.code yX4_init cX4_init 1 none :: TB) ({ frames := 1, cells := 2, slots := 120, locals := 12 }) E [.ref h] [(h, .inr (4, [.int 0, .int 0, .null, .null]))] (Qv E (fun u => (∃ (a : Nat) (b : Nat), u = [(h, .inr (4, [.int 0, .int 0, .ref a, .ref b])), (a, .inl (E.2.1 1, 24, .inl (fun _ => 0))), (b, .inl (E.2.1 1, 96, .inl (fun _ => 0)))]))) 2 120 := by
  refine ct_of rfl rfl ?_
  intro X C hT hin
  show WW X 1 E 0 [(0, .ref h)] [] [(h, .inr (4, [.int 0, .int 0, .null, .null]))] 0 0
  refine ww_aload_n C dX4_init_0 0 rfl rfl ?_
  refine ww_objInit C wl_X4_3 wi_obj wc_obj rfl dX4_init_1 ?_
  refine ww_aload_n C dX4_init_4 0 rfl rfl ?_
  refine ww_bipush (v := 24) C dX4_init_5 rfl ?_
  refine ww_newi (N := 24) (k' := 1) (n' := 24) C wa_int (by decide) rfl rfl rfl dX4_init_7 (fun q_1 => ?_)
  refine ww_eq (ws' := [(h, .inr (4, [.int 0, .int 0, .null, .null])), (q_1, .inl (E.2.1 1, 24, .inl (fun _ => 0)))]) ?_ rfl rfl rfl
  refine ww_putF (ws' := [(h, .inr (4, [.int 0, .int 0, .ref q_1, .null])), (q_1, .inl (E.2.1 1, 24, .inl (fun _ => 0)))]) C fp_X4_9 hin ⟨_, _, rfl⟩ 0 rfl rfl rfl rfl rfl dX4_init_9 ?_
  refine ww_aload_n C dX4_init_12 0 rfl rfl ?_
  refine ww_bipush (v := 96) C dX4_init_13 rfl ?_
  refine ww_newi (N := 96) (k' := 2) (n' := 120) C wa_int (by decide) rfl rfl rfl dX4_init_15 (fun q_2 => ?_)
  refine ww_eq (ws' := [(h, .inr (4, [.int 0, .int 0, .ref q_1, .null])), (q_1, .inl (E.2.1 1, 24, .inl (fun _ => 0))), (q_2, .inl (E.2.1 1, 96, .inl (fun _ => 0)))]) ?_ rfl rfl rfl
  refine ww_putF (ws' := [(h, .inr (4, [.int 0, .int 0, .ref q_1, .ref q_2])), (q_1, .inl (E.2.1 1, 24, .inl (fun _ => 0))), (q_2, .inl (E.2.1 1, 96, .inl (fun _ => 0)))]) C fp_X4_15 hin ⟨_, _, rfl⟩ 0 rfl rfl rfl rfl rfl dX4_init_17 ?_
  exact ww_vret (u := [(h, .inr (4, [.int 0, .int 0, .ref q_1, .ref q_2])), (q_1, .inl (E.2.1 1, 24, .inl (fun _ => 0))), (q_2, .inl (E.2.1 1, 96, .inl (fun _ => 0)))]) C hT [0, 1, 2] rfl rfl rfl rfl dX4_init_20 (⟨q_1, q_2, rfl⟩)
theorem dX10_init_0 : decode cX10_init 0 = .ok (.aload_n 0, 1) := by decide +kernel
theorem dX10_init_1 : decode cX10_init 1 = .ok (.invokespecial 3, 3) := by decide +kernel
theorem wl_X10_3 : Cond.methodLink RX10 3 objectInit ∈ TB := tbm (tq1 (List.mem_of_getElem? (i := 77) (by decide +kernel))) (by decide +kernel)
theorem dX10_init_4 : decode cX10_init 4 = .ok (.aload_n 0, 1) := by decide +kernel
theorem dX10_init_5 : decode cX10_init 5 = .ok (.sipush 160, 3) := by decide +kernel
theorem dX10_init_8 : decode cX10_init 8 = .ok (.newarray .byte, 2) := by decide +kernel
theorem wa_byte : Cond.arrayClass .byte ∈ TB := tbm (tq1 (List.mem_of_getElem? (i := 97) (by decide +kernel))) (by decide +kernel)
theorem dX10_init_10 : decode cX10_init 10 = .ok (.putfield 9, 3) := by decide +kernel
theorem uw_X10 : ∀ w ∈ u_ws RX10 TX10 5, w ∈ TB := uw_of [86, 88, 90, 92, 94] (by decide +kernel) (by decide +kernel)
theorem wf_X10_9 : Cond.fieldLink RX10 9 RX10 "bytes" "[B" ∈ TB := tbm (tq1 (List.mem_of_getElem? (i := 78) (by decide +kernel))) (by decide +kernel)
theorem fp_X10_9 : FP RX10 9 10 0 (.array .byte) true := ⟨RX10, TX10, 5, tyX10, uw_X10, wf_X10_9, rfl, by decide, rfl, tyX10_ok, nmX10, rfl, by decide +kernel⟩
theorem dX10_init_13 : decode cX10_init 13 = .ok (.return_, 1) := by decide +kernel
set_option maxRecDepth 100000 in
set_option maxHeartbeats 4000000 in
theorem k_Tape (l : Launch) (E : EV) (h : Nat)  : CT l yX10_init (Cond.code yX10_init cX10_init 1 none :: TB) ({ frames := 1, cells := 1, slots := 160, locals := 12 }) E [.ref h] [(h, .inr (10, [.null, .int 0, .int 0, .int 0, .int 0]))] (Qv E (fun u => (∃ (a : Nat), u = [(h, .inr (10, [.ref a, .int 0, .int 0, .int 0, .int 0])), (a, .inl (E.2.1 0, 160, .inl (fun _ => 0)))]))) 1 160 := by
  refine ct_of rfl rfl ?_
  intro X C hT hin
  show WW X 1 E 0 [(0, .ref h)] [] [(h, .inr (10, [.null, .int 0, .int 0, .int 0, .int 0]))] 0 0
  refine ww_aload_n C dX10_init_0 0 rfl rfl ?_
  refine ww_objInit C wl_X10_3 wi_obj wc_obj rfl dX10_init_1 ?_
  refine ww_aload_n C dX10_init_4 0 rfl rfl ?_
  refine ww_sipush (v := 160) C dX10_init_5 rfl ?_
  refine ww_newb (N := 160) (k' := 1) (n' := 160) C wa_byte (by decide) rfl rfl rfl dX10_init_8 (fun q_1 => ?_)
  refine ww_eq (ws' := [(h, .inr (10, [.null, .int 0, .int 0, .int 0, .int 0])), (q_1, .inl (E.2.1 0, 160, .inl (fun _ => 0)))]) ?_ rfl rfl rfl
  refine ww_putF (ws' := [(h, .inr (10, [.ref q_1, .int 0, .int 0, .int 0, .int 0])), (q_1, .inl (E.2.1 0, 160, .inl (fun _ => 0)))]) C fp_X10_9 hin ⟨_, _, rfl⟩ 0 rfl rfl rfl rfl rfl dX10_init_10 ?_
  exact ww_vret (u := [(h, .inr (10, [.ref q_1, .int 0, .int 0, .int 0, .int 0])), (q_1, .inl (E.2.1 0, 160, .inl (fun _ => 0)))]) C hT [0, 1] rfl rfl rfl rfl dX10_init_13 (⟨q_1, rfl⟩)
theorem dX5_init_0 : decode cX5_init 0 = .ok (.aload_n 0, 1) := by decide +kernel
theorem dX5_init_1 : decode cX5_init 1 = .ok (.invokespecial 3, 3) := by decide +kernel
theorem wl_X5_3 : Cond.methodLink RX5 3 objectInit ∈ TB := tbm (tq1 (List.mem_of_getElem? (i := 71) (by decide +kernel))) (by decide +kernel)
theorem dX5_init_4 : decode cX5_init 4 = .ok (.aload_n 0, 1) := by decide +kernel
theorem dX5_init_5 : decode cX5_init 5 = .ok (.new 9, 3) := by decide +kernel
theorem wk_X5_9 : Cond.classLink RX5 9 RX10 ∈ TB := tbm (tq1 (List.mem_of_getElem? (i := 72) (by decide +kernel))) (by decide +kernel)
theorem wq_X10 : Cond.instantiable RX10 5 ∈ TB := tbm (tq1 (List.mem_of_getElem? (i := 73) (by decide +kernel))) (by decide +kernel)
theorem wn_X10 : Cond.initialized RX10 ∈ TB := tbm (tq1 (List.mem_of_getElem? (i := 4) (by decide +kernel))) (by decide +kernel)
theorem cn_X5_9 : CN RX5 9 10 5 [.null, .int 0, .int 0, .int 0, .int 0] := ⟨RX10, TX10, tyX10, uw_X10, wk_X5_9, wq_X10, wn_X10, rfl, tyX10_ok, by decide +kernel⟩
theorem dX5_init_8 : decode cX5_init 8 = .ok (.dup, 1) := by decide +kernel
theorem dX5_init_9 : decode cX5_init 9 = .ok (.invokespecial 11, 3) := by decide +kernel
theorem wc_X10_init : Cond.code yX10_init cX10_init 1 none ∈ TB := tbm (tq1 (List.mem_of_getElem? (i := 76) (rfl))) (by decide +kernel)
theorem wi_X10_init : Cond.instanceMethod yX10_init ∈ TB := tbm (tq1 (List.mem_of_getElem? (i := 75) (by decide +kernel))) (by decide +kernel)
theorem mn_X10_init : MN yX10_init cX10_init 1 0 := ⟨wc_X10_init, wn_X10, ⟨by decide +kernel, by decide +kernel, by decide +kernel⟩, wi_X10_init, rfl⟩
theorem dX5_init_12 : decode cX5_init 12 = .ok (.putfield 12, 3) := by decide +kernel
theorem uw_X5 : ∀ w ∈ u_ws RX5 TX5 10, w ∈ TB := uw_of [111, 113, 115, 117, 119, 121, 123, 125, 127, 129] (by decide +kernel) (by decide +kernel)
theorem wf_X5_12 : Cond.fieldLink RX5 12 RX5 "tape" "LWhoKnows$Tape;" ∈ TB := tbm (tq1 (List.mem_of_getElem? (i := 98) (by decide +kernel))) (by decide +kernel)
theorem fp_X5_12 : FP RX5 12 5 0 (.object "WhoKnows$Tape") true := ⟨RX5, TX5, 10, tyX5, uw_X5, wf_X5_12, rfl, by decide, rfl, tyX5_ok, nmX5, rfl, by decide +kernel⟩
theorem dX5_init_15 : decode cX5_init 15 = .ok (.aload_n 0, 1) := by decide +kernel
theorem dX5_init_16 : decode cX5_init 16 = .ok (.bipush 32, 2) := by decide +kernel
theorem dX5_init_18 : decode cX5_init 18 = .ok (.newarray .int, 2) := by decide +kernel
theorem dX5_init_20 : decode cX5_init 20 = .ok (.putfield 18, 3) := by decide +kernel
theorem wf_X5_18 : Cond.fieldLink RX5 18 RX5 "ops" "[I" ∈ TB := tbm (tq1 (List.mem_of_getElem? (i := 100) (by decide +kernel))) (by decide +kernel)
theorem fp_X5_18 : FP RX5 18 5 1 (.array .int) true := ⟨RX5, TX5, 10, tyX5, uw_X5, wf_X5_18, rfl, by decide, rfl, tyX5_ok, nmX5, rfl, by decide +kernel⟩
theorem dX5_init_23 : decode cX5_init 23 = .ok (.aload_n 0, 1) := by decide +kernel
theorem dX5_init_24 : decode cX5_init 24 = .ok (.bipush 32, 2) := by decide +kernel
theorem dX5_init_26 : decode cX5_init 26 = .ok (.newarray .int, 2) := by decide +kernel
theorem dX5_init_28 : decode cX5_init 28 = .ok (.putfield 22, 3) := by decide +kernel
theorem wf_X5_22 : Cond.fieldLink RX5 22 RX5 "args" "[I" ∈ TB := tbm (tq1 (List.mem_of_getElem? (i := 101) (by decide +kernel))) (by decide +kernel)
theorem fp_X5_22 : FP RX5 22 5 2 (.array .int) true := ⟨RX5, TX5, 10, tyX5, uw_X5, wf_X5_22, rfl, by decide, rfl, tyX5_ok, nmX5, rfl, by decide +kernel⟩
theorem dX5_init_31 : decode cX5_init 31 = .ok (.aload_n 0, 1) := by decide +kernel
theorem dX5_init_32 : decode cX5_init 32 = .ok (.iconst 2, 1) := by decide +kernel
theorem dX5_init_33 : decode cX5_init 33 = .ok (.newarray .int, 2) := by decide +kernel
theorem dX5_init_35 : decode cX5_init 35 = .ok (.putfield 25, 3) := by decide +kernel
theorem wf_X5_25 : Cond.fieldLink RX5 25 RX5 "after" "[I" ∈ TB := tbm (tq1 (List.mem_of_getElem? (i := 102) (by decide +kernel))) (by decide +kernel)
theorem fp_X5_25 : FP RX5 25 5 3 (.array .int) true := ⟨RX5, TX5, 10, tyX5, uw_X5, wf_X5_25, rfl, by decide, rfl, tyX5_ok, nmX5, rfl, by decide +kernel⟩
theorem dX5_init_38 : decode cX5_init 38 = .ok (.aload_n 0, 1) := by decide +kernel
theorem dX5_init_39 : decode cX5_init 39 = .ok (.bipush 32, 2) := by decide +kernel
theorem dX5_init_41 : decode cX5_init 41 = .ok (.newarray .int, 2) := by decide +kernel
theorem dX5_init_43 : decode cX5_init 43 = .ok (.putfield 28, 3) := by decide +kernel
theorem wf_X5_28 : Cond.fieldLink RX5 28 RX5 "depths" "[I" ∈ TB := tbm (tq1 (List.mem_of_getElem? (i := 103) (by decide +kernel))) (by decide +kernel)
theorem fp_X5_28 : FP RX5 28 5 4 (.array .int) true := ⟨RX5, TX5, 10, tyX5, uw_X5, wf_X5_28, rfl, by decide, rfl, tyX5_ok, nmX5, rfl, by decide +kernel⟩
theorem dX5_init_46 : decode cX5_init 46 = .ok (.return_, 1) := by decide +kernel
set_option maxRecDepth 100000 in
set_option maxHeartbeats 4000000 in
theorem k_Parser (l : Launch) (E : EV) (h : Nat)  : CT l yX5_init (Cond.code yX5_init cX5_init 1 none :: TB) ({ frames := 2, cells := 6, slots := 263, locals := 32 }) E [.ref h] [(h, .inr (5, [.null, .null, .null, .null, .null, .int 0, .int 0, .int 0, .int 0, .int 0]))] (Qv E (fun u => (∃ (t : Nat) (a : Nat) (b : Nat) (c : Nat) (d : Nat) (tb : Nat), u = [(h, .inr (5, [.ref t, .ref a, .ref b, .ref c, .ref d, .int 0, .int 0, .int 0, .int 0, .int 0])), (t, .inr (10, [.ref tb, .int 0, .int 0, .int 0, .int 0])), (tb, .inl (E.2.1 0, 160, .inl (fun _ => 0)))]))) 6 263 := by
  refine ct_of rfl rfl ?_
  intro X C hT hin
  show WW X 1 E 0 [(0, .ref h)] [] [(h, .inr (5, [.null, .null, .null, .null, .null, .int 0, .int 0, .int 0, .int 0, .int 0]))] 0 0
  refine ww_aload_n C dX5_init_0 0 rfl rfl ?_
  refine ww_objInit C wl_X5_3 wi_obj wc_obj rfl dX5_init_1 ?_
  refine ww_aload_n C dX5_init_4 0 rfl rfl ?_
  refine ww_new (k' := 1) (n' := 5) C cn_X5_9 rfl dX5_init_5 (fun q_1 => ?_)
  refine ww_eq (ws' := [(h, .inr (5, [.null, .null, .null, .null, .null, .int 0, .int 0, .int 0, .int 0, .int 0])), (q_1, .inr (10, [.null, .int 0, .int 0, .int 0, .int 0]))]) ?_ rfl rfl rfl
  refine ww_dup C dX5_init_8 rfl ?_
  refine ww_cv (wr := [(h, .inr (5, [.null, .null, .null, .null, .null, .int 0, .int 0, .int 0, .int 0, .int 0]))]) (k' := 2) (n' := 165) C (run_IN (As := []) (rest := [.ref q_1, .ref h]) C (k_Tape X.2.1 E q_1) mn_X10_init (List.mem_of_getElem? (i := 2) rfl) rfl rfl rfl rfl dX5_init_9) [1] [0] rfl rfl rfl rfl (fun u hw => ?_)
  obtain ⟨a_2, rfl⟩ := hw
  refine ww_eq (ws' := [(h, .inr (5, [.null, .null, .null, .null, .null, .int 0, .int 0, .int 0, .int 0, .int 0])), (q_1, .inr (10, [.ref a_2, .int 0, .int 0, .int 0, .int 0])), (a_2, .inl (E.2.1 0, 160, .inl (fun _ => 0)))]) ?_ rfl rfl rfl
  refine ww_putF (ws' := [(h, .inr (5, [.ref q_1, .null, .null, .null, .null, .int 0, .int 0, .int 0, .int 0, .int 0])), (q_1, .inr (10, [.ref a_2, .int 0, .int 0, .int 0, .int 0])), (a_2, .inl (E.2.1 0, 160, .inl (fun _ => 0)))]) C fp_X5_12 hin ⟨_, _, rfl⟩ 0 rfl rfl rfl rfl rfl dX5_init_12 ?_
  refine ww_aload_n C dX5_init_15 0 rfl rfl ?_
  refine ww_bipush (v := 32) C dX5_init_16 rfl ?_
  refine ww_newi (N := 32) (k' := 3) (n' := 197) C wa_int (by decide) rfl rfl rfl dX5_init_18 (fun q_3 => ?_)
  refine ww_eq (ws' := [(h, .inr (5, [.ref q_1, .null, .null, .null, .null, .int 0, .int 0, .int 0, .int 0, .int 0])), (q_1, .inr (10, [.ref a_2, .int 0, .int 0, .int 0, .int 0])), (a_2, .inl (E.2.1 0, 160, .inl (fun _ => 0))), (q_3, .inl (E.2.1 1, 32, .inl (fun _ => 0)))]) ?_ rfl rfl rfl
  refine ww_putF (ws' := [(h, .inr (5, [.ref q_1, .ref q_3, .null, .null, .null, .int 0, .int 0, .int 0, .int 0, .int 0])), (q_1, .inr (10, [.ref a_2, .int 0, .int 0, .int 0, .int 0])), (a_2, .inl (E.2.1 0, 160, .inl (fun _ => 0))), (q_3, .inl (E.2.1 1, 32, .inl (fun _ => 0)))]) C fp_X5_18 hin ⟨_, _, rfl⟩ 0 rfl rfl rfl rfl rfl dX5_init_20 ?_
  refine ww_aload_n C dX5_init_23 0 rfl rfl ?_
  refine ww_bipush (v := 32) C dX5_init_24 rfl ?_
  refine ww_newi (N := 32) (k' := 4) (n' := 229) C wa_int (by decide) rfl rfl rfl dX5_init_26 (fun q_4 => ?_)
  refine ww_eq (ws' := [(h, .inr (5, [.ref q_1, .ref q_3, .null, .null, .null, .int 0, .int 0, .int 0, .int 0, .int 0])), (q_1, .inr (10, [.ref a_2, .int 0, .int 0, .int 0, .int 0])), (a_2, .inl (E.2.1 0, 160, .inl (fun _ => 0))), (q_3, .inl (E.2.1 1, 32, .inl (fun _ => 0))), (q_4, .inl (E.2.1 1, 32, .inl (fun _ => 0)))]) ?_ rfl rfl rfl
  refine ww_putF (ws' := [(h, .inr (5, [.ref q_1, .ref q_3, .ref q_4, .null, .null, .int 0, .int 0, .int 0, .int 0, .int 0])), (q_1, .inr (10, [.ref a_2, .int 0, .int 0, .int 0, .int 0])), (a_2, .inl (E.2.1 0, 160, .inl (fun _ => 0))), (q_3, .inl (E.2.1 1, 32, .inl (fun _ => 0))), (q_4, .inl (E.2.1 1, 32, .inl (fun _ => 0)))]) C fp_X5_22 hin ⟨_, _, rfl⟩ 0 rfl rfl rfl rfl rfl dX5_init_28 ?_
  refine ww_aload_n C dX5_init_31 0 rfl rfl ?_
  refine ww_iconst (v := 2) C dX5_init_32 rfl ?_
  refine ww_newi (N := 2) (k' := 5) (n' := 231) C wa_int (by decide) rfl rfl rfl dX5_init_33 (fun q_5 => ?_)
  refine ww_eq (ws' := [(h, .inr (5, [.ref q_1, .ref q_3, .ref q_4, .null, .null, .int 0, .int 0, .int 0, .int 0, .int 0])), (q_1, .inr (10, [.ref a_2, .int 0, .int 0, .int 0, .int 0])), (a_2, .inl (E.2.1 0, 160, .inl (fun _ => 0))), (q_3, .inl (E.2.1 1, 32, .inl (fun _ => 0))), (q_4, .inl (E.2.1 1, 32, .inl (fun _ => 0))), (q_5, .inl (E.2.1 1, 2, .inl (fun _ => 0)))]) ?_ rfl rfl rfl
  refine ww_putF (ws' := [(h, .inr (5, [.ref q_1, .ref q_3, .ref q_4, .ref q_5, .null, .int 0, .int 0, .int 0, .int 0, .int 0])), (q_1, .inr (10, [.ref a_2, .int 0, .int 0, .int 0, .int 0])), (a_2, .inl (E.2.1 0, 160, .inl (fun _ => 0))), (q_3, .inl (E.2.1 1, 32, .inl (fun _ => 0))), (q_4, .inl (E.2.1 1, 32, .inl (fun _ => 0))), (q_5, .inl (E.2.1 1, 2, .inl (fun _ => 0)))]) C fp_X5_25 hin ⟨_, _, rfl⟩ 0 rfl rfl rfl rfl rfl dX5_init_35 ?_
  refine ww_aload_n C dX5_init_38 0 rfl rfl ?_
  refine ww_bipush (v := 32) C dX5_init_39 rfl ?_
  refine ww_newi (N := 32) (k' := 6) (n' := 263) C wa_int (by decide) rfl rfl rfl dX5_init_41 (fun q_6 => ?_)
  refine ww_eq (ws' := [(h, .inr (5, [.ref q_1, .ref q_3, .ref q_4, .ref q_5, .null, .int 0, .int 0, .int 0, .int 0, .int 0])), (q_1, .inr (10, [.ref a_2, .int 0, .int 0, .int 0, .int 0])), (a_2, .inl (E.2.1 0, 160, .inl (fun _ => 0))), (q_3, .inl (E.2.1 1, 32, .inl (fun _ => 0))), (q_4, .inl (E.2.1 1, 32, .inl (fun _ => 0))), (q_5, .inl (E.2.1 1, 2, .inl (fun _ => 0))), (q_6, .inl (E.2.1 1, 32, .inl (fun _ => 0)))]) ?_ rfl rfl rfl
  refine ww_putF (ws' := [(h, .inr (5, [.ref q_1, .ref q_3, .ref q_4, .ref q_5, .ref q_6, .int 0, .int 0, .int 0, .int 0, .int 0])), (q_1, .inr (10, [.ref a_2, .int 0, .int 0, .int 0, .int 0])), (a_2, .inl (E.2.1 0, 160, .inl (fun _ => 0))), (q_3, .inl (E.2.1 1, 32, .inl (fun _ => 0))), (q_4, .inl (E.2.1 1, 32, .inl (fun _ => 0))), (q_5, .inl (E.2.1 1, 2, .inl (fun _ => 0))), (q_6, .inl (E.2.1 1, 32, .inl (fun _ => 0)))]) C fp_X5_28 hin ⟨_, _, rfl⟩ 0 rfl rfl rfl rfl rfl dX5_init_43 ?_
  exact ww_vret (u := [(h, .inr (5, [.ref q_1, .ref q_3, .ref q_4, .ref q_5, .ref q_6, .int 0, .int 0, .int 0, .int 0, .int 0])), (q_1, .inr (10, [.ref a_2, .int 0, .int 0, .int 0, .int 0])), (a_2, .inl (E.2.1 0, 160, .inl (fun _ => 0)))]) C hT [0, 1, 2] rfl rfl rfl rfl dX5_init_46 (⟨q_1, q_3, q_4, q_5, q_6, a_2, rfl⟩)
theorem dX0_init_0 : decode cX0_init 0 = .ok (.aload_n 0, 1) := by decide +kernel
theorem dX0_init_1 : decode cX0_init 1 = .ok (.invokespecial 3, 3) := by decide +kernel
theorem wl_X0_3 : Cond.methodLink RX0 3 objectInit ∈ TB := tbm (tq1 (List.mem_of_getElem? (i := 148) (by decide +kernel))) (by decide +kernel)
theorem dX0_init_4 : decode cX0_init 4 = .ok (.aload_n 0, 1) := by decide +kernel
theorem dX0_init_5 : decode cX0_init 5 = .ok (.iconst 4, 1) := by decide +kernel
theorem dX0_init_6 : decode cX0_init 6 = .ok (.anewarray 9, 3) := by decide +kernel
theorem wk_X0_9 : Cond.classLink RX0 9 RX8 ∈ TB := tbm (tq1 (List.mem_of_getElem? (i := 149) (by decide +kernel))) (by decide +kernel)
theorem dX0_init_9 : decode cX0_init 9 = .ok (.putfield 11, 3) := by decide +kernel
theorem uw_X0 : ∀ w ∈ u_ws RX0 TX0 6, w ∈ TB := uw_of [167, 169, 171, 173, 175, 177] (by decide +kernel) (by decide +kernel)
theorem wf_X0_11 : Cond.fieldLink RX0 11 RX0 "ifs" "[LWhoKnows$Saying;" ∈ TB := tbm (tq1 (List.mem_of_getElem? (i := 158) (by decide +kernel))) (by decide +kernel)
theorem fp_X0_11 : FP RX0 11 0 2 (.array (.object "WhoKnows$Saying")) true := ⟨RX0, TX0, 6, tyX0, uw_X0, wf_X0_11, rfl, by decide, rfl, tyX0_ok, nmX0, rfl, by decide +kernel⟩
theorem dX0_init_12 : decode cX0_init 12 = .ok (.aload_n 0, 1) := by decide +kernel
theorem dX0_init_13 : decode cX0_init 13 = .ok (.iconst 4, 1) := by decide +kernel
theorem dX0_init_14 : decode cX0_init 14 = .ok (.newarray .int, 2) := by decide +kernel
theorem dX0_init_16 : decode cX0_init 16 = .ok (.putfield 17, 3) := by decide +kernel
theorem wf_X0_17 : Cond.fieldLink RX0 17 RX0 "so" "[I" ∈ TB := tbm (tq1 (List.mem_of_getElem? (i := 161) (by decide +kernel))) (by decide +kernel)
theorem fp_X0_17 : FP RX0 17 0 3 (.array .int) true := ⟨RX0, TX0, 6, tyX0, uw_X0, wf_X0_17, rfl, by decide, rfl, tyX0_ok, nmX0, rfl, by decide +kernel⟩
theorem dX0_init_19 : decode cX0_init 19 = .ok (.aload_n 0, 1) := by decide +kernel
theorem dX0_init_20 : decode cX0_init 20 = .ok (.iconst 4, 1) := by decide +kernel
theorem dX0_init_21 : decode cX0_init 21 = .ok (.newarray .int, 2) := by decide +kernel
theorem dX0_init_23 : decode cX0_init 23 = .ok (.putfield 21, 3) := by decide +kernel
theorem wf_X0_21 : Cond.fieldLink RX0 21 RX0 "not" "[I" ∈ TB := tbm (tq1 (List.mem_of_getElem? (i := 163) (by decide +kernel))) (by decide +kernel)
theorem fp_X0_21 : FP RX0 21 0 4 (.array .int) true := ⟨RX0, TX0, 6, tyX0, uw_X0, wf_X0_21, rfl, by decide, rfl, tyX0_ok, nmX0, rfl, by decide +kernel⟩
theorem dX0_init_26 : decode cX0_init 26 = .ok (.aload_n 0, 1) := by decide +kernel
theorem dX0_init_27 : decode cX0_init 27 = .ok (.bipush 16, 2) := by decide +kernel
theorem dX0_init_29 : decode cX0_init 29 = .ok (.newarray .int, 2) := by decide +kernel
theorem dX0_init_31 : decode cX0_init 31 = .ok (.putfield 24, 3) := by decide +kernel
theorem wf_X0_24 : Cond.fieldLink RX0 24 RX0 "possible" "[I" ∈ TB := tbm (tq1 (List.mem_of_getElem? (i := 165) (by decide +kernel))) (by decide +kernel)
theorem fp_X0_24 : FP RX0 24 0 5 (.array .int) true := ⟨RX0, TX0, 6, tyX0, uw_X0, wf_X0_24, rfl, by decide, rfl, tyX0_ok, nmX0, rfl, by decide +kernel⟩
theorem dX0_init_34 : decode cX0_init 34 = .ok (.return_, 1) := by decide +kernel
set_option maxRecDepth 100000 in
set_option maxHeartbeats 4000000 in
theorem k_Event (l : Launch) (E : EV) (h : Nat)  : CT l yX0_init (Cond.code yX0_init cX0_init 1 none :: TB) ({ frames := 1, cells := 4, slots := 28, locals := 12 }) E [.ref h] [(h, .inr (0, [.int 0, .int 0, .null, .null, .null, .null]))] (Qv E (fun u => (∃ (a : Nat) (b : Nat) (c : Nat) (d : Nat), u = [(h, .inr (0, [.int 0, .int 0, .ref a, .ref b, .ref c, .ref d])), (a, .inl (E.2.1 7, 4, .inr (.inr (.inr (.inr (fun _ => none)))))), (b, .inl (E.2.1 1, 4, .inl (fun _ => 0))), (c, .inl (E.2.1 1, 4, .inl (fun _ => 0))), (d, .inl (E.2.1 1, 16, .inl (fun _ => 0)))]))) 4 28 := by
  refine ct_of rfl rfl ?_
  intro X C hT hin
  show WW X 1 E 0 [(0, .ref h)] [] [(h, .inr (0, [.int 0, .int 0, .null, .null, .null, .null]))] 0 0
  refine ww_aload_n C dX0_init_0 0 rfl rfl ?_
  refine ww_objInit C wl_X0_3 wi_obj wc_obj rfl dX0_init_1 ?_
  refine ww_aload_n C dX0_init_4 0 rfl rfl ?_
  refine ww_iconst (v := 4) C dX0_init_5 rfl ?_
  refine ww_newq (N := 4) (t0 := 7) (Cn := "WhoKnows$Saying") (k' := 1) (n' := 4) C wk_X0_9 (by decide) rfl (by decide) rfl rfl rfl dX0_init_6 (fun q_1 => ?_)
  refine ww_eq (ws' := [(h, .inr (0, [.int 0, .int 0, .null, .null, .null, .null])), (q_1, .inl (E.2.1 7, 4, .inr (.inr (.inr (.inr (fun _ => none))))))]) ?_ rfl rfl rfl
  refine ww_putF (ws' := [(h, .inr (0, [.int 0, .int 0, .ref q_1, .null, .null, .null])), (q_1, .inl (E.2.1 7, 4, .inr (.inr (.inr (.inr (fun _ => none))))))]) C fp_X0_11 hin ⟨_, _, rfl⟩ 0 rfl rfl rfl rfl rfl dX0_init_9 ?_
  refine ww_aload_n C dX0_init_12 0 rfl rfl ?_
  refine ww_iconst (v := 4) C dX0_init_13 rfl ?_
  refine ww_newi (N := 4) (k' := 2) (n' := 8) C wa_int (by decide) rfl rfl rfl dX0_init_14 (fun q_2 => ?_)
  refine ww_eq (ws' := [(h, .inr (0, [.int 0, .int 0, .ref q_1, .null, .null, .null])), (q_1, .inl (E.2.1 7, 4, .inr (.inr (.inr (.inr (fun _ => none)))))), (q_2, .inl (E.2.1 1, 4, .inl (fun _ => 0)))]) ?_ rfl rfl rfl
  refine ww_putF (ws' := [(h, .inr (0, [.int 0, .int 0, .ref q_1, .ref q_2, .null, .null])), (q_1, .inl (E.2.1 7, 4, .inr (.inr (.inr (.inr (fun _ => none)))))), (q_2, .inl (E.2.1 1, 4, .inl (fun _ => 0)))]) C fp_X0_17 hin ⟨_, _, rfl⟩ 0 rfl rfl rfl rfl rfl dX0_init_16 ?_
  refine ww_aload_n C dX0_init_19 0 rfl rfl ?_
  refine ww_iconst (v := 4) C dX0_init_20 rfl ?_
  refine ww_newi (N := 4) (k' := 3) (n' := 12) C wa_int (by decide) rfl rfl rfl dX0_init_21 (fun q_3 => ?_)
  refine ww_eq (ws' := [(h, .inr (0, [.int 0, .int 0, .ref q_1, .ref q_2, .null, .null])), (q_1, .inl (E.2.1 7, 4, .inr (.inr (.inr (.inr (fun _ => none)))))), (q_2, .inl (E.2.1 1, 4, .inl (fun _ => 0))), (q_3, .inl (E.2.1 1, 4, .inl (fun _ => 0)))]) ?_ rfl rfl rfl
  refine ww_putF (ws' := [(h, .inr (0, [.int 0, .int 0, .ref q_1, .ref q_2, .ref q_3, .null])), (q_1, .inl (E.2.1 7, 4, .inr (.inr (.inr (.inr (fun _ => none)))))), (q_2, .inl (E.2.1 1, 4, .inl (fun _ => 0))), (q_3, .inl (E.2.1 1, 4, .inl (fun _ => 0)))]) C fp_X0_21 hin ⟨_, _, rfl⟩ 0 rfl rfl rfl rfl rfl dX0_init_23 ?_
  refine ww_aload_n C dX0_init_26 0 rfl rfl ?_
  refine ww_bipush (v := 16) C dX0_init_27 rfl ?_
  refine ww_newi (N := 16) (k' := 4) (n' := 28) C wa_int (by decide) rfl rfl rfl dX0_init_29 (fun q_4 => ?_)
  refine ww_eq (ws' := [(h, .inr (0, [.int 0, .int 0, .ref q_1, .ref q_2, .ref q_3, .null])), (q_1, .inl (E.2.1 7, 4, .inr (.inr (.inr (.inr (fun _ => none)))))), (q_2, .inl (E.2.1 1, 4, .inl (fun _ => 0))), (q_3, .inl (E.2.1 1, 4, .inl (fun _ => 0))), (q_4, .inl (E.2.1 1, 16, .inl (fun _ => 0)))]) ?_ rfl rfl rfl
  refine ww_putF (ws' := [(h, .inr (0, [.int 0, .int 0, .ref q_1, .ref q_2, .ref q_3, .ref q_4])), (q_1, .inl (E.2.1 7, 4, .inr (.inr (.inr (.inr (fun _ => none)))))), (q_2, .inl (E.2.1 1, 4, .inl (fun _ => 0))), (q_3, .inl (E.2.1 1, 4, .inl (fun _ => 0))), (q_4, .inl (E.2.1 1, 16, .inl (fun _ => 0)))]) C fp_X0_24 hin ⟨_, _, rfl⟩ 0 rfl rfl rfl rfl rfl dX0_init_31 ?_
  exact ww_vret (u := [(h, .inr (0, [.int 0, .int 0, .ref q_1, .ref q_2, .ref q_3, .ref q_4])), (q_1, .inl (E.2.1 7, 4, .inr (.inr (.inr (.inr (fun _ => none)))))), (q_2, .inl (E.2.1 1, 4, .inl (fun _ => 0))), (q_3, .inl (E.2.1 1, 4, .inl (fun _ => 0))), (q_4, .inl (E.2.1 1, 16, .inl (fun _ => 0)))]) C hT [0, 1, 2, 3, 4] rfl rfl rfl rfl dX0_init_34 (⟨q_1, q_2, q_3, q_4, rfl⟩)
theorem dX3_init_0 : decode cX3_init 0 = .ok (.aload_n 0, 1) := by decide +kernel
theorem dX3_init_1 : decode cX3_init 1 = .ok (.invokespecial 3, 3) := by decide +kernel
theorem wl_X3_3 : Cond.methodLink RX3 3 objectInit ∈ TB := tbm (tq1 (List.mem_of_getElem? (i := 184) (by decide +kernel))) (by decide +kernel)
theorem dX3_init_4 : decode cX3_init 4 = .ok (.aload_n 0, 1) := by decide +kernel
theorem dX3_init_5 : decode cX3_init 5 = .ok (.new 9, 3) := by decide +kernel
theorem wk_X3_9 : Cond.classLink RX3 9 RX4 ∈ TB := tbm (tq1 (List.mem_of_getElem? (i := 185) (by decide +kernel))) (by decide +kernel)
theorem wq_X4 : Cond.instantiable RX4 4 ∈ TB := tbm (tq1 (List.mem_of_getElem? (i := 30) (by decide +kernel))) (by decide +kernel)
theorem wn_X4 : Cond.initialized RX4 ∈ TB := tbm (tq1 (List.mem_of_getElem? (i := 2) (by decide +kernel))) (by decide +kernel)
theorem cn_X3_9 : CN RX3 9 4 4 [.int 0, .int 0, .null, .null] := ⟨RX4, TX4, tyX4, uw_X4, wk_X3_9, wq_X4, wn_X4, rfl, tyX4_ok, by decide +kernel⟩
theorem dX3_init_8 : decode cX3_init 8 = .ok (.dup, 1) := by decide +kernel
theorem dX3_init_9 : decode cX3_init 9 = .ok (.invokespecial 11, 3) := by decide +kernel
theorem wc_X4_init : Cond.code yX4_init cX4_init 1 none ∈ TB := tbm (tq1 (List.mem_of_getElem? (i := 33) (rfl))) (by decide +kernel)
theorem wi_X4_init : Cond.instanceMethod yX4_init ∈ TB := tbm (tq1 (List.mem_of_getElem? (i := 32) (by decide +kernel))) (by decide +kernel)
theorem mn_X4_init : MN yX4_init cX4_init 1 0 := ⟨wc_X4_init, wn_X4, ⟨by decide +kernel, by decide +kernel, by decide +kernel⟩, wi_X4_init, rfl⟩
theorem dX3_init_12 : decode cX3_init 12 = .ok (.putfield 12, 3) := by decide +kernel
theorem uw_X3 : ∀ w ∈ u_ws RX3 TX3 6, w ∈ TB := uw_of [199, 201, 203, 205, 207, 209] (by decide +kernel) (by decide +kernel)
theorem wf_X3_12 : Cond.fieldLink RX3 12 RX3 "behind" "LWhoKnows$Model;" ∈ TB := tbm (tq1 (List.mem_of_getElem? (i := 187) (by decide +kernel))) (by decide +kernel)
theorem fp_X3_12 : FP RX3 12 3 0 (.object "WhoKnows$Model") true := ⟨RX3, TX3, 6, tyX3, uw_X3, wf_X3_12, rfl, by decide, rfl, tyX3_ok, nmX3, rfl, by decide +kernel⟩
theorem dX3_init_15 : decode cX3_init 15 = .ok (.aload_n 0, 1) := by decide +kernel
theorem dX3_init_16 : decode cX3_init 16 = .ok (.bipush 24, 2) := by decide +kernel
theorem dX3_init_18 : decode cX3_init 18 = .ok (.newarray .int, 2) := by decide +kernel
theorem dX3_init_20 : decode cX3_init 20 = .ok (.putfield 18, 3) := by decide +kernel
theorem wf_X3_18 : Cond.fieldLink RX3 18 RX3 "canBe" "[I" ∈ TB := tbm (tq1 (List.mem_of_getElem? (i := 196) (by decide +kernel))) (by decide +kernel)
theorem fp_X3_18 : FP RX3 18 3 3 (.array .int) true := ⟨RX3, TX3, 6, tyX3, uw_X3, wf_X3_18, rfl, by decide, rfl, tyX3_ok, nmX3, rfl, by decide +kernel⟩
theorem dX3_init_23 : decode cX3_init 23 = .ok (.aload_n 0, 1) := by decide +kernel
theorem dX3_init_24 : decode cX3_init 24 = .ok (.bipush 24, 2) := by decide +kernel
theorem dX3_init_26 : decode cX3_init 26 = .ok (.newarray .int, 2) := by decide +kernel
theorem dX3_init_28 : decode cX3_init 28 = .ok (.putfield 22, 3) := by decide +kernel
theorem wf_X3_22 : Cond.fieldLink RX3 22 RX3 "firstPair" "[I" ∈ TB := tbm (tq1 (List.mem_of_getElem? (i := 197) (by decide +kernel))) (by decide +kernel)
theorem fp_X3_22 : FP RX3 22 3 4 (.array .int) true := ⟨RX3, TX3, 6, tyX3, uw_X3, wf_X3_22, rfl, by decide, rfl, tyX3_ok, nmX3, rfl, by decide +kernel⟩
theorem dX3_init_31 : decode cX3_init 31 = .ok (.aload_n 0, 1) := by decide +kernel
theorem dX3_init_32 : decode cX3_init 32 = .ok (.iconst 4, 1) := by decide +kernel
theorem dX3_init_33 : decode cX3_init 33 = .ok (.newarray .int, 2) := by decide +kernel
theorem dX3_init_35 : decode cX3_init 35 = .ok (.putfield 25, 3) := by decide +kernel
theorem wf_X3_25 : Cond.fieldLink RX3 25 RX3 "pairsOfCase" "[I" ∈ TB := tbm (tq1 (List.mem_of_getElem? (i := 198) (by decide +kernel))) (by decide +kernel)
theorem fp_X3_25 : FP RX3 25 3 5 (.array .int) true := ⟨RX3, TX3, 6, tyX3, uw_X3, wf_X3_25, rfl, by decide, rfl, tyX3_ok, nmX3, rfl, by decide +kernel⟩
theorem dX3_init_38 : decode cX3_init 38 = .ok (.return_, 1) := by decide +kernel
set_option maxRecDepth 100000 in
set_option maxHeartbeats 4000000 in
theorem k_Layer (l : Launch) (E : EV) (h : Nat)  : CT l yX3_init (Cond.code yX3_init cX3_init 1 none :: TB) ({ frames := 2, cells := 6, slots := 176, locals := 32 }) E [.ref h] [(h, .inr (3, [.null, .int 0, .int 0, .null, .null, .null]))] (Qv E (fun u => (∃ (m : Nat) (a : Nat) (b : Nat) (c : Nat), u = [(h, .inr (3, [.ref m, .int 0, .int 0, .ref a, .ref b, .ref c]))]))) 6 176 := by
  refine ct_of rfl rfl ?_
  intro X C hT hin
  show WW X 1 E 0 [(0, .ref h)] [] [(h, .inr (3, [.null, .int 0, .int 0, .null, .null, .null]))] 0 0
  refine ww_aload_n C dX3_init_0 0 rfl rfl ?_
  refine ww_objInit C wl_X3_3 wi_obj wc_obj rfl dX3_init_1 ?_
  refine ww_aload_n C dX3_init_4 0 rfl rfl ?_
  refine ww_new (k' := 1) (n' := 4) C cn_X3_9 rfl dX3_init_5 (fun q_1 => ?_)
  refine ww_eq (ws' := [(h, .inr (3, [.null, .int 0, .int 0, .null, .null, .null])), (q_1, .inr (4, [.int 0, .int 0, .null, .null]))]) ?_ rfl rfl rfl
  refine ww_dup C dX3_init_8 rfl ?_
  refine ww_cv (wr := [(h, .inr (3, [.null, .int 0, .int 0, .null, .null, .null]))]) (k' := 3) (n' := 124) C (run_IN (As := []) (rest := [.ref q_1, .ref h]) C (k_Model X.2.1 E q_1) mn_X4_init (List.mem_of_getElem? (i := 5) rfl) rfl rfl rfl rfl dX3_init_9) [1] [0] rfl rfl rfl rfl (fun u hw => ?_)
  obtain ⟨a_2, b_3, rfl⟩ := hw
  refine ww_eq (ws' := [(h, .inr (3, [.null, .int 0, .int 0, .null, .null, .null])), (q_1, .inr (4, [.int 0, .int 0, .ref a_2, .ref b_3])), (a_2, .inl (E.2.1 1, 24, .inl (fun _ => 0))), (b_3, .inl (E.2.1 1, 96, .inl (fun _ => 0)))]) ?_ rfl rfl rfl
  refine ww_putF (ws' := [(h, .inr (3, [.ref q_1, .int 0, .int 0, .null, .null, .null])), (q_1, .inr (4, [.int 0, .int 0, .ref a_2, .ref b_3])), (a_2, .inl (E.2.1 1, 24, .inl (fun _ => 0))), (b_3, .inl (E.2.1 1, 96, .inl (fun _ => 0)))]) C fp_X3_12 hin ⟨_, _, rfl⟩ 0 rfl rfl rfl rfl rfl dX3_init_12 ?_
  refine ww_aload_n C dX3_init_15 0 rfl rfl ?_
  refine ww_bipush (v := 24) C dX3_init_16 rfl ?_
  refine ww_newi (N := 24) (k' := 4) (n' := 148) C wa_int (by decide) rfl rfl rfl dX3_init_18 (fun q_4 => ?_)
  refine ww_eq (ws' := [(h, .inr (3, [.ref q_1, .int 0, .int 0, .null, .null, .null])), (q_1, .inr (4, [.int 0, .int 0, .ref a_2, .ref b_3])), (a_2, .inl (E.2.1 1, 24, .inl (fun _ => 0))), (b_3, .inl (E.2.1 1, 96, .inl (fun _ => 0))), (q_4, .inl (E.2.1 1, 24, .inl (fun _ => 0)))]) ?_ rfl rfl rfl
  refine ww_putF (ws' := [(h, .inr (3, [.ref q_1, .int 0, .int 0, .ref q_4, .null, .null])), (q_1, .inr (4, [.int 0, .int 0, .ref a_2, .ref b_3])), (a_2, .inl (E.2.1 1, 24, .inl (fun _ => 0))), (b_3, .inl (E.2.1 1, 96, .inl (fun _ => 0))), (q_4, .inl (E.2.1 1, 24, .inl (fun _ => 0)))]) C fp_X3_18 hin ⟨_, _, rfl⟩ 0 rfl rfl rfl rfl rfl dX3_init_20 ?_
  refine ww_aload_n C dX3_init_23 0 rfl rfl ?_
  refine ww_bipush (v := 24) C dX3_init_24 rfl ?_
  refine ww_newi (N := 24) (k' := 5) (n' := 172) C wa_int (by decide) rfl rfl rfl dX3_init_26 (fun q_5 => ?_)
  refine ww_eq (ws' := [(h, .inr (3, [.ref q_1, .int 0, .int 0, .ref q_4, .null, .null])), (q_1, .inr (4, [.int 0, .int 0, .ref a_2, .ref b_3])), (a_2, .inl (E.2.1 1, 24, .inl (fun _ => 0))), (b_3, .inl (E.2.1 1, 96, .inl (fun _ => 0))), (q_4, .inl (E.2.1 1, 24, .inl (fun _ => 0))), (q_5, .inl (E.2.1 1, 24, .inl (fun _ => 0)))]) ?_ rfl rfl rfl
  refine ww_putF (ws' := [(h, .inr (3, [.ref q_1, .int 0, .int 0, .ref q_4, .ref q_5, .null])), (q_1, .inr (4, [.int 0, .int 0, .ref a_2, .ref b_3])), (a_2, .inl (E.2.1 1, 24, .inl (fun _ => 0))), (b_3, .inl (E.2.1 1, 96, .inl (fun _ => 0))), (q_4, .inl (E.2.1 1, 24, .inl (fun _ => 0))), (q_5, .inl (E.2.1 1, 24, .inl (fun _ => 0)))]) C fp_X3_22 hin ⟨_, _, rfl⟩ 0 rfl rfl rfl rfl rfl dX3_init_28 ?_
  refine ww_aload_n C dX3_init_31 0 rfl rfl ?_
  refine ww_iconst (v := 4) C dX3_init_32 rfl ?_
  refine ww_newi (N := 4) (k' := 6) (n' := 176) C wa_int (by decide) rfl rfl rfl dX3_init_33 (fun q_6 => ?_)
  refine ww_eq (ws' := [(h, .inr (3, [.ref q_1, .int 0, .int 0, .ref q_4, .ref q_5, .null])), (q_1, .inr (4, [.int 0, .int 0, .ref a_2, .ref b_3])), (a_2, .inl (E.2.1 1, 24, .inl (fun _ => 0))), (b_3, .inl (E.2.1 1, 96, .inl (fun _ => 0))), (q_4, .inl (E.2.1 1, 24, .inl (fun _ => 0))), (q_5, .inl (E.2.1 1, 24, .inl (fun _ => 0))), (q_6, .inl (E.2.1 1, 4, .inl (fun _ => 0)))]) ?_ rfl rfl rfl
  refine ww_putF (ws' := [(h, .inr (3, [.ref q_1, .int 0, .int 0, .ref q_4, .ref q_5, .ref q_6])), (q_1, .inr (4, [.int 0, .int 0, .ref a_2, .ref b_3])), (a_2, .inl (E.2.1 1, 24, .inl (fun _ => 0))), (b_3, .inl (E.2.1 1, 96, .inl (fun _ => 0))), (q_4, .inl (E.2.1 1, 24, .inl (fun _ => 0))), (q_5, .inl (E.2.1 1, 24, .inl (fun _ => 0))), (q_6, .inl (E.2.1 1, 4, .inl (fun _ => 0)))]) C fp_X3_25 hin ⟨_, _, rfl⟩ 0 rfl rfl rfl rfl rfl dX3_init_35 ?_
  exact ww_vret (u := [(h, .inr (3, [.ref q_1, .int 0, .int 0, .ref q_4, .ref q_5, .ref q_6]))]) C hT [0] rfl rfl rfl rfl dX3_init_38 (⟨q_1, q_4, q_5, q_6, rfl⟩)
theorem dX1_init_0 : decode cX1_init 0 = .ok (.aload_n 0, 1) := by decide +kernel
theorem dX1_init_1 : decode cX1_init 1 = .ok (.invokespecial 3, 3) := by decide +kernel
theorem wl_X1_3 : Cond.methodLink RX1 3 objectInit ∈ TB := tbm (tq1 (List.mem_of_getElem? (i := 236) (by decide +kernel))) (by decide +kernel)
theorem dX1_init_4 : decode cX1_init 4 = .ok (.aload_n 0, 1) := by decide +kernel
theorem dX1_init_5 : decode cX1_init 5 = .ok (.bipush 48, 2) := by decide +kernel
theorem dX1_init_7 : decode cX1_init 7 = .ok (.newarray .int, 2) := by decide +kernel
theorem dX1_init_9 : decode cX1_init 9 = .ok (.putfield 9, 3) := by decide +kernel
theorem uw_X1 : ∀ w ∈ u_ws RX1 TX1 6, w ∈ TB := uw_of [244, 246, 248, 250, 252, 254] (by decide +kernel) (by decide +kernel)
theorem wf_X1_9 : Cond.fieldLink RX1 9 RX1 "least" "[I" ∈ TB := tbm (tq2 (List.mem_of_getElem? (i := 0) (by decide +kernel))) (by decide +kernel)
theorem fp_X1_9 : FP RX1 9 1 3 (.array .int) true := ⟨RX1, TX1, 6, tyX1, uw_X1, wf_X1_9, rfl, by decide, rfl, tyX1_ok, nmX1, rfl, by decide +kernel⟩
theorem dX1_init_12 : decode cX1_init 12 = .ok (.aload_n 0, 1) := by decide +kernel
theorem dX1_init_13 : decode cX1_init 13 = .ok (.bipush 48, 2) := by decide +kernel
theorem dX1_init_15 : decode cX1_init 15 = .ok (.newarray .int, 2) := by decide +kernel
theorem dX1_init_17 : decode cX1_init 17 = .ok (.putfield 15, 3) := by decide +kernel
theorem wf_X1_15 : Cond.fieldLink RX1 15 RX1 "next" "[I" ∈ TB := tbm (tq2 (List.mem_of_getElem? (i := 2) (by decide +kernel))) (by decide +kernel)
theorem fp_X1_15 : FP RX1 15 1 4 (.array .int) true := ⟨RX1, TX1, 6, tyX1, uw_X1, wf_X1_15, rfl, by decide, rfl, tyX1_ok, nmX1, rfl, by decide +kernel⟩
theorem dX1_init_20 : decode cX1_init 20 = .ok (.aload_n 0, 1) := by decide +kernel
theorem dX1_init_21 : decode cX1_init 21 = .ok (.sipush 192, 3) := by decide +kernel
theorem dX1_init_24 : decode cX1_init 24 = .ok (.newarray .long, 2) := by decide +kernel
theorem wa_long : Cond.arrayClass .long ∈ TB := tbm (tq2 (List.mem_of_getElem? (i := 17) (by decide +kernel))) (by decide +kernel)
theorem dX1_init_26 : decode cX1_init 26 = .ok (.putfield 18, 3) := by decide +kernel
theorem wf_X1_18 : Cond.fieldLink RX1 18 RX1 "seen" "[J" ∈ TB := tbm (tq2 (List.mem_of_getElem? (i := 3) (by decide +kernel))) (by decide +kernel)
theorem fp_X1_18 : FP RX1 18 1 5 (.array .long) true := ⟨RX1, TX1, 6, tyX1, uw_X1, wf_X1_18, rfl, by decide, rfl, tyX1_ok, nmX1, rfl, by decide +kernel⟩
theorem dX1_init_29 : decode cX1_init 29 = .ok (.return_, 1) := by decide +kernel
set_option maxRecDepth 100000 in
set_option maxHeartbeats 4000000 in
theorem k_Heaps (l : Launch) (E : EV) (h : Nat)  : CT l yX1_init (Cond.code yX1_init cX1_init 1 none :: TB) ({ frames := 1, cells := 3, slots := 288, locals := 12 }) E [.ref h] [(h, .inr (1, [.null, .null, .int 0, .null, .null, .null]))] (Qv E (fun u => (∃ (a : Nat) (b : Nat) (c : Nat), u = [(h, .inr (1, [.null, .null, .int 0, .ref a, .ref b, .ref c]))]))) 3 288 := by
  refine ct_of rfl rfl ?_
  intro X C hT hin
  show WW X 1 E 0 [(0, .ref h)] [] [(h, .inr (1, [.null, .null, .int 0, .null, .null, .null]))] 0 0
  refine ww_aload_n C dX1_init_0 0 rfl rfl ?_
  refine ww_objInit C wl_X1_3 wi_obj wc_obj rfl dX1_init_1 ?_
  refine ww_aload_n C dX1_init_4 0 rfl rfl ?_
  refine ww_bipush (v := 48) C dX1_init_5 rfl ?_
  refine ww_newi (N := 48) (k' := 1) (n' := 48) C wa_int (by decide) rfl rfl rfl dX1_init_7 (fun q_1 => ?_)
  refine ww_eq (ws' := [(h, .inr (1, [.null, .null, .int 0, .null, .null, .null])), (q_1, .inl (E.2.1 1, 48, .inl (fun _ => 0)))]) ?_ rfl rfl rfl
  refine ww_putF (ws' := [(h, .inr (1, [.null, .null, .int 0, .ref q_1, .null, .null])), (q_1, .inl (E.2.1 1, 48, .inl (fun _ => 0)))]) C fp_X1_9 hin ⟨_, _, rfl⟩ 0 rfl rfl rfl rfl rfl dX1_init_9 ?_
  refine ww_aload_n C dX1_init_12 0 rfl rfl ?_
  refine ww_bipush (v := 48) C dX1_init_13 rfl ?_
  refine ww_newi (N := 48) (k' := 2) (n' := 96) C wa_int (by decide) rfl rfl rfl dX1_init_15 (fun q_2 => ?_)
  refine ww_eq (ws' := [(h, .inr (1, [.null, .null, .int 0, .ref q_1, .null, .null])), (q_1, .inl (E.2.1 1, 48, .inl (fun _ => 0))), (q_2, .inl (E.2.1 1, 48, .inl (fun _ => 0)))]) ?_ rfl rfl rfl
  refine ww_putF (ws' := [(h, .inr (1, [.null, .null, .int 0, .ref q_1, .ref q_2, .null])), (q_1, .inl (E.2.1 1, 48, .inl (fun _ => 0))), (q_2, .inl (E.2.1 1, 48, .inl (fun _ => 0)))]) C fp_X1_15 hin ⟨_, _, rfl⟩ 0 rfl rfl rfl rfl rfl dX1_init_17 ?_
  refine ww_aload_n C dX1_init_20 0 rfl rfl ?_
  refine ww_sipush (v := 192) C dX1_init_21 rfl ?_
  refine ww_newl (N := 192) (k' := 3) (n' := 288) C wa_long (by decide) rfl rfl rfl dX1_init_24 (fun q_3 => ?_)
  refine ww_eq (ws' := [(h, .inr (1, [.null, .null, .int 0, .ref q_1, .ref q_2, .null])), (q_1, .inl (E.2.1 1, 48, .inl (fun _ => 0))), (q_2, .inl (E.2.1 1, 48, .inl (fun _ => 0))), (q_3, .inl (E.2.1 2, 192, .inr (.inl (fun _ => 0))))]) ?_ rfl rfl rfl
  refine ww_putF (ws' := [(h, .inr (1, [.null, .null, .int 0, .ref q_1, .ref q_2, .ref q_3])), (q_1, .inl (E.2.1 1, 48, .inl (fun _ => 0))), (q_2, .inl (E.2.1 1, 48, .inl (fun _ => 0))), (q_3, .inl (E.2.1 2, 192, .inr (.inl (fun _ => 0))))]) C fp_X1_18 hin ⟨_, _, rfl⟩ 0 rfl rfl rfl rfl rfl dX1_init_26 ?_
  exact ww_vret (u := [(h, .inr (1, [.null, .null, .int 0, .ref q_1, .ref q_2, .ref q_3]))]) C hT [0] rfl rfl rfl rfl dX1_init_29 (⟨q_1, q_2, q_3, rfl⟩)
theorem dX7_init_0 : decode cX7_init 0 = .ok (.aload_n 0, 1) := by decide +kernel
theorem dX7_init_1 : decode cX7_init 1 = .ok (.invokespecial 3, 3) := by decide +kernel
theorem wl_X7_3 : Cond.methodLink RX7 3 objectInit ∈ TB := tbm (tq2 (List.mem_of_getElem? (i := 23) (by decide +kernel))) (by decide +kernel)
theorem dX7_init_4 : decode cX7_init 4 = .ok (.aload_n 0, 1) := by decide +kernel
theorem dX7_init_5 : decode cX7_init 5 = .ok (.new 9, 3) := by decide +kernel
theorem wk_X7_9 : Cond.classLink RX7 9 RX4 ∈ TB := tbm (tq2 (List.mem_of_getElem? (i := 24) (by decide +kernel))) (by decide +kernel)
theorem cn_X7_9 : CN RX7 9 4 4 [.int 0, .int 0, .null, .null] := ⟨RX4, TX4, tyX4, uw_X4, wk_X7_9, wq_X4, wn_X4, rfl, tyX4_ok, by decide +kernel⟩
theorem dX7_init_8 : decode cX7_init 8 = .ok (.dup, 1) := by decide +kernel
theorem dX7_init_9 : decode cX7_init 9 = .ok (.invokespecial 11, 3) := by decide +kernel
theorem dX7_init_12 : decode cX7_init 12 = .ok (.putfield 12, 3) := by decide +kernel
theorem uw_X7 : ∀ w ∈ u_ws RX7 TX7 5, w ∈ TB := uw_of [276, 278, 280, 282, 284] (by decide +kernel) (by decide +kernel)
theorem wf_X7_12 : Cond.fieldLink RX7 12 RX7 "trial" "LWhoKnows$Model;" ∈ TB := tbm (tq2 (List.mem_of_getElem? (i := 26) (by decide +kernel))) (by decide +kernel)
theorem fp_X7_12 : FP RX7 12 7 0 (.object "WhoKnows$Model") true := ⟨RX7, TX7, 5, tyX7, uw_X7, wf_X7_12, rfl, by decide, rfl, tyX7_ok, nmX7, rfl, by decide +kernel⟩
theorem dX7_init_15 : decode cX7_init 15 = .ok (.aload_n 0, 1) := by decide +kernel
theorem dX7_init_16 : decode cX7_init 16 = .ok (.iconst 4, 1) := by decide +kernel
theorem dX7_init_17 : decode cX7_init 17 = .ok (.newarray .int, 2) := by decide +kernel
theorem dX7_init_19 : decode cX7_init 19 = .ok (.putfield 18, 3) := by decide +kernel
theorem wf_X7_18 : Cond.fieldLink RX7 18 RX7 "first" "[I" ∈ TB := tbm (tq2 (List.mem_of_getElem? (i := 28) (by decide +kernel))) (by decide +kernel)
theorem fp_X7_18 : FP RX7 18 7 1 (.array .int) true := ⟨RX7, TX7, 5, tyX7, uw_X7, wf_X7_18, rfl, by decide, rfl, tyX7_ok, nmX7, rfl, by decide +kernel⟩
theorem dX7_init_22 : decode cX7_init 22 = .ok (.return_, 1) := by decide +kernel
set_option maxRecDepth 100000 in
set_option maxHeartbeats 4000000 in
theorem k_Rounds (l : Launch) (E : EV) (h : Nat)  : CT l yX7_init (Cond.code yX7_init cX7_init 1 none :: TB) ({ frames := 2, cells := 4, slots := 128, locals := 32 }) E [.ref h] [(h, .inr (7, [.null, .null, .int 0, .int 0, .int 0]))] (Qv E (fun u => (u = []))) 4 128 := by
  refine ct_of rfl rfl ?_
  intro X C hT hin
  show WW X 1 E 0 [(0, .ref h)] [] [(h, .inr (7, [.null, .null, .int 0, .int 0, .int 0]))] 0 0
  refine ww_aload_n C dX7_init_0 0 rfl rfl ?_
  refine ww_objInit C wl_X7_3 wi_obj wc_obj rfl dX7_init_1 ?_
  refine ww_aload_n C dX7_init_4 0 rfl rfl ?_
  refine ww_new (k' := 1) (n' := 4) C cn_X7_9 rfl dX7_init_5 (fun q_1 => ?_)
  refine ww_eq (ws' := [(h, .inr (7, [.null, .null, .int 0, .int 0, .int 0])), (q_1, .inr (4, [.int 0, .int 0, .null, .null]))]) ?_ rfl rfl rfl
  refine ww_dup C dX7_init_8 rfl ?_
  refine ww_cv (wr := [(h, .inr (7, [.null, .null, .int 0, .int 0, .int 0]))]) (k' := 3) (n' := 124) C (run_IN (As := []) (rest := [.ref q_1, .ref h]) C (k_Model X.2.1 E q_1) mn_X4_init (List.mem_of_getElem? (i := 9) rfl) rfl rfl rfl rfl dX7_init_9) [1] [0] rfl rfl rfl rfl (fun u hw => ?_)
  obtain ⟨a_2, b_3, rfl⟩ := hw
  refine ww_eq (ws' := [(h, .inr (7, [.null, .null, .int 0, .int 0, .int 0])), (q_1, .inr (4, [.int 0, .int 0, .ref a_2, .ref b_3])), (a_2, .inl (E.2.1 1, 24, .inl (fun _ => 0))), (b_3, .inl (E.2.1 1, 96, .inl (fun _ => 0)))]) ?_ rfl rfl rfl
  refine ww_putF (ws' := [(h, .inr (7, [.ref q_1, .null, .int 0, .int 0, .int 0])), (q_1, .inr (4, [.int 0, .int 0, .ref a_2, .ref b_3])), (a_2, .inl (E.2.1 1, 24, .inl (fun _ => 0))), (b_3, .inl (E.2.1 1, 96, .inl (fun _ => 0)))]) C fp_X7_12 hin ⟨_, _, rfl⟩ 0 rfl rfl rfl rfl rfl dX7_init_12 ?_
  refine ww_aload_n C dX7_init_15 0 rfl rfl ?_
  refine ww_iconst (v := 4) C dX7_init_16 rfl ?_
  refine ww_newi (N := 4) (k' := 4) (n' := 128) C wa_int (by decide) rfl rfl rfl dX7_init_17 (fun q_4 => ?_)
  refine ww_eq (ws' := [(h, .inr (7, [.ref q_1, .null, .int 0, .int 0, .int 0])), (q_1, .inr (4, [.int 0, .int 0, .ref a_2, .ref b_3])), (a_2, .inl (E.2.1 1, 24, .inl (fun _ => 0))), (b_3, .inl (E.2.1 1, 96, .inl (fun _ => 0))), (q_4, .inl (E.2.1 1, 4, .inl (fun _ => 0)))]) ?_ rfl rfl rfl
  refine ww_putF (ws' := [(h, .inr (7, [.ref q_1, .ref q_4, .int 0, .int 0, .int 0])), (q_1, .inr (4, [.int 0, .int 0, .ref a_2, .ref b_3])), (a_2, .inl (E.2.1 1, 24, .inl (fun _ => 0))), (b_3, .inl (E.2.1 1, 96, .inl (fun _ => 0))), (q_4, .inl (E.2.1 1, 4, .inl (fun _ => 0)))]) C fp_X7_18 hin ⟨_, _, rfl⟩ 0 rfl rfl rfl rfl rfl dX7_init_19 ?_
  exact ww_vret (u := []) C hT [] rfl rfl rfl rfl dX7_init_22 (rfl)
theorem dX9_init_0 : decode cX9_init 0 = .ok (.aload_n 0, 1) := by decide +kernel
theorem dX9_init_1 : decode cX9_init 1 = .ok (.invokespecial 3, 3) := by decide +kernel
theorem wl_X9_3 : Cond.methodLink RX9 3 objectInit ∈ TB := tbm (tq2 (List.mem_of_getElem? (i := 79) (by decide +kernel))) (by decide +kernel)
theorem dX9_init_4 : decode cX9_init 4 = .ok (.aload_n 0, 1) := by decide +kernel
theorem dX9_init_5 : decode cX9_init 5 = .ok (.bipush 48, 2) := by decide +kernel
theorem dX9_init_7 : decode cX9_init 7 = .ok (.newarray .int, 2) := by decide +kernel
theorem dX9_init_9 : decode cX9_init 9 = .ok (.putfield 9, 3) := by decide +kernel
theorem uw_X9 : ∀ w ∈ u_ws RX9 TX9 4, w ∈ TB := uw_of [327, 329, 331, 333] (by decide +kernel) (by decide +kernel)
theorem wf_X9_9 : Cond.fieldLink RX9 9 RX9 "cells" "[I" ∈ TB := tbm (tq2 (List.mem_of_getElem? (i := 85) (by decide +kernel))) (by decide +kernel)
theorem fp_X9_9 : FP RX9 9 9 3 (.array .int) true := ⟨RX9, TX9, 4, tyX9, uw_X9, wf_X9_9, rfl, by decide, rfl, tyX9_ok, nmX9, rfl, by decide +kernel⟩
theorem dX9_init_12 : decode cX9_init 12 = .ok (.return_, 1) := by decide +kernel
set_option maxRecDepth 100000 in
set_option maxHeartbeats 4000000 in
theorem k_Sheet (l : Launch) (E : EV) (h : Nat)  : CT l yX9_init (Cond.code yX9_init cX9_init 1 none :: TB) ({ frames := 1, cells := 1, slots := 48, locals := 12 }) E [.ref h] [(h, .inr (9, [.int 0, .int 0, .int 0, .null]))] (Qv E (fun u => (∃ (a : Nat), u = [(h, .inr (9, [.int 0, .int 0, .int 0, .ref a])), (a, .inl (E.2.1 1, 48, .inl (fun _ => 0)))]))) 1 48 := by
  refine ct_of rfl rfl ?_
  intro X C hT hin
  show WW X 1 E 0 [(0, .ref h)] [] [(h, .inr (9, [.int 0, .int 0, .int 0, .null]))] 0 0
  refine ww_aload_n C dX9_init_0 0 rfl rfl ?_
  refine ww_objInit C wl_X9_3 wi_obj wc_obj rfl dX9_init_1 ?_
  refine ww_aload_n C dX9_init_4 0 rfl rfl ?_
  refine ww_bipush (v := 48) C dX9_init_5 rfl ?_
  refine ww_newi (N := 48) (k' := 1) (n' := 48) C wa_int (by decide) rfl rfl rfl dX9_init_7 (fun q_1 => ?_)
  refine ww_eq (ws' := [(h, .inr (9, [.int 0, .int 0, .int 0, .null])), (q_1, .inl (E.2.1 1, 48, .inl (fun _ => 0)))]) ?_ rfl rfl rfl
  refine ww_putF (ws' := [(h, .inr (9, [.int 0, .int 0, .int 0, .ref q_1])), (q_1, .inl (E.2.1 1, 48, .inl (fun _ => 0)))]) C fp_X9_9 hin ⟨_, _, rfl⟩ 0 rfl rfl rfl rfl rfl dX9_init_9 ?_
  exact ww_vret (u := [(h, .inr (9, [.int 0, .int 0, .int 0, .ref q_1])), (q_1, .inl (E.2.1 1, 48, .inl (fun _ => 0)))]) C hT [0, 1] rfl rfl rfl rfl dX9_init_12 (⟨q_1, rfl⟩)
theorem dX6_init_0 : decode cX6_init 0 = .ok (.aload_n 0, 1) := by decide +kernel
theorem dX6_init_1 : decode cX6_init 1 = .ok (.invokespecial 3, 3) := by decide +kernel
theorem wl_X6_3 : Cond.methodLink RX6 3 objectInit ∈ TB := tbm (tq2 (List.mem_of_getElem? (i := 52) (by decide +kernel))) (by decide +kernel)
theorem dX6_init_4 : decode cX6_init 4 = .ok (.aload_n 0, 1) := by decide +kernel
theorem dX6_init_5 : decode cX6_init 5 = .ok (.iconst 3, 1) := by decide +kernel
theorem dX6_init_6 : decode cX6_init 6 = .ok (.anewarray 9, 3) := by decide +kernel
theorem wk_X6_9 : Cond.classLink RX6 9 RX3 ∈ TB := tbm (tq2 (List.mem_of_getElem? (i := 53) (by decide +kernel))) (by decide +kernel)
theorem dX6_init_9 : decode cX6_init 9 = .ok (.putfield 11, 3) := by decide +kernel
theorem uw_X6 : ∀ w ∈ u_ws RX6 TX6 5, w ∈ TB := uw_of [302, 304, 306, 308, 310] (by decide +kernel) (by decide +kernel)
theorem wf_X6_11 : Cond.fieldLink RX6 11 RX6 "steps" "[LWhoKnows$Layer;" ∈ TB := tbm (tq2 (List.mem_of_getElem? (i := 55) (by decide +kernel))) (by decide +kernel)
theorem fp_X6_11 : FP RX6 11 6 0 (.array (.object "WhoKnows$Layer")) true := ⟨RX6, TX6, 5, tyX6, uw_X6, wf_X6_11, rfl, by decide, rfl, tyX6_ok, nmX6, rfl, by decide +kernel⟩
theorem dX6_init_12 : decode cX6_init 12 = .ok (.iconst 0, 1) := by decide +kernel
theorem dX6_init_13 : decode cX6_init 13 = .ok (.istore_n 1, 1) := by decide +kernel
theorem dX6_init_14 : decode cX6_init 14 = .ok (.iload_n 1, 1) := by decide +kernel
theorem dX6_init_15 : decode cX6_init 15 = .ok (.iconst 3, 1) := by decide +kernel
theorem dX6_init_16 : decode cX6_init 16 = .ok (.if_icmp .ge 22, 3) := by decide +kernel
theorem dX6_init_19 : decode cX6_init 19 = .ok (.aload_n 0, 1) := by decide +kernel
theorem dX6_init_20 : decode cX6_init 20 = .ok (.getfield 11, 3) := by decide +kernel
theorem fg_X6_11 : FG RX6 11 6 0 := ⟨RX6, TX6, 5, uw_X6, wf_X6_11, rfl, by decide, rfl⟩
theorem dX6_init_23 : decode cX6_init 23 = .ok (.iload_n 1, 1) := by decide +kernel
theorem dX6_init_24 : decode cX6_init 24 = .ok (.new 9, 3) := by decide +kernel
theorem wq_X3 : Cond.instantiable RX3 6 ∈ TB := tbm (tq1 (List.mem_of_getElem? (i := 180) (by decide +kernel))) (by decide +kernel)
theorem wn_X3 : Cond.initialized RX3 ∈ TB := tbm (tq1 (List.mem_of_getElem? (i := 7) (by decide +kernel))) (by decide +kernel)
theorem cn_X6_9 : CN RX6 9 3 6 [.null, .int 0, .int 0, .null, .null, .null] := ⟨RX3, TX3, tyX3, uw_X3, wk_X6_9, wq_X3, wn_X3, rfl, tyX3_ok, by decide +kernel⟩
theorem dX6_init_27 : decode cX6_init 27 = .ok (.dup, 1) := by decide +kernel
theorem dX6_init_28 : decode cX6_init 28 = .ok (.invokespecial 17, 3) := by decide +kernel
theorem wc_X3_init : Cond.code yX3_init cX3_init 1 none ∈ TB := tbm (tq1 (List.mem_of_getElem? (i := 183) (rfl))) (by decide +kernel)
theorem wi_X3_init : Cond.instanceMethod yX3_init ∈ TB := tbm (tq1 (List.mem_of_getElem? (i := 182) (by decide +kernel))) (by decide +kernel)
theorem mn_X3_init : MN yX3_init cX3_init 1 0 := ⟨wc_X3_init, wn_X3, ⟨by decide +kernel, by decide +kernel, by decide +kernel⟩, wi_X3_init, rfl⟩
theorem dX6_init_31 : decode cX6_init 31 = .ok (.aastore, 1) := by decide +kernel
theorem dX6_init_32 : decode cX6_init 32 = .ok (.iinc 1 1, 3) := by decide +kernel
theorem dX6_init_35 : decode cX6_init 35 = .ok (.goto (-21), 3) := by decide +kernel
theorem dX6_init_38 : decode cX6_init 38 = .ok (.return_, 1) := by decide +kernel
set_option maxRecDepth 100000 in
set_option maxHeartbeats 4000000 in
theorem k_Planner (l : Launch) (E : EV) (h : Nat)  : CT l yX6_init (Cond.code yX6_init cX6_init 2 none :: TB) ({ frames := 3, cells := 22, slots := 549, locals := 52 }) E [.ref h] [(h, .inr (6, [.null, .null, .null, .int 0, .int 0]))] (Qv E (fun u => (u = []))) 22 549 := by
  refine ct_of rfl rfl ?_
  intro X C hT hin
  show WW X 2 E 0 [(0, .ref h)] [] [(h, .inr (6, [.null, .null, .null, .int 0, .int 0]))] 0 0
  refine ww_aload_n C dX6_init_0 0 rfl rfl ?_
  refine ww_objInit C wl_X6_3 wi_obj wc_obj rfl dX6_init_1 ?_
  refine ww_aload_n C dX6_init_4 0 rfl rfl ?_
  refine ww_iconst (v := 3) C dX6_init_5 rfl ?_
  refine ww_newq (N := 3) (t0 := 5) (Cn := "WhoKnows$Layer") (k' := 1) (n' := 3) C wk_X6_9 (by decide) rfl (by decide) rfl rfl rfl dX6_init_6 (fun q_1 => ?_)
  refine ww_eq (ws' := [(h, .inr (6, [.null, .null, .null, .int 0, .int 0])), (q_1, .inl (E.2.1 5, 3, .inr (.inr (.inr (.inr (fun _ => none))))))]) ?_ rfl rfl rfl
  refine ww_putF (ws' := [(h, .inr (6, [.ref q_1, .null, .null, .int 0, .int 0])), (q_1, .inl (E.2.1 5, 3, .inr (.inr (.inr (.inr (fun _ => none))))))]) C fp_X6_11 hin ⟨_, _, rfl⟩ 0 rfl rfl rfl rfl rfl dX6_init_9 ?_
  refine ww_iconst (v := 0) C dX6_init_12 rfl ?_
  refine ww_istore_n (lv' := [(1, .int 0), (0, .ref h)]) C dX6_init_13 rfl rfl rfl ?_
  refine ww_iload_n C dX6_init_14 0 rfl rfl ?_
  refine ww_iconst (v := 3) C dX6_init_15 rfl ?_
  refine ww_icmp_ge_f (tgt := 38) C dX6_init_16 (by decide) (by decide) ?_
  refine ww_aload_n C dX6_init_19 1 rfl rfl ?_
  refine ww_get C fg_X6_11 0 rfl rfl dX6_init_20 ?_
  refine ww_iload_n C dX6_init_23 0 rfl rfl ?_
  refine ww_new (k' := 2) (n' := 9) C cn_X6_9 rfl dX6_init_24 (fun q_2 => ?_)
  refine ww_eq (ws' := [(h, .inr (6, [.ref q_1, .null, .null, .int 0, .int 0])), (q_1, .inl (E.2.1 5, 3, .inr (.inr (.inr (.inr (fun _ => none)))))), (q_2, .inr (3, [.null, .int 0, .int 0, .null, .null, .null]))]) ?_ rfl rfl rfl
  refine ww_dup C dX6_init_27 rfl ?_
  refine ww_cv (wr := [(h, .inr (6, [.ref q_1, .null, .null, .int 0, .int 0])), (q_1, .inl (E.2.1 5, 3, .inr (.inr (.inr (.inr (fun _ => none))))))]) (k' := 8) (n' := 185) C (run_IN (As := []) (rest := [.ref q_2, .int 0, .ref q_1]) C (k_Layer X.2.1 E q_2) mn_X3_init (List.mem_of_getElem? (i := 10) rfl) rfl rfl rfl rfl dX6_init_28) [2] [0, 1] rfl rfl rfl rfl (fun u hw => ?_)
  obtain ⟨m_3, a_4, b_5, c_6, rfl⟩ := hw
  refine ww_eq (ws' := [(h, .inr (6, [.ref q_1, .null, .null, .int 0, .int 0])), (q_1, .inl (E.2.1 5, 3, .inr (.inr (.inr (.inr (fun _ => none)))))), (q_2, .inr (3, [.ref m_3, .int 0, .int 0, .ref a_4, .ref b_5, .ref c_6]))]) ?_ rfl rfl rfl
  obtain ⟨f_7, ef_7⟩ : ∃ z : Nat → Option Nat, va_up (fun _ => none) 0 (some q_2) = z := ⟨_, rfl⟩
  refine ww_ast (t0 := 5) (ws' := [(h, .inr (6, [.ref q_1, .null, .null, .int 0, .int 0])), (q_1, .inl (E.2.1 5, 3, .inr (.inr (.inr (.inr f_7))))), (q_2, .inr (3, [.ref m_3, .int 0, .int 0, .ref a_4, .ref b_5, .ref c_6]))]) C 1 2 rfl rfl rfl rfl (vin rfl) ef_7 rfl dX6_init_31 ?_
  refine ww_iinc (j := 0) (v := 1) (lv' := [(1, .int 1), (0, .ref h)]) C dX6_init_32 rfl rfl rfl rfl ?_
  refine ww_goto (tgt := 14) C dX6_init_35 (by decide) ?_
  refine ww_iload_n C dX6_init_14 0 rfl rfl ?_
  refine ww_iconst (v := 3) C dX6_init_15 rfl ?_
  refine ww_icmp_ge_f (tgt := 38) C dX6_init_16 (by decide) (by decide) ?_
  refine ww_aload_n C dX6_init_19 1 rfl rfl ?_
  refine ww_get C fg_X6_11 0 rfl rfl dX6_init_20 ?_
  refine ww_iload_n C dX6_init_23 0 rfl rfl ?_
  refine ww_new (k' := 9) (n' := 191) C cn_X6_9 rfl dX6_init_24 (fun q_8 => ?_)
  refine ww_eq (ws' := [(h, .inr (6, [.ref q_1, .null, .null, .int 0, .int 0])), (q_1, .inl (E.2.1 5, 3, .inr (.inr (.inr (.inr f_7))))), (q_2, .inr (3, [.ref m_3, .int 0, .int 0, .ref a_4, .ref b_5, .ref c_6])), (q_8, .inr (3, [.null, .int 0, .int 0, .null, .null, .null]))]) ?_ rfl rfl rfl
  refine ww_dup C dX6_init_27 rfl ?_
  refine ww_cv (wr := [(h, .inr (6, [.ref q_1, .null, .null, .int 0, .int 0])), (q_1, .inl (E.2.1 5, 3, .inr (.inr (.inr (.inr f_7))))), (q_2, .inr (3, [.ref m_3, .int 0, .int 0, .ref a_4, .ref b_5, .ref c_6]))]) (k' := 15) (n' := 367) C (run_IN (As := []) (rest := [.ref q_8, .int 1, .ref q_1]) C (k_Layer X.2.1 E q_8) mn_X3_init (List.mem_of_getElem? (i := 10) rfl) rfl rfl rfl rfl dX6_init_28) [3] [0, 1, 2] rfl rfl rfl rfl (fun u hw => ?_)
  obtain ⟨m_9, a_10, b_11, c_12, rfl⟩ := hw
  refine ww_eq (ws' := [(h, .inr (6, [.ref q_1, .null, .null, .int 0, .int 0])), (q_1, .inl (E.2.1 5, 3, .inr (.inr (.inr (.inr f_7))))), (q_2, .inr (3, [.ref m_3, .int 0, .int 0, .ref a_4, .ref b_5, .ref c_6])), (q_8, .inr (3, [.ref m_9, .int 0, .int 0, .ref a_10, .ref b_11, .ref c_12]))]) ?_ rfl rfl rfl
  obtain ⟨f_13, ef_13⟩ : ∃ z : Nat → Option Nat, va_up f_7 1 (some q_8) = z := ⟨_, rfl⟩
  refine ww_ast (t0 := 5) (ws' := [(h, .inr (6, [.ref q_1, .null, .null, .int 0, .int 0])), (q_1, .inl (E.2.1 5, 3, .inr (.inr (.inr (.inr f_13))))), (q_2, .inr (3, [.ref m_3, .int 0, .int 0, .ref a_4, .ref b_5, .ref c_6])), (q_8, .inr (3, [.ref m_9, .int 0, .int 0, .ref a_10, .ref b_11, .ref c_12]))]) C 1 3 rfl rfl rfl rfl (vin rfl) ef_13 rfl dX6_init_31 ?_
  refine ww_iinc (j := 0) (v := 2) (lv' := [(1, .int 2), (0, .ref h)]) C dX6_init_32 rfl rfl rfl rfl ?_
  refine ww_goto (tgt := 14) C dX6_init_35 (by decide) ?_
  refine ww_iload_n C dX6_init_14 0 rfl rfl ?_
  refine ww_iconst (v := 3) C dX6_init_15 rfl ?_
  refine ww_icmp_ge_f (tgt := 38) C dX6_init_16 (by decide) (by decide) ?_
  refine ww_aload_n C dX6_init_19 1 rfl rfl ?_
  refine ww_get C fg_X6_11 0 rfl rfl dX6_init_20 ?_
  refine ww_iload_n C dX6_init_23 0 rfl rfl ?_
  refine ww_new (k' := 16) (n' := 373) C cn_X6_9 rfl dX6_init_24 (fun q_14 => ?_)
  refine ww_eq (ws' := [(h, .inr (6, [.ref q_1, .null, .null, .int 0, .int 0])), (q_1, .inl (E.2.1 5, 3, .inr (.inr (.inr (.inr f_13))))), (q_2, .inr (3, [.ref m_3, .int 0, .int 0, .ref a_4, .ref b_5, .ref c_6])), (q_8, .inr (3, [.ref m_9, .int 0, .int 0, .ref a_10, .ref b_11, .ref c_12])), (q_14, .inr (3, [.null, .int 0, .int 0, .null, .null, .null]))]) ?_ rfl rfl rfl
  refine ww_dup C dX6_init_27 rfl ?_
  refine ww_cv (wr := [(h, .inr (6, [.ref q_1, .null, .null, .int 0, .int 0])), (q_1, .inl (E.2.1 5, 3, .inr (.inr (.inr (.inr f_13))))), (q_2, .inr (3, [.ref m_3, .int 0, .int 0, .ref a_4, .ref b_5, .ref c_6])), (q_8, .inr (3, [.ref m_9, .int 0, .int 0, .ref a_10, .ref b_11, .ref c_12]))]) (k' := 22) (n' := 549) C (run_IN (As := []) (rest := [.ref q_14, .int 2, .ref q_1]) C (k_Layer X.2.1 E q_14) mn_X3_init (List.mem_of_getElem? (i := 10) rfl) rfl rfl rfl rfl dX6_init_28) [4] [0, 1, 2, 3] rfl rfl rfl rfl (fun u hw => ?_)
  obtain ⟨m_15, a_16, b_17, c_18, rfl⟩ := hw
  refine ww_eq (ws' := [(h, .inr (6, [.ref q_1, .null, .null, .int 0, .int 0])), (q_1, .inl (E.2.1 5, 3, .inr (.inr (.inr (.inr f_13))))), (q_2, .inr (3, [.ref m_3, .int 0, .int 0, .ref a_4, .ref b_5, .ref c_6])), (q_8, .inr (3, [.ref m_9, .int 0, .int 0, .ref a_10, .ref b_11, .ref c_12])), (q_14, .inr (3, [.ref m_15, .int 0, .int 0, .ref a_16, .ref b_17, .ref c_18]))]) ?_ rfl rfl rfl
  obtain ⟨f_19, ef_19⟩ : ∃ z : Nat → Option Nat, va_up f_13 2 (some q_14) = z := ⟨_, rfl⟩
  refine ww_ast (t0 := 5) (ws' := [(h, .inr (6, [.ref q_1, .null, .null, .int 0, .int 0])), (q_1, .inl (E.2.1 5, 3, .inr (.inr (.inr (.inr f_19))))), (q_2, .inr (3, [.ref m_3, .int 0, .int 0, .ref a_4, .ref b_5, .ref c_6])), (q_8, .inr (3, [.ref m_9, .int 0, .int 0, .ref a_10, .ref b_11, .ref c_12])), (q_14, .inr (3, [.ref m_15, .int 0, .int 0, .ref a_16, .ref b_17, .ref c_18]))]) C 1 4 rfl rfl rfl rfl (vin rfl) ef_19 rfl dX6_init_31 ?_
  refine ww_iinc (j := 0) (v := 3) (lv' := [(1, .int 3), (0, .ref h)]) C dX6_init_32 rfl rfl rfl rfl ?_
  refine ww_goto (tgt := 14) C dX6_init_35 (by decide) ?_
  refine ww_iload_n C dX6_init_14 0 rfl rfl ?_
  refine ww_iconst (v := 3) C dX6_init_15 rfl ?_
  refine ww_icmp_ge_t (tgt := 38) C dX6_init_16 (by decide) (by decide) ?_
  exact ww_vret (u := []) C hT [] rfl rfl rfl rfl dX6_init_38 (rfl)
end
section
theorem dX2_init_0 : decode cX2_init 0 = .ok (.aload_n 0, 1) := by decide +kernel
theorem dX2_init_1 : decode cX2_init 1 = .ok (.invokespecial 3, 3) := by decide +kernel
theorem wl_X2_3 : Cond.methodLink RX2 3 objectInit ∈ TB := tbm (tq1 (List.mem_of_getElem? (i := 137) (by decide +kernel))) (by decide +kernel)
theorem dX2_init_4 : decode cX2_init 4 = .ok (.aload_n 0, 1) := by decide +kernel
theorem dX2_init_5 : decode cX2_init 5 = .ok (.bipush 8, 2) := by decide +kernel
theorem dX2_init_7 : decode cX2_init 7 = .ok (.anewarray 9, 3) := by decide +kernel
theorem wk_X2_9 : Cond.classLink RX2 9 RX8 ∈ TB := tbm (tq1 (List.mem_of_getElem? (i := 138) (by decide +kernel))) (by decide +kernel)
theorem dX2_init_10 : decode cX2_init 10 = .ok (.putfield 11, 3) := by decide +kernel
theorem uw_X2 : ∀ w ∈ u_ws RX2 TX2 4, w ∈ TB := uw_of [220, 222, 224, 226] (by decide +kernel) (by decide +kernel)
theorem wf_X2_11 : Cond.fieldLink RX2 11 RX2 "told" "[LWhoKnows$Saying;" ∈ TB := tbm (tq1 (List.mem_of_getElem? (i := 212) (by decide +kernel))) (by decide +kernel)
theorem fp_X2_11 : FP RX2 11 2 0 (.array (.object "WhoKnows$Saying")) true := ⟨RX2, TX2, 4, tyX2, uw_X2, wf_X2_11, rfl, by decide, rfl, tyX2_ok, nmX2, rfl, by decide +kernel⟩
theorem dX2_init_13 : decode cX2_init 13 = .ok (.aload_n 0, 1) := by decide +kernel
theorem dX2_init_14 : decode cX2_init 14 = .ok (.iconst 4, 1) := by decide +kernel
theorem dX2_init_15 : decode cX2_init 15 = .ok (.anewarray 17, 3) := by decide +kernel
theorem wk_X2_17 : Cond.classLink RX2 17 RX0 ∈ TB := tbm (tq1 (List.mem_of_getElem? (i := 140) (by decide +kernel))) (by decide +kernel)
theorem dX2_init_18 : decode cX2_init 18 = .ok (.putfield 19, 3) := by decide +kernel
theorem wf_X2_19 : Cond.fieldLink RX2 19 RX2 "events" "[LWhoKnows$Event;" ∈ TB := tbm (tq1 (List.mem_of_getElem? (i := 215) (by decide +kernel))) (by decide +kernel)
theorem fp_X2_19 : FP RX2 19 2 1 (.array (.object "WhoKnows$Event")) true := ⟨RX2, TX2, 4, tyX2, uw_X2, wf_X2_19, rfl, by decide, rfl, tyX2_ok, nmX2, rfl, by decide +kernel⟩
theorem dX2_init_21 : decode cX2_init 21 = .ok (.aload_n 0, 1) := by decide +kernel
theorem dX2_init_22 : decode cX2_init 22 = .ok (.bipush 32, 2) := by decide +kernel
theorem dX2_init_24 : decode cX2_init 24 = .ok (.newarray .int, 2) := by decide +kernel
theorem dX2_init_26 : decode cX2_init 26 = .ok (.putfield 23, 3) := by decide +kernel
theorem wf_X2_23 : Cond.fieldLink RX2 23 RX2 "truths" "[I" ∈ TB := tbm (tq1 (List.mem_of_getElem? (i := 218) (by decide +kernel))) (by decide +kernel)
theorem fp_X2_23 : FP RX2 23 2 2 (.array .int) true := ⟨RX2, TX2, 4, tyX2, uw_X2, wf_X2_23, rfl, by decide, rfl, tyX2_ok, nmX2, rfl, by decide +kernel⟩
theorem dX2_init_29 : decode cX2_init 29 = .ok (.aload_n 0, 1) := by decide +kernel
theorem dX2_init_30 : decode cX2_init 30 = .ok (.iconst 2, 1) := by decide +kernel
theorem dX2_init_31 : decode cX2_init 31 = .ok (.anewarray 27, 3) := by decide +kernel
theorem wk_X2_27 : Cond.classLink RX2 27 RX3 ∈ TB := tbm (tq1 (List.mem_of_getElem? (i := 142) (by decide +kernel))) (by decide +kernel)
theorem dX2_init_34 : decode cX2_init 34 = .ok (.putfield 29, 3) := by decide +kernel
theorem wf_X2_29 : Cond.fieldLink RX2 29 RX2 "ahead" "[LWhoKnows$Layer;" ∈ TB := tbm (tq1 (List.mem_of_getElem? (i := 219) (by decide +kernel))) (by decide +kernel)
theorem fp_X2_29 : FP RX2 29 2 3 (.array (.object "WhoKnows$Layer")) true := ⟨RX2, TX2, 4, tyX2, uw_X2, wf_X2_29, rfl, by decide, rfl, tyX2_ok, nmX2, rfl, by decide +kernel⟩
theorem dX2_init_37 : decode cX2_init 37 = .ok (.iconst 0, 1) := by decide +kernel
theorem dX2_init_38 : decode cX2_init 38 = .ok (.istore_n 1, 1) := by decide +kernel
theorem dX2_init_39 : decode cX2_init 39 = .ok (.iload_n 1, 1) := by decide +kernel
theorem dX2_init_40 : decode cX2_init 40 = .ok (.iconst 4, 1) := by decide +kernel
theorem dX2_init_41 : decode cX2_init 41 = .ok (.if_icmp .ge 22, 3) := by decide +kernel
theorem dX2_init_44 : decode cX2_init 44 = .ok (.aload_n 0, 1) := by decide +kernel
theorem dX2_init_45 : decode cX2_init 45 = .ok (.getfield 19, 3) := by decide +kernel
theorem fg_X2_19 : FG RX2 19 2 1 := ⟨RX2, TX2, 4, uw_X2, wf_X2_19, rfl, by decide, rfl⟩
theorem dX2_init_48 : decode cX2_init 48 = .ok (.iload_n 1, 1) := by decide +kernel
theorem dX2_init_49 : decode cX2_init 49 = .ok (.new 17, 3) := by decide +kernel
theorem wq_X0 : Cond.instantiable RX0 6 ∈ TB := tbm (tq1 (List.mem_of_getElem? (i := 144) (by decide +kernel))) (by decide +kernel)
theorem wn_X0 : Cond.initialized RX0 ∈ TB := tbm (tq1 (List.mem_of_getElem? (i := 6) (by decide +kernel))) (by decide +kernel)
theorem cn_X2_17 : CN RX2 17 0 6 [.int 0, .int 0, .null, .null, .null, .null] := ⟨RX0, TX0, tyX0, uw_X0, wk_X2_17, wq_X0, wn_X0, rfl, tyX0_ok, by decide +kernel⟩
theorem dX2_init_52 : decode cX2_init 52 = .ok (.dup, 1) := by decide +kernel
theorem dX2_init_53 : decode cX2_init 53 = .ok (.invokespecial 33, 3) := by decide +kernel
theorem wc_X0_init : Cond.code yX0_init cX0_init 1 none ∈ TB := tbm (tq1 (List.mem_of_getElem? (i := 147) (rfl))) (by decide +kernel)
theorem wi_X0_init : Cond.instanceMethod yX0_init ∈ TB := tbm (tq1 (List.mem_of_getElem? (i := 146) (by decide +kernel))) (by decide +kernel)
theorem mn_X0_init : MN yX0_init cX0_init 1 0 := ⟨wc_X0_init, wn_X0, ⟨by decide +kernel, by decide +kernel, by decide +kernel⟩, wi_X0_init, rfl⟩
theorem dX2_init_56 : decode cX2_init 56 = .ok (.aastore, 1) := by decide +kernel
theorem dX2_init_57 : decode cX2_init 57 = .ok (.iinc 1 1, 3) := by decide +kernel
theorem dX2_init_60 : decode cX2_init 60 = .ok (.goto (-21), 3) := by decide +kernel
theorem dX2_init_63 : decode cX2_init 63 = .ok (.iconst 0, 1) := by decide +kernel
theorem dX2_init_64 : decode cX2_init 64 = .ok (.istore_n 1, 1) := by decide +kernel
theorem dX2_init_65 : decode cX2_init 65 = .ok (.iload_n 1, 1) := by decide +kernel
theorem dX2_init_66 : decode cX2_init 66 = .ok (.iconst 2, 1) := by decide +kernel
theorem dX2_init_67 : decode cX2_init 67 = .ok (.if_icmp .ge 22, 3) := by decide +kernel
theorem dX2_init_70 : decode cX2_init 70 = .ok (.aload_n 0, 1) := by decide +kernel
theorem dX2_init_71 : decode cX2_init 71 = .ok (.getfield 29, 3) := by decide +kernel
theorem fg_X2_29 : FG RX2 29 2 3 := ⟨RX2, TX2, 4, uw_X2, wf_X2_29, rfl, by decide, rfl⟩
theorem dX2_init_74 : decode cX2_init 74 = .ok (.iload_n 1, 1) := by decide +kernel
theorem dX2_init_75 : decode cX2_init 75 = .ok (.new 27, 3) := by decide +kernel
theorem cn_X2_27 : CN RX2 27 3 6 [.null, .int 0, .int 0, .null, .null, .null] := ⟨RX3, TX3, tyX3, uw_X3, wk_X2_27, wq_X3, wn_X3, rfl, tyX3_ok, by decide +kernel⟩
theorem dX2_init_78 : decode cX2_init 78 = .ok (.dup, 1) := by decide +kernel
theorem dX2_init_79 : decode cX2_init 79 = .ok (.invokespecial 34, 3) := by decide +kernel
theorem dX2_init_82 : decode cX2_init 82 = .ok (.aastore, 1) := by decide +kernel
theorem dX2_init_83 : decode cX2_init 83 = .ok (.iinc 1 1, 3) := by decide +kernel
theorem dX2_init_86 : decode cX2_init 86 = .ok (.goto (-21), 3) := by decide +kernel
theorem dX2_init_89 : decode cX2_init 89 = .ok (.return_, 1) := by decide +kernel
set_option maxRecDepth 100000 in
set_option maxHeartbeats 4000000 in
theorem k_Judge (l : Launch) (E : EV) (qj : Nat)  : CT l yX2_init (Cond.code yX2_init cX2_init 2 none :: TB) ({ frames := 3, cells := 38, slots := 546, locals := 52 }) E [.ref qj] [(qj, .inr (2, [.null, .null, .null, .null]))] (Qv E (fun u => (∃ (jt : Nat) (je : Nat) (ju : Nat) (ja : Nat) (fe : Nat → Option Nat) (e0 : Nat) (e0a : Nat) (e0b : Nat) (e0c : Nat) (e0d : Nat) (e1 : Nat) (e1a : Nat) (e1b : Nat) (e1c : Nat) (e1d : Nat) (e2 : Nat) (e2a : Nat) (e2b : Nat) (e2c : Nat) (e2d : Nat) (e3 : Nat) (e3a : Nat) (e3b : Nat) (e3c : Nat) (e3d : Nat), u = [(qj, .inr (2, [.ref jt, .ref je, .ref ju, .ref ja])), (jt, .inl (E.2.1 7, 8, .inr (.inr (.inr (.inr (fun _ => none)))))), (je, .inl (E.2.1 4, 4, .inr (.inr (.inr (.inr fe))))), (e0, .inr (0, [.int 0, .int 0, .ref e0a, .ref e0b, .ref e0c, .ref e0d])), (e0a, .inl (E.2.1 7, 4, .inr (.inr (.inr (.inr (fun _ => none)))))), (e0b, .inl (E.2.1 1, 4, .inl (fun _ => 0))), (e0c, .inl (E.2.1 1, 4, .inl (fun _ => 0))), (e0d, .inl (E.2.1 1, 16, .inl (fun _ => 0))), (e1, .inr (0, [.int 0, .int 0, .ref e1a, .ref e1b, .ref e1c, .ref e1d])), (e1a, .inl (E.2.1 7, 4, .inr (.inr (.inr (.inr (fun _ => none)))))), (e1b, .inl (E.2.1 1, 4, .inl (fun _ => 0))), (e1c, .inl (E.2.1 1, 4, .inl (fun _ => 0))), (e1d, .inl (E.2.1 1, 16, .inl (fun _ => 0))), (e2, .inr (0, [.int 0, .int 0, .ref e2a, .ref e2b, .ref e2c, .ref e2d])), (e2a, .inl (E.2.1 7, 4, .inr (.inr (.inr (.inr (fun _ => none)))))), (e2b, .inl (E.2.1 1, 4, .inl (fun _ => 0))), (e2c, .inl (E.2.1 1, 4, .inl (fun _ => 0))), (e2d, .inl (E.2.1 1, 16, .inl (fun _ => 0))), (e3, .inr (0, [.int 0, .int 0, .ref e3a, .ref e3b, .ref e3c, .ref e3d])), (e3a, .inl (E.2.1 7, 4, .inr (.inr (.inr (.inr (fun _ => none)))))), (e3b, .inl (E.2.1 1, 4, .inl (fun _ => 0))), (e3c, .inl (E.2.1 1, 4, .inl (fun _ => 0))), (e3d, .inl (E.2.1 1, 16, .inl (fun _ => 0)))] ∧ (fe 0 = some e0) ∧ (fe 1 = some e1) ∧ (fe 2 = some e2) ∧ (fe 3 = some e3)))) 38 546 := by
  refine ct_of rfl rfl ?_
  intro X C hT hin
  show WW X 2 E 0 [(0, .ref qj)] [] [(qj, .inr (2, [.null, .null, .null, .null]))] 0 0
  refine ww_aload_n C dX2_init_0 0 rfl rfl ?_
  refine ww_objInit C wl_X2_3 wi_obj wc_obj rfl dX2_init_1 ?_
  refine ww_aload_n C dX2_init_4 0 rfl rfl ?_
  refine ww_bipush (v := 8) C dX2_init_5 rfl ?_
  refine ww_newq (N := 8) (t0 := 7) (Cn := "WhoKnows$Saying") (k' := 1) (n' := 8) C wk_X2_9 (by decide) rfl (by decide) rfl rfl rfl dX2_init_7 (fun q_1 => ?_)
  refine ww_eq (ws' := [(qj, .inr (2, [.null, .null, .null, .null])), (q_1, .inl (E.2.1 7, 8, .inr (.inr (.inr (.inr (fun _ => none))))))]) ?_ rfl rfl rfl
  refine ww_putF (ws' := [(qj, .inr (2, [.ref q_1, .null, .null, .null])), (q_1, .inl (E.2.1 7, 8, .inr (.inr (.inr (.inr (fun _ => none))))))]) C fp_X2_11 hin ⟨_, _, rfl⟩ 0 rfl rfl rfl rfl rfl dX2_init_10 ?_
  refine ww_aload_n C dX2_init_13 0 rfl rfl ?_
  refine ww_iconst (v := 4) C dX2_init_14 rfl ?_
  refine ww_newq (N := 4) (t0 := 4) (Cn := "WhoKnows$Event") (k' := 2) (n' := 12) C wk_X2_17 (by decide) rfl (by decide) rfl rfl rfl dX2_init_15 (fun q_2 => ?_)
  refine ww_eq (ws' := [(qj, .inr (2, [.ref q_1, .null, .null, .null])), (q_1, .inl (E.2.1 7, 8, .inr (.inr (.inr (.inr (fun _ => none)))))), (q_2, .inl (E.2.1 4, 4, .inr (.inr (.inr (.inr (fun _ => none))))))]) ?_ rfl rfl rfl
  refine ww_putF (ws' := [(qj, .inr (2, [.ref q_1, .ref q_2, .null, .null])), (q_1, .inl (E.2.1 7, 8, .inr (.inr (.inr (.inr (fun _ => none)))))), (q_2, .inl (E.2.1 4, 4, .inr (.inr (.inr (.inr (fun _ => none))))))]) C fp_X2_19 hin ⟨_, _, rfl⟩ 0 rfl rfl rfl rfl rfl dX2_init_18 ?_
  refine ww_aload_n C dX2_init_21 0 rfl rfl ?_
  refine ww_bipush (v := 32) C dX2_init_22 rfl ?_
  refine ww_newi (N := 32) (k' := 3) (n' := 44) C wa_int (by decide) rfl rfl rfl dX2_init_24 (fun q_3 => ?_)
  refine ww_eq (ws' := [(qj, .inr (2, [.ref q_1, .ref q_2, .null, .null])), (q_1, .inl (E.2.1 7, 8, .inr (.inr (.inr (.inr (fun _ => none)))))), (q_2, .inl (E.2.1 4, 4, .inr (.inr (.inr (.inr (fun _ => none)))))), (q_3, .inl (E.2.1 1, 32, .inl (fun _ => 0)))]) ?_ rfl rfl rfl
  refine ww_putF (ws' := [(qj, .inr (2, [.ref q_1, .ref q_2, .ref q_3, .null])), (q_1, .inl (E.2.1 7, 8, .inr (.inr (.inr (.inr (fun _ => none)))))), (q_2, .inl (E.2.1 4, 4, .inr (.inr (.inr (.inr (fun _ => none)))))), (q_3, .inl (E.2.1 1, 32, .inl (fun _ => 0)))]) C fp_X2_23 hin ⟨_, _, rfl⟩ 0 rfl rfl rfl rfl rfl dX2_init_26 ?_
  refine ww_aload_n C dX2_init_29 0 rfl rfl ?_
  refine ww_iconst (v := 2) C dX2_init_30 rfl ?_
  refine ww_newq (N := 2) (t0 := 5) (Cn := "WhoKnows$Layer") (k' := 4) (n' := 46) C wk_X2_27 (by decide) rfl (by decide) rfl rfl rfl dX2_init_31 (fun q_4 => ?_)
  refine ww_eq (ws' := [(qj, .inr (2, [.ref q_1, .ref q_2, .ref q_3, .null])), (q_1, .inl (E.2.1 7, 8, .inr (.inr (.inr (.inr (fun _ => none)))))), (q_2, .inl (E.2.1 4, 4, .inr (.inr (.inr (.inr (fun _ => none)))))), (q_3, .inl (E.2.1 1, 32, .inl (fun _ => 0))), (q_4, .inl (E.2.1 5, 2, .inr (.inr (.inr (.inr (fun _ => none))))))]) ?_ rfl rfl rfl
  refine ww_putF (ws' := [(qj, .inr (2, [.ref q_1, .ref q_2, .ref q_3, .ref q_4])), (q_1, .inl (E.2.1 7, 8, .inr (.inr (.inr (.inr (fun _ => none)))))), (q_2, .inl (E.2.1 4, 4, .inr (.inr (.inr (.inr (fun _ => none)))))), (q_3, .inl (E.2.1 1, 32, .inl (fun _ => 0))), (q_4, .inl (E.2.1 5, 2, .inr (.inr (.inr (.inr (fun _ => none))))))]) C fp_X2_29 hin ⟨_, _, rfl⟩ 0 rfl rfl rfl rfl rfl dX2_init_34 ?_
  refine ww_iconst (v := 0) C dX2_init_37 rfl ?_
  refine ww_istore_n (lv' := [(1, .int 0), (0, .ref qj)]) C dX2_init_38 rfl rfl rfl ?_
  refine ww_iload_n C dX2_init_39 0 rfl rfl ?_
  refine ww_iconst (v := 4) C dX2_init_40 rfl ?_
  refine ww_icmp_ge_f (tgt := 63) C dX2_init_41 (by decide) (by decide) ?_
  refine ww_aload_n C dX2_init_44 1 rfl rfl ?_
  refine ww_get C fg_X2_19 0 rfl rfl dX2_init_45 ?_
  refine ww_iload_n C dX2_init_48 0 rfl rfl ?_
  refine ww_new (k' := 5) (n' := 52) C cn_X2_17 rfl dX2_init_49 (fun q_5 => ?_)
  refine ww_eq (ws' := [(qj, .inr (2, [.ref q_1, .ref q_2, .ref q_3, .ref q_4])), (q_1, .inl (E.2.1 7, 8, .inr (.inr (.inr (.inr (fun _ => none)))))), (q_2, .inl (E.2.1 4, 4, .inr (.inr (.inr (.inr (fun _ => none)))))), (q_3, .inl (E.2.1 1, 32, .inl (fun _ => 0))), (q_4, .inl (E.2.1 5, 2, .inr (.inr (.inr (.inr (fun _ => none)))))), (q_5, .inr (0, [.int 0, .int 0, .null, .null, .null, .null]))]) ?_ rfl rfl rfl
  refine ww_dup C dX2_init_52 rfl ?_
  refine ww_cv (wr := [(qj, .inr (2, [.ref q_1, .ref q_2, .ref q_3, .ref q_4])), (q_1, .inl (E.2.1 7, 8, .inr (.inr (.inr (.inr (fun _ => none)))))), (q_2, .inl (E.2.1 4, 4, .inr (.inr (.inr (.inr (fun _ => none)))))), (q_3, .inl (E.2.1 1, 32, .inl (fun _ => 0))), (q_4, .inl (E.2.1 5, 2, .inr (.inr (.inr (.inr (fun _ => none))))))]) (k' := 9) (n' := 80) C (run_IN (As := []) (rest := [.ref q_5, .int 0, .ref q_2]) C (k_Event X.2.1 E q_5) mn_X0_init (List.mem_of_getElem? (i := 3) rfl) rfl rfl rfl rfl dX2_init_53) [5] [0, 1, 2, 3, 4] rfl rfl rfl rfl (fun u hw => ?_)
  obtain ⟨a_6, b_7, c_8, d_9, rfl⟩ := hw
  refine ww_eq (ws' := [(qj, .inr (2, [.ref q_1, .ref q_2, .ref q_3, .ref q_4])), (q_1, .inl (E.2.1 7, 8, .inr (.inr (.inr (.inr (fun _ => none)))))), (q_2, .inl (E.2.1 4, 4, .inr (.inr (.inr (.inr (fun _ => none)))))), (q_3, .inl (E.2.1 1, 32, .inl (fun _ => 0))), (q_4, .inl (E.2.1 5, 2, .inr (.inr (.inr (.inr (fun _ => none)))))), (q_5, .inr (0, [.int 0, .int 0, .ref a_6, .ref b_7, .ref c_8, .ref d_9])), (a_6, .inl (E.2.1 7, 4, .inr (.inr (.inr (.inr (fun _ => none)))))), (b_7, .inl (E.2.1 1, 4, .inl (fun _ => 0))), (c_8, .inl (E.2.1 1, 4, .inl (fun _ => 0))), (d_9, .inl (E.2.1 1, 16, .inl (fun _ => 0)))]) ?_ rfl rfl rfl
  obtain ⟨f_10, ef_10⟩ : ∃ z : Nat → Option Nat, va_up (fun _ => none) 0 (some q_5) = z := ⟨_, rfl⟩
  refine ww_ast (t0 := 4) (ws' := [(qj, .inr (2, [.ref q_1, .ref q_2, .ref q_3, .ref q_4])), (q_1, .inl (E.2.1 7, 8, .inr (.inr (.inr (.inr (fun _ => none)))))), (q_2, .inl (E.2.1 4, 4, .inr (.inr (.inr (.inr f_10))))), (q_3, .inl (E.2.1 1, 32, .inl (fun _ => 0))), (q_4, .inl (E.2.1 5, 2, .inr (.inr (.inr (.inr (fun _ => none)))))), (q_5, .inr (0, [.int 0, .int 0, .ref a_6, .ref b_7, .ref c_8, .ref d_9])), (a_6, .inl (E.2.1 7, 4, .inr (.inr (.inr (.inr (fun _ => none)))))), (b_7, .inl (E.2.1 1, 4, .inl (fun _ => 0))), (c_8, .inl (E.2.1 1, 4, .inl (fun _ => 0))), (d_9, .inl (E.2.1 1, 16, .inl (fun _ => 0)))]) C 2 5 rfl rfl rfl rfl (vin rfl) ef_10 rfl dX2_init_56 ?_
  refine ww_iinc (j := 0) (v := 1) (lv' := [(1, .int 1), (0, .ref qj)]) C dX2_init_57 rfl rfl rfl rfl ?_
  refine ww_goto (tgt := 39) C dX2_init_60 (by decide) ?_
  refine ww_iload_n C dX2_init_39 0 rfl rfl ?_
  refine ww_iconst (v := 4) C dX2_init_40 rfl ?_
  refine ww_icmp_ge_f (tgt := 63) C dX2_init_41 (by decide) (by decide) ?_
  refine ww_aload_n C dX2_init_44 1 rfl rfl ?_
  refine ww_get C fg_X2_19 0 rfl rfl dX2_init_45 ?_
  refine ww_iload_n C dX2_init_48 0 rfl rfl ?_
  refine ww_new (k' := 10) (n' := 86) C cn_X2_17 rfl dX2_init_49 (fun q_11 => ?_)
  refine ww_eq (ws' := [(qj, .inr (2, [.ref q_1, .ref q_2, .ref q_3, .ref q_4])), (q_1, .inl (E.2.1 7, 8, .inr (.inr (.inr (.inr (fun _ => none)))))), (q_2, .inl (E.2.1 4, 4, .inr (.inr (.inr (.inr f_10))))), (q_3, .inl (E.2.1 1, 32, .inl (fun _ => 0))), (q_4, .inl (E.2.1 5, 2, .inr (.inr (.inr (.inr (fun _ => none)))))), (q_5, .inr (0, [.int 0, .int 0, .ref a_6, .ref b_7, .ref c_8, .ref d_9])), (a_6, .inl (E.2.1 7, 4, .inr (.inr (.inr (.inr (fun _ => none)))))), (b_7, .inl (E.2.1 1, 4, .inl (fun _ => 0))), (c_8, .inl (E.2.1 1, 4, .inl (fun _ => 0))), (d_9, .inl (E.2.1 1, 16, .inl (fun _ => 0))), (q_11, .inr (0, [.int 0, .int 0, .null, .null, .null, .null]))]) ?_ rfl rfl rfl
  refine ww_dup C dX2_init_52 rfl ?_
  refine ww_cv (wr := [(qj, .inr (2, [.ref q_1, .ref q_2, .ref q_3, .ref q_4])), (q_1, .inl (E.2.1 7, 8, .inr (.inr (.inr (.inr (fun _ => none)))))), (q_2, .inl (E.2.1 4, 4, .inr (.inr (.inr (.inr f_10))))), (q_3, .inl (E.2.1 1, 32, .inl (fun _ => 0))), (q_4, .inl (E.2.1 5, 2, .inr (.inr (.inr (.inr (fun _ => none)))))), (q_5, .inr (0, [.int 0, .int 0, .ref a_6, .ref b_7, .ref c_8, .ref d_9])), (a_6, .inl (E.2.1 7, 4, .inr (.inr (.inr (.inr (fun _ => none)))))), (b_7, .inl (E.2.1 1, 4, .inl (fun _ => 0))), (c_8, .inl (E.2.1 1, 4, .inl (fun _ => 0))), (d_9, .inl (E.2.1 1, 16, .inl (fun _ => 0)))]) (k' := 14) (n' := 114) C (run_IN (As := []) (rest := [.ref q_11, .int 1, .ref q_2]) C (k_Event X.2.1 E q_11) mn_X0_init (List.mem_of_getElem? (i := 3) rfl) rfl rfl rfl rfl dX2_init_53) [10] [0, 1, 2, 3, 4, 5, 6, 7, 8, 9] rfl rfl rfl rfl (fun u hw => ?_)
  obtain ⟨a_12, b_13, c_14, d_15, rfl⟩ := hw
  refine ww_eq (ws' := [(qj, .inr (2, [.ref q_1, .ref q_2, .ref q_3, .ref q_4])), (q_1, .inl (E.2.1 7, 8, .inr (.inr (.inr (.inr (fun _ => none)))))), (q_2, .inl (E.2.1 4, 4, .inr (.inr (.inr (.inr f_10))))), (q_3, .inl (E.2.1 1, 32, .inl (fun _ => 0))), (q_4, .inl (E.2.1 5, 2, .inr (.inr (.inr (.inr (fun _ => none)))))), (q_5, .inr (0, [.int 0, .int 0, .ref a_6, .ref b_7, .ref c_8, .ref d_9])), (a_6, .inl (E.2.1 7, 4, .inr (.inr (.inr (.inr (fun _ => none)))))), (b_7, .inl (E.2.1 1, 4, .inl (fun _ => 0))), (c_8, .inl (E.2.1 1, 4, .inl (fun _ => 0))), (d_9, .inl (E.2.1 1, 16, .inl (fun _ => 0))), (q_11, .inr (0, [.int 0, .int 0, .ref a_12, .ref b_13, .ref c_14, .ref d_15])), (a_12, .inl (E.2.1 7, 4, .inr (.inr (.inr (.inr (fun _ => none)))))), (b_13, .inl (E.2.1 1, 4, .inl (fun _ => 0))), (c_14, .inl (E.2.1 1, 4, .inl (fun _ => 0))), (d_15, .inl (E.2.1 1, 16, .inl (fun _ => 0)))]) ?_ rfl rfl rfl
  obtain ⟨f_16, ef_16⟩ : ∃ z : Nat → Option Nat, va_up f_10 1 (some q_11) = z := ⟨_, rfl⟩
  refine ww_ast (t0 := 4) (ws' := [(qj, .inr (2, [.ref q_1, .ref q_2, .ref q_3, .ref q_4])), (q_1, .inl (E.2.1 7, 8, .inr (.inr (.inr (.inr (fun _ => none)))))), (q_2, .inl (E.2.1 4, 4, .inr (.inr (.inr (.inr f_16))))), (q_3, .inl (E.2.1 1, 32, .inl (fun _ => 0))), (q_4, .inl (E.2.1 5, 2, .inr (.inr (.inr (.inr (fun _ => none)))))), (q_5, .inr (0, [.int 0, .int 0, .ref a_6, .ref b_7, .ref c_8, .ref d_9])), (a_6, .inl (E.2.1 7, 4, .inr (.inr (.inr (.inr (fun _ => none)))))), (b_7, .inl (E.2.1 1, 4, .inl (fun _ => 0))), (c_8, .inl (E.2.1 1, 4, .inl (fun _ => 0))), (d_9, .inl (E.2.1 1, 16, .inl (fun _ => 0))), (q_11, .inr (0, [.int 0, .int 0, .ref a_12, .ref b_13, .ref c_14, .ref d_15])), (a_12, .inl (E.2.1 7, 4, .inr (.inr (.inr (.inr (fun _ => none)))))), (b_13, .inl (E.2.1 1, 4, .inl (fun _ => 0))), (c_14, .inl (E.2.1 1, 4, .inl (fun _ => 0))), (d_15, .inl (E.2.1 1, 16, .inl (fun _ => 0)))]) C 2 10 rfl rfl rfl rfl (vin rfl) ef_16 rfl dX2_init_56 ?_
  refine ww_iinc (j := 0) (v := 2) (lv' := [(1, .int 2), (0, .ref qj)]) C dX2_init_57 rfl rfl rfl rfl ?_
  refine ww_goto (tgt := 39) C dX2_init_60 (by decide) ?_
  refine ww_iload_n C dX2_init_39 0 rfl rfl ?_
  refine ww_iconst (v := 4) C dX2_init_40 rfl ?_
  refine ww_icmp_ge_f (tgt := 63) C dX2_init_41 (by decide) (by decide) ?_
  refine ww_aload_n C dX2_init_44 1 rfl rfl ?_
  refine ww_get C fg_X2_19 0 rfl rfl dX2_init_45 ?_
  refine ww_iload_n C dX2_init_48 0 rfl rfl ?_
  refine ww_new (k' := 15) (n' := 120) C cn_X2_17 rfl dX2_init_49 (fun q_17 => ?_)
  refine ww_eq (ws' := [(qj, .inr (2, [.ref q_1, .ref q_2, .ref q_3, .ref q_4])), (q_1, .inl (E.2.1 7, 8, .inr (.inr (.inr (.inr (fun _ => none)))))), (q_2, .inl (E.2.1 4, 4, .inr (.inr (.inr (.inr f_16))))), (q_3, .inl (E.2.1 1, 32, .inl (fun _ => 0))), (q_4, .inl (E.2.1 5, 2, .inr (.inr (.inr (.inr (fun _ => none)))))), (q_5, .inr (0, [.int 0, .int 0, .ref a_6, .ref b_7, .ref c_8, .ref d_9])), (a_6, .inl (E.2.1 7, 4, .inr (.inr (.inr (.inr (fun _ => none)))))), (b_7, .inl (E.2.1 1, 4, .inl (fun _ => 0))), (c_8, .inl (E.2.1 1, 4, .inl (fun _ => 0))), (d_9, .inl (E.2.1 1, 16, .inl (fun _ => 0))), (q_11, .inr (0, [.int 0, .int 0, .ref a_12, .ref b_13, .ref c_14, .ref d_15])), (a_12, .inl (E.2.1 7, 4, .inr (.inr (.inr (.inr (fun _ => none)))))), (b_13, .inl (E.2.1 1, 4, .inl (fun _ => 0))), (c_14, .inl (E.2.1 1, 4, .inl (fun _ => 0))), (d_15, .inl (E.2.1 1, 16, .inl (fun _ => 0))), (q_17, .inr (0, [.int 0, .int 0, .null, .null, .null, .null]))]) ?_ rfl rfl rfl
  refine ww_dup C dX2_init_52 rfl ?_
  refine ww_cv (wr := [(qj, .inr (2, [.ref q_1, .ref q_2, .ref q_3, .ref q_4])), (q_1, .inl (E.2.1 7, 8, .inr (.inr (.inr (.inr (fun _ => none)))))), (q_2, .inl (E.2.1 4, 4, .inr (.inr (.inr (.inr f_16))))), (q_3, .inl (E.2.1 1, 32, .inl (fun _ => 0))), (q_4, .inl (E.2.1 5, 2, .inr (.inr (.inr (.inr (fun _ => none)))))), (q_5, .inr (0, [.int 0, .int 0, .ref a_6, .ref b_7, .ref c_8, .ref d_9])), (a_6, .inl (E.2.1 7, 4, .inr (.inr (.inr (.inr (fun _ => none)))))), (b_7, .inl (E.2.1 1, 4, .inl (fun _ => 0))), (c_8, .inl (E.2.1 1, 4, .inl (fun _ => 0))), (d_9, .inl (E.2.1 1, 16, .inl (fun _ => 0))), (q_11, .inr (0, [.int 0, .int 0, .ref a_12, .ref b_13, .ref c_14, .ref d_15])), (a_12, .inl (E.2.1 7, 4, .inr (.inr (.inr (.inr (fun _ => none)))))), (b_13, .inl (E.2.1 1, 4, .inl (fun _ => 0))), (c_14, .inl (E.2.1 1, 4, .inl (fun _ => 0))), (d_15, .inl (E.2.1 1, 16, .inl (fun _ => 0)))]) (k' := 19) (n' := 148) C (run_IN (As := []) (rest := [.ref q_17, .int 2, .ref q_2]) C (k_Event X.2.1 E q_17) mn_X0_init (List.mem_of_getElem? (i := 3) rfl) rfl rfl rfl rfl dX2_init_53) [15] [0, 1, 2, 3, 4, 5, 6, 7, 8, 9, 10, 11, 12, 13, 14] rfl rfl rfl rfl (fun u hw => ?_)
  obtain ⟨a_18, b_19, c_20, d_21, rfl⟩ := hw
  refine ww_eq (ws' := [(qj, .inr (2, [.ref q_1, .ref q_2, .ref q_3, .ref q_4])), (q_1, .inl (E.2.1 7, 8, .inr (.inr (.inr (.inr (fun _ => none)))))), (q_2, .inl (E.2.1 4, 4, .inr (.inr (.inr (.inr f_16))))), (q_3, .inl (E.2.1 1, 32, .inl (fun _ => 0))), (q_4, .inl (E.2.1 5, 2, .inr (.inr (.inr (.inr (fun _ => none)))))), (q_5, .inr (0, [.int 0, .int 0, .ref a_6, .ref b_7, .ref c_8, .ref d_9])), (a_6, .inl (E.2.1 7, 4, .inr (.inr (.inr (.inr (fun _ => none)))))), (b_7, .inl (E.2.1 1, 4, .inl (fun _ => 0))), (c_8, .inl (E.2.1 1, 4, .inl (fun _ => 0))), (d_9, .inl (E.2.1 1, 16, .inl (fun _ => 0))), (q_11, .inr (0, [.int 0, .int 0, .ref a_12, .ref b_13, .ref c_14, .ref d_15])), (a_12, .inl (E.2.1 7, 4, .inr (.inr (.inr (.inr (fun _ => none)))))), (b_13, .inl (E.2.1 1, 4, .inl (fun _ => 0))), (c_14, .inl (E.2.1 1, 4, .inl (fun _ => 0))), (d_15, .inl (E.2.1 1, 16, .inl (fun _ => 0))), (q_17, .inr (0, [.int 0, .int 0, .ref a_18, .ref b_19, .ref c_20, .ref d_21])), (a_18, .inl (E.2.1 7, 4, .inr (.inr (.inr (.inr (fun _ => none)))))), (b_19, .inl (E.2.1 1, 4, .inl (fun _ => 0))), (c_20, .inl (E.2.1 1, 4, .inl (fun _ => 0))), (d_21, .inl (E.2.1 1, 16, .inl (fun _ => 0)))]) ?_ rfl rfl rfl
  obtain ⟨f_22, ef_22⟩ : ∃ z : Nat → Option Nat, va_up f_16 2 (some q_17) = z := ⟨_, rfl⟩
  refine ww_ast (t0 := 4) (ws' := [(qj, .inr (2, [.ref q_1, .ref q_2, .ref q_3, .ref q_4])), (q_1, .inl (E.2.1 7, 8, .inr (.inr (.inr (.inr (fun _ => none)))))), (q_2, .inl (E.2.1 4, 4, .inr (.inr (.inr (.inr f_22))))), (q_3, .inl (E.2.1 1, 32, .inl (fun _ => 0))), (q_4, .inl (E.2.1 5, 2, .inr (.inr (.inr (.inr (fun _ => none)))))), (q_5, .inr (0, [.int 0, .int 0, .ref a_6, .ref b_7, .ref c_8, .ref d_9])), (a_6, .inl (E.2.1 7, 4, .inr (.inr (.inr (.inr (fun _ => none)))))), (b_7, .inl (E.2.1 1, 4, .inl (fun _ => 0))), (c_8, .inl (E.2.1 1, 4, .inl (fun _ => 0))), (d_9, .inl (E.2.1 1, 16, .inl (fun _ => 0))), (q_11, .inr (0, [.int 0, .int 0, .ref a_12, .ref b_13, .ref c_14, .ref d_15])), (a_12, .inl (E.2.1 7, 4, .inr (.inr (.inr (.inr (fun _ => none)))))), (b_13, .inl (E.2.1 1, 4, .inl (fun _ => 0))), (c_14, .inl (E.2.1 1, 4, .inl (fun _ => 0))), (d_15, .inl (E.2.1 1, 16, .inl (fun _ => 0))), (q_17, .inr (0, [.int 0, .int 0, .ref a_18, .ref b_19, .ref c_20, .ref d_21])), (a_18, .inl (E.2.1 7, 4, .inr (.inr (.inr (.inr (fun _ => none)))))), (b_19, .inl (E.2.1 1, 4, .inl (fun _ => 0))), (c_20, .inl (E.2.1 1, 4, .inl (fun _ => 0))), (d_21, .inl (E.2.1 1, 16, .inl (fun _ => 0)))]) C 2 15 rfl rfl rfl rfl (vin rfl) ef_22 rfl dX2_init_56 ?_
  refine ww_iinc (j := 0) (v := 3) (lv' := [(1, .int 3), (0, .ref qj)]) C dX2_init_57 rfl rfl rfl rfl ?_
  refine ww_goto (tgt := 39) C dX2_init_60 (by decide) ?_
  refine ww_iload_n C dX2_init_39 0 rfl rfl ?_
  refine ww_iconst (v := 4) C dX2_init_40 rfl ?_
  refine ww_icmp_ge_f (tgt := 63) C dX2_init_41 (by decide) (by decide) ?_
  refine ww_aload_n C dX2_init_44 1 rfl rfl ?_
  refine ww_get C fg_X2_19 0 rfl rfl dX2_init_45 ?_
  refine ww_iload_n C dX2_init_48 0 rfl rfl ?_
  refine ww_new (k' := 20) (n' := 154) C cn_X2_17 rfl dX2_init_49 (fun q_23 => ?_)
  refine ww_eq (ws' := [(qj, .inr (2, [.ref q_1, .ref q_2, .ref q_3, .ref q_4])), (q_1, .inl (E.2.1 7, 8, .inr (.inr (.inr (.inr (fun _ => none)))))), (q_2, .inl (E.2.1 4, 4, .inr (.inr (.inr (.inr f_22))))), (q_3, .inl (E.2.1 1, 32, .inl (fun _ => 0))), (q_4, .inl (E.2.1 5, 2, .inr (.inr (.inr (.inr (fun _ => none)))))), (q_5, .inr (0, [.int 0, .int 0, .ref a_6, .ref b_7, .ref c_8, .ref d_9])), (a_6, .inl (E.2.1 7, 4, .inr (.inr (.inr (.inr (fun _ => none)))))), (b_7, .inl (E.2.1 1, 4, .inl (fun _ => 0))), (c_8, .inl (E.2.1 1, 4, .inl (fun _ => 0))), (d_9, .inl (E.2.1 1, 16, .inl (fun _ => 0))), (q_11, .inr (0, [.int 0, .int 0, .ref a_12, .ref b_13, .ref c_14, .ref d_15])), (a_12, .inl (E.2.1 7, 4, .inr (.inr (.inr (.inr (fun _ => none)))))), (b_13, .inl (E.2.1 1, 4, .inl (fun _ => 0))), (c_14, .inl (E.2.1 1, 4, .inl (fun _ => 0))), (d_15, .inl (E.2.1 1, 16, .inl (fun _ => 0))), (q_17, .inr (0, [.int 0, .int 0, .ref a_18, .ref b_19, .ref c_20, .ref d_21])), (a_18, .inl (E.2.1 7, 4, .inr (.inr (.inr (.inr (fun _ => none)))))), (b_19, .inl (E.2.1 1, 4, .inl (fun _ => 0))), (c_20, .inl (E.2.1 1, 4, .inl (fun _ => 0))), (d_21, .inl (E.2.1 1, 16, .inl (fun _ => 0))), (q_23, .inr (0, [.int 0, .int 0, .null, .null, .null, .null]))]) ?_ rfl rfl rfl
  refine ww_dup C dX2_init_52 rfl ?_
  refine ww_cv (wr := [(qj, .inr (2, [.ref q_1, .ref q_2, .ref q_3, .ref q_4])), (q_1, .inl (E.2.1 7, 8, .inr (.inr (.inr (.inr (fun _ => none)))))), (q_2, .inl (E.2.1 4, 4, .inr (.inr (.inr (.inr f_22))))), (q_3, .inl (E.2.1 1, 32, .inl (fun _ => 0))), (q_4, .inl (E.2.1 5, 2, .inr (.inr (.inr (.inr (fun _ => none)))))), (q_5, .inr (0, [.int 0, .int 0, .ref a_6, .ref b_7, .ref c_8, .ref d_9])), (a_6, .inl (E.2.1 7, 4, .inr (.inr (.inr (.inr (fun _ => none)))))), (b_7, .inl (E.2.1 1, 4, .inl (fun _ => 0))), (c_8, .inl (E.2.1 1, 4, .inl (fun _ => 0))), (d_9, .inl (E.2.1 1, 16, .inl (fun _ => 0))), (q_11, .inr (0, [.int 0, .int 0, .ref a_12, .ref b_13, .ref c_14, .ref d_15])), (a_12, .inl (E.2.1 7, 4, .inr (.inr (.inr (.inr (fun _ => none)))))), (b_13, .inl (E.2.1 1, 4, .inl (fun _ => 0))), (c_14, .inl (E.2.1 1, 4, .inl (fun _ => 0))), (d_15, .inl (E.2.1 1, 16, .inl (fun _ => 0))), (q_17, .inr (0, [.int 0, .int 0, .ref a_18, .ref b_19, .ref c_20, .ref d_21])), (a_18, .inl (E.2.1 7, 4, .inr (.inr (.inr (.inr (fun _ => none)))))), (b_19, .inl (E.2.1 1, 4, .inl (fun _ => 0))), (c_20, .inl (E.2.1 1, 4, .inl (fun _ => 0))), (d_21, .inl (E.2.1 1, 16, .inl (fun _ => 0)))]) (k' := 24) (n' := 182) C (run_IN (As := []) (rest := [.ref q_23, .int 3, .ref q_2]) C (k_Event X.2.1 E q_23) mn_X0_init (List.mem_of_getElem? (i := 3) rfl) rfl rfl rfl rfl dX2_init_53) [20] [0, 1, 2, 3, 4, 5, 6, 7, 8, 9, 10, 11, 12, 13, 14, 15, 16, 17, 18, 19] rfl rfl rfl rfl (fun u hw => ?_)
  obtain ⟨a_24, b_25, c_26, d_27, rfl⟩ := hw
  refine ww_eq (ws' := [(qj, .inr (2, [.ref q_1, .ref q_2, .ref q_3, .ref q_4])), (q_1, .inl (E.2.1 7, 8, .inr (.inr (.inr (.inr (fun _ => none)))))), (q_2, .inl (E.2.1 4, 4, .inr (.inr (.inr (.inr f_22))))), (q_3, .inl (E.2.1 1, 32, .inl (fun _ => 0))), (q_4, .inl (E.2.1 5, 2, .inr (.inr (.inr (.inr (fun _ => none)))))), (q_5, .inr (0, [.int 0, .int 0, .ref a_6, .ref b_7, .ref c_8, .ref d_9])), (a_6, .inl (E.2.1 7, 4, .inr (.inr (.inr (.inr (fun _ => none)))))), (b_7, .inl (E.2.1 1, 4, .inl (fun _ => 0))), (c_8, .inl (E.2.1 1, 4, .inl (fun _ => 0))), (d_9, .inl (E.2.1 1, 16, .inl (fun _ => 0))), (q_11, .inr (0, [.int 0, .int 0, .ref a_12, .ref b_13, .ref c_14, .ref d_15])), (a_12, .inl (E.2.1 7, 4, .inr (.inr (.inr (.inr (fun _ => none)))))), (b_13, .inl (E.2.1 1, 4, .inl (fun _ => 0))), (c_14, .inl (E.2.1 1, 4, .inl (fun _ => 0))), (d_15, .inl (E.2.1 1, 16, .inl (fun _ => 0))), (q_17, .inr (0, [.int 0, .int 0, .ref a_18, .ref b_19, .ref c_20, .ref d_21])), (a_18, .inl (E.2.1 7, 4, .inr (.inr (.inr (.inr (fun _ => none)))))), (b_19, .inl (E.2.1 1, 4, .inl (fun _ => 0))), (c_20, .inl (E.2.1 1, 4, .inl (fun _ => 0))), (d_21, .inl (E.2.1 1, 16, .inl (fun _ => 0))), (q_23, .inr (0, [.int 0, .int 0, .ref a_24, .ref b_25, .ref c_26, .ref d_27])), (a_24, .inl (E.2.1 7, 4, .inr (.inr (.inr (.inr (fun _ => none)))))), (b_25, .inl (E.2.1 1, 4, .inl (fun _ => 0))), (c_26, .inl (E.2.1 1, 4, .inl (fun _ => 0))), (d_27, .inl (E.2.1 1, 16, .inl (fun _ => 0)))]) ?_ rfl rfl rfl
  obtain ⟨f_28, ef_28⟩ : ∃ z : Nat → Option Nat, va_up f_22 3 (some q_23) = z := ⟨_, rfl⟩
  refine ww_ast (t0 := 4) (ws' := [(qj, .inr (2, [.ref q_1, .ref q_2, .ref q_3, .ref q_4])), (q_1, .inl (E.2.1 7, 8, .inr (.inr (.inr (.inr (fun _ => none)))))), (q_2, .inl (E.2.1 4, 4, .inr (.inr (.inr (.inr f_28))))), (q_3, .inl (E.2.1 1, 32, .inl (fun _ => 0))), (q_4, .inl (E.2.1 5, 2, .inr (.inr (.inr (.inr (fun _ => none)))))), (q_5, .inr (0, [.int 0, .int 0, .ref a_6, .ref b_7, .ref c_8, .ref d_9])), (a_6, .inl (E.2.1 7, 4, .inr (.inr (.inr (.inr (fun _ => none)))))), (b_7, .inl (E.2.1 1, 4, .inl (fun _ => 0))), (c_8, .inl (E.2.1 1, 4, .inl (fun _ => 0))), (d_9, .inl (E.2.1 1, 16, .inl (fun _ => 0))), (q_11, .inr (0, [.int 0, .int 0, .ref a_12, .ref b_13, .ref c_14, .ref d_15])), (a_12, .inl (E.2.1 7, 4, .inr (.inr (.inr (.inr (fun _ => none)))))), (b_13, .inl (E.2.1 1, 4, .inl (fun _ => 0))), (c_14, .inl (E.2.1 1, 4, .inl (fun _ => 0))), (d_15, .inl (E.2.1 1, 16, .inl (fun _ => 0))), (q_17, .inr (0, [.int 0, .int 0, .ref a_18, .ref b_19, .ref c_20, .ref d_21])), (a_18, .inl (E.2.1 7, 4, .inr (.inr (.inr (.inr (fun _ => none)))))), (b_19, .inl (E.2.1 1, 4, .inl (fun _ => 0))), (c_20, .inl (E.2.1 1, 4, .inl (fun _ => 0))), (d_21, .inl (E.2.1 1, 16, .inl (fun _ => 0))), (q_23, .inr (0, [.int 0, .int 0, .ref a_24, .ref b_25, .ref c_26, .ref d_27])), (a_24, .inl (E.2.1 7, 4, .inr (.inr (.inr (.inr (fun _ => none)))))), (b_25, .inl (E.2.1 1, 4, .inl (fun _ => 0))), (c_26, .inl (E.2.1 1, 4, .inl (fun _ => 0))), (d_27, .inl (E.2.1 1, 16, .inl (fun _ => 0)))]) C 2 20 rfl rfl rfl rfl (vin rfl) ef_28 rfl dX2_init_56 ?_
  refine ww_iinc (j := 0) (v := 4) (lv' := [(1, .int 4), (0, .ref qj)]) C dX2_init_57 rfl rfl rfl rfl ?_
  refine ww_goto (tgt := 39) C dX2_init_60 (by decide) ?_
  refine ww_iload_n C dX2_init_39 0 rfl rfl ?_
  refine ww_iconst (v := 4) C dX2_init_40 rfl ?_
  refine ww_icmp_ge_t (tgt := 63) C dX2_init_41 (by decide) (by decide) ?_
  refine ww_iconst (v := 0) C dX2_init_63 rfl ?_
  refine ww_istore_n (lv' := [(1, .int 0), (0, .ref qj)]) C dX2_init_64 rfl rfl rfl ?_
  refine ww_iload_n C dX2_init_65 0 rfl rfl ?_
  refine ww_iconst (v := 2) C dX2_init_66 rfl ?_
  refine ww_icmp_ge_f (tgt := 89) C dX2_init_67 (by decide) (by decide) ?_
  refine ww_aload_n C dX2_init_70 1 rfl rfl ?_
  refine ww_get C fg_X2_29 0 rfl rfl dX2_init_71 ?_
  refine ww_iload_n C dX2_init_74 0 rfl rfl ?_
  refine ww_new (k' := 25) (n' := 188) C cn_X2_27 rfl dX2_init_75 (fun q_29 => ?_)
  refine ww_eq (ws' := [(qj, .inr (2, [.ref q_1, .ref q_2, .ref q_3, .ref q_4])), (q_1, .inl (E.2.1 7, 8, .inr (.inr (.inr (.inr (fun _ => none)))))), (q_2, .inl (E.2.1 4, 4, .inr (.inr (.inr (.inr f_28))))), (q_3, .inl (E.2.1 1, 32, .inl (fun _ => 0))), (q_4, .inl (E.2.1 5, 2, .inr (.inr (.inr (.inr (fun _ => none)))))), (q_5, .inr (0, [.int 0, .int 0, .ref a_6, .ref b_7, .ref c_8, .ref d_9])), (a_6, .inl (E.2.1 7, 4, .inr (.inr (.inr (.inr (fun _ => none)))))), (b_7, .inl (E.2.1 1, 4, .inl (fun _ => 0))), (c_8, .inl (E.2.1 1, 4, .inl (fun _ => 0))), (d_9, .inl (E.2.1 1, 16, .inl (fun _ => 0))), (q_11, .inr (0, [.int 0, .int 0, .ref a_12, .ref b_13, .ref c_14, .ref d_15])), (a_12, .inl (E.2.1 7, 4, .inr (.inr (.inr (.inr (fun _ => none)))))), (b_13, .inl (E.2.1 1, 4, .inl (fun _ => 0))), (c_14, .inl (E.2.1 1, 4, .inl (fun _ => 0))), (d_15, .inl (E.2.1 1, 16, .inl (fun _ => 0))), (q_17, .inr (0, [.int 0, .int 0, .ref a_18, .ref b_19, .ref c_20, .ref d_21])), (a_18, .inl (E.2.1 7, 4, .inr (.inr (.inr (.inr (fun _ => none)))))), (b_19, .inl (E.2.1 1, 4, .inl (fun _ => 0))), (c_20, .inl (E.2.1 1, 4, .inl (fun _ => 0))), (d_21, .inl (E.2.1 1, 16, .inl (fun _ => 0))), (q_23, .inr (0, [.int 0, .int 0, .ref a_24, .ref b_25, .ref c_26, .ref d_27])), (a_24, .inl (E.2.1 7, 4, .inr (.inr (.inr (.inr (fun _ => none)))))), (b_25, .inl (E.2.1 1, 4, .inl (fun _ => 0))), (c_26, .inl (E.2.1 1, 4, .inl (fun _ => 0))), (d_27, .inl (E.2.1 1, 16, .inl (fun _ => 0))), (q_29, .inr (3, [.null, .int 0, .int 0, .null, .null, .null]))]) ?_ rfl rfl rfl
  refine ww_dup C dX2_init_78 rfl ?_
  refine ww_cv (wr := [(qj, .inr (2, [.ref q_1, .ref q_2, .ref q_3, .ref q_4])), (q_1, .inl (E.2.1 7, 8, .inr (.inr (.inr (.inr (fun _ => none)))))), (q_2, .inl (E.2.1 4, 4, .inr (.inr (.inr (.inr f_28))))), (q_3, .inl (E.2.1 1, 32, .inl (fun _ => 0))), (q_4, .inl (E.2.1 5, 2, .inr (.inr (.inr (.inr (fun _ => none)))))), (q_5, .inr (0, [.int 0, .int 0, .ref a_6, .ref b_7, .ref c_8, .ref d_9])), (a_6, .inl (E.2.1 7, 4, .inr (.inr (.inr (.inr (fun _ => none)))))), (b_7, .inl (E.2.1 1, 4, .inl (fun _ => 0))), (c_8, .inl (E.2.1 1, 4, .inl (fun _ => 0))), (d_9, .inl (E.2.1 1, 16, .inl (fun _ => 0))), (q_11, .inr (0, [.int 0, .int 0, .ref a_12, .ref b_13, .ref c_14, .ref d_15])), (a_12, .inl (E.2.1 7, 4, .inr (.inr (.inr (.inr (fun _ => none)))))), (b_13, .inl (E.2.1 1, 4, .inl (fun _ => 0))), (c_14, .inl (E.2.1 1, 4, .inl (fun _ => 0))), (d_15, .inl (E.2.1 1, 16, .inl (fun _ => 0))), (q_17, .inr (0, [.int 0, .int 0, .ref a_18, .ref b_19, .ref c_20, .ref d_21])), (a_18, .inl (E.2.1 7, 4, .inr (.inr (.inr (.inr (fun _ => none)))))), (b_19, .inl (E.2.1 1, 4, .inl (fun _ => 0))), (c_20, .inl (E.2.1 1, 4, .inl (fun _ => 0))), (d_21, .inl (E.2.1 1, 16, .inl (fun _ => 0))), (q_23, .inr (0, [.int 0, .int 0, .ref a_24, .ref b_25, .ref c_26, .ref d_27])), (a_24, .inl (E.2.1 7, 4, .inr (.inr (.inr (.inr (fun _ => none)))))), (b_25, .inl (E.2.1 1, 4, .inl (fun _ => 0))), (c_26, .inl (E.2.1 1, 4, .inl (fun _ => 0))), (d_27, .inl (E.2.1 1, 16, .inl (fun _ => 0)))]) (k' := 31) (n' := 364) C (run_IN (As := []) (rest := [.ref q_29, .int 0, .ref q_4]) C (k_Layer X.2.1 E q_29) mn_X3_init (List.mem_of_getElem? (i := 4) rfl) rfl rfl rfl rfl dX2_init_79) [25] [0, 1, 2, 3, 4, 5, 6, 7, 8, 9, 10, 11, 12, 13, 14, 15, 16, 17, 18, 19, 20, 21, 22, 23, 24] rfl rfl rfl rfl (fun u hw => ?_)
  obtain ⟨m_30, a_31, b_32, c_33, rfl⟩ := hw
  refine ww_eq (ws' := [(qj, .inr (2, [.ref q_1, .ref q_2, .ref q_3, .ref q_4])), (q_1, .inl (E.2.1 7, 8, .inr (.inr (.inr (.inr (fun _ => none)))))), (q_2, .inl (E.2.1 4, 4, .inr (.inr (.inr (.inr f_28))))), (q_3, .inl (E.2.1 1, 32, .inl (fun _ => 0))), (q_4, .inl (E.2.1 5, 2, .inr (.inr (.inr (.inr (fun _ => none)))))), (q_5, .inr (0, [.int 0, .int 0, .ref a_6, .ref b_7, .ref c_8, .ref d_9])), (a_6, .inl (E.2.1 7, 4, .inr (.inr (.inr (.inr (fun _ => none)))))), (b_7, .inl (E.2.1 1, 4, .inl (fun _ => 0))), (c_8, .inl (E.2.1 1, 4, .inl (fun _ => 0))), (d_9, .inl (E.2.1 1, 16, .inl (fun _ => 0))), (q_11, .inr (0, [.int 0, .int 0, .ref a_12, .ref b_13, .ref c_14, .ref d_15])), (a_12, .inl (E.2.1 7, 4, .inr (.inr (.inr (.inr (fun _ => none)))))), (b_13, .inl (E.2.1 1, 4, .inl (fun _ => 0))), (c_14, .inl (E.2.1 1, 4, .inl (fun _ => 0))), (d_15, .inl (E.2.1 1, 16, .inl (fun _ => 0))), (q_17, .inr (0, [.int 0, .int 0, .ref a_18, .ref b_19, .ref c_20, .ref d_21])), (a_18, .inl (E.2.1 7, 4, .inr (.inr (.inr (.inr (fun _ => none)))))), (b_19, .inl (E.2.1 1, 4, .inl (fun _ => 0))), (c_20, .inl (E.2.1 1, 4, .inl (fun _ => 0))), (d_21, .inl (E.2.1 1, 16, .inl (fun _ => 0))), (q_23, .inr (0, [.int 0, .int 0, .ref a_24, .ref b_25, .ref c_26, .ref d_27])), (a_24, .inl (E.2.1 7, 4, .inr (.inr (.inr (.inr (fun _ => none)))))), (b_25, .inl (E.2.1 1, 4, .inl (fun _ => 0))), (c_26, .inl (E.2.1 1, 4, .inl (fun _ => 0))), (d_27, .inl (E.2.1 1, 16, .inl (fun _ => 0))), (q_29, .inr (3, [.ref m_30, .int 0, .int 0, .ref a_31, .ref b_32, .ref c_33]))]) ?_ rfl rfl rfl
  obtain ⟨f_34, ef_34⟩ : ∃ z : Nat → Option Nat, va_up (fun _ => none) 0 (some q_29) = z := ⟨_, rfl⟩
  refine ww_ast (t0 := 5) (ws' := [(qj, .inr (2, [.ref q_1, .ref q_2, .ref q_3, .ref q_4])), (q_1, .inl (E.2.1 7, 8, .inr (.inr (.inr (.inr (fun _ => none)))))), (q_2, .inl (E.2.1 4, 4, .inr (.inr (.inr (.inr f_28))))), (q_3, .inl (E.2.1 1, 32, .inl (fun _ => 0))), (q_4, .inl (E.2.1 5, 2, .inr (.inr (.inr (.inr f_34))))), (q_5, .inr (0, [.int 0, .int 0, .ref a_6, .ref b_7, .ref c_8, .ref d_9])), (a_6, .inl (E.2.1 7, 4, .inr (.inr (.inr (.inr (fun _ => none)))))), (b_7, .inl (E.2.1 1, 4, .inl (fun _ => 0))), (c_8, .inl (E.2.1 1, 4, .inl (fun _ => 0))), (d_9, .inl (E.2.1 1, 16, .inl (fun _ => 0))), (q_11, .inr (0, [.int 0, .int 0, .ref a_12, .ref b_13, .ref c_14, .ref d_15])), (a_12, .inl (E.2.1 7, 4, .inr (.inr (.inr (.inr (fun _ => none)))))), (b_13, .inl (E.2.1 1, 4, .inl (fun _ => 0))), (c_14, .inl (E.2.1 1, 4, .inl (fun _ => 0))), (d_15, .inl (E.2.1 1, 16, .inl (fun _ => 0))), (q_17, .inr (0, [.int 0, .int 0, .ref a_18, .ref b_19, .ref c_20, .ref d_21])), (a_18, .inl (E.2.1 7, 4, .inr (.inr (.inr (.inr (fun _ => none)))))), (b_19, .inl (E.2.1 1, 4, .inl (fun _ => 0))), (c_20, .inl (E.2.1 1, 4, .inl (fun _ => 0))), (d_21, .inl (E.2.1 1, 16, .inl (fun _ => 0))), (q_23, .inr (0, [.int 0, .int 0, .ref a_24, .ref b_25, .ref c_26, .ref d_27])), (a_24, .inl (E.2.1 7, 4, .inr (.inr (.inr (.inr (fun _ => none)))))), (b_25, .inl (E.2.1 1, 4, .inl (fun _ => 0))), (c_26, .inl (E.2.1 1, 4, .inl (fun _ => 0))), (d_27, .inl (E.2.1 1, 16, .inl (fun _ => 0))), (q_29, .inr (3, [.ref m_30, .int 0, .int 0, .ref a_31, .ref b_32, .ref c_33]))]) C 4 25 rfl rfl rfl rfl (vin rfl) ef_34 rfl dX2_init_82 ?_
  refine ww_iinc (j := 0) (v := 1) (lv' := [(1, .int 1), (0, .ref qj)]) C dX2_init_83 rfl rfl rfl rfl ?_
  refine ww_goto (tgt := 65) C dX2_init_86 (by decide) ?_
  refine ww_iload_n C dX2_init_65 0 rfl rfl ?_
  refine ww_iconst (v := 2) C dX2_init_66 rfl ?_
  refine ww_icmp_ge_f (tgt := 89) C dX2_init_67 (by decide) (by decide) ?_
  refine ww_aload_n C dX2_init_70 1 rfl rfl ?_
  refine ww_get C fg_X2_29 0 rfl rfl dX2_init_71 ?_
  refine ww_iload_n C dX2_init_74 0 rfl rfl ?_
  refine ww_new (k' := 32) (n' := 370) C cn_X2_27 rfl dX2_init_75 (fun q_35 => ?_)
  refine ww_eq (ws' := [(qj, .inr (2, [.ref q_1, .ref q_2, .ref q_3, .ref q_4])), (q_1, .inl (E.2.1 7, 8, .inr (.inr (.inr (.inr (fun _ => none)))))), (q_2, .inl (E.2.1 4, 4, .inr (.inr (.inr (.inr f_28))))), (q_3, .inl (E.2.1 1, 32, .inl (fun _ => 0))), (q_4, .inl (E.2.1 5, 2, .inr (.inr (.inr (.inr f_34))))), (q_5, .inr (0, [.int 0, .int 0, .ref a_6, .ref b_7, .ref c_8, .ref d_9])), (a_6, .inl (E.2.1 7, 4, .inr (.inr (.inr (.inr (fun _ => none)))))), (b_7, .inl (E.2.1 1, 4, .inl (fun _ => 0))), (c_8, .inl (E.2.1 1, 4, .inl (fun _ => 0))), (d_9, .inl (E.2.1 1, 16, .inl (fun _ => 0))), (q_11, .inr (0, [.int 0, .int 0, .ref a_12, .ref b_13, .ref c_14, .ref d_15])), (a_12, .inl (E.2.1 7, 4, .inr (.inr (.inr (.inr (fun _ => none)))))), (b_13, .inl (E.2.1 1, 4, .inl (fun _ => 0))), (c_14, .inl (E.2.1 1, 4, .inl (fun _ => 0))), (d_15, .inl (E.2.1 1, 16, .inl (fun _ => 0))), (q_17, .inr (0, [.int 0, .int 0, .ref a_18, .ref b_19, .ref c_20, .ref d_21])), (a_18, .inl (E.2.1 7, 4, .inr (.inr (.inr (.inr (fun _ => none)))))), (b_19, .inl (E.2.1 1, 4, .inl (fun _ => 0))), (c_20, .inl (E.2.1 1, 4, .inl (fun _ => 0))), (d_21, .inl (E.2.1 1, 16, .inl (fun _ => 0))), (q_23, .inr (0, [.int 0, .int 0, .ref a_24, .ref b_25, .ref c_26, .ref d_27])), (a_24, .inl (E.2.1 7, 4, .inr (.inr (.inr (.inr (fun _ => none)))))), (b_25, .inl (E.2.1 1, 4, .inl (fun _ => 0))), (c_26, .inl (E.2.1 1, 4, .inl (fun _ => 0))), (d_27, .inl (E.2.1 1, 16, .inl (fun _ => 0))), (q_29, .inr (3, [.ref m_30, .int 0, .int 0, .ref a_31, .ref b_32, .ref c_33])), (q_35, .inr (3, [.null, .int 0, .int 0, .null, .null, .null]))]) ?_ rfl rfl rfl
  refine ww_dup C dX2_init_78 rfl ?_
  refine ww_cv (wr := [(qj, .inr (2, [.ref q_1, .ref q_2, .ref q_3, .ref q_4])), (q_1, .inl (E.2.1 7, 8, .inr (.inr (.inr (.inr (fun _ => none)))))), (q_2, .inl (E.2.1 4, 4, .inr (.inr (.inr (.inr f_28))))), (q_3, .inl (E.2.1 1, 32, .inl (fun _ => 0))), (q_4, .inl (E.2.1 5, 2, .inr (.inr (.inr (.inr f_34))))), (q_5, .inr (0, [.int 0, .int 0, .ref a_6, .ref b_7, .ref c_8, .ref d_9])), (a_6, .inl (E.2.1 7, 4, .inr (.inr (.inr (.inr (fun _ => none)))))), (b_7, .inl (E.2.1 1, 4, .inl (fun _ => 0))), (c_8, .inl (E.2.1 1, 4, .inl (fun _ => 0))), (d_9, .inl (E.2.1 1, 16, .inl (fun _ => 0))), (q_11, .inr (0, [.int 0, .int 0, .ref a_12, .ref b_13, .ref c_14, .ref d_15])), (a_12, .inl (E.2.1 7, 4, .inr (.inr (.inr (.inr (fun _ => none)))))), (b_13, .inl (E.2.1 1, 4, .inl (fun _ => 0))), (c_14, .inl (E.2.1 1, 4, .inl (fun _ => 0))), (d_15, .inl (E.2.1 1, 16, .inl (fun _ => 0))), (q_17, .inr (0, [.int 0, .int 0, .ref a_18, .ref b_19, .ref c_20, .ref d_21])), (a_18, .inl (E.2.1 7, 4, .inr (.inr (.inr (.inr (fun _ => none)))))), (b_19, .inl (E.2.1 1, 4, .inl (fun _ => 0))), (c_20, .inl (E.2.1 1, 4, .inl (fun _ => 0))), (d_21, .inl (E.2.1 1, 16, .inl (fun _ => 0))), (q_23, .inr (0, [.int 0, .int 0, .ref a_24, .ref b_25, .ref c_26, .ref d_27])), (a_24, .inl (E.2.1 7, 4, .inr (.inr (.inr (.inr (fun _ => none)))))), (b_25, .inl (E.2.1 1, 4, .inl (fun _ => 0))), (c_26, .inl (E.2.1 1, 4, .inl (fun _ => 0))), (d_27, .inl (E.2.1 1, 16, .inl (fun _ => 0))), (q_29, .inr (3, [.ref m_30, .int 0, .int 0, .ref a_31, .ref b_32, .ref c_33]))]) (k' := 38) (n' := 546) C (run_IN (As := []) (rest := [.ref q_35, .int 1, .ref q_4]) C (k_Layer X.2.1 E q_35) mn_X3_init (List.mem_of_getElem? (i := 4) rfl) rfl rfl rfl rfl dX2_init_79) [26] [0, 1, 2, 3, 4, 5, 6, 7, 8, 9, 10, 11, 12, 13, 14, 15, 16, 17, 18, 19, 20, 21, 22, 23, 24, 25] rfl rfl rfl rfl (fun u hw => ?_)
  obtain ⟨m_36, a_37, b_38, c_39, rfl⟩ := hw
  refine ww_eq (ws' := [(qj, .inr (2, [.ref q_1, .ref q_2, .ref q_3, .ref q_4])), (q_1, .inl (E.2.1 7, 8, .inr (.inr (.inr (.inr (fun _ => none)))))), (q_2, .inl (E.2.1 4, 4, .inr (.inr (.inr (.inr f_28))))), (q_3, .inl (E.2.1 1, 32, .inl (fun _ => 0))), (q_4, .inl (E.2.1 5, 2, .inr (.inr (.inr (.inr f_34))))), (q_5, .inr (0, [.int 0, .int 0, .ref a_6, .ref b_7, .ref c_8, .ref d_9])), (a_6, .inl (E.2.1 7, 4, .inr (.inr (.inr (.inr (fun _ => none)))))), (b_7, .inl (E.2.1 1, 4, .inl (fun _ => 0))), (c_8, .inl (E.2.1 1, 4, .inl (fun _ => 0))), (d_9, .inl (E.2.1 1, 16, .inl (fun _ => 0))), (q_11, .inr (0, [.int 0, .int 0, .ref a_12, .ref b_13, .ref c_14, .ref d_15])), (a_12, .inl (E.2.1 7, 4, .inr (.inr (.inr (.inr (fun _ => none)))))), (b_13, .inl (E.2.1 1, 4, .inl (fun _ => 0))), (c_14, .inl (E.2.1 1, 4, .inl (fun _ => 0))), (d_15, .inl (E.2.1 1, 16, .inl (fun _ => 0))), (q_17, .inr (0, [.int 0, .int 0, .ref a_18, .ref b_19, .ref c_20, .ref d_21])), (a_18, .inl (E.2.1 7, 4, .inr (.inr (.inr (.inr (fun _ => none)))))), (b_19, .inl (E.2.1 1, 4, .inl (fun _ => 0))), (c_20, .inl (E.2.1 1, 4, .inl (fun _ => 0))), (d_21, .inl (E.2.1 1, 16, .inl (fun _ => 0))), (q_23, .inr (0, [.int 0, .int 0, .ref a_24, .ref b_25, .ref c_26, .ref d_27])), (a_24, .inl (E.2.1 7, 4, .inr (.inr (.inr (.inr (fun _ => none)))))), (b_25, .inl (E.2.1 1, 4, .inl (fun _ => 0))), (c_26, .inl (E.2.1 1, 4, .inl (fun _ => 0))), (d_27, .inl (E.2.1 1, 16, .inl (fun _ => 0))), (q_29, .inr (3, [.ref m_30, .int 0, .int 0, .ref a_31, .ref b_32, .ref c_33])), (q_35, .inr (3, [.ref m_36, .int 0, .int 0, .ref a_37, .ref b_38, .ref c_39]))]) ?_ rfl rfl rfl
  obtain ⟨f_40, ef_40⟩ : ∃ z : Nat → Option Nat, va_up f_34 1 (some q_35) = z := ⟨_, rfl⟩
  refine ww_ast (t0 := 5) (ws' := [(qj, .inr (2, [.ref q_1, .ref q_2, .ref q_3, .ref q_4])), (q_1, .inl (E.2.1 7, 8, .inr (.inr (.inr (.inr (fun _ => none)))))), (q_2, .inl (E.2.1 4, 4, .inr (.inr (.inr (.inr f_28))))), (q_3, .inl (E.2.1 1, 32, .inl (fun _ => 0))), (q_4, .inl (E.2.1 5, 2, .inr (.inr (.inr (.inr f_40))))), (q_5, .inr (0, [.int 0, .int 0, .ref a_6, .ref b_7, .ref c_8, .ref d_9])), (a_6, .inl (E.2.1 7, 4, .inr (.inr (.inr (.inr (fun _ => none)))))), (b_7, .inl (E.2.1 1, 4, .inl (fun _ => 0))), (c_8, .inl (E.2.1 1, 4, .inl (fun _ => 0))), (d_9, .inl (E.2.1 1, 16, .inl (fun _ => 0))), (q_11, .inr (0, [.int 0, .int 0, .ref a_12, .ref b_13, .ref c_14, .ref d_15])), (a_12, .inl (E.2.1 7, 4, .inr (.inr (.inr (.inr (fun _ => none)))))), (b_13, .inl (E.2.1 1, 4, .inl (fun _ => 0))), (c_14, .inl (E.2.1 1, 4, .inl (fun _ => 0))), (d_15, .inl (E.2.1 1, 16, .inl (fun _ => 0))), (q_17, .inr (0, [.int 0, .int 0, .ref a_18, .ref b_19, .ref c_20, .ref d_21])), (a_18, .inl (E.2.1 7, 4, .inr (.inr (.inr (.inr (fun _ => none)))))), (b_19, .inl (E.2.1 1, 4, .inl (fun _ => 0))), (c_20, .inl (E.2.1 1, 4, .inl (fun _ => 0))), (d_21, .inl (E.2.1 1, 16, .inl (fun _ => 0))), (q_23, .inr (0, [.int 0, .int 0, .ref a_24, .ref b_25, .ref c_26, .ref d_27])), (a_24, .inl (E.2.1 7, 4, .inr (.inr (.inr (.inr (fun _ => none)))))), (b_25, .inl (E.2.1 1, 4, .inl (fun _ => 0))), (c_26, .inl (E.2.1 1, 4, .inl (fun _ => 0))), (d_27, .inl (E.2.1 1, 16, .inl (fun _ => 0))), (q_29, .inr (3, [.ref m_30, .int 0, .int 0, .ref a_31, .ref b_32, .ref c_33])), (q_35, .inr (3, [.ref m_36, .int 0, .int 0, .ref a_37, .ref b_38, .ref c_39]))]) C 4 26 rfl rfl rfl rfl (vin rfl) ef_40 rfl dX2_init_82 ?_
  refine ww_iinc (j := 0) (v := 2) (lv' := [(1, .int 2), (0, .ref qj)]) C dX2_init_83 rfl rfl rfl rfl ?_
  refine ww_goto (tgt := 65) C dX2_init_86 (by decide) ?_
  refine ww_iload_n C dX2_init_65 0 rfl rfl ?_
  refine ww_iconst (v := 2) C dX2_init_66 rfl ?_
  refine ww_icmp_ge_t (tgt := 89) C dX2_init_67 (by decide) (by decide) ?_
  exact ww_vret (u := [(qj, .inr (2, [.ref q_1, .ref q_2, .ref q_3, .ref q_4])), (q_1, .inl (E.2.1 7, 8, .inr (.inr (.inr (.inr (fun _ => none)))))), (q_2, .inl (E.2.1 4, 4, .inr (.inr (.inr (.inr f_28))))), (q_5, .inr (0, [.int 0, .int 0, .ref a_6, .ref b_7, .ref c_8, .ref d_9])), (a_6, .inl (E.2.1 7, 4, .inr (.inr (.inr (.inr (fun _ => none)))))), (b_7, .inl (E.2.1 1, 4, .inl (fun _ => 0))), (c_8, .inl (E.2.1 1, 4, .inl (fun _ => 0))), (d_9, .inl (E.2.1 1, 16, .inl (fun _ => 0))), (q_11, .inr (0, [.int 0, .int 0, .ref a_12, .ref b_13, .ref c_14, .ref d_15])), (a_12, .inl (E.2.1 7, 4, .inr (.inr (.inr (.inr (fun _ => none)))))), (b_13, .inl (E.2.1 1, 4, .inl (fun _ => 0))), (c_14, .inl (E.2.1 1, 4, .inl (fun _ => 0))), (d_15, .inl (E.2.1 1, 16, .inl (fun _ => 0))), (q_17, .inr (0, [.int 0, .int 0, .ref a_18, .ref b_19, .ref c_20, .ref d_21])), (a_18, .inl (E.2.1 7, 4, .inr (.inr (.inr (.inr (fun _ => none)))))), (b_19, .inl (E.2.1 1, 4, .inl (fun _ => 0))), (c_20, .inl (E.2.1 1, 4, .inl (fun _ => 0))), (d_21, .inl (E.2.1 1, 16, .inl (fun _ => 0))), (q_23, .inr (0, [.int 0, .int 0, .ref a_24, .ref b_25, .ref c_26, .ref d_27])), (a_24, .inl (E.2.1 7, 4, .inr (.inr (.inr (.inr (fun _ => none)))))), (b_25, .inl (E.2.1 1, 4, .inl (fun _ => 0))), (c_26, .inl (E.2.1 1, 4, .inl (fun _ => 0))), (d_27, .inl (E.2.1 1, 16, .inl (fun _ => 0)))]) C hT [0, 1, 2, 5, 6, 7, 8, 9, 10, 11, 12, 13, 14, 15, 16, 17, 18, 19, 20, 21, 22, 23, 24] rfl rfl rfl rfl dX2_init_89 (⟨q_1, q_2, q_3, q_4, f_28, q_5, a_6, b_7, c_8, d_9, q_11, a_12, b_13, c_14, d_15, q_17, a_18, b_19, c_20, d_21, q_23, a_24, b_25, c_26, d_27, rfl, ((congrFun ef_28 0).symm.trans ((vup_n (by decide)).trans ((congrFun ef_22 0).symm.trans ((vup_n (by decide)).trans ((congrFun ef_16 0).symm.trans ((vup_n (by decide)).trans ((congrFun ef_10 0).symm.trans vup_s))))))), ((congrFun ef_28 1).symm.trans ((vup_n (by decide)).trans ((congrFun ef_22 1).symm.trans ((vup_n (by decide)).trans ((congrFun ef_16 1).symm.trans vup_s))))), ((congrFun ef_28 2).symm.trans ((vup_n (by decide)).trans ((congrFun ef_22 2).symm.trans vup_s))), ((congrFun ef_28 3).symm.trans vup_s)⟩)
theorem dX11_models_0 : decode cX11_models 0 = .ok (.iload_n 0, 1) := by decide +kernel
theorem dX11_models_1 : decode cX11_models 1 = .ok (.anewarray 7, 3) := by decide +kernel
theorem wk_X11_7 : Cond.classLink RX11 7 RX4 ∈ TB := tbm (tq1 (List.mem_of_getElem? (i := 29) (by decide +kernel))) (by decide +kernel)
theorem dX11_models_4 : decode cX11_models 4 = .ok (.astore_n 1, 1) := by decide +kernel
theorem dX11_models_5 : decode cX11_models 5 = .ok (.iconst 0, 1) := by decide +kernel
theorem dX11_models_6 : decode cX11_models 6 = .ok (.istore_n 2, 1) := by decide +kernel
theorem dX11_models_7 : decode cX11_models 7 = .ok (.iload_n 2, 1) := by decide +kernel
theorem dX11_models_8 : decode cX11_models 8 = .ok (.iload_n 0, 1) := by decide +kernel
theorem dX11_models_9 : decode cX11_models 9 = .ok (.if_icmp .ge 19, 3) := by decide +kernel
theorem dX11_models_12 : decode cX11_models 12 = .ok (.aload_n 1, 1) := by decide +kernel
theorem dX11_models_13 : decode cX11_models 13 = .ok (.iload_n 2, 1) := by decide +kernel
theorem dX11_models_14 : decode cX11_models 14 = .ok (.new 7, 3) := by decide +kernel
theorem cn_X11_7 : CN RX11 7 4 4 [.int 0, .int 0, .null, .null] := ⟨RX4, TX4, tyX4, uw_X4, wk_X11_7, wq_X4, wn_X4, rfl, tyX4_ok, by decide +kernel⟩
theorem dX11_models_17 : decode cX11_models 17 = .ok (.dup, 1) := by decide +kernel
theorem dX11_models_18 : decode cX11_models 18 = .ok (.invokespecial 9, 3) := by decide +kernel
theorem dX11_models_21 : decode cX11_models 21 = .ok (.aastore, 1) := by decide +kernel
theorem dX11_models_22 : decode cX11_models 22 = .ok (.iinc 2 1, 3) := by decide +kernel
theorem dX11_models_25 : decode cX11_models 25 = .ok (.goto (-18), 3) := by decide +kernel
theorem dX11_models_28 : decode cX11_models 28 = .ok (.aload_n 1, 1) := by decide +kernel
theorem dX11_models_29 : decode cX11_models 29 = .ok (.areturn, 1) := by decide +kernel
set_option maxRecDepth 100000 in
set_option maxHeartbeats 4000000 in
theorem k_models8 (l : Launch) (E : EV)   : CT l yX11_models (Cond.code yX11_models cX11_models 3 (some (.array (.object "WhoKnows$Model"))) :: TB) ({ frames := 2, cells := 25, slots := 1000, locals := 32 }) E [.int 8] [] (Qq E (fun (r : Option Nat) u => (∃ (a : Nat) (fp : Nat → Option Nat) (m : Nat) (x : Nat) (y : Nat), r = some a ∧ u = [(a, .inl (E.2.1 6, 8, .inr (.inr (.inr (.inr fp))))), (m, .inr (4, [.int 0, .int 0, .ref x, .ref y])), (x, .inl (E.2.1 1, 24, .inl (fun _ => 0))), (y, .inl (E.2.1 1, 96, .inl (fun _ => 0)))] ∧ (fp 0 = some m)))) 25 1000 := by
  refine ct_of rfl rfl ?_
  intro X C hT hin
  show WW X 3 E 0 [(0, .int 8)] [] [] 0 0
  refine ww_iload_n C dX11_models_0 0 rfl rfl ?_
  refine ww_newq (N := 8) (t0 := 6) (Cn := "WhoKnows$Model") (k' := 1) (n' := 8) C wk_X11_7 (by decide) rfl (by decide) rfl rfl rfl dX11_models_1 (fun q_1 => ?_)
  refine ww_eq (ws' := [(q_1, .inl (E.2.1 6, 8, .inr (.inr (.inr (.inr (fun _ => none))))))]) ?_ rfl rfl rfl
  refine ww_astore_n (lv' := [(1, .ref q_1), (0, .int 8)]) C dX11_models_4 rfl rfl rfl ?_
  refine ww_iconst (v := 0) C dX11_models_5 rfl ?_
  refine ww_istore_n (lv' := [(2, .int 0), (1, .ref q_1), (0, .int 8)]) C dX11_models_6 rfl rfl rfl ?_
  refine ww_iload_n C dX11_models_7 0 rfl rfl ?_
  refine ww_iload_n C dX11_models_8 2 rfl rfl ?_
  refine ww_icmp_ge_f (tgt := 28) C dX11_models_9 (by decide) (by decide) ?_
  refine ww_aload_n C dX11_models_12 1 rfl rfl ?_
  refine ww_iload_n C dX11_models_13 0 rfl rfl ?_
  refine ww_new (k' := 2) (n' := 12) C cn_X11_7 rfl dX11_models_14 (fun q_2 => ?_)
  refine ww_eq (ws' := [(q_1, .inl (E.2.1 6, 8, .inr (.inr (.inr (.inr (fun _ => none)))))), (q_2, .inr (4, [.int 0, .int 0, .null, .null]))]) ?_ rfl rfl rfl
  refine ww_dup C dX11_models_17 rfl ?_
  refine ww_cv (wr := [(q_1, .inl (E.2.1 6, 8, .inr (.inr (.inr (.inr (fun _ => none))))))]) (k' := 4) (n' := 132) C (run_IN (As := []) (rest := [.ref q_2, .int 0, .ref q_1]) C (k_Model X.2.1 E q_2) mn_X4_init (List.mem_of_getElem? (i := 0) rfl) rfl rfl rfl rfl dX11_models_18) [1] [0] rfl rfl rfl rfl (fun u hw => ?_)
  obtain ⟨a_3, b_4, rfl⟩ := hw
  refine ww_eq (ws' := [(q_1, .inl (E.2.1 6, 8, .inr (.inr (.inr (.inr (fun _ => none)))))), (q_2, .inr (4, [.int 0, .int 0, .ref a_3, .ref b_4])), (a_3, .inl (E.2.1 1, 24, .inl (fun _ => 0))), (b_4, .inl (E.2.1 1, 96, .inl (fun _ => 0)))]) ?_ rfl rfl rfl
  obtain ⟨f_5, ef_5⟩ : ∃ z : Nat → Option Nat, va_up (fun _ => none) 0 (some q_2) = z := ⟨_, rfl⟩
  refine ww_ast (t0 := 6) (ws' := [(q_1, .inl (E.2.1 6, 8, .inr (.inr (.inr (.inr f_5))))), (q_2, .inr (4, [.int 0, .int 0, .ref a_3, .ref b_4])), (a_3, .inl (E.2.1 1, 24, .inl (fun _ => 0))), (b_4, .inl (E.2.1 1, 96, .inl (fun _ => 0)))]) C 0 1 rfl rfl rfl rfl (vin rfl) ef_5 rfl dX11_models_21 ?_
  refine ww_iinc (j := 0) (v := 1) (lv' := [(2, .int 1), (1, .ref q_1), (0, .int 8)]) C dX11_models_22 rfl rfl rfl rfl ?_
  refine ww_goto (tgt := 7) C dX11_models_25 (by decide) ?_
  refine ww_iload_n C dX11_models_7 0 rfl rfl ?_
  refine ww_iload_n C dX11_models_8 2 rfl rfl ?_
  refine ww_icmp_ge_f (tgt := 28) C dX11_models_9 (by decide) (by decide) ?_
  refine ww_aload_n C dX11_models_12 1 rfl rfl ?_
  refine ww_iload_n C dX11_models_13 0 rfl rfl ?_
  refine ww_new (k' := 5) (n' := 136) C cn_X11_7 rfl dX11_models_14 (fun q_6 => ?_)
  refine ww_eq (ws' := [(q_1, .inl (E.2.1 6, 8, .inr (.inr (.inr (.inr f_5))))), (q_2, .inr (4, [.int 0, .int 0, .ref a_3, .ref b_4])), (a_3, .inl (E.2.1 1, 24, .inl (fun _ => 0))), (b_4, .inl (E.2.1 1, 96, .inl (fun _ => 0))), (q_6, .inr (4, [.int 0, .int 0, .null, .null]))]) ?_ rfl rfl rfl
  refine ww_dup C dX11_models_17 rfl ?_
  refine ww_cv (wr := [(q_1, .inl (E.2.1 6, 8, .inr (.inr (.inr (.inr f_5))))), (q_2, .inr (4, [.int 0, .int 0, .ref a_3, .ref b_4])), (a_3, .inl (E.2.1 1, 24, .inl (fun _ => 0))), (b_4, .inl (E.2.1 1, 96, .inl (fun _ => 0)))]) (k' := 7) (n' := 256) C (run_IN (As := []) (rest := [.ref q_6, .int 1, .ref q_1]) C (k_Model X.2.1 E q_6) mn_X4_init (List.mem_of_getElem? (i := 0) rfl) rfl rfl rfl rfl dX11_models_18) [4] [0, 1, 2, 3] rfl rfl rfl rfl (fun u hw => ?_)
  obtain ⟨a_7, b_8, rfl⟩ := hw
  refine ww_eq (ws' := [(q_1, .inl (E.2.1 6, 8, .inr (.inr (.inr (.inr f_5))))), (q_2, .inr (4, [.int 0, .int 0, .ref a_3, .ref b_4])), (a_3, .inl (E.2.1 1, 24, .inl (fun _ => 0))), (b_4, .inl (E.2.1 1, 96, .inl (fun _ => 0))), (q_6, .inr (4, [.int 0, .int 0, .ref a_7, .ref b_8])), (a_7, .inl (E.2.1 1, 24, .inl (fun _ => 0))), (b_8, .inl (E.2.1 1, 96, .inl (fun _ => 0)))]) ?_ rfl rfl rfl
  obtain ⟨f_9, ef_9⟩ : ∃ z : Nat → Option Nat, va_up f_5 1 (some q_6) = z := ⟨_, rfl⟩
  refine ww_ast (t0 := 6) (ws' := [(q_1, .inl (E.2.1 6, 8, .inr (.inr (.inr (.inr f_9))))), (q_2, .inr (4, [.int 0, .int 0, .ref a_3, .ref b_4])), (a_3, .inl (E.2.1 1, 24, .inl (fun _ => 0))), (b_4, .inl (E.2.1 1, 96, .inl (fun _ => 0))), (q_6, .inr (4, [.int 0, .int 0, .ref a_7, .ref b_8])), (a_7, .inl (E.2.1 1, 24, .inl (fun _ => 0))), (b_8, .inl (E.2.1 1, 96, .inl (fun _ => 0)))]) C 0 4 rfl rfl rfl rfl (vin rfl) ef_9 rfl dX11_models_21 ?_
  refine ww_iinc (j := 0) (v := 2) (lv' := [(2, .int 2), (1, .ref q_1), (0, .int 8)]) C dX11_models_22 rfl rfl rfl rfl ?_
  refine ww_goto (tgt := 7) C dX11_models_25 (by decide) ?_
  refine ww_iload_n C dX11_models_7 0 rfl rfl ?_
  refine ww_iload_n C dX11_models_8 2 rfl rfl ?_
  refine ww_icmp_ge_f (tgt := 28) C dX11_models_9 (by decide) (by decide) ?_
  refine ww_aload_n C dX11_models_12 1 rfl rfl ?_
  refine ww_iload_n C dX11_models_13 0 rfl rfl ?_
  refine ww_new (k' := 8) (n' := 260) C cn_X11_7 rfl dX11_models_14 (fun q_10 => ?_)
  refine ww_eq (ws' := [(q_1, .inl (E.2.1 6, 8, .inr (.inr (.inr (.inr f_9))))), (q_2, .inr (4, [.int 0, .int 0, .ref a_3, .ref b_4])), (a_3, .inl (E.2.1 1, 24, .inl (fun _ => 0))), (b_4, .inl (E.2.1 1, 96, .inl (fun _ => 0))), (q_6, .inr (4, [.int 0, .int 0, .ref a_7, .ref b_8])), (a_7, .inl (E.2.1 1, 24, .inl (fun _ => 0))), (b_8, .inl (E.2.1 1, 96, .inl (fun _ => 0))), (q_10, .inr (4, [.int 0, .int 0, .null, .null]))]) ?_ rfl rfl rfl
  refine ww_dup C dX11_models_17 rfl ?_
  refine ww_cv (wr := [(q_1, .inl (E.2.1 6, 8, .inr (.inr (.inr (.inr f_9))))), (q_2, .inr (4, [.int 0, .int 0, .ref a_3, .ref b_4])), (a_3, .inl (E.2.1 1, 24, .inl (fun _ => 0))), (b_4, .inl (E.2.1 1, 96, .inl (fun _ => 0))), (q_6, .inr (4, [.int 0, .int 0, .ref a_7, .ref b_8])), (a_7, .inl (E.2.1 1, 24, .inl (fun _ => 0))), (b_8, .inl (E.2.1 1, 96, .inl (fun _ => 0)))]) (k' := 10) (n' := 380) C (run_IN (As := []) (rest := [.ref q_10, .int 2, .ref q_1]) C (k_Model X.2.1 E q_10) mn_X4_init (List.mem_of_getElem? (i := 0) rfl) rfl rfl rfl rfl dX11_models_18) [7] [0, 1, 2, 3, 4, 5, 6] rfl rfl rfl rfl (fun u hw => ?_)
  obtain ⟨a_11, b_12, rfl⟩ := hw
  refine ww_eq (ws' := [(q_1, .inl (E.2.1 6, 8, .inr (.inr (.inr (.inr f_9))))), (q_2, .inr (4, [.int 0, .int 0, .ref a_3, .ref b_4])), (a_3, .inl (E.2.1 1, 24, .inl (fun _ => 0))), (b_4, .inl (E.2.1 1, 96, .inl (fun _ => 0))), (q_6, .inr (4, [.int 0, .int 0, .ref a_7, .ref b_8])), (a_7, .inl (E.2.1 1, 24, .inl (fun _ => 0))), (b_8, .inl (E.2.1 1, 96, .inl (fun _ => 0))), (q_10, .inr (4, [.int 0, .int 0, .ref a_11, .ref b_12])), (a_11, .inl (E.2.1 1, 24, .inl (fun _ => 0))), (b_12, .inl (E.2.1 1, 96, .inl (fun _ => 0)))]) ?_ rfl rfl rfl
  obtain ⟨f_13, ef_13⟩ : ∃ z : Nat → Option Nat, va_up f_9 2 (some q_10) = z := ⟨_, rfl⟩
  refine ww_ast (t0 := 6) (ws' := [(q_1, .inl (E.2.1 6, 8, .inr (.inr (.inr (.inr f_13))))), (q_2, .inr (4, [.int 0, .int 0, .ref a_3, .ref b_4])), (a_3, .inl (E.2.1 1, 24, .inl (fun _ => 0))), (b_4, .inl (E.2.1 1, 96, .inl (fun _ => 0))), (q_6, .inr (4, [.int 0, .int 0, .ref a_7, .ref b_8])), (a_7, .inl (E.2.1 1, 24, .inl (fun _ => 0))), (b_8, .inl (E.2.1 1, 96, .inl (fun _ => 0))), (q_10, .inr (4, [.int 0, .int 0, .ref a_11, .ref b_12])), (a_11, .inl (E.2.1 1, 24, .inl (fun _ => 0))), (b_12, .inl (E.2.1 1, 96, .inl (fun _ => 0)))]) C 0 7 rfl rfl rfl rfl (vin rfl) ef_13 rfl dX11_models_21 ?_
  refine ww_iinc (j := 0) (v := 3) (lv' := [(2, .int 3), (1, .ref q_1), (0, .int 8)]) C dX11_models_22 rfl rfl rfl rfl ?_
  refine ww_goto (tgt := 7) C dX11_models_25 (by decide) ?_
  refine ww_iload_n C dX11_models_7 0 rfl rfl ?_
  refine ww_iload_n C dX11_models_8 2 rfl rfl ?_
  refine ww_icmp_ge_f (tgt := 28) C dX11_models_9 (by decide) (by decide) ?_
  refine ww_aload_n C dX11_models_12 1 rfl rfl ?_
  refine ww_iload_n C dX11_models_13 0 rfl rfl ?_
  refine ww_new (k' := 11) (n' := 384) C cn_X11_7 rfl dX11_models_14 (fun q_14 => ?_)
  refine ww_eq (ws' := [(q_1, .inl (E.2.1 6, 8, .inr (.inr (.inr (.inr f_13))))), (q_2, .inr (4, [.int 0, .int 0, .ref a_3, .ref b_4])), (a_3, .inl (E.2.1 1, 24, .inl (fun _ => 0))), (b_4, .inl (E.2.1 1, 96, .inl (fun _ => 0))), (q_6, .inr (4, [.int 0, .int 0, .ref a_7, .ref b_8])), (a_7, .inl (E.2.1 1, 24, .inl (fun _ => 0))), (b_8, .inl (E.2.1 1, 96, .inl (fun _ => 0))), (q_10, .inr (4, [.int 0, .int 0, .ref a_11, .ref b_12])), (a_11, .inl (E.2.1 1, 24, .inl (fun _ => 0))), (b_12, .inl (E.2.1 1, 96, .inl (fun _ => 0))), (q_14, .inr (4, [.int 0, .int 0, .null, .null]))]) ?_ rfl rfl rfl
  refine ww_dup C dX11_models_17 rfl ?_
  refine ww_cv (wr := [(q_1, .inl (E.2.1 6, 8, .inr (.inr (.inr (.inr f_13))))), (q_2, .inr (4, [.int 0, .int 0, .ref a_3, .ref b_4])), (a_3, .inl (E.2.1 1, 24, .inl (fun _ => 0))), (b_4, .inl (E.2.1 1, 96, .inl (fun _ => 0))), (q_6, .inr (4, [.int 0, .int 0, .ref a_7, .ref b_8])), (a_7, .inl (E.2.1 1, 24, .inl (fun _ => 0))), (b_8, .inl (E.2.1 1, 96, .inl (fun _ => 0))), (q_10, .inr (4, [.int 0, .int 0, .ref a_11, .ref b_12])), (a_11, .inl (E.2.1 1, 24, .inl (fun _ => 0))), (b_12, .inl (E.2.1 1, 96, .inl (fun _ => 0)))]) (k' := 13) (n' := 504) C (run_IN (As := []) (rest := [.ref q_14, .int 3, .ref q_1]) C (k_Model X.2.1 E q_14) mn_X4_init (List.mem_of_getElem? (i := 0) rfl) rfl rfl rfl rfl dX11_models_18) [10] [0, 1, 2, 3, 4, 5, 6, 7, 8, 9] rfl rfl rfl rfl (fun u hw => ?_)
  obtain ⟨a_15, b_16, rfl⟩ := hw
  refine ww_eq (ws' := [(q_1, .inl (E.2.1 6, 8, .inr (.inr (.inr (.inr f_13))))), (q_2, .inr (4, [.int 0, .int 0, .ref a_3, .ref b_4])), (a_3, .inl (E.2.1 1, 24, .inl (fun _ => 0))), (b_4, .inl (E.2.1 1, 96, .inl (fun _ => 0))), (q_6, .inr (4, [.int 0, .int 0, .ref a_7, .ref b_8])), (a_7, .inl (E.2.1 1, 24, .inl (fun _ => 0))), (b_8, .inl (E.2.1 1, 96, .inl (fun _ => 0))), (q_10, .inr (4, [.int 0, .int 0, .ref a_11, .ref b_12])), (a_11, .inl (E.2.1 1, 24, .inl (fun _ => 0))), (b_12, .inl (E.2.1 1, 96, .inl (fun _ => 0))), (q_14, .inr (4, [.int 0, .int 0, .ref a_15, .ref b_16])), (a_15, .inl (E.2.1 1, 24, .inl (fun _ => 0))), (b_16, .inl (E.2.1 1, 96, .inl (fun _ => 0)))]) ?_ rfl rfl rfl
  obtain ⟨f_17, ef_17⟩ : ∃ z : Nat → Option Nat, va_up f_13 3 (some q_14) = z := ⟨_, rfl⟩
  refine ww_ast (t0 := 6) (ws' := [(q_1, .inl (E.2.1 6, 8, .inr (.inr (.inr (.inr f_17))))), (q_2, .inr (4, [.int 0, .int 0, .ref a_3, .ref b_4])), (a_3, .inl (E.2.1 1, 24, .inl (fun _ => 0))), (b_4, .inl (E.2.1 1, 96, .inl (fun _ => 0))), (q_6, .inr (4, [.int 0, .int 0, .ref a_7, .ref b_8])), (a_7, .inl (E.2.1 1, 24, .inl (fun _ => 0))), (b_8, .inl (E.2.1 1, 96, .inl (fun _ => 0))), (q_10, .inr (4, [.int 0, .int 0, .ref a_11, .ref b_12])), (a_11, .inl (E.2.1 1, 24, .inl (fun _ => 0))), (b_12, .inl (E.2.1 1, 96, .inl (fun _ => 0))), (q_14, .inr (4, [.int 0, .int 0, .ref a_15, .ref b_16])), (a_15, .inl (E.2.1 1, 24, .inl (fun _ => 0))), (b_16, .inl (E.2.1 1, 96, .inl (fun _ => 0)))]) C 0 10 rfl rfl rfl rfl (vin rfl) ef_17 rfl dX11_models_21 ?_
  refine ww_iinc (j := 0) (v := 4) (lv' := [(2, .int 4), (1, .ref q_1), (0, .int 8)]) C dX11_models_22 rfl rfl rfl rfl ?_
  refine ww_goto (tgt := 7) C dX11_models_25 (by decide) ?_
  refine ww_iload_n C dX11_models_7 0 rfl rfl ?_
  refine ww_iload_n C dX11_models_8 2 rfl rfl ?_
  refine ww_icmp_ge_f (tgt := 28) C dX11_models_9 (by decide) (by decide) ?_
  refine ww_aload_n C dX11_models_12 1 rfl rfl ?_
  refine ww_iload_n C dX11_models_13 0 rfl rfl ?_
  refine ww_new (k' := 14) (n' := 508) C cn_X11_7 rfl dX11_models_14 (fun q_18 => ?_)
  refine ww_eq (ws' := [(q_1, .inl (E.2.1 6, 8, .inr (.inr (.inr (.inr f_17))))), (q_2, .inr (4, [.int 0, .int 0, .ref a_3, .ref b_4])), (a_3, .inl (E.2.1 1, 24, .inl (fun _ => 0))), (b_4, .inl (E.2.1 1, 96, .inl (fun _ => 0))), (q_6, .inr (4, [.int 0, .int 0, .ref a_7, .ref b_8])), (a_7, .inl (E.2.1 1, 24, .inl (fun _ => 0))), (b_8, .inl (E.2.1 1, 96, .inl (fun _ => 0))), (q_10, .inr (4, [.int 0, .int 0, .ref a_11, .ref b_12])), (a_11, .inl (E.2.1 1, 24, .inl (fun _ => 0))), (b_12, .inl (E.2.1 1, 96, .inl (fun _ => 0))), (q_14, .inr (4, [.int 0, .int 0, .ref a_15, .ref b_16])), (a_15, .inl (E.2.1 1, 24, .inl (fun _ => 0))), (b_16, .inl (E.2.1 1, 96, .inl (fun _ => 0))), (q_18, .inr (4, [.int 0, .int 0, .null, .null]))]) ?_ rfl rfl rfl
  refine ww_dup C dX11_models_17 rfl ?_
  refine ww_cv (wr := [(q_1, .inl (E.2.1 6, 8, .inr (.inr (.inr (.inr f_17))))), (q_2, .inr (4, [.int 0, .int 0, .ref a_3, .ref b_4])), (a_3, .inl (E.2.1 1, 24, .inl (fun _ => 0))), (b_4, .inl (E.2.1 1, 96, .inl (fun _ => 0))), (q_6, .inr (4, [.int 0, .int 0, .ref a_7, .ref b_8])), (a_7, .inl (E.2.1 1, 24, .inl (fun _ => 0))), (b_8, .inl (E.2.1 1, 96, .inl (fun _ => 0))), (q_10, .inr (4, [.int 0, .int 0, .ref a_11, .ref b_12])), (a_11, .inl (E.2.1 1, 24, .inl (fun _ => 0))), (b_12, .inl (E.2.1 1, 96, .inl (fun _ => 0))), (q_14, .inr (4, [.int 0, .int 0, .ref a_15, .ref b_16])), (a_15, .inl (E.2.1 1, 24, .inl (fun _ => 0))), (b_16, .inl (E.2.1 1, 96, .inl (fun _ => 0)))]) (k' := 16) (n' := 628) C (run_IN (As := []) (rest := [.ref q_18, .int 4, .ref q_1]) C (k_Model X.2.1 E q_18) mn_X4_init (List.mem_of_getElem? (i := 0) rfl) rfl rfl rfl rfl dX11_models_18) [13] [0, 1, 2, 3, 4, 5, 6, 7, 8, 9, 10, 11, 12] rfl rfl rfl rfl (fun u hw => ?_)
  obtain ⟨a_19, b_20, rfl⟩ := hw
  refine ww_eq (ws' := [(q_1, .inl (E.2.1 6, 8, .inr (.inr (.inr (.inr f_17))))), (q_2, .inr (4, [.int 0, .int 0, .ref a_3, .ref b_4])), (a_3, .inl (E.2.1 1, 24, .inl (fun _ => 0))), (b_4, .inl (E.2.1 1, 96, .inl (fun _ => 0))), (q_6, .inr (4, [.int 0, .int 0, .ref a_7, .ref b_8])), (a_7, .inl (E.2.1 1, 24, .inl (fun _ => 0))), (b_8, .inl (E.2.1 1, 96, .inl (fun _ => 0))), (q_10, .inr (4, [.int 0, .int 0, .ref a_11, .ref b_12])), (a_11, .inl (E.2.1 1, 24, .inl (fun _ => 0))), (b_12, .inl (E.2.1 1, 96, .inl (fun _ => 0))), (q_14, .inr (4, [.int 0, .int 0, .ref a_15, .ref b_16])), (a_15, .inl (E.2.1 1, 24, .inl (fun _ => 0))), (b_16, .inl (E.2.1 1, 96, .inl (fun _ => 0))), (q_18, .inr (4, [.int 0, .int 0, .ref a_19, .ref b_20])), (a_19, .inl (E.2.1 1, 24, .inl (fun _ => 0))), (b_20, .inl (E.2.1 1, 96, .inl (fun _ => 0)))]) ?_ rfl rfl rfl
  obtain ⟨f_21, ef_21⟩ : ∃ z : Nat → Option Nat, va_up f_17 4 (some q_18) = z := ⟨_, rfl⟩
  refine ww_ast (t0 := 6) (ws' := [(q_1, .inl (E.2.1 6, 8, .inr (.inr (.inr (.inr f_21))))), (q_2, .inr (4, [.int 0, .int 0, .ref a_3, .ref b_4])), (a_3, .inl (E.2.1 1, 24, .inl (fun _ => 0))), (b_4, .inl (E.2.1 1, 96, .inl (fun _ => 0))), (q_6, .inr (4, [.int 0, .int 0, .ref a_7, .ref b_8])), (a_7, .inl (E.2.1 1, 24, .inl (fun _ => 0))), (b_8, .inl (E.2.1 1, 96, .inl (fun _ => 0))), (q_10, .inr (4, [.int 0, .int 0, .ref a_11, .ref b_12])), (a_11, .inl (E.2.1 1, 24, .inl (fun _ => 0))), (b_12, .inl (E.2.1 1, 96, .inl (fun _ => 0))), (q_14, .inr (4, [.int 0, .int 0, .ref a_15, .ref b_16])), (a_15, .inl (E.2.1 1, 24, .inl (fun _ => 0))), (b_16, .inl (E.2.1 1, 96, .inl (fun _ => 0))), (q_18, .inr (4, [.int 0, .int 0, .ref a_19, .ref b_20])), (a_19, .inl (E.2.1 1, 24, .inl (fun _ => 0))), (b_20, .inl (E.2.1 1, 96, .inl (fun _ => 0)))]) C 0 13 rfl rfl rfl rfl (vin rfl) ef_21 rfl dX11_models_21 ?_
  refine ww_iinc (j := 0) (v := 5) (lv' := [(2, .int 5), (1, .ref q_1), (0, .int 8)]) C dX11_models_22 rfl rfl rfl rfl ?_
  refine ww_goto (tgt := 7) C dX11_models_25 (by decide) ?_
  refine ww_iload_n C dX11_models_7 0 rfl rfl ?_
  refine ww_iload_n C dX11_models_8 2 rfl rfl ?_
  refine ww_icmp_ge_f (tgt := 28) C dX11_models_9 (by decide) (by decide) ?_
  refine ww_aload_n C dX11_models_12 1 rfl rfl ?_
  refine ww_iload_n C dX11_models_13 0 rfl rfl ?_
  refine ww_new (k' := 17) (n' := 632) C cn_X11_7 rfl dX11_models_14 (fun q_22 => ?_)
  refine ww_eq (ws' := [(q_1, .inl (E.2.1 6, 8, .inr (.inr (.inr (.inr f_21))))), (q_2, .inr (4, [.int 0, .int 0, .ref a_3, .ref b_4])), (a_3, .inl (E.2.1 1, 24, .inl (fun _ => 0))), (b_4, .inl (E.2.1 1, 96, .inl (fun _ => 0))), (q_6, .inr (4, [.int 0, .int 0, .ref a_7, .ref b_8])), (a_7, .inl (E.2.1 1, 24, .inl (fun _ => 0))), (b_8, .inl (E.2.1 1, 96, .inl (fun _ => 0))), (q_10, .inr (4, [.int 0, .int 0, .ref a_11, .ref b_12])), (a_11, .inl (E.2.1 1, 24, .inl (fun _ => 0))), (b_12, .inl (E.2.1 1, 96, .inl (fun _ => 0))), (q_14, .inr (4, [.int 0, .int 0, .ref a_15, .ref b_16])), (a_15, .inl (E.2.1 1, 24, .inl (fun _ => 0))), (b_16, .inl (E.2.1 1, 96, .inl (fun _ => 0))), (q_18, .inr (4, [.int 0, .int 0, .ref a_19, .ref b_20])), (a_19, .inl (E.2.1 1, 24, .inl (fun _ => 0))), (b_20, .inl (E.2.1 1, 96, .inl (fun _ => 0))), (q_22, .inr (4, [.int 0, .int 0, .null, .null]))]) ?_ rfl rfl rfl
  refine ww_dup C dX11_models_17 rfl ?_
  refine ww_cv (wr := [(q_1, .inl (E.2.1 6, 8, .inr (.inr (.inr (.inr f_21))))), (q_2, .inr (4, [.int 0, .int 0, .ref a_3, .ref b_4])), (a_3, .inl (E.2.1 1, 24, .inl (fun _ => 0))), (b_4, .inl (E.2.1 1, 96, .inl (fun _ => 0))), (q_6, .inr (4, [.int 0, .int 0, .ref a_7, .ref b_8])), (a_7, .inl (E.2.1 1, 24, .inl (fun _ => 0))), (b_8, .inl (E.2.1 1, 96, .inl (fun _ => 0))), (q_10, .inr (4, [.int 0, .int 0, .ref a_11, .ref b_12])), (a_11, .inl (E.2.1 1, 24, .inl (fun _ => 0))), (b_12, .inl (E.2.1 1, 96, .inl (fun _ => 0))), (q_14, .inr (4, [.int 0, .int 0, .ref a_15, .ref b_16])), (a_15, .inl (E.2.1 1, 24, .inl (fun _ => 0))), (b_16, .inl (E.2.1 1, 96, .inl (fun _ => 0))), (q_18, .inr (4, [.int 0, .int 0, .ref a_19, .ref b_20])), (a_19, .inl (E.2.1 1, 24, .inl (fun _ => 0))), (b_20, .inl (E.2.1 1, 96, .inl (fun _ => 0)))]) (k' := 19) (n' := 752) C (run_IN (As := []) (rest := [.ref q_22, .int 5, .ref q_1]) C (k_Model X.2.1 E q_22) mn_X4_init (List.mem_of_getElem? (i := 0) rfl) rfl rfl rfl rfl dX11_models_18) [16] [0, 1, 2, 3, 4, 5, 6, 7, 8, 9, 10, 11, 12, 13, 14, 15] rfl rfl rfl rfl (fun u hw => ?_)
  obtain ⟨a_23, b_24, rfl⟩ := hw
  refine ww_eq (ws' := [(q_1, .inl (E.2.1 6, 8, .inr (.inr (.inr (.inr f_21))))), (q_2, .inr (4, [.int 0, .int 0, .ref a_3, .ref b_4])), (a_3, .inl (E.2.1 1, 24, .inl (fun _ => 0))), (b_4, .inl (E.2.1 1, 96, .inl (fun _ => 0))), (q_6, .inr (4, [.int 0, .int 0, .ref a_7, .ref b_8])), (a_7, .inl (E.2.1 1, 24, .inl (fun _ => 0))), (b_8, .inl (E.2.1 1, 96, .inl (fun _ => 0))), (q_10, .inr (4, [.int 0, .int 0, .ref a_11, .ref b_12])), (a_11, .inl (E.2.1 1, 24, .inl (fun _ => 0))), (b_12, .inl (E.2.1 1, 96, .inl (fun _ => 0))), (q_14, .inr (4, [.int 0, .int 0, .ref a_15, .ref b_16])), (a_15, .inl (E.2.1 1, 24, .inl (fun _ => 0))), (b_16, .inl (E.2.1 1, 96, .inl (fun _ => 0))), (q_18, .inr (4, [.int 0, .int 0, .ref a_19, .ref b_20])), (a_19, .inl (E.2.1 1, 24, .inl (fun _ => 0))), (b_20, .inl (E.2.1 1, 96, .inl (fun _ => 0))), (q_22, .inr (4, [.int 0, .int 0, .ref a_23, .ref b_24])), (a_23, .inl (E.2.1 1, 24, .inl (fun _ => 0))), (b_24, .inl (E.2.1 1, 96, .inl (fun _ => 0)))]) ?_ rfl rfl rfl
  obtain ⟨f_25, ef_25⟩ : ∃ z : Nat → Option Nat, va_up f_21 5 (some q_22) = z := ⟨_, rfl⟩
  refine ww_ast (t0 := 6) (ws' := [(q_1, .inl (E.2.1 6, 8, .inr (.inr (.inr (.inr f_25))))), (q_2, .inr (4, [.int 0, .int 0, .ref a_3, .ref b_4])), (a_3, .inl (E.2.1 1, 24, .inl (fun _ => 0))), (b_4, .inl (E.2.1 1, 96, .inl (fun _ => 0))), (q_6, .inr (4, [.int 0, .int 0, .ref a_7, .ref b_8])), (a_7, .inl (E.2.1 1, 24, .inl (fun _ => 0))), (b_8, .inl (E.2.1 1, 96, .inl (fun _ => 0))), (q_10, .inr (4, [.int 0, .int 0, .ref a_11, .ref b_12])), (a_11, .inl (E.2.1 1, 24, .inl (fun _ => 0))), (b_12, .inl (E.2.1 1, 96, .inl (fun _ => 0))), (q_14, .inr (4, [.int 0, .int 0, .ref a_15, .ref b_16])), (a_15, .inl (E.2.1 1, 24, .inl (fun _ => 0))), (b_16, .inl (E.2.1 1, 96, .inl (fun _ => 0))), (q_18, .inr (4, [.int 0, .int 0, .ref a_19, .ref b_20])), (a_19, .inl (E.2.1 1, 24, .inl (fun _ => 0))), (b_20, .inl (E.2.1 1, 96, .inl (fun _ => 0))), (q_22, .inr (4, [.int 0, .int 0, .ref a_23, .ref b_24])), (a_23, .inl (E.2.1 1, 24, .inl (fun _ => 0))), (b_24, .inl (E.2.1 1, 96, .inl (fun _ => 0)))]) C 0 16 rfl rfl rfl rfl (vin rfl) ef_25 rfl dX11_models_21 ?_
  refine ww_iinc (j := 0) (v := 6) (lv' := [(2, .int 6), (1, .ref q_1), (0, .int 8)]) C dX11_models_22 rfl rfl rfl rfl ?_
  refine ww_goto (tgt := 7) C dX11_models_25 (by decide) ?_
  refine ww_iload_n C dX11_models_7 0 rfl rfl ?_
  refine ww_iload_n C dX11_models_8 2 rfl rfl ?_
  refine ww_icmp_ge_f (tgt := 28) C dX11_models_9 (by decide) (by decide) ?_
  refine ww_aload_n C dX11_models_12 1 rfl rfl ?_
  refine ww_iload_n C dX11_models_13 0 rfl rfl ?_
  refine ww_new (k' := 20) (n' := 756) C cn_X11_7 rfl dX11_models_14 (fun q_26 => ?_)
  refine ww_eq (ws' := [(q_1, .inl (E.2.1 6, 8, .inr (.inr (.inr (.inr f_25))))), (q_2, .inr (4, [.int 0, .int 0, .ref a_3, .ref b_4])), (a_3, .inl (E.2.1 1, 24, .inl (fun _ => 0))), (b_4, .inl (E.2.1 1, 96, .inl (fun _ => 0))), (q_6, .inr (4, [.int 0, .int 0, .ref a_7, .ref b_8])), (a_7, .inl (E.2.1 1, 24, .inl (fun _ => 0))), (b_8, .inl (E.2.1 1, 96, .inl (fun _ => 0))), (q_10, .inr (4, [.int 0, .int 0, .ref a_11, .ref b_12])), (a_11, .inl (E.2.1 1, 24, .inl (fun _ => 0))), (b_12, .inl (E.2.1 1, 96, .inl (fun _ => 0))), (q_14, .inr (4, [.int 0, .int 0, .ref a_15, .ref b_16])), (a_15, .inl (E.2.1 1, 24, .inl (fun _ => 0))), (b_16, .inl (E.2.1 1, 96, .inl (fun _ => 0))), (q_18, .inr (4, [.int 0, .int 0, .ref a_19, .ref b_20])), (a_19, .inl (E.2.1 1, 24, .inl (fun _ => 0))), (b_20, .inl (E.2.1 1, 96, .inl (fun _ => 0))), (q_22, .inr (4, [.int 0, .int 0, .ref a_23, .ref b_24])), (a_23, .inl (E.2.1 1, 24, .inl (fun _ => 0))), (b_24, .inl (E.2.1 1, 96, .inl (fun _ => 0))), (q_26, .inr (4, [.int 0, .int 0, .null, .null]))]) ?_ rfl rfl rfl
  refine ww_dup C dX11_models_17 rfl ?_
  refine ww_cv (wr := [(q_1, .inl (E.2.1 6, 8, .inr (.inr (.inr (.inr f_25))))), (q_2, .inr (4, [.int 0, .int 0, .ref a_3, .ref b_4])), (a_3, .inl (E.2.1 1, 24, .inl (fun _ => 0))), (b_4, .inl (E.2.1 1, 96, .inl (fun _ => 0))), (q_6, .inr (4, [.int 0, .int 0, .ref a_7, .ref b_8])), (a_7, .inl (E.2.1 1, 24, .inl (fun _ => 0))), (b_8, .inl (E.2.1 1, 96, .inl (fun _ => 0))), (q_10, .inr (4, [.int 0, .int 0, .ref a_11, .ref b_12])), (a_11, .inl (E.2.1 1, 24, .inl (fun _ => 0))), (b_12, .inl (E.2.1 1, 96, .inl (fun _ => 0))), (q_14, .inr (4, [.int 0, .int 0, .ref a_15, .ref b_16])), (a_15, .inl (E.2.1 1, 24, .inl (fun _ => 0))), (b_16, .inl (E.2.1 1, 96, .inl (fun _ => 0))), (q_18, .inr (4, [.int 0, .int 0, .ref a_19, .ref b_20])), (a_19, .inl (E.2.1 1, 24, .inl (fun _ => 0))), (b_20, .inl (E.2.1 1, 96, .inl (fun _ => 0))), (q_22, .inr (4, [.int 0, .int 0, .ref a_23, .ref b_24])), (a_23, .inl (E.2.1 1, 24, .inl (fun _ => 0))), (b_24, .inl (E.2.1 1, 96, .inl (fun _ => 0)))]) (k' := 22) (n' := 876) C (run_IN (As := []) (rest := [.ref q_26, .int 6, .ref q_1]) C (k_Model X.2.1 E q_26) mn_X4_init (List.mem_of_getElem? (i := 0) rfl) rfl rfl rfl rfl dX11_models_18) [19] [0, 1, 2, 3, 4, 5, 6, 7, 8, 9, 10, 11, 12, 13, 14, 15, 16, 17, 18] rfl rfl rfl rfl (fun u hw => ?_)
  obtain ⟨a_27, b_28, rfl⟩ := hw
  refine ww_eq (ws' := [(q_1, .inl (E.2.1 6, 8, .inr (.inr (.inr (.inr f_25))))), (q_2, .inr (4, [.int 0, .int 0, .ref a_3, .ref b_4])), (a_3, .inl (E.2.1 1, 24, .inl (fun _ => 0))), (b_4, .inl (E.2.1 1, 96, .inl (fun _ => 0))), (q_6, .inr (4, [.int 0, .int 0, .ref a_7, .ref b_8])), (a_7, .inl (E.2.1 1, 24, .inl (fun _ => 0))), (b_8, .inl (E.2.1 1, 96, .inl (fun _ => 0))), (q_10, .inr (4, [.int 0, .int 0, .ref a_11, .ref b_12])), (a_11, .inl (E.2.1 1, 24, .inl (fun _ => 0))), (b_12, .inl (E.2.1 1, 96, .inl (fun _ => 0))), (q_14, .inr (4, [.int 0, .int 0, .ref a_15, .ref b_16])), (a_15, .inl (E.2.1 1, 24, .inl (fun _ => 0))), (b_16, .inl (E.2.1 1, 96, .inl (fun _ => 0))), (q_18, .inr (4, [.int 0, .int 0, .ref a_19, .ref b_20])), (a_19, .inl (E.2.1 1, 24, .inl (fun _ => 0))), (b_20, .inl (E.2.1 1, 96, .inl (fun _ => 0))), (q_22, .inr (4, [.int 0, .int 0, .ref a_23, .ref b_24])), (a_23, .inl (E.2.1 1, 24, .inl (fun _ => 0))), (b_24, .inl (E.2.1 1, 96, .inl (fun _ => 0))), (q_26, .inr (4, [.int 0, .int 0, .ref a_27, .ref b_28])), (a_27, .inl (E.2.1 1, 24, .inl (fun _ => 0))), (b_28, .inl (E.2.1 1, 96, .inl (fun _ => 0)))]) ?_ rfl rfl rfl
  obtain ⟨f_29, ef_29⟩ : ∃ z : Nat → Option Nat, va_up f_25 6 (some q_26) = z := ⟨_, rfl⟩
  refine ww_ast (t0 := 6) (ws' := [(q_1, .inl (E.2.1 6, 8, .inr (.inr (.inr (.inr f_29))))), (q_2, .inr (4, [.int 0, .int 0, .ref a_3, .ref b_4])), (a_3, .inl (E.2.1 1, 24, .inl (fun _ => 0))), (b_4, .inl (E.2.1 1, 96, .inl (fun _ => 0))), (q_6, .inr (4, [.int 0, .int 0, .ref a_7, .ref b_8])), (a_7, .inl (E.2.1 1, 24, .inl (fun _ => 0))), (b_8, .inl (E.2.1 1, 96, .inl (fun _ => 0))), (q_10, .inr (4, [.int 0, .int 0, .ref a_11, .ref b_12])), (a_11, .inl (E.2.1 1, 24, .inl (fun _ => 0))), (b_12, .inl (E.2.1 1, 96, .inl (fun _ => 0))), (q_14, .inr (4, [.int 0, .int 0, .ref a_15, .ref b_16])), (a_15, .inl (E.2.1 1, 24, .inl (fun _ => 0))), (b_16, .inl (E.2.1 1, 96, .inl (fun _ => 0))), (q_18, .inr (4, [.int 0, .int 0, .ref a_19, .ref b_20])), (a_19, .inl (E.2.1 1, 24, .inl (fun _ => 0))), (b_20, .inl (E.2.1 1, 96, .inl (fun _ => 0))), (q_22, .inr (4, [.int 0, .int 0, .ref a_23, .ref b_24])), (a_23, .inl (E.2.1 1, 24, .inl (fun _ => 0))), (b_24, .inl (E.2.1 1, 96, .inl (fun _ => 0))), (q_26, .inr (4, [.int 0, .int 0, .ref a_27, .ref b_28])), (a_27, .inl (E.2.1 1, 24, .inl (fun _ => 0))), (b_28, .inl (E.2.1 1, 96, .inl (fun _ => 0)))]) C 0 19 rfl rfl rfl rfl (vin rfl) ef_29 rfl dX11_models_21 ?_
  refine ww_iinc (j := 0) (v := 7) (lv' := [(2, .int 7), (1, .ref q_1), (0, .int 8)]) C dX11_models_22 rfl rfl rfl rfl ?_
  refine ww_goto (tgt := 7) C dX11_models_25 (by decide) ?_
  refine ww_iload_n C dX11_models_7 0 rfl rfl ?_
  refine ww_iload_n C dX11_models_8 2 rfl rfl ?_
  refine ww_icmp_ge_f (tgt := 28) C dX11_models_9 (by decide) (by decide) ?_
  refine ww_aload_n C dX11_models_12 1 rfl rfl ?_
  refine ww_iload_n C dX11_models_13 0 rfl rfl ?_
  refine ww_new (k' := 23) (n' := 880) C cn_X11_7 rfl dX11_models_14 (fun q_30 => ?_)
  refine ww_eq (ws' := [(q_1, .inl (E.2.1 6, 8, .inr (.inr (.inr (.inr f_29))))), (q_2, .inr (4, [.int 0, .int 0, .ref a_3, .ref b_4])), (a_3, .inl (E.2.1 1, 24, .inl (fun _ => 0))), (b_4, .inl (E.2.1 1, 96, .inl (fun _ => 0))), (q_6, .inr (4, [.int 0, .int 0, .ref a_7, .ref b_8])), (a_7, .inl (E.2.1 1, 24, .inl (fun _ => 0))), (b_8, .inl (E.2.1 1, 96, .inl (fun _ => 0))), (q_10, .inr (4, [.int 0, .int 0, .ref a_11, .ref b_12])), (a_11, .inl (E.2.1 1, 24, .inl (fun _ => 0))), (b_12, .inl (E.2.1 1, 96, .inl (fun _ => 0))), (q_14, .inr (4, [.int 0, .int 0, .ref a_15, .ref b_16])), (a_15, .inl (E.2.1 1, 24, .inl (fun _ => 0))), (b_16, .inl (E.2.1 1, 96, .inl (fun _ => 0))), (q_18, .inr (4, [.int 0, .int 0, .ref a_19, .ref b_20])), (a_19, .inl (E.2.1 1, 24, .inl (fun _ => 0))), (b_20, .inl (E.2.1 1, 96, .inl (fun _ => 0))), (q_22, .inr (4, [.int 0, .int 0, .ref a_23, .ref b_24])), (a_23, .inl (E.2.1 1, 24, .inl (fun _ => 0))), (b_24, .inl (E.2.1 1, 96, .inl (fun _ => 0))), (q_26, .inr (4, [.int 0, .int 0, .ref a_27, .ref b_28])), (a_27, .inl (E.2.1 1, 24, .inl (fun _ => 0))), (b_28, .inl (E.2.1 1, 96, .inl (fun _ => 0))), (q_30, .inr (4, [.int 0, .int 0, .null, .null]))]) ?_ rfl rfl rfl
  refine ww_dup C dX11_models_17 rfl ?_
  refine ww_cv (wr := [(q_1, .inl (E.2.1 6, 8, .inr (.inr (.inr (.inr f_29))))), (q_2, .inr (4, [.int 0, .int 0, .ref a_3, .ref b_4])), (a_3, .inl (E.2.1 1, 24, .inl (fun _ => 0))), (b_4, .inl (E.2.1 1, 96, .inl (fun _ => 0))), (q_6, .inr (4, [.int 0, .int 0, .ref a_7, .ref b_8])), (a_7, .inl (E.2.1 1, 24, .inl (fun _ => 0))), (b_8, .inl (E.2.1 1, 96, .inl (fun _ => 0))), (q_10, .inr (4, [.int 0, .int 0, .ref a_11, .ref b_12])), (a_11, .inl (E.2.1 1, 24, .inl (fun _ => 0))), (b_12, .inl (E.2.1 1, 96, .inl (fun _ => 0))), (q_14, .inr (4, [.int 0, .int 0, .ref a_15, .ref b_16])), (a_15, .inl (E.2.1 1, 24, .inl (fun _ => 0))), (b_16, .inl (E.2.1 1, 96, .inl (fun _ => 0))), (q_18, .inr (4, [.int 0, .int 0, .ref a_19, .ref b_20])), (a_19, .inl (E.2.1 1, 24, .inl (fun _ => 0))), (b_20, .inl (E.2.1 1, 96, .inl (fun _ => 0))), (q_22, .inr (4, [.int 0, .int 0, .ref a_23, .ref b_24])), (a_23, .inl (E.2.1 1, 24, .inl (fun _ => 0))), (b_24, .inl (E.2.1 1, 96, .inl (fun _ => 0))), (q_26, .inr (4, [.int 0, .int 0, .ref a_27, .ref b_28])), (a_27, .inl (E.2.1 1, 24, .inl (fun _ => 0))), (b_28, .inl (E.2.1 1, 96, .inl (fun _ => 0)))]) (k' := 25) (n' := 1000) C (run_IN (As := []) (rest := [.ref q_30, .int 7, .ref q_1]) C (k_Model X.2.1 E q_30) mn_X4_init (List.mem_of_getElem? (i := 0) rfl) rfl rfl rfl rfl dX11_models_18) [22] [0, 1, 2, 3, 4, 5, 6, 7, 8, 9, 10, 11, 12, 13, 14, 15, 16, 17, 18, 19, 20, 21] rfl rfl rfl rfl (fun u hw => ?_)
  obtain ⟨a_31, b_32, rfl⟩ := hw
  refine ww_eq (ws' := [(q_1, .inl (E.2.1 6, 8, .inr (.inr (.inr (.inr f_29))))), (q_2, .inr (4, [.int 0, .int 0, .ref a_3, .ref b_4])), (a_3, .inl (E.2.1 1, 24, .inl (fun _ => 0))), (b_4, .inl (E.2.1 1, 96, .inl (fun _ => 0))), (q_6, .inr (4, [.int 0, .int 0, .ref a_7, .ref b_8])), (a_7, .inl (E.2.1 1, 24, .inl (fun _ => 0))), (b_8, .inl (E.2.1 1, 96, .inl (fun _ => 0))), (q_10, .inr (4, [.int 0, .int 0, .ref a_11, .ref b_12])), (a_11, .inl (E.2.1 1, 24, .inl (fun _ => 0))), (b_12, .inl (E.2.1 1, 96, .inl (fun _ => 0))), (q_14, .inr (4, [.int 0, .int 0, .ref a_15, .ref b_16])), (a_15, .inl (E.2.1 1, 24, .inl (fun _ => 0))), (b_16, .inl (E.2.1 1, 96, .inl (fun _ => 0))), (q_18, .inr (4, [.int 0, .int 0, .ref a_19, .ref b_20])), (a_19, .inl (E.2.1 1, 24, .inl (fun _ => 0))), (b_20, .inl (E.2.1 1, 96, .inl (fun _ => 0))), (q_22, .inr (4, [.int 0, .int 0, .ref a_23, .ref b_24])), (a_23, .inl (E.2.1 1, 24, .inl (fun _ => 0))), (b_24, .inl (E.2.1 1, 96, .inl (fun _ => 0))), (q_26, .inr (4, [.int 0, .int 0, .ref a_27, .ref b_28])), (a_27, .inl (E.2.1 1, 24, .inl (fun _ => 0))), (b_28, .inl (E.2.1 1, 96, .inl (fun _ => 0))), (q_30, .inr (4, [.int 0, .int 0, .ref a_31, .ref b_32])), (a_31, .inl (E.2.1 1, 24, .inl (fun _ => 0))), (b_32, .inl (E.2.1 1, 96, .inl (fun _ => 0)))]) ?_ rfl rfl rfl
  obtain ⟨f_33, ef_33⟩ : ∃ z : Nat → Option Nat, va_up f_29 7 (some q_30) = z := ⟨_, rfl⟩
  refine ww_ast (t0 := 6) (ws' := [(q_1, .inl (E.2.1 6, 8, .inr (.inr (.inr (.inr f_33))))), (q_2, .inr (4, [.int 0, .int 0, .ref a_3, .ref b_4])), (a_3, .inl (E.2.1 1, 24, .inl (fun _ => 0))), (b_4, .inl (E.2.1 1, 96, .inl (fun _ => 0))), (q_6, .inr (4, [.int 0, .int 0, .ref a_7, .ref b_8])), (a_7, .inl (E.2.1 1, 24, .inl (fun _ => 0))), (b_8, .inl (E.2.1 1, 96, .inl (fun _ => 0))), (q_10, .inr (4, [.int 0, .int 0, .ref a_11, .ref b_12])), (a_11, .inl (E.2.1 1, 24, .inl (fun _ => 0))), (b_12, .inl (E.2.1 1, 96, .inl (fun _ => 0))), (q_14, .inr (4, [.int 0, .int 0, .ref a_15, .ref b_16])), (a_15, .inl (E.2.1 1, 24, .inl (fun _ => 0))), (b_16, .inl (E.2.1 1, 96, .inl (fun _ => 0))), (q_18, .inr (4, [.int 0, .int 0, .ref a_19, .ref b_20])), (a_19, .inl (E.2.1 1, 24, .inl (fun _ => 0))), (b_20, .inl (E.2.1 1, 96, .inl (fun _ => 0))), (q_22, .inr (4, [.int 0, .int 0, .ref a_23, .ref b_24])), (a_23, .inl (E.2.1 1, 24, .inl (fun _ => 0))), (b_24, .inl (E.2.1 1, 96, .inl (fun _ => 0))), (q_26, .inr (4, [.int 0, .int 0, .ref a_27, .ref b_28])), (a_27, .inl (E.2.1 1, 24, .inl (fun _ => 0))), (b_28, .inl (E.2.1 1, 96, .inl (fun _ => 0))), (q_30, .inr (4, [.int 0, .int 0, .ref a_31, .ref b_32])), (a_31, .inl (E.2.1 1, 24, .inl (fun _ => 0))), (b_32, .inl (E.2.1 1, 96, .inl (fun _ => 0)))]) C 0 22 rfl rfl rfl rfl (vin rfl) ef_33 rfl dX11_models_21 ?_
  refine ww_iinc (j := 0) (v := 8) (lv' := [(2, .int 8), (1, .ref q_1), (0, .int 8)]) C dX11_models_22 rfl rfl rfl rfl ?_
  refine ww_goto (tgt := 7) C dX11_models_25 (by decide) ?_
  refine ww_iload_n C dX11_models_7 0 rfl rfl ?_
  refine ww_iload_n C dX11_models_8 2 rfl rfl ?_
  refine ww_icmp_ge_t (tgt := 28) C dX11_models_9 (by decide) (by decide) ?_
  refine ww_aload_n C dX11_models_28 1 rfl rfl ?_
  refine ww_eq (st' := [va_rf (some q_1)]) ?_ rfl rfl rfl
  exact ww_qret (u := [(q_1, .inl (E.2.1 6, 8, .inr (.inr (.inr (.inr f_33))))), (q_2, .inr (4, [.int 0, .int 0, .ref a_3, .ref b_4])), (a_3, .inl (E.2.1 1, 24, .inl (fun _ => 0))), (b_4, .inl (E.2.1 1, 96, .inl (fun _ => 0)))]) C hT (Or.inr ⟨_, rfl⟩) [0, 1, 2, 3] rfl rfl rfl rfl dX11_models_29 (⟨q_1, f_33, q_2, a_3, b_4, rfl, rfl, ((congrFun ef_33 0).symm.trans ((vup_n (by decide)).trans ((congrFun ef_29 0).symm.trans ((vup_n (by decide)).trans ((congrFun ef_25 0).symm.trans ((vup_n (by decide)).trans ((congrFun ef_21 0).symm.trans ((vup_n (by decide)).trans ((congrFun ef_17 0).symm.trans ((vup_n (by decide)).trans ((congrFun ef_13 0).symm.trans ((vup_n (by decide)).trans ((congrFun ef_9 0).symm.trans ((vup_n (by decide)).trans ((congrFun ef_5 0).symm.trans vup_s)))))))))))))))⟩)
set_option maxRecDepth 100000 in
set_option maxHeartbeats 4000000 in
theorem k_models4 (l : Launch) (E : EV)   : CT l yX11_models (Cond.code yX11_models cX11_models 3 (some (.array (.object "WhoKnows$Model"))) :: TB) ({ frames := 2, cells := 13, slots := 500, locals := 32 }) E [.int 4] [] (Qq E (fun (r : Option Nat) u => (∃ (a : Nat), r = some a ∧ u = []))) 13 500 := by
  refine ct_of rfl rfl ?_
  intro X C hT hin
  show WW X 3 E 0 [(0, .int 4)] [] [] 0 0
  refine ww_iload_n C dX11_models_0 0 rfl rfl ?_
  refine ww_newq (N := 4) (t0 := 6) (Cn := "WhoKnows$Model") (k' := 1) (n' := 4) C wk_X11_7 (by decide) rfl (by decide) rfl rfl rfl dX11_models_1 (fun q_1 => ?_)
  refine ww_eq (ws' := [(q_1, .inl (E.2.1 6, 4, .inr (.inr (.inr (.inr (fun _ => none))))))]) ?_ rfl rfl rfl
  refine ww_astore_n (lv' := [(1, .ref q_1), (0, .int 4)]) C dX11_models_4 rfl rfl rfl ?_
  refine ww_iconst (v := 0) C dX11_models_5 rfl ?_
  refine ww_istore_n (lv' := [(2, .int 0), (1, .ref q_1), (0, .int 4)]) C dX11_models_6 rfl rfl rfl ?_
  refine ww_iload_n C dX11_models_7 0 rfl rfl ?_
  refine ww_iload_n C dX11_models_8 2 rfl rfl ?_
  refine ww_icmp_ge_f (tgt := 28) C dX11_models_9 (by decide) (by decide) ?_
  refine ww_aload_n C dX11_models_12 1 rfl rfl ?_
  refine ww_iload_n C dX11_models_13 0 rfl rfl ?_
  refine ww_new (k' := 2) (n' := 8) C cn_X11_7 rfl dX11_models_14 (fun q_2 => ?_)
  refine ww_eq (ws' := [(q_1, .inl (E.2.1 6, 4, .inr (.inr (.inr (.inr (fun _ => none)))))), (q_2, .inr (4, [.int 0, .int 0, .null, .null]))]) ?_ rfl rfl rfl
  refine ww_dup C dX11_models_17 rfl ?_
  refine ww_cv (wr := [(q_1, .inl (E.2.1 6, 4, .inr (.inr (.inr (.inr (fun _ => none))))))]) (k' := 4) (n' := 128) C (run_IN (As := []) (rest := [.ref q_2, .int 0, .ref q_1]) C (k_Model X.2.1 E q_2) mn_X4_init (List.mem_of_getElem? (i := 0) rfl) rfl rfl rfl rfl dX11_models_18) [1] [0] rfl rfl rfl rfl (fun u hw => ?_)
  obtain ⟨a_3, b_4, rfl⟩ := hw
  refine ww_eq (ws' := [(q_1, .inl (E.2.1 6, 4, .inr (.inr (.inr (.inr (fun _ => none)))))), (q_2, .inr (4, [.int 0, .int 0, .ref a_3, .ref b_4])), (a_3, .inl (E.2.1 1, 24, .inl (fun _ => 0))), (b_4, .inl (E.2.1 1, 96, .inl (fun _ => 0)))]) ?_ rfl rfl rfl
  obtain ⟨f_5, ef_5⟩ : ∃ z : Nat → Option Nat, va_up (fun _ => none) 0 (some q_2) = z := ⟨_, rfl⟩
  refine ww_ast (t0 := 6) (ws' := [(q_1, .inl (E.2.1 6, 4, .inr (.inr (.inr (.inr f_5))))), (q_2, .inr (4, [.int 0, .int 0, .ref a_3, .ref b_4])), (a_3, .inl (E.2.1 1, 24, .inl (fun _ => 0))), (b_4, .inl (E.2.1 1, 96, .inl (fun _ => 0)))]) C 0 1 rfl rfl rfl rfl (vin rfl) ef_5 rfl dX11_models_21 ?_
  refine ww_iinc (j := 0) (v := 1) (lv' := [(2, .int 1), (1, .ref q_1), (0, .int 4)]) C dX11_models_22 rfl rfl rfl rfl ?_
  refine ww_goto (tgt := 7) C dX11_models_25 (by decide) ?_
  refine ww_iload_n C dX11_models_7 0 rfl rfl ?_
  refine ww_iload_n C dX11_models_8 2 rfl rfl ?_
  refine ww_icmp_ge_f (tgt := 28) C dX11_models_9 (by decide) (by decide) ?_
  refine ww_aload_n C dX11_models_12 1 rfl rfl ?_
  refine ww_iload_n C dX11_models_13 0 rfl rfl ?_
  refine ww_new (k' := 5) (n' := 132) C cn_X11_7 rfl dX11_models_14 (fun q_6 => ?_)
  refine ww_eq (ws' := [(q_1, .inl (E.2.1 6, 4, .inr (.inr (.inr (.inr f_5))))), (q_2, .inr (4, [.int 0, .int 0, .ref a_3, .ref b_4])), (a_3, .inl (E.2.1 1, 24, .inl (fun _ => 0))), (b_4, .inl (E.2.1 1, 96, .inl (fun _ => 0))), (q_6, .inr (4, [.int 0, .int 0, .null, .null]))]) ?_ rfl rfl rfl
  refine ww_dup C dX11_models_17 rfl ?_
  refine ww_cv (wr := [(q_1, .inl (E.2.1 6, 4, .inr (.inr (.inr (.inr f_5))))), (q_2, .inr (4, [.int 0, .int 0, .ref a_3, .ref b_4])), (a_3, .inl (E.2.1 1, 24, .inl (fun _ => 0))), (b_4, .inl (E.2.1 1, 96, .inl (fun _ => 0)))]) (k' := 7) (n' := 252) C (run_IN (As := []) (rest := [.ref q_6, .int 1, .ref q_1]) C (k_Model X.2.1 E q_6) mn_X4_init (List.mem_of_getElem? (i := 0) rfl) rfl rfl rfl rfl dX11_models_18) [4] [0, 1, 2, 3] rfl rfl rfl rfl (fun u hw => ?_)
  obtain ⟨a_7, b_8, rfl⟩ := hw
  refine ww_eq (ws' := [(q_1, .inl (E.2.1 6, 4, .inr (.inr (.inr (.inr f_5))))), (q_2, .inr (4, [.int 0, .int 0, .ref a_3, .ref b_4])), (a_3, .inl (E.2.1 1, 24, .inl (fun _ => 0))), (b_4, .inl (E.2.1 1, 96, .inl (fun _ => 0))), (q_6, .inr (4, [.int 0, .int 0, .ref a_7, .ref b_8])), (a_7, .inl (E.2.1 1, 24, .inl (fun _ => 0))), (b_8, .inl (E.2.1 1, 96, .inl (fun _ => 0)))]) ?_ rfl rfl rfl
  obtain ⟨f_9, ef_9⟩ : ∃ z : Nat → Option Nat, va_up f_5 1 (some q_6) = z := ⟨_, rfl⟩
  refine ww_ast (t0 := 6) (ws' := [(q_1, .inl (E.2.1 6, 4, .inr (.inr (.inr (.inr f_9))))), (q_2, .inr (4, [.int 0, .int 0, .ref a_3, .ref b_4])), (a_3, .inl (E.2.1 1, 24, .inl (fun _ => 0))), (b_4, .inl (E.2.1 1, 96, .inl (fun _ => 0))), (q_6, .inr (4, [.int 0, .int 0, .ref a_7, .ref b_8])), (a_7, .inl (E.2.1 1, 24, .inl (fun _ => 0))), (b_8, .inl (E.2.1 1, 96, .inl (fun _ => 0)))]) C 0 4 rfl rfl rfl rfl (vin rfl) ef_9 rfl dX11_models_21 ?_
  refine ww_iinc (j := 0) (v := 2) (lv' := [(2, .int 2), (1, .ref q_1), (0, .int 4)]) C dX11_models_22 rfl rfl rfl rfl ?_
  refine ww_goto (tgt := 7) C dX11_models_25 (by decide) ?_
  refine ww_iload_n C dX11_models_7 0 rfl rfl ?_
  refine ww_iload_n C dX11_models_8 2 rfl rfl ?_
  refine ww_icmp_ge_f (tgt := 28) C dX11_models_9 (by decide) (by decide) ?_
  refine ww_aload_n C dX11_models_12 1 rfl rfl ?_
  refine ww_iload_n C dX11_models_13 0 rfl rfl ?_
  refine ww_new (k' := 8) (n' := 256) C cn_X11_7 rfl dX11_models_14 (fun q_10 => ?_)
  refine ww_eq (ws' := [(q_1, .inl (E.2.1 6, 4, .inr (.inr (.inr (.inr f_9))))), (q_2, .inr (4, [.int 0, .int 0, .ref a_3, .ref b_4])), (a_3, .inl (E.2.1 1, 24, .inl (fun _ => 0))), (b_4, .inl (E.2.1 1, 96, .inl (fun _ => 0))), (q_6, .inr (4, [.int 0, .int 0, .ref a_7, .ref b_8])), (a_7, .inl (E.2.1 1, 24, .inl (fun _ => 0))), (b_8, .inl (E.2.1 1, 96, .inl (fun _ => 0))), (q_10, .inr (4, [.int 0, .int 0, .null, .null]))]) ?_ rfl rfl rfl
  refine ww_dup C dX11_models_17 rfl ?_
  refine ww_cv (wr := [(q_1, .inl (E.2.1 6, 4, .inr (.inr (.inr (.inr f_9))))), (q_2, .inr (4, [.int 0, .int 0, .ref a_3, .ref b_4])), (a_3, .inl (E.2.1 1, 24, .inl (fun _ => 0))), (b_4, .inl (E.2.1 1, 96, .inl (fun _ => 0))), (q_6, .inr (4, [.int 0, .int 0, .ref a_7, .ref b_8])), (a_7, .inl (E.2.1 1, 24, .inl (fun _ => 0))), (b_8, .inl (E.2.1 1, 96, .inl (fun _ => 0)))]) (k' := 10) (n' := 376) C (run_IN (As := []) (rest := [.ref q_10, .int 2, .ref q_1]) C (k_Model X.2.1 E q_10) mn_X4_init (List.mem_of_getElem? (i := 0) rfl) rfl rfl rfl rfl dX11_models_18) [7] [0, 1, 2, 3, 4, 5, 6] rfl rfl rfl rfl (fun u hw => ?_)
  obtain ⟨a_11, b_12, rfl⟩ := hw
  refine ww_eq (ws' := [(q_1, .inl (E.2.1 6, 4, .inr (.inr (.inr (.inr f_9))))), (q_2, .inr (4, [.int 0, .int 0, .ref a_3, .ref b_4])), (a_3, .inl (E.2.1 1, 24, .inl (fun _ => 0))), (b_4, .inl (E.2.1 1, 96, .inl (fun _ => 0))), (q_6, .inr (4, [.int 0, .int 0, .ref a_7, .ref b_8])), (a_7, .inl (E.2.1 1, 24, .inl (fun _ => 0))), (b_8, .inl (E.2.1 1, 96, .inl (fun _ => 0))), (q_10, .inr (4, [.int 0, .int 0, .ref a_11, .ref b_12])), (a_11, .inl (E.2.1 1, 24, .inl (fun _ => 0))), (b_12, .inl (E.2.1 1, 96, .inl (fun _ => 0)))]) ?_ rfl rfl rfl
  obtain ⟨f_13, ef_13⟩ : ∃ z : Nat → Option Nat, va_up f_9 2 (some q_10) = z := ⟨_, rfl⟩
  refine ww_ast (t0 := 6) (ws' := [(q_1, .inl (E.2.1 6, 4, .inr (.inr (.inr (.inr f_13))))), (q_2, .inr (4, [.int 0, .int 0, .ref a_3, .ref b_4])), (a_3, .inl (E.2.1 1, 24, .inl (fun _ => 0))), (b_4, .inl (E.2.1 1, 96, .inl (fun _ => 0))), (q_6, .inr (4, [.int 0, .int 0, .ref a_7, .ref b_8])), (a_7, .inl (E.2.1 1, 24, .inl (fun _ => 0))), (b_8, .inl (E.2.1 1, 96, .inl (fun _ => 0))), (q_10, .inr (4, [.int 0, .int 0, .ref a_11, .ref b_12])), (a_11, .inl (E.2.1 1, 24, .inl (fun _ => 0))), (b_12, .inl (E.2.1 1, 96, .inl (fun _ => 0)))]) C 0 7 rfl rfl rfl rfl (vin rfl) ef_13 rfl dX11_models_21 ?_
  refine ww_iinc (j := 0) (v := 3) (lv' := [(2, .int 3), (1, .ref q_1), (0, .int 4)]) C dX11_models_22 rfl rfl rfl rfl ?_
  refine ww_goto (tgt := 7) C dX11_models_25 (by decide) ?_
  refine ww_iload_n C dX11_models_7 0 rfl rfl ?_
  refine ww_iload_n C dX11_models_8 2 rfl rfl ?_
  refine ww_icmp_ge_f (tgt := 28) C dX11_models_9 (by decide) (by decide) ?_
  refine ww_aload_n C dX11_models_12 1 rfl rfl ?_
  refine ww_iload_n C dX11_models_13 0 rfl rfl ?_
  refine ww_new (k' := 11) (n' := 380) C cn_X11_7 rfl dX11_models_14 (fun q_14 => ?_)
  refine ww_eq (ws' := [(q_1, .inl (E.2.1 6, 4, .inr (.inr (.inr (.inr f_13))))), (q_2, .inr (4, [.int 0, .int 0, .ref a_3, .ref b_4])), (a_3, .inl (E.2.1 1, 24, .inl (fun _ => 0))), (b_4, .inl (E.2.1 1, 96, .inl (fun _ => 0))), (q_6, .inr (4, [.int 0, .int 0, .ref a_7, .ref b_8])), (a_7, .inl (E.2.1 1, 24, .inl (fun _ => 0))), (b_8, .inl (E.2.1 1, 96, .inl (fun _ => 0))), (q_10, .inr (4, [.int 0, .int 0, .ref a_11, .ref b_12])), (a_11, .inl (E.2.1 1, 24, .inl (fun _ => 0))), (b_12, .inl (E.2.1 1, 96, .inl (fun _ => 0))), (q_14, .inr (4, [.int 0, .int 0, .null, .null]))]) ?_ rfl rfl rfl
  refine ww_dup C dX11_models_17 rfl ?_
  refine ww_cv (wr := [(q_1, .inl (E.2.1 6, 4, .inr (.inr (.inr (.inr f_13))))), (q_2, .inr (4, [.int 0, .int 0, .ref a_3, .ref b_4])), (a_3, .inl (E.2.1 1, 24, .inl (fun _ => 0))), (b_4, .inl (E.2.1 1, 96, .inl (fun _ => 0))), (q_6, .inr (4, [.int 0, .int 0, .ref a_7, .ref b_8])), (a_7, .inl (E.2.1 1, 24, .inl (fun _ => 0))), (b_8, .inl (E.2.1 1, 96, .inl (fun _ => 0))), (q_10, .inr (4, [.int 0, .int 0, .ref a_11, .ref b_12])), (a_11, .inl (E.2.1 1, 24, .inl (fun _ => 0))), (b_12, .inl (E.2.1 1, 96, .inl (fun _ => 0)))]) (k' := 13) (n' := 500) C (run_IN (As := []) (rest := [.ref q_14, .int 3, .ref q_1]) C (k_Model X.2.1 E q_14) mn_X4_init (List.mem_of_getElem? (i := 0) rfl) rfl rfl rfl rfl dX11_models_18) [10] [0, 1, 2, 3, 4, 5, 6, 7, 8, 9] rfl rfl rfl rfl (fun u hw => ?_)
  obtain ⟨a_15, b_16, rfl⟩ := hw
  refine ww_eq (ws' := [(q_1, .inl (E.2.1 6, 4, .inr (.inr (.inr (.inr f_13))))), (q_2, .inr (4, [.int 0, .int 0, .ref a_3, .ref b_4])), (a_3, .inl (E.2.1 1, 24, .inl (fun _ => 0))), (b_4, .inl (E.2.1 1, 96, .inl (fun _ => 0))), (q_6, .inr (4, [.int 0, .int 0, .ref a_7, .ref b_8])), (a_7, .inl (E.2.1 1, 24, .inl (fun _ => 0))), (b_8, .inl (E.2.1 1, 96, .inl (fun _ => 0))), (q_10, .inr (4, [.int 0, .int 0, .ref a_11, .ref b_12])), (a_11, .inl (E.2.1 1, 24, .inl (fun _ => 0))), (b_12, .inl (E.2.1 1, 96, .inl (fun _ => 0))), (q_14, .inr (4, [.int 0, .int 0, .ref a_15, .ref b_16])), (a_15, .inl (E.2.1 1, 24, .inl (fun _ => 0))), (b_16, .inl (E.2.1 1, 96, .inl (fun _ => 0)))]) ?_ rfl rfl rfl
  obtain ⟨f_17, ef_17⟩ : ∃ z : Nat → Option Nat, va_up f_13 3 (some q_14) = z := ⟨_, rfl⟩
  refine ww_ast (t0 := 6) (ws' := [(q_1, .inl (E.2.1 6, 4, .inr (.inr (.inr (.inr f_17))))), (q_2, .inr (4, [.int 0, .int 0, .ref a_3, .ref b_4])), (a_3, .inl (E.2.1 1, 24, .inl (fun _ => 0))), (b_4, .inl (E.2.1 1, 96, .inl (fun _ => 0))), (q_6, .inr (4, [.int 0, .int 0, .ref a_7, .ref b_8])), (a_7, .inl (E.2.1 1, 24, .inl (fun _ => 0))), (b_8, .inl (E.2.1 1, 96, .inl (fun _ => 0))), (q_10, .inr (4, [.int 0, .int 0, .ref a_11, .ref b_12])), (a_11, .inl (E.2.1 1, 24, .inl (fun _ => 0))), (b_12, .inl (E.2.1 1, 96, .inl (fun _ => 0))), (q_14, .inr (4, [.int 0, .int 0, .ref a_15, .ref b_16])), (a_15, .inl (E.2.1 1, 24, .inl (fun _ => 0))), (b_16, .inl (E.2.1 1, 96, .inl (fun _ => 0)))]) C 0 10 rfl rfl rfl rfl (vin rfl) ef_17 rfl dX11_models_21 ?_
  refine ww_iinc (j := 0) (v := 4) (lv' := [(2, .int 4), (1, .ref q_1), (0, .int 4)]) C dX11_models_22 rfl rfl rfl rfl ?_
  refine ww_goto (tgt := 7) C dX11_models_25 (by decide) ?_
  refine ww_iload_n C dX11_models_7 0 rfl rfl ?_
  refine ww_iload_n C dX11_models_8 2 rfl rfl ?_
  refine ww_icmp_ge_t (tgt := 28) C dX11_models_9 (by decide) (by decide) ?_
  refine ww_aload_n C dX11_models_28 1 rfl rfl ?_
  refine ww_eq (st' := [va_rf (some q_1)]) ?_ rfl rfl rfl
  exact ww_qret (u := []) C hT (Or.inr ⟨_, rfl⟩) [] rfl rfl rfl rfl dX11_models_29 (⟨q_1, rfl, rfl⟩)
theorem dX11_init_0 : decode cX11_init 0 = .ok (.aload_n 0, 1) := by decide +kernel
theorem dX11_init_1 : decode cX11_init 1 = .ok (.invokespecial 1, 3) := by decide +kernel
theorem wl_X11_1 : Cond.methodLink RX11 1 objectInit ∈ TB := tbm (tq1 (List.mem_of_getElem? (i := 26) (by decide +kernel))) (by decide +kernel)
theorem dX11_init_4 : decode cX11_init 4 = .ok (.aload_n 0, 1) := by decide +kernel
theorem dX11_init_5 : decode cX11_init 5 = .ok (.new 7, 3) := by decide +kernel
theorem dX11_init_8 : decode cX11_init 8 = .ok (.dup, 1) := by decide +kernel
theorem dX11_init_9 : decode cX11_init 9 = .ok (.invokespecial 9, 3) := by decide +kernel
theorem dX11_init_12 : decode cX11_init 12 = .ok (.putfield 10, 3) := by decide +kernel
theorem uw_X11 : ∀ w ∈ u_ws RX11 TX11 15, w ∈ TB := uw_of [351, 353, 355, 357, 359, 361, 363, 365, 367, 369, 371, 373, 375, 377, 379] (by decide +kernel) (by decide +kernel)
theorem wf_X11_10 : Cond.fieldLink RX11 10 RX11 "now" "LWhoKnows$Model;" ∈ TB := tbm (tq2 (List.mem_of_getElem? (i := 96) (by decide +kernel))) (by decide +kernel)
theorem fp_X11_10 : FP RX11 10 11 0 (.object "WhoKnows$Model") true := ⟨RX11, TX11, 15, tyX11, uw_X11, wf_X11_10, rfl, by decide, rfl, tyX11_ok, nmX11, rfl, by decide +kernel⟩
theorem dX11_init_15 : decode cX11_init 15 = .ok (.aload_n 0, 1) := by decide +kernel
theorem dX11_init_16 : decode cX11_init 16 = .ok (.bipush 8, 2) := by decide +kernel
theorem dX11_init_18 : decode cX11_init 18 = .ok (.invokestatic 16, 3) := by decide +kernel
theorem wl_X11_16 : Cond.methodLink RX11 16 yX11_models ∈ TB := tbm (tq1 (List.mem_of_getElem? (i := 62) (by decide +kernel))) (by decide +kernel)
theorem wc_X11_models : Cond.code yX11_models cX11_models 3 (some (.array (.object "WhoKnows$Model"))) ∈ TB := tbm (tq1 (List.mem_of_getElem? (i := 64) (rfl))) (by decide +kernel)
theorem wn_X11 : Cond.initialized RX11 ∈ TB := tbm (tq1 (List.mem_of_getElem? (i := 1) (by decide +kernel))) (by decide +kernel)
theorem wt_X11_models : Cond.static yX11_models ∈ TB := tbm (tq1 (List.mem_of_getElem? (i := 63) (by decide +kernel))) (by decide +kernel)
theorem ms_X11_models : MS yX11_models cX11_models 3 (some (.array (.object "WhoKnows$Model"))) 1 := ⟨wc_X11_models, wn_X11, ⟨by decide +kernel, by decide +kernel, by decide +kernel⟩, wt_X11_models⟩
theorem dX11_init_21 : decode cX11_init 21 = .ok (.putfield 20, 3) := by decide +kernel
theorem wf_X11_20 : Cond.fieldLink RX11 20 RX11 "past" "[LWhoKnows$Model;" ∈ TB := tbm (tq2 (List.mem_of_getElem? (i := 97) (by decide +kernel))) (by decide +kernel)
theorem fp_X11_20 : FP RX11 20 11 1 (.array (.object "WhoKnows$Model")) true := ⟨RX11, TX11, 15, tyX11, uw_X11, wf_X11_20, rfl, by decide, rfl, tyX11_ok, nmX11, rfl, by decide +kernel⟩
theorem dX11_init_24 : decode cX11_init 24 = .ok (.aload_n 0, 1) := by decide +kernel
theorem dX11_init_25 : decode cX11_init 25 = .ok (.new 24, 3) := by decide +kernel
theorem wk_X11_24 : Cond.classLink RX11 24 RX5 ∈ TB := tbm (tq1 (List.mem_of_getElem? (i := 66) (by decide +kernel))) (by decide +kernel)
theorem wq_X5 : Cond.instantiable RX5 10 ∈ TB := tbm (tq1 (List.mem_of_getElem? (i := 67) (by decide +kernel))) (by decide +kernel)
theorem wn_X5 : Cond.initialized RX5 ∈ TB := tbm (tq1 (List.mem_of_getElem? (i := 3) (by decide +kernel))) (by decide +kernel)
theorem cn_X11_24 : CN RX11 24 5 10 [.null, .null, .null, .null, .null, .int 0, .int 0, .int 0, .int 0, .int 0] := ⟨RX5, TX5, tyX5, uw_X5, wk_X11_24, wq_X5, wn_X5, rfl, tyX5_ok, by decide +kernel⟩
theorem dX11_init_28 : decode cX11_init 28 = .ok (.dup, 1) := by decide +kernel
theorem dX11_init_29 : decode cX11_init 29 = .ok (.invokespecial 26, 3) := by decide +kernel
theorem wc_X5_init : Cond.code yX5_init cX5_init 1 none ∈ TB := tbm (tq1 (List.mem_of_getElem? (i := 70) (rfl))) (by decide +kernel)
theorem wi_X5_init : Cond.instanceMethod yX5_init ∈ TB := tbm (tq1 (List.mem_of_getElem? (i := 69) (by decide +kernel))) (by decide +kernel)
theorem mn_X5_init : MN yX5_init cX5_init 1 0 := ⟨wc_X5_init, wn_X5, ⟨by decide +kernel, by decide +kernel, by decide +kernel⟩, wi_X5_init, rfl⟩
theorem dX11_init_32 : decode cX11_init 32 = .ok (.putfield 27, 3) := by decide +kernel
theorem wf_X11_27 : Cond.fieldLink RX11 27 RX11 "parser" "LWhoKnows$Parser;" ∈ TB := tbm (tq2 (List.mem_of_getElem? (i := 100) (by decide +kernel))) (by decide +kernel)
theorem fp_X11_27 : FP RX11 27 11 4 (.object "WhoKnows$Parser") true := ⟨RX11, TX11, 15, tyX11, uw_X11, wf_X11_27, rfl, by decide, rfl, tyX11_ok, nmX11, rfl, by decide +kernel⟩
theorem dX11_init_35 : decode cX11_init 35 = .ok (.aload_n 0, 1) := by decide +kernel
theorem dX11_init_36 : decode cX11_init 36 = .ok (.new 31, 3) := by decide +kernel
theorem wk_X11_31 : Cond.classLink RX11 31 RX2 ∈ TB := tbm (tq1 (List.mem_of_getElem? (i := 132) (by decide +kernel))) (by decide +kernel)
theorem wq_X2 : Cond.instantiable RX2 4 ∈ TB := tbm (tq1 (List.mem_of_getElem? (i := 133) (by decide +kernel))) (by decide +kernel)
theorem wn_X2 : Cond.initialized RX2 ∈ TB := tbm (tq1 (List.mem_of_getElem? (i := 5) (by decide +kernel))) (by decide +kernel)
theorem cn_X11_31 : CN RX11 31 2 4 [.null, .null, .null, .null] := ⟨RX2, TX2, tyX2, uw_X2, wk_X11_31, wq_X2, wn_X2, rfl, tyX2_ok, by decide +kernel⟩
theorem dX11_init_39 : decode cX11_init 39 = .ok (.dup, 1) := by decide +kernel
theorem dX11_init_40 : decode cX11_init 40 = .ok (.invokespecial 33, 3) := by decide +kernel
theorem wl_X11_33 : Cond.methodLink RX11 33 yX2_init ∈ TB := tbm (tq1 (List.mem_of_getElem? (i := 134) (by decide +kernel))) (by decide +kernel)
theorem wc_X2_init : Cond.code yX2_init cX2_init 2 none ∈ TB := tbm (tq1 (List.mem_of_getElem? (i := 136) (rfl))) (by decide +kernel)
theorem wi_X2_init : Cond.instanceMethod yX2_init ∈ TB := tbm (tq1 (List.mem_of_getElem? (i := 135) (by decide +kernel))) (by decide +kernel)
theorem mn_X2_init : MN yX2_init cX2_init 2 0 := ⟨wc_X2_init, wn_X2, ⟨by decide +kernel, by decide +kernel, by decide +kernel⟩, wi_X2_init, rfl⟩
theorem dX11_init_43 : decode cX11_init 43 = .ok (.putfield 34, 3) := by decide +kernel
theorem wf_X11_34 : Cond.fieldLink RX11 34 RX11 "judge" "LWhoKnows$Judge;" ∈ TB := tbm (tq2 (List.mem_of_getElem? (i := 101) (by decide +kernel))) (by decide +kernel)
theorem fp_X11_34 : FP RX11 34 11 5 (.object "WhoKnows$Judge") true := ⟨RX11, TX11, 15, tyX11, uw_X11, wf_X11_34, rfl, by decide, rfl, tyX11_ok, nmX11, rfl, by decide +kernel⟩
theorem dX11_init_46 : decode cX11_init 46 = .ok (.aload_n 0, 1) := by decide +kernel
theorem dX11_init_47 : decode cX11_init 47 = .ok (.new 38, 3) := by decide +kernel
theorem wk_X11_38 : Cond.classLink RX11 38 RX3 ∈ TB := tbm (tq1 (List.mem_of_getElem? (i := 229) (by decide +kernel))) (by decide +kernel)
theorem cn_X11_38 : CN RX11 38 3 6 [.null, .int 0, .int 0, .null, .null, .null] := ⟨RX3, TX3, tyX3, uw_X3, wk_X11_38, wq_X3, wn_X3, rfl, tyX3_ok, by decide +kernel⟩
theorem dX11_init_50 : decode cX11_init 50 = .ok (.dup, 1) := by decide +kernel
theorem dX11_init_51 : decode cX11_init 51 = .ok (.invokespecial 40, 3) := by decide +kernel
theorem dX11_init_54 : decode cX11_init 54 = .ok (.putfield 41, 3) := by decide +kernel
theorem wf_X11_41 : Cond.fieldLink RX11 41 RX11 "layer" "LWhoKnows$Layer;" ∈ TB := tbm (tq2 (List.mem_of_getElem? (i := 102) (by decide +kernel))) (by decide +kernel)
theorem fp_X11_41 : FP RX11 41 11 6 (.object "WhoKnows$Layer") true := ⟨RX11, TX11, 15, tyX11, uw_X11, wf_X11_41, rfl, by decide, rfl, tyX11_ok, nmX11, rfl, by decide +kernel⟩
theorem dX11_init_57 : decode cX11_init 57 = .ok (.aload_n 0, 1) := by decide +kernel
theorem dX11_init_58 : decode cX11_init 58 = .ok (.new 45, 3) := by decide +kernel
theorem wk_X11_45 : Cond.classLink RX11 45 RX1 ∈ TB := tbm (tq1 (List.mem_of_getElem? (i := 231) (by decide +kernel))) (by decide +kernel)
theorem wq_X1 : Cond.instantiable RX1 6 ∈ TB := tbm (tq1 (List.mem_of_getElem? (i := 232) (by decide +kernel))) (by decide +kernel)
theorem wn_X1 : Cond.initialized RX1 ∈ TB := tbm (tq1 (List.mem_of_getElem? (i := 8) (by decide +kernel))) (by decide +kernel)
theorem cn_X11_45 : CN RX11 45 1 6 [.null, .null, .int 0, .null, .null, .null] := ⟨RX1, TX1, tyX1, uw_X1, wk_X11_45, wq_X1, wn_X1, rfl, tyX1_ok, by decide +kernel⟩
theorem dX11_init_61 : decode cX11_init 61 = .ok (.dup, 1) := by decide +kernel
theorem dX11_init_62 : decode cX11_init 62 = .ok (.invokespecial 47, 3) := by decide +kernel
theorem wc_X1_init : Cond.code yX1_init cX1_init 1 none ∈ TB := tbm (tq1 (List.mem_of_getElem? (i := 235) (rfl))) (by decide +kernel)
theorem wi_X1_init : Cond.instanceMethod yX1_init ∈ TB := tbm (tq1 (List.mem_of_getElem? (i := 234) (by decide +kernel))) (by decide +kernel)
theorem mn_X1_init : MN yX1_init cX1_init 1 0 := ⟨wc_X1_init, wn_X1, ⟨by decide +kernel, by decide +kernel, by decide +kernel⟩, wi_X1_init, rfl⟩
theorem dX11_init_65 : decode cX11_init 65 = .ok (.putfield 48, 3) := by decide +kernel
theorem wf_X11_48 : Cond.fieldLink RX11 48 RX11 "heaps" "LWhoKnows$Heaps;" ∈ TB := tbm (tq2 (List.mem_of_getElem? (i := 103) (by decide +kernel))) (by decide +kernel)
theorem fp_X11_48 : FP RX11 48 11 7 (.object "WhoKnows$Heaps") true := ⟨RX11, TX11, 15, tyX11, uw_X11, wf_X11_48, rfl, by decide, rfl, tyX11_ok, nmX11, rfl, by decide +kernel⟩
theorem dX11_init_68 : decode cX11_init 68 = .ok (.aload_n 0, 1) := by decide +kernel
theorem dX11_init_69 : decode cX11_init 69 = .ok (.iconst 4, 1) := by decide +kernel
theorem dX11_init_70 : decode cX11_init 70 = .ok (.invokestatic 16, 3) := by decide +kernel
theorem dX11_init_73 : decode cX11_init 73 = .ok (.putfield 52, 3) := by decide +kernel
theorem wf_X11_52 : Cond.fieldLink RX11 52 RX11 "kept" "[LWhoKnows$Model;" ∈ TB := tbm (tq2 (List.mem_of_getElem? (i := 104) (by decide +kernel))) (by decide +kernel)
theorem fp_X11_52 : FP RX11 52 11 8 (.array (.object "WhoKnows$Model")) true := ⟨RX11, TX11, 15, tyX11, uw_X11, wf_X11_52, rfl, by decide, rfl, tyX11_ok, nmX11, rfl, by decide +kernel⟩
theorem dX11_init_76 : decode cX11_init 76 = .ok (.aload_n 0, 1) := by decide +kernel
theorem dX11_init_77 : decode cX11_init 77 = .ok (.new 55, 3) := by decide +kernel
theorem wk_X11_55 : Cond.classLink RX11 55 RX7 ∈ TB := tbm (tq2 (List.mem_of_getElem? (i := 18) (by decide +kernel))) (by decide +kernel)
theorem wq_X7 : Cond.instantiable RX7 5 ∈ TB := tbm (tq2 (List.mem_of_getElem? (i := 19) (by decide +kernel))) (by decide +kernel)
theorem wn_X7 : Cond.initialized RX7 ∈ TB := tbm (tq1 (List.mem_of_getElem? (i := 9) (by decide +kernel))) (by decide +kernel)
theorem cn_X11_55 : CN RX11 55 7 5 [.null, .null, .int 0, .int 0, .int 0] := ⟨RX7, TX7, tyX7, uw_X7, wk_X11_55, wq_X7, wn_X7, rfl, tyX7_ok, by decide +kernel⟩
theorem dX11_init_80 : decode cX11_init 80 = .ok (.dup, 1) := by decide +kernel
theorem dX11_init_81 : decode cX11_init 81 = .ok (.invokespecial 57, 3) := by decide +kernel
theorem wc_X7_init : Cond.code yX7_init cX7_init 1 none ∈ TB := tbm (tq2 (List.mem_of_getElem? (i := 22) (rfl))) (by decide +kernel)
theorem wi_X7_init : Cond.instanceMethod yX7_init ∈ TB := tbm (tq2 (List.mem_of_getElem? (i := 21) (by decide +kernel))) (by decide +kernel)
theorem mn_X7_init : MN yX7_init cX7_init 1 0 := ⟨wc_X7_init, wn_X7, ⟨by decide +kernel, by decide +kernel, by decide +kernel⟩, wi_X7_init, rfl⟩
theorem dX11_init_84 : decode cX11_init 84 = .ok (.putfield 58, 3) := by decide +kernel
theorem wf_X11_58 : Cond.fieldLink RX11 58 RX11 "rounds" "LWhoKnows$Rounds;" ∈ TB := tbm (tq2 (List.mem_of_getElem? (i := 106) (by decide +kernel))) (by decide +kernel)
theorem fp_X11_58 : FP RX11 58 11 10 (.object "WhoKnows$Rounds") true := ⟨RX11, TX11, 15, tyX11, uw_X11, wf_X11_58, rfl, by decide, rfl, tyX11_ok, nmX11, rfl, by decide +kernel⟩
theorem dX11_init_87 : decode cX11_init 87 = .ok (.aload_n 0, 1) := by decide +kernel
theorem dX11_init_88 : decode cX11_init 88 = .ok (.new 62, 3) := by decide +kernel
theorem wk_X11_62 : Cond.classLink RX11 62 RX6 ∈ TB := tbm (tq2 (List.mem_of_getElem? (i := 47) (by decide +kernel))) (by decide +kernel)
theorem wq_X6 : Cond.instantiable RX6 5 ∈ TB := tbm (tq2 (List.mem_of_getElem? (i := 48) (by decide +kernel))) (by decide +kernel)
theorem wn_X6 : Cond.initialized RX6 ∈ TB := tbm (tq1 (List.mem_of_getElem? (i := 10) (by decide +kernel))) (by decide +kernel)
theorem cn_X11_62 : CN RX11 62 6 5 [.null, .null, .null, .int 0, .int 0] := ⟨RX6, TX6, tyX6, uw_X6, wk_X11_62, wq_X6, wn_X6, rfl, tyX6_ok, by decide +kernel⟩
theorem dX11_init_91 : decode cX11_init 91 = .ok (.dup, 1) := by decide +kernel
theorem dX11_init_92 : decode cX11_init 92 = .ok (.invokespecial 64, 3) := by decide +kernel
theorem wl_X11_64 : Cond.methodLink RX11 64 yX6_init ∈ TB := tbm (tq2 (List.mem_of_getElem? (i := 49) (by decide +kernel))) (by decide +kernel)
theorem wc_X6_init : Cond.code yX6_init cX6_init 2 none ∈ TB := tbm (tq2 (List.mem_of_getElem? (i := 51) (rfl))) (by decide +kernel)
theorem wi_X6_init : Cond.instanceMethod yX6_init ∈ TB := tbm (tq2 (List.mem_of_getElem? (i := 50) (by decide +kernel))) (by decide +kernel)
theorem mn_X6_init : MN yX6_init cX6_init 2 0 := ⟨wc_X6_init, wn_X6, ⟨by decide +kernel, by decide +kernel, by decide +kernel⟩, wi_X6_init, rfl⟩
theorem dX11_init_95 : decode cX11_init 95 = .ok (.putfield 65, 3) := by decide +kernel
theorem wf_X11_65 : Cond.fieldLink RX11 65 RX11 "planner" "LWhoKnows$Planner;" ∈ TB := tbm (tq2 (List.mem_of_getElem? (i := 107) (by decide +kernel))) (by decide +kernel)
theorem fp_X11_65 : FP RX11 65 11 11 (.object "WhoKnows$Planner") true := ⟨RX11, TX11, 15, tyX11, uw_X11, wf_X11_65, rfl, by decide, rfl, tyX11_ok, nmX11, rfl, by decide +kernel⟩
theorem dX11_init_98 : decode cX11_init 98 = .ok (.aload_n 0, 1) := by decide +kernel
theorem dX11_init_99 : decode cX11_init 99 = .ok (.iconst 4, 1) := by decide +kernel
theorem dX11_init_100 : decode cX11_init 100 = .ok (.anewarray 69, 3) := by decide +kernel
theorem wk_X11_69 : Cond.classLink RX11 69 RX9 ∈ TB := tbm (tq2 (List.mem_of_getElem? (i := 73) (by decide +kernel))) (by decide +kernel)
theorem dX11_init_103 : decode cX11_init 103 = .ok (.putfield 71, 3) := by decide +kernel
theorem wf_X11_71 : Cond.fieldLink RX11 71 RX11 "sheets" "[LWhoKnows$Sheet;" ∈ TB := tbm (tq2 (List.mem_of_getElem? (i := 110) (by decide +kernel))) (by decide +kernel)
theorem fp_X11_71 : FP RX11 71 11 14 (.array (.object "WhoKnows$Sheet")) true := ⟨RX11, TX11, 15, tyX11, uw_X11, wf_X11_71, rfl, by decide, rfl, tyX11_ok, nmX11, rfl, by decide +kernel⟩
theorem dX11_init_106 : decode cX11_init 106 = .ok (.iconst 0, 1) := by decide +kernel
theorem dX11_init_107 : decode cX11_init 107 = .ok (.istore_n 1, 1) := by decide +kernel
theorem dX11_init_108 : decode cX11_init 108 = .ok (.iload_n 1, 1) := by decide +kernel
theorem dX11_init_109 : decode cX11_init 109 = .ok (.iconst 4, 1) := by decide +kernel
theorem dX11_init_110 : decode cX11_init 110 = .ok (.if_icmp .ge 22, 3) := by decide +kernel
theorem dX11_init_113 : decode cX11_init 113 = .ok (.aload_n 0, 1) := by decide +kernel
theorem dX11_init_114 : decode cX11_init 114 = .ok (.getfield 71, 3) := by decide +kernel
theorem fg_X11_71 : FG RX11 71 11 14 := ⟨RX11, TX11, 15, uw_X11, wf_X11_71, rfl, by decide, rfl⟩
theorem dX11_init_117 : decode cX11_init 117 = .ok (.iload_n 1, 1) := by decide +kernel
theorem dX11_init_118 : decode cX11_init 118 = .ok (.new 69, 3) := by decide +kernel
theorem wq_X9 : Cond.instantiable RX9 4 ∈ TB := tbm (tq2 (List.mem_of_getElem? (i := 75) (by decide +kernel))) (by decide +kernel)
theorem wn_X9 : Cond.initialized RX9 ∈ TB := tbm (tq1 (List.mem_of_getElem? (i := 11) (by decide +kernel))) (by decide +kernel)
theorem cn_X11_69 : CN RX11 69 9 4 [.int 0, .int 0, .int 0, .null] := ⟨RX9, TX9, tyX9, uw_X9, wk_X11_69, wq_X9, wn_X9, rfl, tyX9_ok, by decide +kernel⟩
theorem dX11_init_121 : decode cX11_init 121 = .ok (.dup, 1) := by decide +kernel
theorem dX11_init_122 : decode cX11_init 122 = .ok (.invokespecial 75, 3) := by decide +kernel
theorem wc_X9_init : Cond.code yX9_init cX9_init 1 none ∈ TB := tbm (tq2 (List.mem_of_getElem? (i := 78) (rfl))) (by decide +kernel)
theorem wi_X9_init : Cond.instanceMethod yX9_init ∈ TB := tbm (tq2 (List.mem_of_getElem? (i := 77) (by decide +kernel))) (by decide +kernel)
theorem mn_X9_init : MN yX9_init cX9_init 1 0 := ⟨wc_X9_init, wn_X9, ⟨by decide +kernel, by decide +kernel, by decide +kernel⟩, wi_X9_init, rfl⟩
theorem dX11_init_125 : decode cX11_init 125 = .ok (.aastore, 1) := by decide +kernel
theorem dX11_init_126 : decode cX11_init 126 = .ok (.iinc 1 1, 3) := by decide +kernel
theorem dX11_init_129 : decode cX11_init 129 = .ok (.goto (-21), 3) := by decide +kernel
theorem dX11_init_132 : decode cX11_init 132 = .ok (.return_, 1) := by decide +kernel
set_option maxRecDepth 100000 in
set_option maxHeartbeats 4000000 in
theorem k_WhoKnows (l : Launch) (E : EV) (hx : Nat)  : CT l yX11_init (Cond.code yX11_init cX11_init 2 none :: TB) ({ frames := 4, cells := 135, slots := 3822, locals := 73 }) E [.ref hx] [(hx, .inr (11, [.null, .null, .int 0, .int 0, .null, .null, .null, .null, .null, .int 0, .null, .null, .int 0, .int 0, .null]))] (Qv E (fun u => (∃ (qn : Nat) (qp : Nat) (qs : Nat) (qj : Nat) (ql : Nat) (qh : Nat) (qk : Nat) (qr : Nat) (qg : Nat) (qsh : Nat) (nf : Nat) (np : Nat) (fp : Nat → Option Nat) (pm : Nat) (pf : Nat) (pp : Nat) (qt : Nat) (sa : Nat) (sb : Nat) (sc : Nat) (sd : Nat) (tb : Nat) (jt : Nat) (je : Nat) (ju : Nat) (ja : Nat) (fe : Nat → Option Nat) (e0 : Nat) (e0a : Nat) (e0b : Nat) (e0c : Nat) (e0d : Nat) (e1 : Nat) (e1a : Nat) (e1b : Nat) (e1c : Nat) (e1d : Nat) (e2 : Nat) (e2a : Nat) (e2b : Nat) (e2c : Nat) (e2d : Nat) (e3 : Nat) (e3a : Nat) (e3b : Nat) (e3c : Nat) (e3d : Nat) (ha : Nat) (hb : Nat) (hc : Nat) (fs : Nat → Option Nat) (s0 : Nat) (s0c : Nat) (s1 : Nat) (s1c : Nat) (s2 : Nat) (s2c : Nat) (s3 : Nat) (s3c : Nat), u = [(hx, .inr (11, [.ref qn, .ref qp, .int 0, .int 0, .ref qs, .ref qj, .ref ql, .ref qh, .ref qk, .int 0, .ref qr, .ref qg, .int 0, .int 0, .ref qsh])), (qn, .inr (4, [.int 0, .int 0, .ref nf, .ref np])), (nf, .inl (E.2.1 1, 24, .inl (fun _ => 0))), (np, .inl (E.2.1 1, 96, .inl (fun _ => 0))), (qp, .inl (E.2.1 6, 8, .inr (.inr (.inr (.inr fp))))), (pm, .inr (4, [.int 0, .int 0, .ref pf, .ref pp])), (pf, .inl (E.2.1 1, 24, .inl (fun _ => 0))), (pp, .inl (E.2.1 1, 96, .inl (fun _ => 0))), (qs, .inr (5, [.ref qt, .ref sa, .ref sb, .ref sc, .ref sd, .int 0, .int 0, .int 0, .int 0, .int 0])), (qt, .inr (10, [.ref tb, .int 0, .int 0, .int 0, .int 0])), (tb, .inl (E.2.1 0, 160, .inl (fun _ => 0))), (qj, .inr (2, [.ref jt, .ref je, .ref ju, .ref ja])), (jt, .inl (E.2.1 7, 8, .inr (.inr (.inr (.inr (fun _ => none)))))), (je, .inl (E.2.1 4, 4, .inr (.inr (.inr (.inr fe))))), (e0, .inr (0, [.int 0, .int 0, .ref e0a, .ref e0b, .ref e0c, .ref e0d])), (e0a, .inl (E.2.1 7, 4, .inr (.inr (.inr (.inr (fun _ => none)))))), (e0b, .inl (E.2.1 1, 4, .inl (fun _ => 0))), (e0c, .inl (E.2.1 1, 4, .inl (fun _ => 0))), (e0d, .inl (E.2.1 1, 16, .inl (fun _ => 0))), (e1, .inr (0, [.int 0, .int 0, .ref e1a, .ref e1b, .ref e1c, .ref e1d])), (e1a, .inl (E.2.1 7, 4, .inr (.inr (.inr (.inr (fun _ => none)))))), (e1b, .inl (E.2.1 1, 4, .inl (fun _ => 0))), (e1c, .inl (E.2.1 1, 4, .inl (fun _ => 0))), (e1d, .inl (E.2.1 1, 16, .inl (fun _ => 0))), (e2, .inr (0, [.int 0, .int 0, .ref e2a, .ref e2b, .ref e2c, .ref e2d])), (e2a, .inl (E.2.1 7, 4, .inr (.inr (.inr (.inr (fun _ => none)))))), (e2b, .inl (E.2.1 1, 4, .inl (fun _ => 0))), (e2c, .inl (E.2.1 1, 4, .inl (fun _ => 0))), (e2d, .inl (E.2.1 1, 16, .inl (fun _ => 0))), (e3, .inr (0, [.int 0, .int 0, .ref e3a, .ref e3b, .ref e3c, .ref e3d])), (e3a, .inl (E.2.1 7, 4, .inr (.inr (.inr (.inr (fun _ => none)))))), (e3b, .inl (E.2.1 1, 4, .inl (fun _ => 0))), (e3c, .inl (E.2.1 1, 4, .inl (fun _ => 0))), (e3d, .inl (E.2.1 1, 16, .inl (fun _ => 0))), (qh, .inr (1, [.null, .null, .int 0, .ref ha, .ref hb, .ref hc])), (qsh, .inl (E.2.1 8, 4, .inr (.inr (.inr (.inr fs))))), (s0, .inr (9, [.int 0, .int 0, .int 0, .ref s0c])), (s0c, .inl (E.2.1 1, 48, .inl (fun _ => 0))), (s1, .inr (9, [.int 0, .int 0, .int 0, .ref s1c])), (s1c, .inl (E.2.1 1, 48, .inl (fun _ => 0))), (s2, .inr (9, [.int 0, .int 0, .int 0, .ref s2c])), (s2c, .inl (E.2.1 1, 48, .inl (fun _ => 0))), (s3, .inr (9, [.int 0, .int 0, .int 0, .ref s3c])), (s3c, .inl (E.2.1 1, 48, .inl (fun _ => 0)))] ∧ (fp 0 = some pm) ∧ (fe 0 = some e0) ∧ (fe 1 = some e1) ∧ (fe 2 = some e2) ∧ (fe 3 = some e3) ∧ (fs 0 = some s0) ∧ (fs 1 = some s1) ∧ (fs 2 = some s2) ∧ (fs 3 = some s3)))) 135 3822 := by
  refine ct_of rfl rfl ?_
  intro X C hT hin
  show WW X 2 E 0 [(0, .ref hx)] [] [(hx, .inr (11, [.null, .null, .int 0, .int 0, .null, .null, .null, .null, .null, .int 0, .null, .null, .int 0, .int 0, .null]))] 0 0
  refine ww_aload_n C dX11_init_0 0 rfl rfl ?_
  refine ww_objInit C wl_X11_1 wi_obj wc_obj rfl dX11_init_1 ?_
  refine ww_aload_n C dX11_init_4 0 rfl rfl ?_
  refine ww_new (k' := 1) (n' := 4) C cn_X11_7 rfl dX11_init_5 (fun q_1 => ?_)
  refine ww_eq (ws' := [(hx, .inr (11, [.null, .null, .int 0, .int 0, .null, .null, .null, .null, .null, .int 0, .null, .null, .int 0, .int 0, .null])), (q_1, .inr (4, [.int 0, .int 0, .null, .null]))]) ?_ rfl rfl rfl
  refine ww_dup C dX11_init_8 rfl ?_
  refine ww_cv (wr := [(hx, .inr (11, [.null, .null, .int 0, .int 0, .null, .null, .null, .null, .null, .int 0, .null, .null, .int 0, .int 0, .null]))]) (k' := 3) (n' := 124) C (run_IN (As := []) (rest := [.ref q_1, .ref hx]) C (k_Model X.2.1 E q_1) mn_X4_init (List.mem_of_getElem? (i := 0) rfl) rfl rfl rfl rfl dX11_init_9) [1] [0] rfl rfl rfl rfl (fun u hw => ?_)
  obtain ⟨a_2, b_3, rfl⟩ := hw
  refine ww_eq (ws' := [(hx, .inr (11, [.null, .null, .int 0, .int 0, .null, .null, .null, .null, .null, .int 0, .null, .null, .int 0, .int 0, .null])), (q_1, .inr (4, [.int 0, .int 0, .ref a_2, .ref b_3])), (a_2, .inl (E.2.1 1, 24, .inl (fun _ => 0))), (b_3, .inl (E.2.1 1, 96, .inl (fun _ => 0)))]) ?_ rfl rfl rfl
  refine ww_putF (ws' := [(hx, .inr (11, [.ref q_1, .null, .int 0, .int 0, .null, .null, .null, .null, .null, .int 0, .null, .null, .int 0, .int 0, .null])), (q_1, .inr (4, [.int 0, .int 0, .ref a_2, .ref b_3])), (a_2, .inl (E.2.1 1, 24, .inl (fun _ => 0))), (b_3, .inl (E.2.1 1, 96, .inl (fun _ => 0)))]) C fp_X11_10 hin ⟨_, _, rfl⟩ 0 rfl rfl rfl rfl rfl dX11_init_12 ?_
  refine ww_aload_n C dX11_init_15 0 rfl rfl ?_
  refine ww_bipush (v := 8) C dX11_init_16 rfl ?_
  refine ww_cq (wr := [(hx, .inr (11, [.ref q_1, .null, .int 0, .int 0, .null, .null, .null, .null, .null, .int 0, .null, .null, .int 0, .int 0, .null])), (q_1, .inr (4, [.int 0, .int 0, .ref a_2, .ref b_3])), (a_2, .inl (E.2.1 1, 24, .inl (fun _ => 0))), (b_3, .inl (E.2.1 1, 96, .inl (fun _ => 0)))]) (k' := 28) (n' := 1124) C (run_S (As := [.int 8]) (rest := [.ref hx]) C (k_models8 X.2.1 E ) ms_X11_models wl_X11_16 rfl rfl rfl rfl dX11_init_18) [] [0, 1, 2, 3] rfl rfl rfl rfl (fun r u hw => ?_)
  obtain ⟨a_4, fp_5, m_6, x_7, y_8, rfl, rfl, h_9⟩ := hw
  refine ww_eq (st' := [.ref a_4, .ref hx]) (ws' := [(hx, .inr (11, [.ref q_1, .null, .int 0, .int 0, .null, .null, .null, .null, .null, .int 0, .null, .null, .int 0, .int 0, .null])), (q_1, .inr (4, [.int 0, .int 0, .ref a_2, .ref b_3])), (a_2, .inl (E.2.1 1, 24, .inl (fun _ => 0))), (b_3, .inl (E.2.1 1, 96, .inl (fun _ => 0))), (a_4, .inl (E.2.1 6, 8, .inr (.inr (.inr (.inr fp_5))))), (m_6, .inr (4, [.int 0, .int 0, .ref x_7, .ref y_8])), (x_7, .inl (E.2.1 1, 24, .inl (fun _ => 0))), (y_8, .inl (E.2.1 1, 96, .inl (fun _ => 0)))]) ?_ rfl rfl rfl
  refine ww_putF (ws' := [(hx, .inr (11, [.ref q_1, .ref a_4, .int 0, .int 0, .null, .null, .null, .null, .null, .int 0, .null, .null, .int 0, .int 0, .null])), (q_1, .inr (4, [.int 0, .int 0, .ref a_2, .ref b_3])), (a_2, .inl (E.2.1 1, 24, .inl (fun _ => 0))), (b_3, .inl (E.2.1 1, 96, .inl (fun _ => 0))), (a_4, .inl (E.2.1 6, 8, .inr (.inr (.inr (.inr fp_5))))), (m_6, .inr (4, [.int 0, .int 0, .ref x_7, .ref y_8])), (x_7, .inl (E.2.1 1, 24, .inl (fun _ => 0))), (y_8, .inl (E.2.1 1, 96, .inl (fun _ => 0)))]) C fp_X11_20 hin ⟨_, _, rfl⟩ 0 rfl rfl rfl rfl rfl dX11_init_21 ?_
  refine ww_aload_n C dX11_init_24 0 rfl rfl ?_
  refine ww_new (k' := 29) (n' := 1134) C cn_X11_24 rfl dX11_init_25 (fun q_10 => ?_)
  refine ww_eq (ws' := [(hx, .inr (11, [.ref q_1, .ref a_4, .int 0, .int 0, .null, .null, .null, .null, .null, .int 0, .null, .null, .int 0, .int 0, .null])), (q_1, .inr (4, [.int 0, .int 0, .ref a_2, .ref b_3])), (a_2, .inl (E.2.1 1, 24, .inl (fun _ => 0))), (b_3, .inl (E.2.1 1, 96, .inl (fun _ => 0))), (a_4, .inl (E.2.1 6, 8, .inr (.inr (.inr (.inr fp_5))))), (m_6, .inr (4, [.int 0, .int 0, .ref x_7, .ref y_8])), (x_7, .inl (E.2.1 1, 24, .inl (fun _ => 0))), (y_8, .inl (E.2.1 1, 96, .inl (fun _ => 0))), (q_10, .inr (5, [.null, .null, .null, .null, .null, .int 0, .int 0, .int 0, .int 0, .int 0]))]) ?_ rfl rfl rfl
  refine ww_dup C dX11_init_28 rfl ?_
  refine ww_cv (wr := [(hx, .inr (11, [.ref q_1, .ref a_4, .int 0, .int 0, .null, .null, .null, .null, .null, .int 0, .null, .null, .int 0, .int 0, .null])), (q_1, .inr (4, [.int 0, .int 0, .ref a_2, .ref b_3])), (a_2, .inl (E.2.1 1, 24, .inl (fun _ => 0))), (b_3, .inl (E.2.1 1, 96, .inl (fun _ => 0))), (a_4, .inl (E.2.1 6, 8, .inr (.inr (.inr (.inr fp_5))))), (m_6, .inr (4, [.int 0, .int 0, .ref x_7, .ref y_8])), (x_7, .inl (E.2.1 1, 24, .inl (fun _ => 0))), (y_8, .inl (E.2.1 1, 96, .inl (fun _ => 0)))]) (k' := 35) (n' := 1397) C (run_IN (As := []) (rest := [.ref q_10, .ref hx]) C (k_Parser X.2.1 E q_10) mn_X5_init (List.mem_of_getElem? (i := 1) rfl) rfl rfl rfl rfl dX11_init_29) [8] [0, 1, 2, 3, 4, 5, 6, 7] rfl rfl rfl rfl (fun u hw => ?_)
  obtain ⟨t_11, a_12, b_13, c_14, d_15, tb_16, rfl⟩ := hw
  refine ww_eq (ws' := [(hx, .inr (11, [.ref q_1, .ref a_4, .int 0, .int 0, .null, .null, .null, .null, .null, .int 0, .null, .null, .int 0, .int 0, .null])), (q_1, .inr (4, [.int 0, .int 0, .ref a_2, .ref b_3])), (a_2, .inl (E.2.1 1, 24, .inl (fun _ => 0))), (b_3, .inl (E.2.1 1, 96, .inl (fun _ => 0))), (a_4, .inl (E.2.1 6, 8, .inr (.inr (.inr (.inr fp_5))))), (m_6, .inr (4, [.int 0, .int 0, .ref x_7, .ref y_8])), (x_7, .inl (E.2.1 1, 24, .inl (fun _ => 0))), (y_8, .inl (E.2.1 1, 96, .inl (fun _ => 0))), (q_10, .inr (5, [.ref t_11, .ref a_12, .ref b_13, .ref c_14, .ref d_15, .int 0, .int 0, .int 0, .int 0, .int 0])), (t_11, .inr (10, [.ref tb_16, .int 0, .int 0, .int 0, .int 0])), (tb_16, .inl (E.2.1 0, 160, .inl (fun _ => 0)))]) ?_ rfl rfl rfl
  refine ww_putF (ws' := [(hx, .inr (11, [.ref q_1, .ref a_4, .int 0, .int 0, .ref q_10, .null, .null, .null, .null, .int 0, .null, .null, .int 0, .int 0, .null])), (q_1, .inr (4, [.int 0, .int 0, .ref a_2, .ref b_3])), (a_2, .inl (E.2.1 1, 24, .inl (fun _ => 0))), (b_3, .inl (E.2.1 1, 96, .inl (fun _ => 0))), (a_4, .inl (E.2.1 6, 8, .inr (.inr (.inr (.inr fp_5))))), (m_6, .inr (4, [.int 0, .int 0, .ref x_7, .ref y_8])), (x_7, .inl (E.2.1 1, 24, .inl (fun _ => 0))), (y_8, .inl (E.2.1 1, 96, .inl (fun _ => 0))), (q_10, .inr (5, [.ref t_11, .ref a_12, .ref b_13, .ref c_14, .ref d_15, .int 0, .int 0, .int 0, .int 0, .int 0])), (t_11, .inr (10, [.ref tb_16, .int 0, .int 0, .int 0, .int 0])), (tb_16, .inl (E.2.1 0, 160, .inl (fun _ => 0)))]) C fp_X11_27 hin ⟨_, _, rfl⟩ 0 rfl rfl rfl rfl rfl dX11_init_32 ?_
  refine ww_aload_n C dX11_init_35 0 rfl rfl ?_
  refine ww_new (k' := 36) (n' := 1401) C cn_X11_31 rfl dX11_init_36 (fun q_17 => ?_)
  refine ww_eq (ws' := [(hx, .inr (11, [.ref q_1, .ref a_4, .int 0, .int 0, .ref q_10, .null, .null, .null, .null, .int 0, .null, .null, .int 0, .int 0, .null])), (q_1, .inr (4, [.int 0, .int 0, .ref a_2, .ref b_3])), (a_2, .inl (E.2.1 1, 24, .inl (fun _ => 0))), (b_3, .inl (E.2.1 1, 96, .inl (fun _ => 0))), (a_4, .inl (E.2.1 6, 8, .inr (.inr (.inr (.inr fp_5))))), (m_6, .inr (4, [.int 0, .int 0, .ref x_7, .ref y_8])), (x_7, .inl (E.2.1 1, 24, .inl (fun _ => 0))), (y_8, .inl (E.2.1 1, 96, .inl (fun _ => 0))), (q_10, .inr (5, [.ref t_11, .ref a_12, .ref b_13, .ref c_14, .ref d_15, .int 0, .int 0, .int 0, .int 0, .int 0])), (t_11, .inr (10, [.ref tb_16, .int 0, .int 0, .int 0, .int 0])), (tb_16, .inl (E.2.1 0, 160, .inl (fun _ => 0))), (q_17, .inr (2, [.null, .null, .null, .null]))]) ?_ rfl rfl rfl
  refine ww_dup C dX11_init_39 rfl ?_
  refine ww_cv (wr := [(hx, .inr (11, [.ref q_1, .ref a_4, .int 0, .int 0, .ref q_10, .null, .null, .null, .null, .int 0, .null, .null, .int 0, .int 0, .null])), (q_1, .inr (4, [.int 0, .int 0, .ref a_2, .ref b_3])), (a_2, .inl (E.2.1 1, 24, .inl (fun _ => 0))), (b_3, .inl (E.2.1 1, 96, .inl (fun _ => 0))), (a_4, .inl (E.2.1 6, 8, .inr (.inr (.inr (.inr fp_5))))), (m_6, .inr (4, [.int 0, .int 0, .ref x_7, .ref y_8])), (x_7, .inl (E.2.1 1, 24, .inl (fun _ => 0))), (y_8, .inl (E.2.1 1, 96, .inl (fun _ => 0))), (q_10, .inr (5, [.ref t_11, .ref a_12, .ref b_13, .ref c_14, .ref d_15, .int 0, .int 0, .int 0, .int 0, .int 0])), (t_11, .inr (10, [.ref tb_16, .int 0, .int 0, .int 0, .int 0])), (tb_16, .inl (E.2.1 0, 160, .inl (fun _ => 0)))]) (k' := 74) (n' := 1947) C (run_I (As := []) (rest := [.ref q_17, .ref hx]) C (k_Judge X.2.1 E q_17) mn_X2_init wl_X11_33 rfl rfl rfl rfl dX11_init_40) [11] [0, 1, 2, 3, 4, 5, 6, 7, 8, 9, 10] rfl rfl rfl rfl (fun u hw => ?_)
  obtain ⟨jt_18, je_19, ju_20, ja_21, fe_22, e0_23, e0a_24, e0b_25, e0c_26, e0d_27, e1_28, e1a_29, e1b_30, e1c_31, e1d_32, e2_33, e2a_34, e2b_35, e2c_36, e2d_37, e3_38, e3a_39, e3b_40, e3c_41, e3d_42, rfl, h_43, h_44, h_45, h_46⟩ := hw
  refine ww_eq (ws' := [(hx, .inr (11, [.ref q_1, .ref a_4, .int 0, .int 0, .ref q_10, .null, .null, .null, .null, .int 0, .null, .null, .int 0, .int 0, .null])), (q_1, .inr (4, [.int 0, .int 0, .ref a_2, .ref b_3])), (a_2, .inl (E.2.1 1, 24, .inl (fun _ => 0))), (b_3, .inl (E.2.1 1, 96, .inl (fun _ => 0))), (a_4, .inl (E.2.1 6, 8, .inr (.inr (.inr (.inr fp_5))))), (m_6, .inr (4, [.int 0, .int 0, .ref x_7, .ref y_8])), (x_7, .inl (E.2.1 1, 24, .inl (fun _ => 0))), (y_8, .inl (E.2.1 1, 96, .inl (fun _ => 0))), (q_10, .inr (5, [.ref t_11, .ref a_12, .ref b_13, .ref c_14, .ref d_15, .int 0, .int 0, .int 0, .int 0, .int 0])), (t_11, .inr (10, [.ref tb_16, .int 0, .int 0, .int 0, .int 0])), (tb_16, .inl (E.2.1 0, 160, .inl (fun _ => 0))), (q_17, .inr (2, [.ref jt_18, .ref je_19, .ref ju_20, .ref ja_21])), (jt_18, .inl (E.2.1 7, 8, .inr (.inr (.inr (.inr (fun _ => none)))))), (je_19, .inl (E.2.1 4, 4, .inr (.inr (.inr (.inr fe_22))))), (e0_23, .inr (0, [.int 0, .int 0, .ref e0a_24, .ref e0b_25, .ref e0c_26, .ref e0d_27])), (e0a_24, .inl (E.2.1 7, 4, .inr (.inr (.inr (.inr (fun _ => none)))))), (e0b_25, .inl (E.2.1 1, 4, .inl (fun _ => 0))), (e0c_26, .inl (E.2.1 1, 4, .inl (fun _ => 0))), (e0d_27, .inl (E.2.1 1, 16, .inl (fun _ => 0))), (e1_28, .inr (0, [.int 0, .int 0, .ref e1a_29, .ref e1b_30, .ref e1c_31, .ref e1d_32])), (e1a_29, .inl (E.2.1 7, 4, .inr (.inr (.inr (.inr (fun _ => none)))))), (e1b_30, .inl (E.2.1 1, 4, .inl (fun _ => 0))), (e1c_31, .inl (E.2.1 1, 4, .inl (fun _ => 0))), (e1d_32, .inl (E.2.1 1, 16, .inl (fun _ => 0))), (e2_33, .inr (0, [.int 0, .int 0, .ref e2a_34, .ref e2b_35, .ref e2c_36, .ref e2d_37])), (e2a_34, .inl (E.2.1 7, 4, .inr (.inr (.inr (.inr (fun _ => none)))))), (e2b_35, .inl (E.2.1 1, 4, .inl (fun _ => 0))), (e2c_36, .inl (E.2.1 1, 4, .inl (fun _ => 0))), (e2d_37, .inl (E.2.1 1, 16, .inl (fun _ => 0))), (e3_38, .inr (0, [.int 0, .int 0, .ref e3a_39, .ref e3b_40, .ref e3c_41, .ref e3d_42])), (e3a_39, .inl (E.2.1 7, 4, .inr (.inr (.inr (.inr (fun _ => none)))))), (e3b_40, .inl (E.2.1 1, 4, .inl (fun _ => 0))), (e3c_41, .inl (E.2.1 1, 4, .inl (fun _ => 0))), (e3d_42, .inl (E.2.1 1, 16, .inl (fun _ => 0)))]) ?_ rfl rfl rfl
  refine ww_putF (ws' := [(hx, .inr (11, [.ref q_1, .ref a_4, .int 0, .int 0, .ref q_10, .ref q_17, .null, .null, .null, .int 0, .null, .null, .int 0, .int 0, .null])), (q_1, .inr (4, [.int 0, .int 0, .ref a_2, .ref b_3])), (a_2, .inl (E.2.1 1, 24, .inl (fun _ => 0))), (b_3, .inl (E.2.1 1, 96, .inl (fun _ => 0))), (a_4, .inl (E.2.1 6, 8, .inr (.inr (.inr (.inr fp_5))))), (m_6, .inr (4, [.int 0, .int 0, .ref x_7, .ref y_8])), (x_7, .inl (E.2.1 1, 24, .inl (fun _ => 0))), (y_8, .inl (E.2.1 1, 96, .inl (fun _ => 0))), (q_10, .inr (5, [.ref t_11, .ref a_12, .ref b_13, .ref c_14, .ref d_15, .int 0, .int 0, .int 0, .int 0, .int 0])), (t_11, .inr (10, [.ref tb_16, .int 0, .int 0, .int 0, .int 0])), (tb_16, .inl (E.2.1 0, 160, .inl (fun _ => 0))), (q_17, .inr (2, [.ref jt_18, .ref je_19, .ref ju_20, .ref ja_21])), (jt_18, .inl (E.2.1 7, 8, .inr (.inr (.inr (.inr (fun _ => none)))))), (je_19, .inl (E.2.1 4, 4, .inr (.inr (.inr (.inr fe_22))))), (e0_23, .inr (0, [.int 0, .int 0, .ref e0a_24, .ref e0b_25, .ref e0c_26, .ref e0d_27])), (e0a_24, .inl (E.2.1 7, 4, .inr (.inr (.inr (.inr (fun _ => none)))))), (e0b_25, .inl (E.2.1 1, 4, .inl (fun _ => 0))), (e0c_26, .inl (E.2.1 1, 4, .inl (fun _ => 0))), (e0d_27, .inl (E.2.1 1, 16, .inl (fun _ => 0))), (e1_28, .inr (0, [.int 0, .int 0, .ref e1a_29, .ref e1b_30, .ref e1c_31, .ref e1d_32])), (e1a_29, .inl (E.2.1 7, 4, .inr (.inr (.inr (.inr (fun _ => none)))))), (e1b_30, .inl (E.2.1 1, 4, .inl (fun _ => 0))), (e1c_31, .inl (E.2.1 1, 4, .inl (fun _ => 0))), (e1d_32, .inl (E.2.1 1, 16, .inl (fun _ => 0))), (e2_33, .inr (0, [.int 0, .int 0, .ref e2a_34, .ref e2b_35, .ref e2c_36, .ref e2d_37])), (e2a_34, .inl (E.2.1 7, 4, .inr (.inr (.inr (.inr (fun _ => none)))))), (e2b_35, .inl (E.2.1 1, 4, .inl (fun _ => 0))), (e2c_36, .inl (E.2.1 1, 4, .inl (fun _ => 0))), (e2d_37, .inl (E.2.1 1, 16, .inl (fun _ => 0))), (e3_38, .inr (0, [.int 0, .int 0, .ref e3a_39, .ref e3b_40, .ref e3c_41, .ref e3d_42])), (e3a_39, .inl (E.2.1 7, 4, .inr (.inr (.inr (.inr (fun _ => none)))))), (e3b_40, .inl (E.2.1 1, 4, .inl (fun _ => 0))), (e3c_41, .inl (E.2.1 1, 4, .inl (fun _ => 0))), (e3d_42, .inl (E.2.1 1, 16, .inl (fun _ => 0)))]) C fp_X11_34 hin ⟨_, _, rfl⟩ 0 rfl rfl rfl rfl rfl dX11_init_43 ?_
  refine ww_aload_n C dX11_init_46 0 rfl rfl ?_
  refine ww_new (k' := 75) (n' := 1953) C cn_X11_38 rfl dX11_init_47 (fun q_47 => ?_)
  refine ww_eq (ws' := [(hx, .inr (11, [.ref q_1, .ref a_4, .int 0, .int 0, .ref q_10, .ref q_17, .null, .null, .null, .int 0, .null, .null, .int 0, .int 0, .null])), (q_1, .inr (4, [.int 0, .int 0, .ref a_2, .ref b_3])), (a_2, .inl (E.2.1 1, 24, .inl (fun _ => 0))), (b_3, .inl (E.2.1 1, 96, .inl (fun _ => 0))), (a_4, .inl (E.2.1 6, 8, .inr (.inr (.inr (.inr fp_5))))), (m_6, .inr (4, [.int 0, .int 0, .ref x_7, .ref y_8])), (x_7, .inl (E.2.1 1, 24, .inl (fun _ => 0))), (y_8, .inl (E.2.1 1, 96, .inl (fun _ => 0))), (q_10, .inr (5, [.ref t_11, .ref a_12, .ref b_13, .ref c_14, .ref d_15, .int 0, .int 0, .int 0, .int 0, .int 0])), (t_11, .inr (10, [.ref tb_16, .int 0, .int 0, .int 0, .int 0])), (tb_16, .inl (E.2.1 0, 160, .inl (fun _ => 0))), (q_17, .inr (2, [.ref jt_18, .ref je_19, .ref ju_20, .ref ja_21])), (jt_18, .inl (E.2.1 7, 8, .inr (.inr (.inr (.inr (fun _ => none)))))), (je_19, .inl (E.2.1 4, 4, .inr (.inr (.inr (.inr fe_22))))), (e0_23, .inr (0, [.int 0, .int 0, .ref e0a_24, .ref e0b_25, .ref e0c_26, .ref e0d_27])), (e0a_24, .inl (E.2.1 7, 4, .inr (.inr (.inr (.inr (fun _ => none)))))), (e0b_25, .inl (E.2.1 1, 4, .inl (fun _ => 0))), (e0c_26, .inl (E.2.1 1, 4, .inl (fun _ => 0))), (e0d_27, .inl (E.2.1 1, 16, .inl (fun _ => 0))), (e1_28, .inr (0, [.int 0, .int 0, .ref e1a_29, .ref e1b_30, .ref e1c_31, .ref e1d_32])), (e1a_29, .inl (E.2.1 7, 4, .inr (.inr (.inr (.inr (fun _ => none)))))), (e1b_30, .inl (E.2.1 1, 4, .inl (fun _ => 0))), (e1c_31, .inl (E.2.1 1, 4, .inl (fun _ => 0))), (e1d_32, .inl (E.2.1 1, 16, .inl (fun _ => 0))), (e2_33, .inr (0, [.int 0, .int 0, .ref e2a_34, .ref e2b_35, .ref e2c_36, .ref e2d_37])), (e2a_34, .inl (E.2.1 7, 4, .inr (.inr (.inr (.inr (fun _ => none)))))), (e2b_35, .inl (E.2.1 1, 4, .inl (fun _ => 0))), (e2c_36, .inl (E.2.1 1, 4, .inl (fun _ => 0))), (e2d_37, .inl (E.2.1 1, 16, .inl (fun _ => 0))), (e3_38, .inr (0, [.int 0, .int 0, .ref e3a_39, .ref e3b_40, .ref e3c_41, .ref e3d_42])), (e3a_39, .inl (E.2.1 7, 4, .inr (.inr (.inr (.inr (fun _ => none)))))), (e3b_40, .inl (E.2.1 1, 4, .inl (fun _ => 0))), (e3c_41, .inl (E.2.1 1, 4, .inl (fun _ => 0))), (e3d_42, .inl (E.2.1 1, 16, .inl (fun _ => 0))), (q_47, .inr (3, [.null, .int 0, .int 0, .null, .null, .null]))]) ?_ rfl rfl rfl
  refine ww_dup C dX11_init_50 rfl ?_
  refine ww_cv (wr := [(hx, .inr (11, [.ref q_1, .ref a_4, .int 0, .int 0, .ref q_10, .ref q_17, .null, .null, .null, .int 0, .null, .null, .int 0, .int 0, .null])), (q_1, .inr (4, [.int 0, .int 0, .ref a_2, .ref b_3])), (a_2, .inl (E.2.1 1, 24, .inl (fun _ => 0))), (b_3, .inl (E.2.1 1, 96, .inl (fun _ => 0))), (a_4, .inl (E.2.1 6, 8, .inr (.inr (.inr (.inr fp_5))))), (m_6, .inr (4, [.int 0, .int 0, .ref x_7, .ref y_8])), (x_7, .inl (E.2.1 1, 24, .inl (fun _ => 0))), (y_8, .inl (E.2.1 1, 96, .inl (fun _ => 0))), (q_10, .inr (5, [.ref t_11, .ref a_12, .ref b_13, .ref c_14, .ref d_15, .int 0, .int 0, .int 0, .int 0, .int 0])), (t_11, .inr (10, [.ref tb_16, .int 0, .int 0, .int 0, .int 0])), (tb_16, .inl (E.2.1 0, 160, .inl (fun _ => 0))), (q_17, .inr (2, [.ref jt_18, .ref je_19, .ref ju_20, .ref ja_21])), (jt_18, .inl (E.2.1 7, 8, .inr (.inr (.inr (.inr (fun _ => none)))))), (je_19, .inl (E.2.1 4, 4, .inr (.inr (.inr (.inr fe_22))))), (e0_23, .inr (0, [.int 0, .int 0, .ref e0a_24, .ref e0b_25, .ref e0c_26, .ref e0d_27])), (e0a_24, .inl (E.2.1 7, 4, .inr (.inr (.inr (.inr (fun _ => none)))))), (e0b_25, .inl (E.2.1 1, 4, .inl (fun _ => 0))), (e0c_26, .inl (E.2.1 1, 4, .inl (fun _ => 0))), (e0d_27, .inl (E.2.1 1, 16, .inl (fun _ => 0))), (e1_28, .inr (0, [.int 0, .int 0, .ref e1a_29, .ref e1b_30, .ref e1c_31, .ref e1d_32])), (e1a_29, .inl (E.2.1 7, 4, .inr (.inr (.inr (.inr (fun _ => none)))))), (e1b_30, .inl (E.2.1 1, 4, .inl (fun _ => 0))), (e1c_31, .inl (E.2.1 1, 4, .inl (fun _ => 0))), (e1d_32, .inl (E.2.1 1, 16, .inl (fun _ => 0))), (e2_33, .inr (0, [.int 0, .int 0, .ref e2a_34, .ref e2b_35, .ref e2c_36, .ref e2d_37])), (e2a_34, .inl (E.2.1 7, 4, .inr (.inr (.inr (.inr (fun _ => none)))))), (e2b_35, .inl (E.2.1 1, 4, .inl (fun _ => 0))), (e2c_36, .inl (E.2.1 1, 4, .inl (fun _ => 0))), (e2d_37, .inl (E.2.1 1, 16, .inl (fun _ => 0))), (e3_38, .inr (0, [.int 0, .int 0, .ref e3a_39, .ref e3b_40, .ref e3c_41, .ref e3d_42])), (e3a_39, .inl (E.2.1 7, 4, .inr (.inr (.inr (.inr (fun _ => none)))))), (e3b_40, .inl (E.2.1 1, 4, .inl (fun _ => 0))), (e3c_41, .inl (E.2.1 1, 4, .inl (fun _ => 0))), (e3d_42, .inl (E.2.1 1, 16, .inl (fun _ => 0)))]) (k' := 81) (n' := 2129) C (run_IN (As := []) (rest := [.ref q_47, .ref hx]) C (k_Layer X.2.1 E q_47) mn_X3_init (List.mem_of_getElem? (i := 6) rfl) rfl rfl rfl rfl dX11_init_51) [34] [0, 1, 2, 3, 4, 5, 6, 7, 8, 9, 10, 11, 12, 13, 14, 15, 16, 17, 18, 19, 20, 21, 22, 23, 24, 25, 26, 27, 28, 29, 30, 31, 32, 33] rfl rfl rfl rfl (fun u hw => ?_)
  obtain ⟨m_48, a_49, b_50, c_51, rfl⟩ := hw
  refine ww_eq (ws' := [(hx, .inr (11, [.ref q_1, .ref a_4, .int 0, .int 0, .ref q_10, .ref q_17, .null, .null, .null, .int 0, .null, .null, .int 0, .int 0, .null])), (q_1, .inr (4, [.int 0, .int 0, .ref a_2, .ref b_3])), (a_2, .inl (E.2.1 1, 24, .inl (fun _ => 0))), (b_3, .inl (E.2.1 1, 96, .inl (fun _ => 0))), (a_4, .inl (E.2.1 6, 8, .inr (.inr (.inr (.inr fp_5))))), (m_6, .inr (4, [.int 0, .int 0, .ref x_7, .ref y_8])), (x_7, .inl (E.2.1 1, 24, .inl (fun _ => 0))), (y_8, .inl (E.2.1 1, 96, .inl (fun _ => 0))), (q_10, .inr (5, [.ref t_11, .ref a_12, .ref b_13, .ref c_14, .ref d_15, .int 0, .int 0, .int 0, .int 0, .int 0])), (t_11, .inr (10, [.ref tb_16, .int 0, .int 0, .int 0, .int 0])), (tb_16, .inl (E.2.1 0, 160, .inl (fun _ => 0))), (q_17, .inr (2, [.ref jt_18, .ref je_19, .ref ju_20, .ref ja_21])), (jt_18, .inl (E.2.1 7, 8, .inr (.inr (.inr (.inr (fun _ => none)))))), (je_19, .inl (E.2.1 4, 4, .inr (.inr (.inr (.inr fe_22))))), (e0_23, .inr (0, [.int 0, .int 0, .ref e0a_24, .ref e0b_25, .ref e0c_26, .ref e0d_27])), (e0a_24, .inl (E.2.1 7, 4, .inr (.inr (.inr (.inr (fun _ => none)))))), (e0b_25, .inl (E.2.1 1, 4, .inl (fun _ => 0))), (e0c_26, .inl (E.2.1 1, 4, .inl (fun _ => 0))), (e0d_27, .inl (E.2.1 1, 16, .inl (fun _ => 0))), (e1_28, .inr (0, [.int 0, .int 0, .ref e1a_29, .ref e1b_30, .ref e1c_31, .ref e1d_32])), (e1a_29, .inl (E.2.1 7, 4, .inr (.inr (.inr (.inr (fun _ => none)))))), (e1b_30, .inl (E.2.1 1, 4, .inl (fun _ => 0))), (e1c_31, .inl (E.2.1 1, 4, .inl (fun _ => 0))), (e1d_32, .inl (E.2.1 1, 16, .inl (fun _ => 0))), (e2_33, .inr (0, [.int 0, .int 0, .ref e2a_34, .ref e2b_35, .ref e2c_36, .ref e2d_37])), (e2a_34, .inl (E.2.1 7, 4, .inr (.inr (.inr (.inr (fun _ => none)))))), (e2b_35, .inl (E.2.1 1, 4, .inl (fun _ => 0))), (e2c_36, .inl (E.2.1 1, 4, .inl (fun _ => 0))), (e2d_37, .inl (E.2.1 1, 16, .inl (fun _ => 0))), (e3_38, .inr (0, [.int 0, .int 0, .ref e3a_39, .ref e3b_40, .ref e3c_41, .ref e3d_42])), (e3a_39, .inl (E.2.1 7, 4, .inr (.inr (.inr (.inr (fun _ => none)))))), (e3b_40, .inl (E.2.1 1, 4, .inl (fun _ => 0))), (e3c_41, .inl (E.2.1 1, 4, .inl (fun _ => 0))), (e3d_42, .inl (E.2.1 1, 16, .inl (fun _ => 0))), (q_47, .inr (3, [.ref m_48, .int 0, .int 0, .ref a_49, .ref b_50, .ref c_51]))]) ?_ rfl rfl rfl
  refine ww_putF (ws' := [(hx, .inr (11, [.ref q_1, .ref a_4, .int 0, .int 0, .ref q_10, .ref q_17, .ref q_47, .null, .null, .int 0, .null, .null, .int 0, .int 0, .null])), (q_1, .inr (4, [.int 0, .int 0, .ref a_2, .ref b_3])), (a_2, .inl (E.2.1 1, 24, .inl (fun _ => 0))), (b_3, .inl (E.2.1 1, 96, .inl (fun _ => 0))), (a_4, .inl (E.2.1 6, 8, .inr (.inr (.inr (.inr fp_5))))), (m_6, .inr (4, [.int 0, .int 0, .ref x_7, .ref y_8])), (x_7, .inl (E.2.1 1, 24, .inl (fun _ => 0))), (y_8, .inl (E.2.1 1, 96, .inl (fun _ => 0))), (q_10, .inr (5, [.ref t_11, .ref a_12, .ref b_13, .ref c_14, .ref d_15, .int 0, .int 0, .int 0, .int 0, .int 0])), (t_11, .inr (10, [.ref tb_16, .int 0, .int 0, .int 0, .int 0])), (tb_16, .inl (E.2.1 0, 160, .inl (fun _ => 0))), (q_17, .inr (2, [.ref jt_18, .ref je_19, .ref ju_20, .ref ja_21])), (jt_18, .inl (E.2.1 7, 8, .inr (.inr (.inr (.inr (fun _ => none)))))), (je_19, .inl (E.2.1 4, 4, .inr (.inr (.inr (.inr fe_22))))), (e0_23, .inr (0, [.int 0, .int 0, .ref e0a_24, .ref e0b_25, .ref e0c_26, .ref e0d_27])), (e0a_24, .inl (E.2.1 7, 4, .inr (.inr (.inr (.inr (fun _ => none)))))), (e0b_25, .inl (E.2.1 1, 4, .inl (fun _ => 0))), (e0c_26, .inl (E.2.1 1, 4, .inl (fun _ => 0))), (e0d_27, .inl (E.2.1 1, 16, .inl (fun _ => 0))), (e1_28, .inr (0, [.int 0, .int 0, .ref e1a_29, .ref e1b_30, .ref e1c_31, .ref e1d_32])), (e1a_29, .inl (E.2.1 7, 4, .inr (.inr (.inr (.inr (fun _ => none)))))), (e1b_30, .inl (E.2.1 1, 4, .inl (fun _ => 0))), (e1c_31, .inl (E.2.1 1, 4, .inl (fun _ => 0))), (e1d_32, .inl (E.2.1 1, 16, .inl (fun _ => 0))), (e2_33, .inr (0, [.int 0, .int 0, .ref e2a_34, .ref e2b_35, .ref e2c_36, .ref e2d_37])), (e2a_34, .inl (E.2.1 7, 4, .inr (.inr (.inr (.inr (fun _ => none)))))), (e2b_35, .inl (E.2.1 1, 4, .inl (fun _ => 0))), (e2c_36, .inl (E.2.1 1, 4, .inl (fun _ => 0))), (e2d_37, .inl (E.2.1 1, 16, .inl (fun _ => 0))), (e3_38, .inr (0, [.int 0, .int 0, .ref e3a_39, .ref e3b_40, .ref e3c_41, .ref e3d_42])), (e3a_39, .inl (E.2.1 7, 4, .inr (.inr (.inr (.inr (fun _ => none)))))), (e3b_40, .inl (E.2.1 1, 4, .inl (fun _ => 0))), (e3c_41, .inl (E.2.1 1, 4, .inl (fun _ => 0))), (e3d_42, .inl (E.2.1 1, 16, .inl (fun _ => 0))), (q_47, .inr (3, [.ref m_48, .int 0, .int 0, .ref a_49, .ref b_50, .ref c_51]))]) C fp_X11_41 hin ⟨_, _, rfl⟩ 0 rfl rfl rfl rfl rfl dX11_init_54 ?_
  refine ww_aload_n C dX11_init_57 0 rfl rfl ?_
  refine ww_new (k' := 82) (n' := 2135) C cn_X11_45 rfl dX11_init_58 (fun q_52 => ?_)
  refine ww_eq (ws' := [(hx, .inr (11, [.ref q_1, .ref a_4, .int 0, .int 0, .ref q_10, .ref q_17, .ref q_47, .null, .null, .int 0, .null, .null, .int 0, .int 0, .null])), (q_1, .inr (4, [.int 0, .int 0, .ref a_2, .ref b_3])), (a_2, .inl (E.2.1 1, 24, .inl (fun _ => 0))), (b_3, .inl (E.2.1 1, 96, .inl (fun _ => 0))), (a_4, .inl (E.2.1 6, 8, .inr (.inr (.inr (.inr fp_5))))), (m_6, .inr (4, [.int 0, .int 0, .ref x_7, .ref y_8])), (x_7, .inl (E.2.1 1, 24, .inl (fun _ => 0))), (y_8, .inl (E.2.1 1, 96, .inl (fun _ => 0))), (q_10, .inr (5, [.ref t_11, .ref a_12, .ref b_13, .ref c_14, .ref d_15, .int 0, .int 0, .int 0, .int 0, .int 0])), (t_11, .inr (10, [.ref tb_16, .int 0, .int 0, .int 0, .int 0])), (tb_16, .inl (E.2.1 0, 160, .inl (fun _ => 0))), (q_17, .inr (2, [.ref jt_18, .ref je_19, .ref ju_20, .ref ja_21])), (jt_18, .inl (E.2.1 7, 8, .inr (.inr (.inr (.inr (fun _ => none)))))), (je_19, .inl (E.2.1 4, 4, .inr (.inr (.inr (.inr fe_22))))), (e0_23, .inr (0, [.int 0, .int 0, .ref e0a_24, .ref e0b_25, .ref e0c_26, .ref e0d_27])), (e0a_24, .inl (E.2.1 7, 4, .inr (.inr (.inr (.inr (fun _ => none)))))), (e0b_25, .inl (E.2.1 1, 4, .inl (fun _ => 0))), (e0c_26, .inl (E.2.1 1, 4, .inl (fun _ => 0))), (e0d_27, .inl (E.2.1 1, 16, .inl (fun _ => 0))), (e1_28, .inr (0, [.int 0, .int 0, .ref e1a_29, .ref e1b_30, .ref e1c_31, .ref e1d_32])), (e1a_29, .inl (E.2.1 7, 4, .inr (.inr (.inr (.inr (fun _ => none)))))), (e1b_30, .inl (E.2.1 1, 4, .inl (fun _ => 0))), (e1c_31, .inl (E.2.1 1, 4, .inl (fun _ => 0))), (e1d_32, .inl (E.2.1 1, 16, .inl (fun _ => 0))), (e2_33, .inr (0, [.int 0, .int 0, .ref e2a_34, .ref e2b_35, .ref e2c_36, .ref e2d_37])), (e2a_34, .inl (E.2.1 7, 4, .inr (.inr (.inr (.inr (fun _ => none)))))), (e2b_35, .inl (E.2.1 1, 4, .inl (fun _ => 0))), (e2c_36, .inl (E.2.1 1, 4, .inl (fun _ => 0))), (e2d_37, .inl (E.2.1 1, 16, .inl (fun _ => 0))), (e3_38, .inr (0, [.int 0, .int 0, .ref e3a_39, .ref e3b_40, .ref e3c_41, .ref e3d_42])), (e3a_39, .inl (E.2.1 7, 4, .inr (.inr (.inr (.inr (fun _ => none)))))), (e3b_40, .inl (E.2.1 1, 4, .inl (fun _ => 0))), (e3c_41, .inl (E.2.1 1, 4, .inl (fun _ => 0))), (e3d_42, .inl (E.2.1 1, 16, .inl (fun _ => 0))), (q_47, .inr (3, [.ref m_48, .int 0, .int 0, .ref a_49, .ref b_50, .ref c_51])), (q_52, .inr (1, [.null, .null, .int 0, .null, .null, .null]))]) ?_ rfl rfl rfl
  refine ww_dup C dX11_init_61 rfl ?_
  refine ww_cv (wr := [(hx, .inr (11, [.ref q_1, .ref a_4, .int 0, .int 0, .ref q_10, .ref q_17, .ref q_47, .null, .null, .int 0, .null, .null, .int 0, .int 0, .null])), (q_1, .inr (4, [.int 0, .int 0, .ref a_2, .ref b_3])), (a_2, .inl (E.2.1 1, 24, .inl (fun _ => 0))), (b_3, .inl (E.2.1 1, 96, .inl (fun _ => 0))), (a_4, .inl (E.2.1 6, 8, .inr (.inr (.inr (.inr fp_5))))), (m_6, .inr (4, [.int 0, .int 0, .ref x_7, .ref y_8])), (x_7, .inl (E.2.1 1, 24, .inl (fun _ => 0))), (y_8, .inl (E.2.1 1, 96, .inl (fun _ => 0))), (q_10, .inr (5, [.ref t_11, .ref a_12, .ref b_13, .ref c_14, .ref d_15, .int 0, .int 0, .int 0, .int 0, .int 0])), (t_11, .inr (10, [.ref tb_16, .int 0, .int 0, .int 0, .int 0])), (tb_16, .inl (E.2.1 0, 160, .inl (fun _ => 0))), (q_17, .inr (2, [.ref jt_18, .ref je_19, .ref ju_20, .ref ja_21])), (jt_18, .inl (E.2.1 7, 8, .inr (.inr (.inr (.inr (fun _ => none)))))), (je_19, .inl (E.2.1 4, 4, .inr (.inr (.inr (.inr fe_22))))), (e0_23, .inr (0, [.int 0, .int 0, .ref e0a_24, .ref e0b_25, .ref e0c_26, .ref e0d_27])), (e0a_24, .inl (E.2.1 7, 4, .inr (.inr (.inr (.inr (fun _ => none)))))), (e0b_25, .inl (E.2.1 1, 4, .inl (fun _ => 0))), (e0c_26, .inl (E.2.1 1, 4, .inl (fun _ => 0))), (e0d_27, .inl (E.2.1 1, 16, .inl (fun _ => 0))), (e1_28, .inr (0, [.int 0, .int 0, .ref e1a_29, .ref e1b_30, .ref e1c_31, .ref e1d_32])), (e1a_29, .inl (E.2.1 7, 4, .inr (.inr (.inr (.inr (fun _ => none)))))), (e1b_30, .inl (E.2.1 1, 4, .inl (fun _ => 0))), (e1c_31, .inl (E.2.1 1, 4, .inl (fun _ => 0))), (e1d_32, .inl (E.2.1 1, 16, .inl (fun _ => 0))), (e2_33, .inr (0, [.int 0, .int 0, .ref e2a_34, .ref e2b_35, .ref e2c_36, .ref e2d_37])), (e2a_34, .inl (E.2.1 7, 4, .inr (.inr (.inr (.inr (fun _ => none)))))), (e2b_35, .inl (E.2.1 1, 4, .inl (fun _ => 0))), (e2c_36, .inl (E.2.1 1, 4, .inl (fun _ => 0))), (e2d_37, .inl (E.2.1 1, 16, .inl (fun _ => 0))), (e3_38, .inr (0, [.int 0, .int 0, .ref e3a_39, .ref e3b_40, .ref e3c_41, .ref e3d_42])), (e3a_39, .inl (E.2.1 7, 4, .inr (.inr (.inr (.inr (fun _ => none)))))), (e3b_40, .inl (E.2.1 1, 4, .inl (fun _ => 0))), (e3c_41, .inl (E.2.1 1, 4, .inl (fun _ => 0))), (e3d_42, .inl (E.2.1 1, 16, .inl (fun _ => 0))), (q_47, .inr (3, [.ref m_48, .int 0, .int 0, .ref a_49, .ref b_50, .ref c_51]))]) (k' := 85) (n' := 2423) C (run_IN (As := []) (rest := [.ref q_52, .ref hx]) C (k_Heaps X.2.1 E q_52) mn_X1_init (List.mem_of_getElem? (i := 7) rfl) rfl rfl rfl rfl dX11_init_62) [35] [0, 1, 2, 3, 4, 5, 6, 7, 8, 9, 10, 11, 12, 13, 14, 15, 16, 17, 18, 19, 20, 21, 22, 23, 24, 25, 26, 27, 28, 29, 30, 31, 32, 33, 34] rfl rfl rfl rfl (fun u hw => ?_)
  obtain ⟨a_53, b_54, c_55, rfl⟩ := hw
  refine ww_eq (ws' := [(hx, .inr (11, [.ref q_1, .ref a_4, .int 0, .int 0, .ref q_10, .ref q_17, .ref q_47, .null, .null, .int 0, .null, .null, .int 0, .int 0, .null])), (q_1, .inr (4, [.int 0, .int 0, .ref a_2, .ref b_3])), (a_2, .inl (E.2.1 1, 24, .inl (fun _ => 0))), (b_3, .inl (E.2.1 1, 96, .inl (fun _ => 0))), (a_4, .inl (E.2.1 6, 8, .inr (.inr (.inr (.inr fp_5))))), (m_6, .inr (4, [.int 0, .int 0, .ref x_7, .ref y_8])), (x_7, .inl (E.2.1 1, 24, .inl (fun _ => 0))), (y_8, .inl (E.2.1 1, 96, .inl (fun _ => 0))), (q_10, .inr (5, [.ref t_11, .ref a_12, .ref b_13, .ref c_14, .ref d_15, .int 0, .int 0, .int 0, .int 0, .int 0])), (t_11, .inr (10, [.ref tb_16, .int 0, .int 0, .int 0, .int 0])), (tb_16, .inl (E.2.1 0, 160, .inl (fun _ => 0))), (q_17, .inr (2, [.ref jt_18, .ref je_19, .ref ju_20, .ref ja_21])), (jt_18, .inl (E.2.1 7, 8, .inr (.inr (.inr (.inr (fun _ => none)))))), (je_19, .inl (E.2.1 4, 4, .inr (.inr (.inr (.inr fe_22))))), (e0_23, .inr (0, [.int 0, .int 0, .ref e0a_24, .ref e0b_25, .ref e0c_26, .ref e0d_27])), (e0a_24, .inl (E.2.1 7, 4, .inr (.inr (.inr (.inr (fun _ => none)))))), (e0b_25, .inl (E.2.1 1, 4, .inl (fun _ => 0))), (e0c_26, .inl (E.2.1 1, 4, .inl (fun _ => 0))), (e0d_27, .inl (E.2.1 1, 16, .inl (fun _ => 0))), (e1_28, .inr (0, [.int 0, .int 0, .ref e1a_29, .ref e1b_30, .ref e1c_31, .ref e1d_32])), (e1a_29, .inl (E.2.1 7, 4, .inr (.inr (.inr (.inr (fun _ => none)))))), (e1b_30, .inl (E.2.1 1, 4, .inl (fun _ => 0))), (e1c_31, .inl (E.2.1 1, 4, .inl (fun _ => 0))), (e1d_32, .inl (E.2.1 1, 16, .inl (fun _ => 0))), (e2_33, .inr (0, [.int 0, .int 0, .ref e2a_34, .ref e2b_35, .ref e2c_36, .ref e2d_37])), (e2a_34, .inl (E.2.1 7, 4, .inr (.inr (.inr (.inr (fun _ => none)))))), (e2b_35, .inl (E.2.1 1, 4, .inl (fun _ => 0))), (e2c_36, .inl (E.2.1 1, 4, .inl (fun _ => 0))), (e2d_37, .inl (E.2.1 1, 16, .inl (fun _ => 0))), (e3_38, .inr (0, [.int 0, .int 0, .ref e3a_39, .ref e3b_40, .ref e3c_41, .ref e3d_42])), (e3a_39, .inl (E.2.1 7, 4, .inr (.inr (.inr (.inr (fun _ => none)))))), (e3b_40, .inl (E.2.1 1, 4, .inl (fun _ => 0))), (e3c_41, .inl (E.2.1 1, 4, .inl (fun _ => 0))), (e3d_42, .inl (E.2.1 1, 16, .inl (fun _ => 0))), (q_47, .inr (3, [.ref m_48, .int 0, .int 0, .ref a_49, .ref b_50, .ref c_51])), (q_52, .inr (1, [.null, .null, .int 0, .ref a_53, .ref b_54, .ref c_55]))]) ?_ rfl rfl rfl
  refine ww_putF (ws' := [(hx, .inr (11, [.ref q_1, .ref a_4, .int 0, .int 0, .ref q_10, .ref q_17, .ref q_47, .ref q_52, .null, .int 0, .null, .null, .int 0, .int 0, .null])), (q_1, .inr (4, [.int 0, .int 0, .ref a_2, .ref b_3])), (a_2, .inl (E.2.1 1, 24, .inl (fun _ => 0))), (b_3, .inl (E.2.1 1, 96, .inl (fun _ => 0))), (a_4, .inl (E.2.1 6, 8, .inr (.inr (.inr (.inr fp_5))))), (m_6, .inr (4, [.int 0, .int 0, .ref x_7, .ref y_8])), (x_7, .inl (E.2.1 1, 24, .inl (fun _ => 0))), (y_8, .inl (E.2.1 1, 96, .inl (fun _ => 0))), (q_10, .inr (5, [.ref t_11, .ref a_12, .ref b_13, .ref c_14, .ref d_15, .int 0, .int 0, .int 0, .int 0, .int 0])), (t_11, .inr (10, [.ref tb_16, .int 0, .int 0, .int 0, .int 0])), (tb_16, .inl (E.2.1 0, 160, .inl (fun _ => 0))), (q_17, .inr (2, [.ref jt_18, .ref je_19, .ref ju_20, .ref ja_21])), (jt_18, .inl (E.2.1 7, 8, .inr (.inr (.inr (.inr (fun _ => none)))))), (je_19, .inl (E.2.1 4, 4, .inr (.inr (.inr (.inr fe_22))))), (e0_23, .inr (0, [.int 0, .int 0, .ref e0a_24, .ref e0b_25, .ref e0c_26, .ref e0d_27])), (e0a_24, .inl (E.2.1 7, 4, .inr (.inr (.inr (.inr (fun _ => none)))))), (e0b_25, .inl (E.2.1 1, 4, .inl (fun _ => 0))), (e0c_26, .inl (E.2.1 1, 4, .inl (fun _ => 0))), (e0d_27, .inl (E.2.1 1, 16, .inl (fun _ => 0))), (e1_28, .inr (0, [.int 0, .int 0, .ref e1a_29, .ref e1b_30, .ref e1c_31, .ref e1d_32])), (e1a_29, .inl (E.2.1 7, 4, .inr (.inr (.inr (.inr (fun _ => none)))))), (e1b_30, .inl (E.2.1 1, 4, .inl (fun _ => 0))), (e1c_31, .inl (E.2.1 1, 4, .inl (fun _ => 0))), (e1d_32, .inl (E.2.1 1, 16, .inl (fun _ => 0))), (e2_33, .inr (0, [.int 0, .int 0, .ref e2a_34, .ref e2b_35, .ref e2c_36, .ref e2d_37])), (e2a_34, .inl (E.2.1 7, 4, .inr (.inr (.inr (.inr (fun _ => none)))))), (e2b_35, .inl (E.2.1 1, 4, .inl (fun _ => 0))), (e2c_36, .inl (E.2.1 1, 4, .inl (fun _ => 0))), (e2d_37, .inl (E.2.1 1, 16, .inl (fun _ => 0))), (e3_38, .inr (0, [.int 0, .int 0, .ref e3a_39, .ref e3b_40, .ref e3c_41, .ref e3d_42])), (e3a_39, .inl (E.2.1 7, 4, .inr (.inr (.inr (.inr (fun _ => none)))))), (e3b_40, .inl (E.2.1 1, 4, .inl (fun _ => 0))), (e3c_41, .inl (E.2.1 1, 4, .inl (fun _ => 0))), (e3d_42, .inl (E.2.1 1, 16, .inl (fun _ => 0))), (q_47, .inr (3, [.ref m_48, .int 0, .int 0, .ref a_49, .ref b_50, .ref c_51])), (q_52, .inr (1, [.null, .null, .int 0, .ref a_53, .ref b_54, .ref c_55]))]) C fp_X11_48 hin ⟨_, _, rfl⟩ 0 rfl rfl rfl rfl rfl dX11_init_65 ?_
  refine ww_aload_n C dX11_init_68 0 rfl rfl ?_
  refine ww_iconst (v := 4) C dX11_init_69 rfl ?_
  refine ww_cq (wr := [(hx, .inr (11, [.ref q_1, .ref a_4, .int 0, .int 0, .ref q_10, .ref q_17, .ref q_47, .ref q_52, .null, .int 0, .null, .null, .int 0, .int 0, .null])), (q_1, .inr (4, [.int 0, .int 0, .ref a_2, .ref b_3])), (a_2, .inl (E.2.1 1, 24, .inl (fun _ => 0))), (b_3, .inl (E.2.1 1, 96, .inl (fun _ => 0))), (a_4, .inl (E.2.1 6, 8, .inr (.inr (.inr (.inr fp_5))))), (m_6, .inr (4, [.int 0, .int 0, .ref x_7, .ref y_8])), (x_7, .inl (E.2.1 1, 24, .inl (fun _ => 0))), (y_8, .inl (E.2.1 1, 96, .inl (fun _ => 0))), (q_10, .inr (5, [.ref t_11, .ref a_12, .ref b_13, .ref c_14, .ref d_15, .int 0, .int 0, .int 0, .int 0, .int 0])), (t_11, .inr (10, [.ref tb_16, .int 0, .int 0, .int 0, .int 0])), (tb_16, .inl (E.2.1 0, 160, .inl (fun _ => 0))), (q_17, .inr (2, [.ref jt_18, .ref je_19, .ref ju_20, .ref ja_21])), (jt_18, .inl (E.2.1 7, 8, .inr (.inr (.inr (.inr (fun _ => none)))))), (je_19, .inl (E.2.1 4, 4, .inr (.inr (.inr (.inr fe_22))))), (e0_23, .inr (0, [.int 0, .int 0, .ref e0a_24, .ref e0b_25, .ref e0c_26, .ref e0d_27])), (e0a_24, .inl (E.2.1 7, 4, .inr (.inr (.inr (.inr (fun _ => none)))))), (e0b_25, .inl (E.2.1 1, 4, .inl (fun _ => 0))), (e0c_26, .inl (E.2.1 1, 4, .inl (fun _ => 0))), (e0d_27, .inl (E.2.1 1, 16, .inl (fun _ => 0))), (e1_28, .inr (0, [.int 0, .int 0, .ref e1a_29, .ref e1b_30, .ref e1c_31, .ref e1d_32])), (e1a_29, .inl (E.2.1 7, 4, .inr (.inr (.inr (.inr (fun _ => none)))))), (e1b_30, .inl (E.2.1 1, 4, .inl (fun _ => 0))), (e1c_31, .inl (E.2.1 1, 4, .inl (fun _ => 0))), (e1d_32, .inl (E.2.1 1, 16, .inl (fun _ => 0))), (e2_33, .inr (0, [.int 0, .int 0, .ref e2a_34, .ref e2b_35, .ref e2c_36, .ref e2d_37])), (e2a_34, .inl (E.2.1 7, 4, .inr (.inr (.inr (.inr (fun _ => none)))))), (e2b_35, .inl (E.2.1 1, 4, .inl (fun _ => 0))), (e2c_36, .inl (E.2.1 1, 4, .inl (fun _ => 0))), (e2d_37, .inl (E.2.1 1, 16, .inl (fun _ => 0))), (e3_38, .inr (0, [.int 0, .int 0, .ref e3a_39, .ref e3b_40, .ref e3c_41, .ref e3d_42])), (e3a_39, .inl (E.2.1 7, 4, .inr (.inr (.inr (.inr (fun _ => none)))))), (e3b_40, .inl (E.2.1 1, 4, .inl (fun _ => 0))), (e3c_41, .inl (E.2.1 1, 4, .inl (fun _ => 0))), (e3d_42, .inl (E.2.1 1, 16, .inl (fun _ => 0))), (q_47, .inr (3, [.ref m_48, .int 0, .int 0, .ref a_49, .ref b_50, .ref c_51])), (q_52, .inr (1, [.null, .null, .int 0, .ref a_53, .ref b_54, .ref c_55]))]) (k' := 98) (n' := 2923) C (run_S (As := [.int 4]) (rest := [.ref hx]) C (k_models4 X.2.1 E ) ms_X11_models wl_X11_16 rfl rfl rfl rfl dX11_init_70) [] [0, 1, 2, 3, 4, 5, 6, 7, 8, 9, 10, 11, 12, 13, 14, 15, 16, 17, 18, 19, 20, 21, 22, 23, 24, 25, 26, 27, 28, 29, 30, 31, 32, 33, 34, 35] rfl rfl rfl rfl (fun r u hw => ?_)
  obtain ⟨a_56, rfl, rfl⟩ := hw
  refine ww_eq (st' := [.ref a_56, .ref hx]) (ws' := [(hx, .inr (11, [.ref q_1, .ref a_4, .int 0, .int 0, .ref q_10, .ref q_17, .ref q_47, .ref q_52, .null, .int 0, .null, .null, .int 0, .int 0, .null])), (q_1, .inr (4, [.int 0, .int 0, .ref a_2, .ref b_3])), (a_2, .inl (E.2.1 1, 24, .inl (fun _ => 0))), (b_3, .inl (E.2.1 1, 96, .inl (fun _ => 0))), (a_4, .inl (E.2.1 6, 8, .inr (.inr (.inr (.inr fp_5))))), (m_6, .inr (4, [.int 0, .int 0, .ref x_7, .ref y_8])), (x_7, .inl (E.2.1 1, 24, .inl (fun _ => 0))), (y_8, .inl (E.2.1 1, 96, .inl (fun _ => 0))), (q_10, .inr (5, [.ref t_11, .ref a_12, .ref b_13, .ref c_14, .ref d_15, .int 0, .int 0, .int 0, .int 0, .int 0])), (t_11, .inr (10, [.ref tb_16, .int 0, .int 0, .int 0, .int 0])), (tb_16, .inl (E.2.1 0, 160, .inl (fun _ => 0))), (q_17, .inr (2, [.ref jt_18, .ref je_19, .ref ju_20, .ref ja_21])), (jt_18, .inl (E.2.1 7, 8, .inr (.inr (.inr (.inr (fun _ => none)))))), (je_19, .inl (E.2.1 4, 4, .inr (.inr (.inr (.inr fe_22))))), (e0_23, .inr (0, [.int 0, .int 0, .ref e0a_24, .ref e0b_25, .ref e0c_26, .ref e0d_27])), (e0a_24, .inl (E.2.1 7, 4, .inr (.inr (.inr (.inr (fun _ => none)))))), (e0b_25, .inl (E.2.1 1, 4, .inl (fun _ => 0))), (e0c_26, .inl (E.2.1 1, 4, .inl (fun _ => 0))), (e0d_27, .inl (E.2.1 1, 16, .inl (fun _ => 0))), (e1_28, .inr (0, [.int 0, .int 0, .ref e1a_29, .ref e1b_30, .ref e1c_31, .ref e1d_32])), (e1a_29, .inl (E.2.1 7, 4, .inr (.inr (.inr (.inr (fun _ => none)))))), (e1b_30, .inl (E.2.1 1, 4, .inl (fun _ => 0))), (e1c_31, .inl (E.2.1 1, 4, .inl (fun _ => 0))), (e1d_32, .inl (E.2.1 1, 16, .inl (fun _ => 0))), (e2_33, .inr (0, [.int 0, .int 0, .ref e2a_34, .ref e2b_35, .ref e2c_36, .ref e2d_37])), (e2a_34, .inl (E.2.1 7, 4, .inr (.inr (.inr (.inr (fun _ => none)))))), (e2b_35, .inl (E.2.1 1, 4, .inl (fun _ => 0))), (e2c_36, .inl (E.2.1 1, 4, .inl (fun _ => 0))), (e2d_37, .inl (E.2.1 1, 16, .inl (fun _ => 0))), (e3_38, .inr (0, [.int 0, .int 0, .ref e3a_39, .ref e3b_40, .ref e3c_41, .ref e3d_42])), (e3a_39, .inl (E.2.1 7, 4, .inr (.inr (.inr (.inr (fun _ => none)))))), (e3b_40, .inl (E.2.1 1, 4, .inl (fun _ => 0))), (e3c_41, .inl (E.2.1 1, 4, .inl (fun _ => 0))), (e3d_42, .inl (E.2.1 1, 16, .inl (fun _ => 0))), (q_47, .inr (3, [.ref m_48, .int 0, .int 0, .ref a_49, .ref b_50, .ref c_51])), (q_52, .inr (1, [.null, .null, .int 0, .ref a_53, .ref b_54, .ref c_55]))]) ?_ rfl rfl rfl
  refine ww_putF (ws' := [(hx, .inr (11, [.ref q_1, .ref a_4, .int 0, .int 0, .ref q_10, .ref q_17, .ref q_47, .ref q_52, .ref a_56, .int 0, .null, .null, .int 0, .int 0, .null])), (q_1, .inr (4, [.int 0, .int 0, .ref a_2, .ref b_3])), (a_2, .inl (E.2.1 1, 24, .inl (fun _ => 0))), (b_3, .inl (E.2.1 1, 96, .inl (fun _ => 0))), (a_4, .inl (E.2.1 6, 8, .inr (.inr (.inr (.inr fp_5))))), (m_6, .inr (4, [.int 0, .int 0, .ref x_7, .ref y_8])), (x_7, .inl (E.2.1 1, 24, .inl (fun _ => 0))), (y_8, .inl (E.2.1 1, 96, .inl (fun _ => 0))), (q_10, .inr (5, [.ref t_11, .ref a_12, .ref b_13, .ref c_14, .ref d_15, .int 0, .int 0, .int 0, .int 0, .int 0])), (t_11, .inr (10, [.ref tb_16, .int 0, .int 0, .int 0, .int 0])), (tb_16, .inl (E.2.1 0, 160, .inl (fun _ => 0))), (q_17, .inr (2, [.ref jt_18, .ref je_19, .ref ju_20, .ref ja_21])), (jt_18, .inl (E.2.1 7, 8, .inr (.inr (.inr (.inr (fun _ => none)))))), (je_19, .inl (E.2.1 4, 4, .inr (.inr (.inr (.inr fe_22))))), (e0_23, .inr (0, [.int 0, .int 0, .ref e0a_24, .ref e0b_25, .ref e0c_26, .ref e0d_27])), (e0a_24, .inl (E.2.1 7, 4, .inr (.inr (.inr (.inr (fun _ => none)))))), (e0b_25, .inl (E.2.1 1, 4, .inl (fun _ => 0))), (e0c_26, .inl (E.2.1 1, 4, .inl (fun _ => 0))), (e0d_27, .inl (E.2.1 1, 16, .inl (fun _ => 0))), (e1_28, .inr (0, [.int 0, .int 0, .ref e1a_29, .ref e1b_30, .ref e1c_31, .ref e1d_32])), (e1a_29, .inl (E.2.1 7, 4, .inr (.inr (.inr (.inr (fun _ => none)))))), (e1b_30, .inl (E.2.1 1, 4, .inl (fun _ => 0))), (e1c_31, .inl (E.2.1 1, 4, .inl (fun _ => 0))), (e1d_32, .inl (E.2.1 1, 16, .inl (fun _ => 0))), (e2_33, .inr (0, [.int 0, .int 0, .ref e2a_34, .ref e2b_35, .ref e2c_36, .ref e2d_37])), (e2a_34, .inl (E.2.1 7, 4, .inr (.inr (.inr (.inr (fun _ => none)))))), (e2b_35, .inl (E.2.1 1, 4, .inl (fun _ => 0))), (e2c_36, .inl (E.2.1 1, 4, .inl (fun _ => 0))), (e2d_37, .inl (E.2.1 1, 16, .inl (fun _ => 0))), (e3_38, .inr (0, [.int 0, .int 0, .ref e3a_39, .ref e3b_40, .ref e3c_41, .ref e3d_42])), (e3a_39, .inl (E.2.1 7, 4, .inr (.inr (.inr (.inr (fun _ => none)))))), (e3b_40, .inl (E.2.1 1, 4, .inl (fun _ => 0))), (e3c_41, .inl (E.2.1 1, 4, .inl (fun _ => 0))), (e3d_42, .inl (E.2.1 1, 16, .inl (fun _ => 0))), (q_47, .inr (3, [.ref m_48, .int 0, .int 0, .ref a_49, .ref b_50, .ref c_51])), (q_52, .inr (1, [.null, .null, .int 0, .ref a_53, .ref b_54, .ref c_55]))]) C fp_X11_52 hin ⟨_, _, rfl⟩ 0 rfl rfl rfl rfl rfl dX11_init_73 ?_
  refine ww_aload_n C dX11_init_76 0 rfl rfl ?_
  refine ww_new (k' := 99) (n' := 2928) C cn_X11_55 rfl dX11_init_77 (fun q_57 => ?_)
  refine ww_eq (ws' := [(hx, .inr (11, [.ref q_1, .ref a_4, .int 0, .int 0, .ref q_10, .ref q_17, .ref q_47, .ref q_52, .ref a_56, .int 0, .null, .null, .int 0, .int 0, .null])), (q_1, .inr (4, [.int 0, .int 0, .ref a_2, .ref b_3])), (a_2, .inl (E.2.1 1, 24, .inl (fun _ => 0))), (b_3, .inl (E.2.1 1, 96, .inl (fun _ => 0))), (a_4, .inl (E.2.1 6, 8, .inr (.inr (.inr (.inr fp_5))))), (m_6, .inr (4, [.int 0, .int 0, .ref x_7, .ref y_8])), (x_7, .inl (E.2.1 1, 24, .inl (fun _ => 0))), (y_8, .inl (E.2.1 1, 96, .inl (fun _ => 0))), (q_10, .inr (5, [.ref t_11, .ref a_12, .ref b_13, .ref c_14, .ref d_15, .int 0, .int 0, .int 0, .int 0, .int 0])), (t_11, .inr (10, [.ref tb_16, .int 0, .int 0, .int 0, .int 0])), (tb_16, .inl (E.2.1 0, 160, .inl (fun _ => 0))), (q_17, .inr (2, [.ref jt_18, .ref je_19, .ref ju_20, .ref ja_21])), (jt_18, .inl (E.2.1 7, 8, .inr (.inr (.inr (.inr (fun _ => none)))))), (je_19, .inl (E.2.1 4, 4, .inr (.inr (.inr (.inr fe_22))))), (e0_23, .inr (0, [.int 0, .int 0, .ref e0a_24, .ref e0b_25, .ref e0c_26, .ref e0d_27])), (e0a_24, .inl (E.2.1 7, 4, .inr (.inr (.inr (.inr (fun _ => none)))))), (e0b_25, .inl (E.2.1 1, 4, .inl (fun _ => 0))), (e0c_26, .inl (E.2.1 1, 4, .inl (fun _ => 0))), (e0d_27, .inl (E.2.1 1, 16, .inl (fun _ => 0))), (e1_28, .inr (0, [.int 0, .int 0, .ref e1a_29, .ref e1b_30, .ref e1c_31, .ref e1d_32])), (e1a_29, .inl (E.2.1 7, 4, .inr (.inr (.inr (.inr (fun _ => none)))))), (e1b_30, .inl (E.2.1 1, 4, .inl (fun _ => 0))), (e1c_31, .inl (E.2.1 1, 4, .inl (fun _ => 0))), (e1d_32, .inl (E.2.1 1, 16, .inl (fun _ => 0))), (e2_33, .inr (0, [.int 0, .int 0, .ref e2a_34, .ref e2b_35, .ref e2c_36, .ref e2d_37])), (e2a_34, .inl (E.2.1 7, 4, .inr (.inr (.inr (.inr (fun _ => none)))))), (e2b_35, .inl (E.2.1 1, 4, .inl (fun _ => 0))), (e2c_36, .inl (E.2.1 1, 4, .inl (fun _ => 0))), (e2d_37, .inl (E.2.1 1, 16, .inl (fun _ => 0))), (e3_38, .inr (0, [.int 0, .int 0, .ref e3a_39, .ref e3b_40, .ref e3c_41, .ref e3d_42])), (e3a_39, .inl (E.2.1 7, 4, .inr (.inr (.inr (.inr (fun _ => none)))))), (e3b_40, .inl (E.2.1 1, 4, .inl (fun _ => 0))), (e3c_41, .inl (E.2.1 1, 4, .inl (fun _ => 0))), (e3d_42, .inl (E.2.1 1, 16, .inl (fun _ => 0))), (q_47, .inr (3, [.ref m_48, .int 0, .int 0, .ref a_49, .ref b_50, .ref c_51])), (q_52, .inr (1, [.null, .null, .int 0, .ref a_53, .ref b_54, .ref c_55])), (q_57, .inr (7, [.null, .null, .int 0, .int 0, .int 0]))]) ?_ rfl rfl rfl
  refine ww_dup C dX11_init_80 rfl ?_
  refine ww_cv (wr := [(hx, .inr (11, [.ref q_1, .ref a_4, .int 0, .int 0, .ref q_10, .ref q_17, .ref q_47, .ref q_52, .ref a_56, .int 0, .null, .null, .int 0, .int 0, .null])), (q_1, .inr (4, [.int 0, .int 0, .ref a_2, .ref b_3])), (a_2, .inl (E.2.1 1, 24, .inl (fun _ => 0))), (b_3, .inl (E.2.1 1, 96, .inl (fun _ => 0))), (a_4, .inl (E.2.1 6, 8, .inr (.inr (.inr (.inr fp_5))))), (m_6, .inr (4, [.int 0, .int 0, .ref x_7, .ref y_8])), (x_7, .inl (E.2.1 1, 24, .inl (fun _ => 0))), (y_8, .inl (E.2.1 1, 96, .inl (fun _ => 0))), (q_10, .inr (5, [.ref t_11, .ref a_12, .ref b_13, .ref c_14, .ref d_15, .int 0, .int 0, .int 0, .int 0, .int 0])), (t_11, .inr (10, [.ref tb_16, .int 0, .int 0, .int 0, .int 0])), (tb_16, .inl (E.2.1 0, 160, .inl (fun _ => 0))), (q_17, .inr (2, [.ref jt_18, .ref je_19, .ref ju_20, .ref ja_21])), (jt_18, .inl (E.2.1 7, 8, .inr (.inr (.inr (.inr (fun _ => none)))))), (je_19, .inl (E.2.1 4, 4, .inr (.inr (.inr (.inr fe_22))))), (e0_23, .inr (0, [.int 0, .int 0, .ref e0a_24, .ref e0b_25, .ref e0c_26, .ref e0d_27])), (e0a_24, .inl (E.2.1 7, 4, .inr (.inr (.inr (.inr (fun _ => none)))))), (e0b_25, .inl (E.2.1 1, 4, .inl (fun _ => 0))), (e0c_26, .inl (E.2.1 1, 4, .inl (fun _ => 0))), (e0d_27, .inl (E.2.1 1, 16, .inl (fun _ => 0))), (e1_28, .inr (0, [.int 0, .int 0, .ref e1a_29, .ref e1b_30, .ref e1c_31, .ref e1d_32])), (e1a_29, .inl (E.2.1 7, 4, .inr (.inr (.inr (.inr (fun _ => none)))))), (e1b_30, .inl (E.2.1 1, 4, .inl (fun _ => 0))), (e1c_31, .inl (E.2.1 1, 4, .inl (fun _ => 0))), (e1d_32, .inl (E.2.1 1, 16, .inl (fun _ => 0))), (e2_33, .inr (0, [.int 0, .int 0, .ref e2a_34, .ref e2b_35, .ref e2c_36, .ref e2d_37])), (e2a_34, .inl (E.2.1 7, 4, .inr (.inr (.inr (.inr (fun _ => none)))))), (e2b_35, .inl (E.2.1 1, 4, .inl (fun _ => 0))), (e2c_36, .inl (E.2.1 1, 4, .inl (fun _ => 0))), (e2d_37, .inl (E.2.1 1, 16, .inl (fun _ => 0))), (e3_38, .inr (0, [.int 0, .int 0, .ref e3a_39, .ref e3b_40, .ref e3c_41, .ref e3d_42])), (e3a_39, .inl (E.2.1 7, 4, .inr (.inr (.inr (.inr (fun _ => none)))))), (e3b_40, .inl (E.2.1 1, 4, .inl (fun _ => 0))), (e3c_41, .inl (E.2.1 1, 4, .inl (fun _ => 0))), (e3d_42, .inl (E.2.1 1, 16, .inl (fun _ => 0))), (q_47, .inr (3, [.ref m_48, .int 0, .int 0, .ref a_49, .ref b_50, .ref c_51])), (q_52, .inr (1, [.null, .null, .int 0, .ref a_53, .ref b_54, .ref c_55]))]) (k' := 103) (n' := 3056) C (run_IN (As := []) (rest := [.ref q_57, .ref hx]) C (k_Rounds X.2.1 E q_57) mn_X7_init (List.mem_of_getElem? (i := 8) rfl) rfl rfl rfl rfl dX11_init_81) [36] [0, 1, 2, 3, 4, 5, 6, 7, 8, 9, 10, 11, 12, 13, 14, 15, 16, 17, 18, 19, 20, 21, 22, 23, 24, 25, 26, 27, 28, 29, 30, 31, 32, 33, 34, 35] rfl rfl rfl rfl (fun u hw => ?_)
  obtain ⟨rfl⟩ := hw
  refine ww_eq (ws' := [(hx, .inr (11, [.ref q_1, .ref a_4, .int 0, .int 0, .ref q_10, .ref q_17, .ref q_47, .ref q_52, .ref a_56, .int 0, .null, .null, .int 0, .int 0, .null])), (q_1, .inr (4, [.int 0, .int 0, .ref a_2, .ref b_3])), (a_2, .inl (E.2.1 1, 24, .inl (fun _ => 0))), (b_3, .inl (E.2.1 1, 96, .inl (fun _ => 0))), (a_4, .inl (E.2.1 6, 8, .inr (.inr (.inr (.inr fp_5))))), (m_6, .inr (4, [.int 0, .int 0, .ref x_7, .ref y_8])), (x_7, .inl (E.2.1 1, 24, .inl (fun _ => 0))), (y_8, .inl (E.2.1 1, 96, .inl (fun _ => 0))), (q_10, .inr (5, [.ref t_11, .ref a_12, .ref b_13, .ref c_14, .ref d_15, .int 0, .int 0, .int 0, .int 0, .int 0])), (t_11, .inr (10, [.ref tb_16, .int 0, .int 0, .int 0, .int 0])), (tb_16, .inl (E.2.1 0, 160, .inl (fun _ => 0))), (q_17, .inr (2, [.ref jt_18, .ref je_19, .ref ju_20, .ref ja_21])), (jt_18, .inl (E.2.1 7, 8, .inr (.inr (.inr (.inr (fun _ => none)))))), (je_19, .inl (E.2.1 4, 4, .inr (.inr (.inr (.inr fe_22))))), (e0_23, .inr (0, [.int 0, .int 0, .ref e0a_24, .ref e0b_25, .ref e0c_26, .ref e0d_27])), (e0a_24, .inl (E.2.1 7, 4, .inr (.inr (.inr (.inr (fun _ => none)))))), (e0b_25, .inl (E.2.1 1, 4, .inl (fun _ => 0))), (e0c_26, .inl (E.2.1 1, 4, .inl (fun _ => 0))), (e0d_27, .inl (E.2.1 1, 16, .inl (fun _ => 0))), (e1_28, .inr (0, [.int 0, .int 0, .ref e1a_29, .ref e1b_30, .ref e1c_31, .ref e1d_32])), (e1a_29, .inl (E.2.1 7, 4, .inr (.inr (.inr (.inr (fun _ => none)))))), (e1b_30, .inl (E.2.1 1, 4, .inl (fun _ => 0))), (e1c_31, .inl (E.2.1 1, 4, .inl (fun _ => 0))), (e1d_32, .inl (E.2.1 1, 16, .inl (fun _ => 0))), (e2_33, .inr (0, [.int 0, .int 0, .ref e2a_34, .ref e2b_35, .ref e2c_36, .ref e2d_37])), (e2a_34, .inl (E.2.1 7, 4, .inr (.inr (.inr (.inr (fun _ => none)))))), (e2b_35, .inl (E.2.1 1, 4, .inl (fun _ => 0))), (e2c_36, .inl (E.2.1 1, 4, .inl (fun _ => 0))), (e2d_37, .inl (E.2.1 1, 16, .inl (fun _ => 0))), (e3_38, .inr (0, [.int 0, .int 0, .ref e3a_39, .ref e3b_40, .ref e3c_41, .ref e3d_42])), (e3a_39, .inl (E.2.1 7, 4, .inr (.inr (.inr (.inr (fun _ => none)))))), (e3b_40, .inl (E.2.1 1, 4, .inl (fun _ => 0))), (e3c_41, .inl (E.2.1 1, 4, .inl (fun _ => 0))), (e3d_42, .inl (E.2.1 1, 16, .inl (fun _ => 0))), (q_47, .inr (3, [.ref m_48, .int 0, .int 0, .ref a_49, .ref b_50, .ref c_51])), (q_52, .inr (1, [.null, .null, .int 0, .ref a_53, .ref b_54, .ref c_55]))]) ?_ rfl rfl rfl
  refine ww_putF (ws' := [(hx, .inr (11, [.ref q_1, .ref a_4, .int 0, .int 0, .ref q_10, .ref q_17, .ref q_47, .ref q_52, .ref a_56, .int 0, .ref q_57, .null, .int 0, .int 0, .null])), (q_1, .inr (4, [.int 0, .int 0, .ref a_2, .ref b_3])), (a_2, .inl (E.2.1 1, 24, .inl (fun _ => 0))), (b_3, .inl (E.2.1 1, 96, .inl (fun _ => 0))), (a_4, .inl (E.2.1 6, 8, .inr (.inr (.inr (.inr fp_5))))), (m_6, .inr (4, [.int 0, .int 0, .ref x_7, .ref y_8])), (x_7, .inl (E.2.1 1, 24, .inl (fun _ => 0))), (y_8, .inl (E.2.1 1, 96, .inl (fun _ => 0))), (q_10, .inr (5, [.ref t_11, .ref a_12, .ref b_13, .ref c_14, .ref d_15, .int 0, .int 0, .int 0, .int 0, .int 0])), (t_11, .inr (10, [.ref tb_16, .int 0, .int 0, .int 0, .int 0])), (tb_16, .inl (E.2.1 0, 160, .inl (fun _ => 0))), (q_17, .inr (2, [.ref jt_18, .ref je_19, .ref ju_20, .ref ja_21])), (jt_18, .inl (E.2.1 7, 8, .inr (.inr (.inr (.inr (fun _ => none)))))), (je_19, .inl (E.2.1 4, 4, .inr (.inr (.inr (.inr fe_22))))), (e0_23, .inr (0, [.int 0, .int 0, .ref e0a_24, .ref e0b_25, .ref e0c_26, .ref e0d_27])), (e0a_24, .inl (E.2.1 7, 4, .inr (.inr (.inr (.inr (fun _ => none)))))), (e0b_25, .inl (E.2.1 1, 4, .inl (fun _ => 0))), (e0c_26, .inl (E.2.1 1, 4, .inl (fun _ => 0))), (e0d_27, .inl (E.2.1 1, 16, .inl (fun _ => 0))), (e1_28, .inr (0, [.int 0, .int 0, .ref e1a_29, .ref e1b_30, .ref e1c_31, .ref e1d_32])), (e1a_29, .inl (E.2.1 7, 4, .inr (.inr (.inr (.inr (fun _ => none)))))), (e1b_30, .inl (E.2.1 1, 4, .inl (fun _ => 0))), (e1c_31, .inl (E.2.1 1, 4, .inl (fun _ => 0))), (e1d_32, .inl (E.2.1 1, 16, .inl (fun _ => 0))), (e2_33, .inr (0, [.int 0, .int 0, .ref e2a_34, .ref e2b_35, .ref e2c_36, .ref e2d_37])), (e2a_34, .inl (E.2.1 7, 4, .inr (.inr (.inr (.inr (fun _ => none)))))), (e2b_35, .inl (E.2.1 1, 4, .inl (fun _ => 0))), (e2c_36, .inl (E.2.1 1, 4, .inl (fun _ => 0))), (e2d_37, .inl (E.2.1 1, 16, .inl (fun _ => 0))), (e3_38, .inr (0, [.int 0, .int 0, .ref e3a_39, .ref e3b_40, .ref e3c_41, .ref e3d_42])), (e3a_39, .inl (E.2.1 7, 4, .inr (.inr (.inr (.inr (fun _ => none)))))), (e3b_40, .inl (E.2.1 1, 4, .inl (fun _ => 0))), (e3c_41, .inl (E.2.1 1, 4, .inl (fun _ => 0))), (e3d_42, .inl (E.2.1 1, 16, .inl (fun _ => 0))), (q_47, .inr (3, [.ref m_48, .int 0, .int 0, .ref a_49, .ref b_50, .ref c_51])), (q_52, .inr (1, [.null, .null, .int 0, .ref a_53, .ref b_54, .ref c_55]))]) C fp_X11_58 hin ⟨_, _, rfl⟩ 0 rfl rfl rfl rfl rfl dX11_init_84 ?_
  refine ww_aload_n C dX11_init_87 0 rfl rfl ?_
  refine ww_new (k' := 104) (n' := 3061) C cn_X11_62 rfl dX11_init_88 (fun q_58 => ?_)
  refine ww_eq (ws' := [(hx, .inr (11, [.ref q_1, .ref a_4, .int 0, .int 0, .ref q_10, .ref q_17, .ref q_47, .ref q_52, .ref a_56, .int 0, .ref q_57, .null, .int 0, .int 0, .null])), (q_1, .inr (4, [.int 0, .int 0, .ref a_2, .ref b_3])), (a_2, .inl (E.2.1 1, 24, .inl (fun _ => 0))), (b_3, .inl (E.2.1 1, 96, .inl (fun _ => 0))), (a_4, .inl (E.2.1 6, 8, .inr (.inr (.inr (.inr fp_5))))), (m_6, .inr (4, [.int 0, .int 0, .ref x_7, .ref y_8])), (x_7, .inl (E.2.1 1, 24, .inl (fun _ => 0))), (y_8, .inl (E.2.1 1, 96, .inl (fun _ => 0))), (q_10, .inr (5, [.ref t_11, .ref a_12, .ref b_13, .ref c_14, .ref d_15, .int 0, .int 0, .int 0, .int 0, .int 0])), (t_11, .inr (10, [.ref tb_16, .int 0, .int 0, .int 0, .int 0])), (tb_16, .inl (E.2.1 0, 160, .inl (fun _ => 0))), (q_17, .inr (2, [.ref jt_18, .ref je_19, .ref ju_20, .ref ja_21])), (jt_18, .inl (E.2.1 7, 8, .inr (.inr (.inr (.inr (fun _ => none)))))), (je_19, .inl (E.2.1 4, 4, .inr (.inr (.inr (.inr fe_22))))), (e0_23, .inr (0, [.int 0, .int 0, .ref e0a_24, .ref e0b_25, .ref e0c_26, .ref e0d_27])), (e0a_24, .inl (E.2.1 7, 4, .inr (.inr (.inr (.inr (fun _ => none)))))), (e0b_25, .inl (E.2.1 1, 4, .inl (fun _ => 0))), (e0c_26, .inl (E.2.1 1, 4, .inl (fun _ => 0))), (e0d_27, .inl (E.2.1 1, 16, .inl (fun _ => 0))), (e1_28, .inr (0, [.int 0, .int 0, .ref e1a_29, .ref e1b_30, .ref e1c_31, .ref e1d_32])), (e1a_29, .inl (E.2.1 7, 4, .inr (.inr (.inr (.inr (fun _ => none)))))), (e1b_30, .inl (E.2.1 1, 4, .inl (fun _ => 0))), (e1c_31, .inl (E.2.1 1, 4, .inl (fun _ => 0))), (e1d_32, .inl (E.2.1 1, 16, .inl (fun _ => 0))), (e2_33, .inr (0, [.int 0, .int 0, .ref e2a_34, .ref e2b_35, .ref e2c_36, .ref e2d_37])), (e2a_34, .inl (E.2.1 7, 4, .inr (.inr (.inr (.inr (fun _ => none)))))), (e2b_35, .inl (E.2.1 1, 4, .inl (fun _ => 0))), (e2c_36, .inl (E.2.1 1, 4, .inl (fun _ => 0))), (e2d_37, .inl (E.2.1 1, 16, .inl (fun _ => 0))), (e3_38, .inr (0, [.int 0, .int 0, .ref e3a_39, .ref e3b_40, .ref e3c_41, .ref e3d_42])), (e3a_39, .inl (E.2.1 7, 4, .inr (.inr (.inr (.inr (fun _ => none)))))), (e3b_40, .inl (E.2.1 1, 4, .inl (fun _ => 0))), (e3c_41, .inl (E.2.1 1, 4, .inl (fun _ => 0))), (e3d_42, .inl (E.2.1 1, 16, .inl (fun _ => 0))), (q_47, .inr (3, [.ref m_48, .int 0, .int 0, .ref a_49, .ref b_50, .ref c_51])), (q_52, .inr (1, [.null, .null, .int 0, .ref a_53, .ref b_54, .ref c_55])), (q_58, .inr (6, [.null, .null, .null, .int 0, .int 0]))]) ?_ rfl rfl rfl
  refine ww_dup C dX11_init_91 rfl ?_
  refine ww_cv (wr := [(hx, .inr (11, [.ref q_1, .ref a_4, .int 0, .int 0, .ref q_10, .ref q_17, .ref q_47, .ref q_52, .ref a_56, .int 0, .ref q_57, .null, .int 0, .int 0, .null])), (q_1, .inr (4, [.int 0, .int 0, .ref a_2, .ref b_3])), (a_2, .inl (E.2.1 1, 24, .inl (fun _ => 0))), (b_3, .inl (E.2.1 1, 96, .inl (fun _ => 0))), (a_4, .inl (E.2.1 6, 8, .inr (.inr (.inr (.inr fp_5))))), (m_6, .inr (4, [.int 0, .int 0, .ref x_7, .ref y_8])), (x_7, .inl (E.2.1 1, 24, .inl (fun _ => 0))), (y_8, .inl (E.2.1 1, 96, .inl (fun _ => 0))), (q_10, .inr (5, [.ref t_11, .ref a_12, .ref b_13, .ref c_14, .ref d_15, .int 0, .int 0, .int 0, .int 0, .int 0])), (t_11, .inr (10, [.ref tb_16, .int 0, .int 0, .int 0, .int 0])), (tb_16, .inl (E.2.1 0, 160, .inl (fun _ => 0))), (q_17, .inr (2, [.ref jt_18, .ref je_19, .ref ju_20, .ref ja_21])), (jt_18, .inl (E.2.1 7, 8, .inr (.inr (.inr (.inr (fun _ => none)))))), (je_19, .inl (E.2.1 4, 4, .inr (.inr (.inr (.inr fe_22))))), (e0_23, .inr (0, [.int 0, .int 0, .ref e0a_24, .ref e0b_25, .ref e0c_26, .ref e0d_27])), (e0a_24, .inl (E.2.1 7, 4, .inr (.inr (.inr (.inr (fun _ => none)))))), (e0b_25, .inl (E.2.1 1, 4, .inl (fun _ => 0))), (e0c_26, .inl (E.2.1 1, 4, .inl (fun _ => 0))), (e0d_27, .inl (E.2.1 1, 16, .inl (fun _ => 0))), (e1_28, .inr (0, [.int 0, .int 0, .ref e1a_29, .ref e1b_30, .ref e1c_31, .ref e1d_32])), (e1a_29, .inl (E.2.1 7, 4, .inr (.inr (.inr (.inr (fun _ => none)))))), (e1b_30, .inl (E.2.1 1, 4, .inl (fun _ => 0))), (e1c_31, .inl (E.2.1 1, 4, .inl (fun _ => 0))), (e1d_32, .inl (E.2.1 1, 16, .inl (fun _ => 0))), (e2_33, .inr (0, [.int 0, .int 0, .ref e2a_34, .ref e2b_35, .ref e2c_36, .ref e2d_37])), (e2a_34, .inl (E.2.1 7, 4, .inr (.inr (.inr (.inr (fun _ => none)))))), (e2b_35, .inl (E.2.1 1, 4, .inl (fun _ => 0))), (e2c_36, .inl (E.2.1 1, 4, .inl (fun _ => 0))), (e2d_37, .inl (E.2.1 1, 16, .inl (fun _ => 0))), (e3_38, .inr (0, [.int 0, .int 0, .ref e3a_39, .ref e3b_40, .ref e3c_41, .ref e3d_42])), (e3a_39, .inl (E.2.1 7, 4, .inr (.inr (.inr (.inr (fun _ => none)))))), (e3b_40, .inl (E.2.1 1, 4, .inl (fun _ => 0))), (e3c_41, .inl (E.2.1 1, 4, .inl (fun _ => 0))), (e3d_42, .inl (E.2.1 1, 16, .inl (fun _ => 0))), (q_47, .inr (3, [.ref m_48, .int 0, .int 0, .ref a_49, .ref b_50, .ref c_51])), (q_52, .inr (1, [.null, .null, .int 0, .ref a_53, .ref b_54, .ref c_55]))]) (k' := 126) (n' := 3610) C (run_I (As := []) (rest := [.ref q_58, .ref hx]) C (k_Planner X.2.1 E q_58) mn_X6_init wl_X11_64 rfl rfl rfl rfl dX11_init_92) [36] [0, 1, 2, 3, 4, 5, 6, 7, 8, 9, 10, 11, 12, 13, 14, 15, 16, 17, 18, 19, 20, 21, 22, 23, 24, 25, 26, 27, 28, 29, 30, 31, 32, 33, 34, 35] rfl rfl rfl rfl (fun u hw => ?_)
  obtain ⟨rfl⟩ := hw
  refine ww_eq (ws' := [(hx, .inr (11, [.ref q_1, .ref a_4, .int 0, .int 0, .ref q_10, .ref q_17, .ref q_47, .ref q_52, .ref a_56, .int 0, .ref q_57, .null, .int 0, .int 0, .null])), (q_1, .inr (4, [.int 0, .int 0, .ref a_2, .ref b_3])), (a_2, .inl (E.2.1 1, 24, .inl (fun _ => 0))), (b_3, .inl (E.2.1 1, 96, .inl (fun _ => 0))), (a_4, .inl (E.2.1 6, 8, .inr (.inr (.inr (.inr fp_5))))), (m_6, .inr (4, [.int 0, .int 0, .ref x_7, .ref y_8])), (x_7, .inl (E.2.1 1, 24, .inl (fun _ => 0))), (y_8, .inl (E.2.1 1, 96, .inl (fun _ => 0))), (q_10, .inr (5, [.ref t_11, .ref a_12, .ref b_13, .ref c_14, .ref d_15, .int 0, .int 0, .int 0, .int 0, .int 0])), (t_11, .inr (10, [.ref tb_16, .int 0, .int 0, .int 0, .int 0])), (tb_16, .inl (E.2.1 0, 160, .inl (fun _ => 0))), (q_17, .inr (2, [.ref jt_18, .ref je_19, .ref ju_20, .ref ja_21])), (jt_18, .inl (E.2.1 7, 8, .inr (.inr (.inr (.inr (fun _ => none)))))), (je_19, .inl (E.2.1 4, 4, .inr (.inr (.inr (.inr fe_22))))), (e0_23, .inr (0, [.int 0, .int 0, .ref e0a_24, .ref e0b_25, .ref e0c_26, .ref e0d_27])), (e0a_24, .inl (E.2.1 7, 4, .inr (.inr (.inr (.inr (fun _ => none)))))), (e0b_25, .inl (E.2.1 1, 4, .inl (fun _ => 0))), (e0c_26, .inl (E.2.1 1, 4, .inl (fun _ => 0))), (e0d_27, .inl (E.2.1 1, 16, .inl (fun _ => 0))), (e1_28, .inr (0, [.int 0, .int 0, .ref e1a_29, .ref e1b_30, .ref e1c_31, .ref e1d_32])), (e1a_29, .inl (E.2.1 7, 4, .inr (.inr (.inr (.inr (fun _ => none)))))), (e1b_30, .inl (E.2.1 1, 4, .inl (fun _ => 0))), (e1c_31, .inl (E.2.1 1, 4, .inl (fun _ => 0))), (e1d_32, .inl (E.2.1 1, 16, .inl (fun _ => 0))), (e2_33, .inr (0, [.int 0, .int 0, .ref e2a_34, .ref e2b_35, .ref e2c_36, .ref e2d_37])), (e2a_34, .inl (E.2.1 7, 4, .inr (.inr (.inr (.inr (fun _ => none)))))), (e2b_35, .inl (E.2.1 1, 4, .inl (fun _ => 0))), (e2c_36, .inl (E.2.1 1, 4, .inl (fun _ => 0))), (e2d_37, .inl (E.2.1 1, 16, .inl (fun _ => 0))), (e3_38, .inr (0, [.int 0, .int 0, .ref e3a_39, .ref e3b_40, .ref e3c_41, .ref e3d_42])), (e3a_39, .inl (E.2.1 7, 4, .inr (.inr (.inr (.inr (fun _ => none)))))), (e3b_40, .inl (E.2.1 1, 4, .inl (fun _ => 0))), (e3c_41, .inl (E.2.1 1, 4, .inl (fun _ => 0))), (e3d_42, .inl (E.2.1 1, 16, .inl (fun _ => 0))), (q_47, .inr (3, [.ref m_48, .int 0, .int 0, .ref a_49, .ref b_50, .ref c_51])), (q_52, .inr (1, [.null, .null, .int 0, .ref a_53, .ref b_54, .ref c_55]))]) ?_ rfl rfl rfl
  refine ww_putF (ws' := [(hx, .inr (11, [.ref q_1, .ref a_4, .int 0, .int 0, .ref q_10, .ref q_17, .ref q_47, .ref q_52, .ref a_56, .int 0, .ref q_57, .ref q_58, .int 0, .int 0, .null])), (q_1, .inr (4, [.int 0, .int 0, .ref a_2, .ref b_3])), (a_2, .inl (E.2.1 1, 24, .inl (fun _ => 0))), (b_3, .inl (E.2.1 1, 96, .inl (fun _ => 0))), (a_4, .inl (E.2.1 6, 8, .inr (.inr (.inr (.inr fp_5))))), (m_6, .inr (4, [.int 0, .int 0, .ref x_7, .ref y_8])), (x_7, .inl (E.2.1 1, 24, .inl (fun _ => 0))), (y_8, .inl (E.2.1 1, 96, .inl (fun _ => 0))), (q_10, .inr (5, [.ref t_11, .ref a_12, .ref b_13, .ref c_14, .ref d_15, .int 0, .int 0, .int 0, .int 0, .int 0])), (t_11, .inr (10, [.ref tb_16, .int 0, .int 0, .int 0, .int 0])), (tb_16, .inl (E.2.1 0, 160, .inl (fun _ => 0))), (q_17, .inr (2, [.ref jt_18, .ref je_19, .ref ju_20, .ref ja_21])), (jt_18, .inl (E.2.1 7, 8, .inr (.inr (.inr (.inr (fun _ => none)))))), (je_19, .inl (E.2.1 4, 4, .inr (.inr (.inr (.inr fe_22))))), (e0_23, .inr (0, [.int 0, .int 0, .ref e0a_24, .ref e0b_25, .ref e0c_26, .ref e0d_27])), (e0a_24, .inl (E.2.1 7, 4, .inr (.inr (.inr (.inr (fun _ => none)))))), (e0b_25, .inl (E.2.1 1, 4, .inl (fun _ => 0))), (e0c_26, .inl (E.2.1 1, 4, .inl (fun _ => 0))), (e0d_27, .inl (E.2.1 1, 16, .inl (fun _ => 0))), (e1_28, .inr (0, [.int 0, .int 0, .ref e1a_29, .ref e1b_30, .ref e1c_31, .ref e1d_32])), (e1a_29, .inl (E.2.1 7, 4, .inr (.inr (.inr (.inr (fun _ => none)))))), (e1b_30, .inl (E.2.1 1, 4, .inl (fun _ => 0))), (e1c_31, .inl (E.2.1 1, 4, .inl (fun _ => 0))), (e1d_32, .inl (E.2.1 1, 16, .inl (fun _ => 0))), (e2_33, .inr (0, [.int 0, .int 0, .ref e2a_34, .ref e2b_35, .ref e2c_36, .ref e2d_37])), (e2a_34, .inl (E.2.1 7, 4, .inr (.inr (.inr (.inr (fun _ => none)))))), (e2b_35, .inl (E.2.1 1, 4, .inl (fun _ => 0))), (e2c_36, .inl (E.2.1 1, 4, .inl (fun _ => 0))), (e2d_37, .inl (E.2.1 1, 16, .inl (fun _ => 0))), (e3_38, .inr (0, [.int 0, .int 0, .ref e3a_39, .ref e3b_40, .ref e3c_41, .ref e3d_42])), (e3a_39, .inl (E.2.1 7, 4, .inr (.inr (.inr (.inr (fun _ => none)))))), (e3b_40, .inl (E.2.1 1, 4, .inl (fun _ => 0))), (e3c_41, .inl (E.2.1 1, 4, .inl (fun _ => 0))), (e3d_42, .inl (E.2.1 1, 16, .inl (fun _ => 0))), (q_47, .inr (3, [.ref m_48, .int 0, .int 0, .ref a_49, .ref b_50, .ref c_51])), (q_52, .inr (1, [.null, .null, .int 0, .ref a_53, .ref b_54, .ref c_55]))]) C fp_X11_65 hin ⟨_, _, rfl⟩ 0 rfl rfl rfl rfl rfl dX11_init_95 ?_
  refine ww_aload_n C dX11_init_98 0 rfl rfl ?_
  refine ww_iconst (v := 4) C dX11_init_99 rfl ?_
  refine ww_newq (N := 4) (t0 := 8) (Cn := "WhoKnows$Sheet") (k' := 127) (n' := 3614) C wk_X11_69 (by decide) rfl (by decide) rfl rfl rfl dX11_init_100 (fun q_59 => ?_)
  refine ww_eq (ws' := [(hx, .inr (11, [.ref q_1, .ref a_4, .int 0, .int 0, .ref q_10, .ref q_17, .ref q_47, .ref q_52, .ref a_56, .int 0, .ref q_57, .ref q_58, .int 0, .int 0, .null])), (q_1, .inr (4, [.int 0, .int 0, .ref a_2, .ref b_3])), (a_2, .inl (E.2.1 1, 24, .inl (fun _ => 0))), (b_3, .inl (E.2.1 1, 96, .inl (fun _ => 0))), (a_4, .inl (E.2.1 6, 8, .inr (.inr (.inr (.inr fp_5))))), (m_6, .inr (4, [.int 0, .int 0, .ref x_7, .ref y_8])), (x_7, .inl (E.2.1 1, 24, .inl (fun _ => 0))), (y_8, .inl (E.2.1 1, 96, .inl (fun _ => 0))), (q_10, .inr (5, [.ref t_11, .ref a_12, .ref b_13, .ref c_14, .ref d_15, .int 0, .int 0, .int 0, .int 0, .int 0])), (t_11, .inr (10, [.ref tb_16, .int 0, .int 0, .int 0, .int 0])), (tb_16, .inl (E.2.1 0, 160, .inl (fun _ => 0))), (q_17, .inr (2, [.ref jt_18, .ref je_19, .ref ju_20, .ref ja_21])), (jt_18, .inl (E.2.1 7, 8, .inr (.inr (.inr (.inr (fun _ => none)))))), (je_19, .inl (E.2.1 4, 4, .inr (.inr (.inr (.inr fe_22))))), (e0_23, .inr (0, [.int 0, .int 0, .ref e0a_24, .ref e0b_25, .ref e0c_26, .ref e0d_27])), (e0a_24, .inl (E.2.1 7, 4, .inr (.inr (.inr (.inr (fun _ => none)))))), (e0b_25, .inl (E.2.1 1, 4, .inl (fun _ => 0))), (e0c_26, .inl (E.2.1 1, 4, .inl (fun _ => 0))), (e0d_27, .inl (E.2.1 1, 16, .inl (fun _ => 0))), (e1_28, .inr (0, [.int 0, .int 0, .ref e1a_29, .ref e1b_30, .ref e1c_31, .ref e1d_32])), (e1a_29, .inl (E.2.1 7, 4, .inr (.inr (.inr (.inr (fun _ => none)))))), (e1b_30, .inl (E.2.1 1, 4, .inl (fun _ => 0))), (e1c_31, .inl (E.2.1 1, 4, .inl (fun _ => 0))), (e1d_32, .inl (E.2.1 1, 16, .inl (fun _ => 0))), (e2_33, .inr (0, [.int 0, .int 0, .ref e2a_34, .ref e2b_35, .ref e2c_36, .ref e2d_37])), (e2a_34, .inl (E.2.1 7, 4, .inr (.inr (.inr (.inr (fun _ => none)))))), (e2b_35, .inl (E.2.1 1, 4, .inl (fun _ => 0))), (e2c_36, .inl (E.2.1 1, 4, .inl (fun _ => 0))), (e2d_37, .inl (E.2.1 1, 16, .inl (fun _ => 0))), (e3_38, .inr (0, [.int 0, .int 0, .ref e3a_39, .ref e3b_40, .ref e3c_41, .ref e3d_42])), (e3a_39, .inl (E.2.1 7, 4, .inr (.inr (.inr (.inr (fun _ => none)))))), (e3b_40, .inl (E.2.1 1, 4, .inl (fun _ => 0))), (e3c_41, .inl (E.2.1 1, 4, .inl (fun _ => 0))), (e3d_42, .inl (E.2.1 1, 16, .inl (fun _ => 0))), (q_47, .inr (3, [.ref m_48, .int 0, .int 0, .ref a_49, .ref b_50, .ref c_51])), (q_52, .inr (1, [.null, .null, .int 0, .ref a_53, .ref b_54, .ref c_55])), (q_59, .inl (E.2.1 8, 4, .inr (.inr (.inr (.inr (fun _ => none))))))]) ?_ rfl rfl rfl
  refine ww_putF (ws' := [(hx, .inr (11, [.ref q_1, .ref a_4, .int 0, .int 0, .ref q_10, .ref q_17, .ref q_47, .ref q_52, .ref a_56, .int 0, .ref q_57, .ref q_58, .int 0, .int 0, .ref q_59])), (q_1, .inr (4, [.int 0, .int 0, .ref a_2, .ref b_3])), (a_2, .inl (E.2.1 1, 24, .inl (fun _ => 0))), (b_3, .inl (E.2.1 1, 96, .inl (fun _ => 0))), (a_4, .inl (E.2.1 6, 8, .inr (.inr (.inr (.inr fp_5))))), (m_6, .inr (4, [.int 0, .int 0, .ref x_7, .ref y_8])), (x_7, .inl (E.2.1 1, 24, .inl (fun _ => 0))), (y_8, .inl (E.2.1 1, 96, .inl (fun _ => 0))), (q_10, .inr (5, [.ref t_11, .ref a_12, .ref b_13, .ref c_14, .ref d_15, .int 0, .int 0, .int 0, .int 0, .int 0])), (t_11, .inr (10, [.ref tb_16, .int 0, .int 0, .int 0, .int 0])), (tb_16, .inl (E.2.1 0, 160, .inl (fun _ => 0))), (q_17, .inr (2, [.ref jt_18, .ref je_19, .ref ju_20, .ref ja_21])), (jt_18, .inl (E.2.1 7, 8, .inr (.inr (.inr (.inr (fun _ => none)))))), (je_19, .inl (E.2.1 4, 4, .inr (.inr (.inr (.inr fe_22))))), (e0_23, .inr (0, [.int 0, .int 0, .ref e0a_24, .ref e0b_25, .ref e0c_26, .ref e0d_27])), (e0a_24, .inl (E.2.1 7, 4, .inr (.inr (.inr (.inr (fun _ => none)))))), (e0b_25, .inl (E.2.1 1, 4, .inl (fun _ => 0))), (e0c_26, .inl (E.2.1 1, 4, .inl (fun _ => 0))), (e0d_27, .inl (E.2.1 1, 16, .inl (fun _ => 0))), (e1_28, .inr (0, [.int 0, .int 0, .ref e1a_29, .ref e1b_30, .ref e1c_31, .ref e1d_32])), (e1a_29, .inl (E.2.1 7, 4, .inr (.inr (.inr (.inr (fun _ => none)))))), (e1b_30, .inl (E.2.1 1, 4, .inl (fun _ => 0))), (e1c_31, .inl (E.2.1 1, 4, .inl (fun _ => 0))), (e1d_32, .inl (E.2.1 1, 16, .inl (fun _ => 0))), (e2_33, .inr (0, [.int 0, .int 0, .ref e2a_34, .ref e2b_35, .ref e2c_36, .ref e2d_37])), (e2a_34, .inl (E.2.1 7, 4, .inr (.inr (.inr (.inr (fun _ => none)))))), (e2b_35, .inl (E.2.1 1, 4, .inl (fun _ => 0))), (e2c_36, .inl (E.2.1 1, 4, .inl (fun _ => 0))), (e2d_37, .inl (E.2.1 1, 16, .inl (fun _ => 0))), (e3_38, .inr (0, [.int 0, .int 0, .ref e3a_39, .ref e3b_40, .ref e3c_41, .ref e3d_42])), (e3a_39, .inl (E.2.1 7, 4, .inr (.inr (.inr (.inr (fun _ => none)))))), (e3b_40, .inl (E.2.1 1, 4, .inl (fun _ => 0))), (e3c_41, .inl (E.2.1 1, 4, .inl (fun _ => 0))), (e3d_42, .inl (E.2.1 1, 16, .inl (fun _ => 0))), (q_47, .inr (3, [.ref m_48, .int 0, .int 0, .ref a_49, .ref b_50, .ref c_51])), (q_52, .inr (1, [.null, .null, .int 0, .ref a_53, .ref b_54, .ref c_55])), (q_59, .inl (E.2.1 8, 4, .inr (.inr (.inr (.inr (fun _ => none))))))]) C fp_X11_71 hin ⟨_, _, rfl⟩ 0 rfl rfl rfl rfl rfl dX11_init_103 ?_
  refine ww_iconst (v := 0) C dX11_init_106 rfl ?_
  refine ww_istore_n (lv' := [(1, .int 0), (0, .ref hx)]) C dX11_init_107 rfl rfl rfl ?_
  refine ww_iload_n C dX11_init_108 0 rfl rfl ?_
  refine ww_iconst (v := 4) C dX11_init_109 rfl ?_
  refine ww_icmp_ge_f (tgt := 132) C dX11_init_110 (by decide) (by decide) ?_
  refine ww_aload_n C dX11_init_113 1 rfl rfl ?_
  refine ww_get C fg_X11_71 0 rfl rfl dX11_init_114 ?_
  refine ww_iload_n C dX11_init_117 0 rfl rfl ?_
  refine ww_new (k' := 128) (n' := 3618) C cn_X11_69 rfl dX11_init_118 (fun q_60 => ?_)
  refine ww_eq (ws' := [(hx, .inr (11, [.ref q_1, .ref a_4, .int 0, .int 0, .ref q_10, .ref q_17, .ref q_47, .ref q_52, .ref a_56, .int 0, .ref q_57, .ref q_58, .int 0, .int 0, .ref q_59])), (q_1, .inr (4, [.int 0, .int 0, .ref a_2, .ref b_3])), (a_2, .inl (E.2.1 1, 24, .inl (fun _ => 0))), (b_3, .inl (E.2.1 1, 96, .inl (fun _ => 0))), (a_4, .inl (E.2.1 6, 8, .inr (.inr (.inr (.inr fp_5))))), (m_6, .inr (4, [.int 0, .int 0, .ref x_7, .ref y_8])), (x_7, .inl (E.2.1 1, 24, .inl (fun _ => 0))), (y_8, .inl (E.2.1 1, 96, .inl (fun _ => 0))), (q_10, .inr (5, [.ref t_11, .ref a_12, .ref b_13, .ref c_14, .ref d_15, .int 0, .int 0, .int 0, .int 0, .int 0])), (t_11, .inr (10, [.ref tb_16, .int 0, .int 0, .int 0, .int 0])), (tb_16, .inl (E.2.1 0, 160, .inl (fun _ => 0))), (q_17, .inr (2, [.ref jt_18, .ref je_19, .ref ju_20, .ref ja_21])), (jt_18, .inl (E.2.1 7, 8, .inr (.inr (.inr (.inr (fun _ => none)))))), (je_19, .inl (E.2.1 4, 4, .inr (.inr (.inr (.inr fe_22))))), (e0_23, .inr (0, [.int 0, .int 0, .ref e0a_24, .ref e0b_25, .ref e0c_26, .ref e0d_27])), (e0a_24, .inl (E.2.1 7, 4, .inr (.inr (.inr (.inr (fun _ => none)))))), (e0b_25, .inl (E.2.1 1, 4, .inl (fun _ => 0))), (e0c_26, .inl (E.2.1 1, 4, .inl (fun _ => 0))), (e0d_27, .inl (E.2.1 1, 16, .inl (fun _ => 0))), (e1_28, .inr (0, [.int 0, .int 0, .ref e1a_29, .ref e1b_30, .ref e1c_31, .ref e1d_32])), (e1a_29, .inl (E.2.1 7, 4, .inr (.inr (.inr (.inr (fun _ => none)))))), (e1b_30, .inl (E.2.1 1, 4, .inl (fun _ => 0))), (e1c_31, .inl (E.2.1 1, 4, .inl (fun _ => 0))), (e1d_32, .inl (E.2.1 1, 16, .inl (fun _ => 0))), (e2_33, .inr (0, [.int 0, .int 0, .ref e2a_34, .ref e2b_35, .ref e2c_36, .ref e2d_37])), (e2a_34, .inl (E.2.1 7, 4, .inr (.inr (.inr (.inr (fun _ => none)))))), (e2b_35, .inl (E.2.1 1, 4, .inl (fun _ => 0))), (e2c_36, .inl (E.2.1 1, 4, .inl (fun _ => 0))), (e2d_37, .inl (E.2.1 1, 16, .inl (fun _ => 0))), (e3_38, .inr (0, [.int 0, .int 0, .ref e3a_39, .ref e3b_40, .ref e3c_41, .ref e3d_42])), (e3a_39, .inl (E.2.1 7, 4, .inr (.inr (.inr (.inr (fun _ => none)))))), (e3b_40, .inl (E.2.1 1, 4, .inl (fun _ => 0))), (e3c_41, .inl (E.2.1 1, 4, .inl (fun _ => 0))), (e3d_42, .inl (E.2.1 1, 16, .inl (fun _ => 0))), (q_47, .inr (3, [.ref m_48, .int 0, .int 0, .ref a_49, .ref b_50, .ref c_51])), (q_52, .inr (1, [.null, .null, .int 0, .ref a_53, .ref b_54, .ref c_55])), (q_59, .inl (E.2.1 8, 4, .inr (.inr (.inr (.inr (fun _ => none)))))), (q_60, .inr (9, [.int 0, .int 0, .int 0, .null]))]) ?_ rfl rfl rfl
  refine ww_dup C dX11_init_121 rfl ?_
  refine ww_cv (wr := [(hx, .inr (11, [.ref q_1, .ref a_4, .int 0, .int 0, .ref q_10, .ref q_17, .ref q_47, .ref q_52, .ref a_56, .int 0, .ref q_57, .ref q_58, .int 0, .int 0, .ref q_59])), (q_1, .inr (4, [.int 0, .int 0, .ref a_2, .ref b_3])), (a_2, .inl (E.2.1 1, 24, .inl (fun _ => 0))), (b_3, .inl (E.2.1 1, 96, .inl (fun _ => 0))), (a_4, .inl (E.2.1 6, 8, .inr (.inr (.inr (.inr fp_5))))), (m_6, .inr (4, [.int 0, .int 0, .ref x_7, .ref y_8])), (x_7, .inl (E.2.1 1, 24, .inl (fun _ => 0))), (y_8, .inl (E.2.1 1, 96, .inl (fun _ => 0))), (q_10, .inr (5, [.ref t_11, .ref a_12, .ref b_13, .ref c_14, .ref d_15, .int 0, .int 0, .int 0, .int 0, .int 0])), (t_11, .inr (10, [.ref tb_16, .int 0, .int 0, .int 0, .int 0])), (tb_16, .inl (E.2.1 0, 160, .inl (fun _ => 0))), (q_17, .inr (2, [.ref jt_18, .ref je_19, .ref ju_20, .ref ja_21])), (jt_18, .inl (E.2.1 7, 8, .inr (.inr (.inr (.inr (fun _ => none)))))), (je_19, .inl (E.2.1 4, 4, .inr (.inr (.inr (.inr fe_22))))), (e0_23, .inr (0, [.int 0, .int 0, .ref e0a_24, .ref e0b_25, .ref e0c_26, .ref e0d_27])), (e0a_24, .inl (E.2.1 7, 4, .inr (.inr (.inr (.inr (fun _ => none)))))), (e0b_25, .inl (E.2.1 1, 4, .inl (fun _ => 0))), (e0c_26, .inl (E.2.1 1, 4, .inl (fun _ => 0))), (e0d_27, .inl (E.2.1 1, 16, .inl (fun _ => 0))), (e1_28, .inr (0, [.int 0, .int 0, .ref e1a_29, .ref e1b_30, .ref e1c_31, .ref e1d_32])), (e1a_29, .inl (E.2.1 7, 4, .inr (.inr (.inr (.inr (fun _ => none)))))), (e1b_30, .inl (E.2.1 1, 4, .inl (fun _ => 0))), (e1c_31, .inl (E.2.1 1, 4, .inl (fun _ => 0))), (e1d_32, .inl (E.2.1 1, 16, .inl (fun _ => 0))), (e2_33, .inr (0, [.int 0, .int 0, .ref e2a_34, .ref e2b_35, .ref e2c_36, .ref e2d_37])), (e2a_34, .inl (E.2.1 7, 4, .inr (.inr (.inr (.inr (fun _ => none)))))), (e2b_35, .inl (E.2.1 1, 4, .inl (fun _ => 0))), (e2c_36, .inl (E.2.1 1, 4, .inl (fun _ => 0))), (e2d_37, .inl (E.2.1 1, 16, .inl (fun _ => 0))), (e3_38, .inr (0, [.int 0, .int 0, .ref e3a_39, .ref e3b_40, .ref e3c_41, .ref e3d_42])), (e3a_39, .inl (E.2.1 7, 4, .inr (.inr (.inr (.inr (fun _ => none)))))), (e3b_40, .inl (E.2.1 1, 4, .inl (fun _ => 0))), (e3c_41, .inl (E.2.1 1, 4, .inl (fun _ => 0))), (e3d_42, .inl (E.2.1 1, 16, .inl (fun _ => 0))), (q_47, .inr (3, [.ref m_48, .int 0, .int 0, .ref a_49, .ref b_50, .ref c_51])), (q_52, .inr (1, [.null, .null, .int 0, .ref a_53, .ref b_54, .ref c_55])), (q_59, .inl (E.2.1 8, 4, .inr (.inr (.inr (.inr (fun _ => none))))))]) (k' := 129) (n' := 3666) C (run_IN (As := []) (rest := [.ref q_60, .int 0, .ref q_59]) C (k_Sheet X.2.1 E q_60) mn_X9_init (List.mem_of_getElem? (i := 11) rfl) rfl rfl rfl rfl dX11_init_122) [37] [0, 1, 2, 3, 4, 5, 6, 7, 8, 9, 10, 11, 12, 13, 14, 15, 16, 17, 18, 19, 20, 21, 22, 23, 24, 25, 26, 27, 28, 29, 30, 31, 32, 33, 34, 35, 36] rfl rfl rfl rfl (fun u hw => ?_)
  obtain ⟨a_61, rfl⟩ := hw
  refine ww_eq (ws' := [(hx, .inr (11, [.ref q_1, .ref a_4, .int 0, .int 0, .ref q_10, .ref q_17, .ref q_47, .ref q_52, .ref a_56, .int 0, .ref q_57, .ref q_58, .int 0, .int 0, .ref q_59])), (q_1, .inr (4, [.int 0, .int 0, .ref a_2, .ref b_3])), (a_2, .inl (E.2.1 1, 24, .inl (fun _ => 0))), (b_3, .inl (E.2.1 1, 96, .inl (fun _ => 0))), (a_4, .inl (E.2.1 6, 8, .inr (.inr (.inr (.inr fp_5))))), (m_6, .inr (4, [.int 0, .int 0, .ref x_7, .ref y_8])), (x_7, .inl (E.2.1 1, 24, .inl (fun _ => 0))), (y_8, .inl (E.2.1 1, 96, .inl (fun _ => 0))), (q_10, .inr (5, [.ref t_11, .ref a_12, .ref b_13, .ref c_14, .ref d_15, .int 0, .int 0, .int 0, .int 0, .int 0])), (t_11, .inr (10, [.ref tb_16, .int 0, .int 0, .int 0, .int 0])), (tb_16, .inl (E.2.1 0, 160, .inl (fun _ => 0))), (q_17, .inr (2, [.ref jt_18, .ref je_19, .ref ju_20, .ref ja_21])), (jt_18, .inl (E.2.1 7, 8, .inr (.inr (.inr (.inr (fun _ => none)))))), (je_19, .inl (E.2.1 4, 4, .inr (.inr (.inr (.inr fe_22))))), (e0_23, .inr (0, [.int 0, .int 0, .ref e0a_24, .ref e0b_25, .ref e0c_26, .ref e0d_27])), (e0a_24, .inl (E.2.1 7, 4, .inr (.inr (.inr (.inr (fun _ => none)))))), (e0b_25, .inl (E.2.1 1, 4, .inl (fun _ => 0))), (e0c_26, .inl (E.2.1 1, 4, .inl (fun _ => 0))), (e0d_27, .inl (E.2.1 1, 16, .inl (fun _ => 0))), (e1_28, .inr (0, [.int 0, .int 0, .ref e1a_29, .ref e1b_30, .ref e1c_31, .ref e1d_32])), (e1a_29, .inl (E.2.1 7, 4, .inr (.inr (.inr (.inr (fun _ => none)))))), (e1b_30, .inl (E.2.1 1, 4, .inl (fun _ => 0))), (e1c_31, .inl (E.2.1 1, 4, .inl (fun _ => 0))), (e1d_32, .inl (E.2.1 1, 16, .inl (fun _ => 0))), (e2_33, .inr (0, [.int 0, .int 0, .ref e2a_34, .ref e2b_35, .ref e2c_36, .ref e2d_37])), (e2a_34, .inl (E.2.1 7, 4, .inr (.inr (.inr (.inr (fun _ => none)))))), (e2b_35, .inl (E.2.1 1, 4, .inl (fun _ => 0))), (e2c_36, .inl (E.2.1 1, 4, .inl (fun _ => 0))), (e2d_37, .inl (E.2.1 1, 16, .inl (fun _ => 0))), (e3_38, .inr (0, [.int 0, .int 0, .ref e3a_39, .ref e3b_40, .ref e3c_41, .ref e3d_42])), (e3a_39, .inl (E.2.1 7, 4, .inr (.inr (.inr (.inr (fun _ => none)))))), (e3b_40, .inl (E.2.1 1, 4, .inl (fun _ => 0))), (e3c_41, .inl (E.2.1 1, 4, .inl (fun _ => 0))), (e3d_42, .inl (E.2.1 1, 16, .inl (fun _ => 0))), (q_47, .inr (3, [.ref m_48, .int 0, .int 0, .ref a_49, .ref b_50, .ref c_51])), (q_52, .inr (1, [.null, .null, .int 0, .ref a_53, .ref b_54, .ref c_55])), (q_59, .inl (E.2.1 8, 4, .inr (.inr (.inr (.inr (fun _ => none)))))), (q_60, .inr (9, [.int 0, .int 0, .int 0, .ref a_61])), (a_61, .inl (E.2.1 1, 48, .inl (fun _ => 0)))]) ?_ rfl rfl rfl
  obtain ⟨f_62, ef_62⟩ : ∃ z : Nat → Option Nat, va_up (fun _ => none) 0 (some q_60) = z := ⟨_, rfl⟩
  refine ww_ast (t0 := 8) (ws' := [(hx, .inr (11, [.ref q_1, .ref a_4, .int 0, .int 0, .ref q_10, .ref q_17, .ref q_47, .ref q_52, .ref a_56, .int 0, .ref q_57, .ref q_58, .int 0, .int 0, .ref q_59])), (q_1, .inr (4, [.int 0, .int 0, .ref a_2, .ref b_3])), (a_2, .inl (E.2.1 1, 24, .inl (fun _ => 0))), (b_3, .inl (E.2.1 1, 96, .inl (fun _ => 0))), (a_4, .inl (E.2.1 6, 8, .inr (.inr (.inr (.inr fp_5))))), (m_6, .inr (4, [.int 0, .int 0, .ref x_7, .ref y_8])), (x_7, .inl (E.2.1 1, 24, .inl (fun _ => 0))), (y_8, .inl (E.2.1 1, 96, .inl (fun _ => 0))), (q_10, .inr (5, [.ref t_11, .ref a_12, .ref b_13, .ref c_14, .ref d_15, .int 0, .int 0, .int 0, .int 0, .int 0])), (t_11, .inr (10, [.ref tb_16, .int 0, .int 0, .int 0, .int 0])), (tb_16, .inl (E.2.1 0, 160, .inl (fun _ => 0))), (q_17, .inr (2, [.ref jt_18, .ref je_19, .ref ju_20, .ref ja_21])), (jt_18, .inl (E.2.1 7, 8, .inr (.inr (.inr (.inr (fun _ => none)))))), (je_19, .inl (E.2.1 4, 4, .inr (.inr (.inr (.inr fe_22))))), (e0_23, .inr (0, [.int 0, .int 0, .ref e0a_24, .ref e0b_25, .ref e0c_26, .ref e0d_27])), (e0a_24, .inl (E.2.1 7, 4, .inr (.inr (.inr (.inr (fun _ => none)))))), (e0b_25, .inl (E.2.1 1, 4, .inl (fun _ => 0))), (e0c_26, .inl (E.2.1 1, 4, .inl (fun _ => 0))), (e0d_27, .inl (E.2.1 1, 16, .inl (fun _ => 0))), (e1_28, .inr (0, [.int 0, .int 0, .ref e1a_29, .ref e1b_30, .ref e1c_31, .ref e1d_32])), (e1a_29, .inl (E.2.1 7, 4, .inr (.inr (.inr (.inr (fun _ => none)))))), (e1b_30, .inl (E.2.1 1, 4, .inl (fun _ => 0))), (e1c_31, .inl (E.2.1 1, 4, .inl (fun _ => 0))), (e1d_32, .inl (E.2.1 1, 16, .inl (fun _ => 0))), (e2_33, .inr (0, [.int 0, .int 0, .ref e2a_34, .ref e2b_35, .ref e2c_36, .ref e2d_37])), (e2a_34, .inl (E.2.1 7, 4, .inr (.inr (.inr (.inr (fun _ => none)))))), (e2b_35, .inl (E.2.1 1, 4, .inl (fun _ => 0))), (e2c_36, .inl (E.2.1 1, 4, .inl (fun _ => 0))), (e2d_37, .inl (E.2.1 1, 16, .inl (fun _ => 0))), (e3_38, .inr (0, [.int 0, .int 0, .ref e3a_39, .ref e3b_40, .ref e3c_41, .ref e3d_42])), (e3a_39, .inl (E.2.1 7, 4, .inr (.inr (.inr (.inr (fun _ => none)))))), (e3b_40, .inl (E.2.1 1, 4, .inl (fun _ => 0))), (e3c_41, .inl (E.2.1 1, 4, .inl (fun _ => 0))), (e3d_42, .inl (E.2.1 1, 16, .inl (fun _ => 0))), (q_47, .inr (3, [.ref m_48, .int 0, .int 0, .ref a_49, .ref b_50, .ref c_51])), (q_52, .inr (1, [.null, .null, .int 0, .ref a_53, .ref b_54, .ref c_55])), (q_59, .inl (E.2.1 8, 4, .inr (.inr (.inr (.inr f_62))))), (q_60, .inr (9, [.int 0, .int 0, .int 0, .ref a_61])), (a_61, .inl (E.2.1 1, 48, .inl (fun _ => 0)))]) C 36 37 rfl rfl rfl rfl (vin rfl) ef_62 rfl dX11_init_125 ?_
  refine ww_iinc (j := 0) (v := 1) (lv' := [(1, .int 1), (0, .ref hx)]) C dX11_init_126 rfl rfl rfl rfl ?_
  refine ww_goto (tgt := 108) C dX11_init_129 (by decide) ?_
  refine ww_iload_n C dX11_init_108 0 rfl rfl ?_
  refine ww_iconst (v := 4) C dX11_init_109 rfl ?_
  refine ww_icmp_ge_f (tgt := 132) C dX11_init_110 (by decide) (by decide) ?_
  refine ww_aload_n C dX11_init_113 1 rfl rfl ?_
  refine ww_get C fg_X11_71 0 rfl rfl dX11_init_114 ?_
  refine ww_iload_n C dX11_init_117 0 rfl rfl ?_
  refine ww_new (k' := 130) (n' := 3670) C cn_X11_69 rfl dX11_init_118 (fun q_63 => ?_)
  refine ww_eq (ws' := [(hx, .inr (11, [.ref q_1, .ref a_4, .int 0, .int 0, .ref q_10, .ref q_17, .ref q_47, .ref q_52, .ref a_56, .int 0, .ref q_57, .ref q_58, .int 0, .int 0, .ref q_59])), (q_1, .inr (4, [.int 0, .int 0, .ref a_2, .ref b_3])), (a_2, .inl (E.2.1 1, 24, .inl (fun _ => 0))), (b_3, .inl (E.2.1 1, 96, .inl (fun _ => 0))), (a_4, .inl (E.2.1 6, 8, .inr (.inr (.inr (.inr fp_5))))), (m_6, .inr (4, [.int 0, .int 0, .ref x_7, .ref y_8])), (x_7, .inl (E.2.1 1, 24, .inl (fun _ => 0))), (y_8, .inl (E.2.1 1, 96, .inl (fun _ => 0))), (q_10, .inr (5, [.ref t_11, .ref a_12, .ref b_13, .ref c_14, .ref d_15, .int 0, .int 0, .int 0, .int 0, .int 0])), (t_11, .inr (10, [.ref tb_16, .int 0, .int 0, .int 0, .int 0])), (tb_16, .inl (E.2.1 0, 160, .inl (fun _ => 0))), (q_17, .inr (2, [.ref jt_18, .ref je_19, .ref ju_20, .ref ja_21])), (jt_18, .inl (E.2.1 7, 8, .inr (.inr (.inr (.inr (fun _ => none)))))), (je_19, .inl (E.2.1 4, 4, .inr (.inr (.inr (.inr fe_22))))), (e0_23, .inr (0, [.int 0, .int 0, .ref e0a_24, .ref e0b_25, .ref e0c_26, .ref e0d_27])), (e0a_24, .inl (E.2.1 7, 4, .inr (.inr (.inr (.inr (fun _ => none)))))), (e0b_25, .inl (E.2.1 1, 4, .inl (fun _ => 0))), (e0c_26, .inl (E.2.1 1, 4, .inl (fun _ => 0))), (e0d_27, .inl (E.2.1 1, 16, .inl (fun _ => 0))), (e1_28, .inr (0, [.int 0, .int 0, .ref e1a_29, .ref e1b_30, .ref e1c_31, .ref e1d_32])), (e1a_29, .inl (E.2.1 7, 4, .inr (.inr (.inr (.inr (fun _ => none)))))), (e1b_30, .inl (E.2.1 1, 4, .inl (fun _ => 0))), (e1c_31, .inl (E.2.1 1, 4, .inl (fun _ => 0))), (e1d_32, .inl (E.2.1 1, 16, .inl (fun _ => 0))), (e2_33, .inr (0, [.int 0, .int 0, .ref e2a_34, .ref e2b_35, .ref e2c_36, .ref e2d_37])), (e2a_34, .inl (E.2.1 7, 4, .inr (.inr (.inr (.inr (fun _ => none)))))), (e2b_35, .inl (E.2.1 1, 4, .inl (fun _ => 0))), (e2c_36, .inl (E.2.1 1, 4, .inl (fun _ => 0))), (e2d_37, .inl (E.2.1 1, 16, .inl (fun _ => 0))), (e3_38, .inr (0, [.int 0, .int 0, .ref e3a_39, .ref e3b_40, .ref e3c_41, .ref e3d_42])), (e3a_39, .inl (E.2.1 7, 4, .inr (.inr (.inr (.inr (fun _ => none)))))), (e3b_40, .inl (E.2.1 1, 4, .inl (fun _ => 0))), (e3c_41, .inl (E.2.1 1, 4, .inl (fun _ => 0))), (e3d_42, .inl (E.2.1 1, 16, .inl (fun _ => 0))), (q_47, .inr (3, [.ref m_48, .int 0, .int 0, .ref a_49, .ref b_50, .ref c_51])), (q_52, .inr (1, [.null, .null, .int 0, .ref a_53, .ref b_54, .ref c_55])), (q_59, .inl (E.2.1 8, 4, .inr (.inr (.inr (.inr f_62))))), (q_60, .inr (9, [.int 0, .int 0, .int 0, .ref a_61])), (a_61, .inl (E.2.1 1, 48, .inl (fun _ => 0))), (q_63, .inr (9, [.int 0, .int 0, .int 0, .null]))]) ?_ rfl rfl rfl
  refine ww_dup C dX11_init_121 rfl ?_
  refine ww_cv (wr := [(hx, .inr (11, [.ref q_1, .ref a_4, .int 0, .int 0, .ref q_10, .ref q_17, .ref q_47, .ref q_52, .ref a_56, .int 0, .ref q_57, .ref q_58, .int 0, .int 0, .ref q_59])), (q_1, .inr (4, [.int 0, .int 0, .ref a_2, .ref b_3])), (a_2, .inl (E.2.1 1, 24, .inl (fun _ => 0))), (b_3, .inl (E.2.1 1, 96, .inl (fun _ => 0))), (a_4, .inl (E.2.1 6, 8, .inr (.inr (.inr (.inr fp_5))))), (m_6, .inr (4, [.int 0, .int 0, .ref x_7, .ref y_8])), (x_7, .inl (E.2.1 1, 24, .inl (fun _ => 0))), (y_8, .inl (E.2.1 1, 96, .inl (fun _ => 0))), (q_10, .inr (5, [.ref t_11, .ref a_12, .ref b_13, .ref c_14, .ref d_15, .int 0, .int 0, .int 0, .int 0, .int 0])), (t_11, .inr (10, [.ref tb_16, .int 0, .int 0, .int 0, .int 0])), (tb_16, .inl (E.2.1 0, 160, .inl (fun _ => 0))), (q_17, .inr (2, [.ref jt_18, .ref je_19, .ref ju_20, .ref ja_21])), (jt_18, .inl (E.2.1 7, 8, .inr (.inr (.inr (.inr (fun _ => none)))))), (je_19, .inl (E.2.1 4, 4, .inr (.inr (.inr (.inr fe_22))))), (e0_23, .inr (0, [.int 0, .int 0, .ref e0a_24, .ref e0b_25, .ref e0c_26, .ref e0d_27])), (e0a_24, .inl (E.2.1 7, 4, .inr (.inr (.inr (.inr (fun _ => none)))))), (e0b_25, .inl (E.2.1 1, 4, .inl (fun _ => 0))), (e0c_26, .inl (E.2.1 1, 4, .inl (fun _ => 0))), (e0d_27, .inl (E.2.1 1, 16, .inl (fun _ => 0))), (e1_28, .inr (0, [.int 0, .int 0, .ref e1a_29, .ref e1b_30, .ref e1c_31, .ref e1d_32])), (e1a_29, .inl (E.2.1 7, 4, .inr (.inr (.inr (.inr (fun _ => none)))))), (e1b_30, .inl (E.2.1 1, 4, .inl (fun _ => 0))), (e1c_31, .inl (E.2.1 1, 4, .inl (fun _ => 0))), (e1d_32, .inl (E.2.1 1, 16, .inl (fun _ => 0))), (e2_33, .inr (0, [.int 0, .int 0, .ref e2a_34, .ref e2b_35, .ref e2c_36, .ref e2d_37])), (e2a_34, .inl (E.2.1 7, 4, .inr (.inr (.inr (.inr (fun _ => none)))))), (e2b_35, .inl (E.2.1 1, 4, .inl (fun _ => 0))), (e2c_36, .inl (E.2.1 1, 4, .inl (fun _ => 0))), (e2d_37, .inl (E.2.1 1, 16, .inl (fun _ => 0))), (e3_38, .inr (0, [.int 0, .int 0, .ref e3a_39, .ref e3b_40, .ref e3c_41, .ref e3d_42])), (e3a_39, .inl (E.2.1 7, 4, .inr (.inr (.inr (.inr (fun _ => none)))))), (e3b_40, .inl (E.2.1 1, 4, .inl (fun _ => 0))), (e3c_41, .inl (E.2.1 1, 4, .inl (fun _ => 0))), (e3d_42, .inl (E.2.1 1, 16, .inl (fun _ => 0))), (q_47, .inr (3, [.ref m_48, .int 0, .int 0, .ref a_49, .ref b_50, .ref c_51])), (q_52, .inr (1, [.null, .null, .int 0, .ref a_53, .ref b_54, .ref c_55])), (q_59, .inl (E.2.1 8, 4, .inr (.inr (.inr (.inr f_62))))), (q_60, .inr (9, [.int 0, .int 0, .int 0, .ref a_61])), (a_61, .inl (E.2.1 1, 48, .inl (fun _ => 0)))]) (k' := 131) (n' := 3718) C (run_IN (As := []) (rest := [.ref q_63, .int 1, .ref q_59]) C (k_Sheet X.2.1 E q_63) mn_X9_init (List.mem_of_getElem? (i := 11) rfl) rfl rfl rfl rfl dX11_init_122) [39] [0, 1, 2, 3, 4, 5, 6, 7, 8, 9, 10, 11, 12, 13, 14, 15, 16, 17, 18, 19, 20, 21, 22, 23, 24, 25, 26, 27, 28, 29, 30, 31, 32, 33, 34, 35, 36, 37, 38] rfl rfl rfl rfl (fun u hw => ?_)
  obtain ⟨a_64, rfl⟩ := hw
  refine ww_eq (ws' := [(hx, .inr (11, [.ref q_1, .ref a_4, .int 0, .int 0, .ref q_10, .ref q_17, .ref q_47, .ref q_52, .ref a_56, .int 0, .ref q_57, .ref q_58, .int 0, .int 0, .ref q_59])), (q_1, .inr (4, [.int 0, .int 0, .ref a_2, .ref b_3])), (a_2, .inl (E.2.1 1, 24, .inl (fun _ => 0))), (b_3, .inl (E.2.1 1, 96, .inl (fun _ => 0))), (a_4, .inl (E.2.1 6, 8, .inr (.inr (.inr (.inr fp_5))))), (m_6, .inr (4, [.int 0, .int 0, .ref x_7, .ref y_8])), (x_7, .inl (E.2.1 1, 24, .inl (fun _ => 0))), (y_8, .inl (E.2.1 1, 96, .inl (fun _ => 0))), (q_10, .inr (5, [.ref t_11, .ref a_12, .ref b_13, .ref c_14, .ref d_15, .int 0, .int 0, .int 0, .int 0, .int 0])), (t_11, .inr (10, [.ref tb_16, .int 0, .int 0, .int 0, .int 0])), (tb_16, .inl (E.2.1 0, 160, .inl (fun _ => 0))), (q_17, .inr (2, [.ref jt_18, .ref je_19, .ref ju_20, .ref ja_21])), (jt_18, .inl (E.2.1 7, 8, .inr (.inr (.inr (.inr (fun _ => none)))))), (je_19, .inl (E.2.1 4, 4, .inr (.inr (.inr (.inr fe_22))))), (e0_23, .inr (0, [.int 0, .int 0, .ref e0a_24, .ref e0b_25, .ref e0c_26, .ref e0d_27])), (e0a_24, .inl (E.2.1 7, 4, .inr (.inr (.inr (.inr (fun _ => none)))))), (e0b_25, .inl (E.2.1 1, 4, .inl (fun _ => 0))), (e0c_26, .inl (E.2.1 1, 4, .inl (fun _ => 0))), (e0d_27, .inl (E.2.1 1, 16, .inl (fun _ => 0))), (e1_28, .inr (0, [.int 0, .int 0, .ref e1a_29, .ref e1b_30, .ref e1c_31, .ref e1d_32])), (e1a_29, .inl (E.2.1 7, 4, .inr (.inr (.inr (.inr (fun _ => none)))))), (e1b_30, .inl (E.2.1 1, 4, .inl (fun _ => 0))), (e1c_31, .inl (E.2.1 1, 4, .inl (fun _ => 0))), (e1d_32, .inl (E.2.1 1, 16, .inl (fun _ => 0))), (e2_33, .inr (0, [.int 0, .int 0, .ref e2a_34, .ref e2b_35, .ref e2c_36, .ref e2d_37])), (e2a_34, .inl (E.2.1 7, 4, .inr (.inr (.inr (.inr (fun _ => none)))))), (e2b_35, .inl (E.2.1 1, 4, .inl (fun _ => 0))), (e2c_36, .inl (E.2.1 1, 4, .inl (fun _ => 0))), (e2d_37, .inl (E.2.1 1, 16, .inl (fun _ => 0))), (e3_38, .inr (0, [.int 0, .int 0, .ref e3a_39, .ref e3b_40, .ref e3c_41, .ref e3d_42])), (e3a_39, .inl (E.2.1 7, 4, .inr (.inr (.inr (.inr (fun _ => none)))))), (e3b_40, .inl (E.2.1 1, 4, .inl (fun _ => 0))), (e3c_41, .inl (E.2.1 1, 4, .inl (fun _ => 0))), (e3d_42, .inl (E.2.1 1, 16, .inl (fun _ => 0))), (q_47, .inr (3, [.ref m_48, .int 0, .int 0, .ref a_49, .ref b_50, .ref c_51])), (q_52, .inr (1, [.null, .null, .int 0, .ref a_53, .ref b_54, .ref c_55])), (q_59, .inl (E.2.1 8, 4, .inr (.inr (.inr (.inr f_62))))), (q_60, .inr (9, [.int 0, .int 0, .int 0, .ref a_61])), (a_61, .inl (E.2.1 1, 48, .inl (fun _ => 0))), (q_63, .inr (9, [.int 0, .int 0, .int 0, .ref a_64])), (a_64, .inl (E.2.1 1, 48, .inl (fun _ => 0)))]) ?_ rfl rfl rfl
  obtain ⟨f_65, ef_65⟩ : ∃ z : Nat → Option Nat, va_up f_62 1 (some q_63) = z := ⟨_, rfl⟩
  refine ww_ast (t0 := 8) (ws' := [(hx, .inr (11, [.ref q_1, .ref a_4, .int 0, .int 0, .ref q_10, .ref q_17, .ref q_47, .ref q_52, .ref a_56, .int 0, .ref q_57, .ref q_58, .int 0, .int 0, .ref q_59])), (q_1, .inr (4, [.int 0, .int 0, .ref a_2, .ref b_3])), (a_2, .inl (E.2.1 1, 24, .inl (fun _ => 0))), (b_3, .inl (E.2.1 1, 96, .inl (fun _ => 0))), (a_4, .inl (E.2.1 6, 8, .inr (.inr (.inr (.inr fp_5))))), (m_6, .inr (4, [.int 0, .int 0, .ref x_7, .ref y_8])), (x_7, .inl (E.2.1 1, 24, .inl (fun _ => 0))), (y_8, .inl (E.2.1 1, 96, .inl (fun _ => 0))), (q_10, .inr (5, [.ref t_11, .ref a_12, .ref b_13, .ref c_14, .ref d_15, .int 0, .int 0, .int 0, .int 0, .int 0])), (t_11, .inr (10, [.ref tb_16, .int 0, .int 0, .int 0, .int 0])), (tb_16, .inl (E.2.1 0, 160, .inl (fun _ => 0))), (q_17, .inr (2, [.ref jt_18, .ref je_19, .ref ju_20, .ref ja_21])), (jt_18, .inl (E.2.1 7, 8, .inr (.inr (.inr (.inr (fun _ => none)))))), (je_19, .inl (E.2.1 4, 4, .inr (.inr (.inr (.inr fe_22))))), (e0_23, .inr (0, [.int 0, .int 0, .ref e0a_24, .ref e0b_25, .ref e0c_26, .ref e0d_27])), (e0a_24, .inl (E.2.1 7, 4, .inr (.inr (.inr (.inr (fun _ => none)))))), (e0b_25, .inl (E.2.1 1, 4, .inl (fun _ => 0))), (e0c_26, .inl (E.2.1 1, 4, .inl (fun _ => 0))), (e0d_27, .inl (E.2.1 1, 16, .inl (fun _ => 0))), (e1_28, .inr (0, [.int 0, .int 0, .ref e1a_29, .ref e1b_30, .ref e1c_31, .ref e1d_32])), (e1a_29, .inl (E.2.1 7, 4, .inr (.inr (.inr (.inr (fun _ => none)))))), (e1b_30, .inl (E.2.1 1, 4, .inl (fun _ => 0))), (e1c_31, .inl (E.2.1 1, 4, .inl (fun _ => 0))), (e1d_32, .inl (E.2.1 1, 16, .inl (fun _ => 0))), (e2_33, .inr (0, [.int 0, .int 0, .ref e2a_34, .ref e2b_35, .ref e2c_36, .ref e2d_37])), (e2a_34, .inl (E.2.1 7, 4, .inr (.inr (.inr (.inr (fun _ => none)))))), (e2b_35, .inl (E.2.1 1, 4, .inl (fun _ => 0))), (e2c_36, .inl (E.2.1 1, 4, .inl (fun _ => 0))), (e2d_37, .inl (E.2.1 1, 16, .inl (fun _ => 0))), (e3_38, .inr (0, [.int 0, .int 0, .ref e3a_39, .ref e3b_40, .ref e3c_41, .ref e3d_42])), (e3a_39, .inl (E.2.1 7, 4, .inr (.inr (.inr (.inr (fun _ => none)))))), (e3b_40, .inl (E.2.1 1, 4, .inl (fun _ => 0))), (e3c_41, .inl (E.2.1 1, 4, .inl (fun _ => 0))), (e3d_42, .inl (E.2.1 1, 16, .inl (fun _ => 0))), (q_47, .inr (3, [.ref m_48, .int 0, .int 0, .ref a_49, .ref b_50, .ref c_51])), (q_52, .inr (1, [.null, .null, .int 0, .ref a_53, .ref b_54, .ref c_55])), (q_59, .inl (E.2.1 8, 4, .inr (.inr (.inr (.inr f_65))))), (q_60, .inr (9, [.int 0, .int 0, .int 0, .ref a_61])), (a_61, .inl (E.2.1 1, 48, .inl (fun _ => 0))), (q_63, .inr (9, [.int 0, .int 0, .int 0, .ref a_64])), (a_64, .inl (E.2.1 1, 48, .inl (fun _ => 0)))]) C 36 39 rfl rfl rfl rfl (vin rfl) ef_65 rfl dX11_init_125 ?_
  refine ww_iinc (j := 0) (v := 2) (lv' := [(1, .int 2), (0, .ref hx)]) C dX11_init_126 rfl rfl rfl rfl ?_
  refine ww_goto (tgt := 108) C dX11_init_129 (by decide) ?_
  refine ww_iload_n C dX11_init_108 0 rfl rfl ?_
  refine ww_iconst (v := 4) C dX11_init_109 rfl ?_
  refine ww_icmp_ge_f (tgt := 132) C dX11_init_110 (by decide) (by decide) ?_
  refine ww_aload_n C dX11_init_113 1 rfl rfl ?_
  refine ww_get C fg_X11_71 0 rfl rfl dX11_init_114 ?_
  refine ww_iload_n C dX11_init_117 0 rfl rfl ?_
  refine ww_new (k' := 132) (n' := 3722) C cn_X11_69 rfl dX11_init_118 (fun q_66 => ?_)
  refine ww_eq (ws' := [(hx, .inr (11, [.ref q_1, .ref a_4, .int 0, .int 0, .ref q_10, .ref q_17, .ref q_47, .ref q_52, .ref a_56, .int 0, .ref q_57, .ref q_58, .int 0, .int 0, .ref q_59])), (q_1, .inr (4, [.int 0, .int 0, .ref a_2, .ref b_3])), (a_2, .inl (E.2.1 1, 24, .inl (fun _ => 0))), (b_3, .inl (E.2.1 1, 96, .inl (fun _ => 0))), (a_4, .inl (E.2.1 6, 8, .inr (.inr (.inr (.inr fp_5))))), (m_6, .inr (4, [.int 0, .int 0, .ref x_7, .ref y_8])), (x_7, .inl (E.2.1 1, 24, .inl (fun _ => 0))), (y_8, .inl (E.2.1 1, 96, .inl (fun _ => 0))), (q_10, .inr (5, [.ref t_11, .ref a_12, .ref b_13, .ref c_14, .ref d_15, .int 0, .int 0, .int 0, .int 0, .int 0])), (t_11, .inr (10, [.ref tb_16, .int 0, .int 0, .int 0, .int 0])), (tb_16, .inl (E.2.1 0, 160, .inl (fun _ => 0))), (q_17, .inr (2, [.ref jt_18, .ref je_19, .ref ju_20, .ref ja_21])), (jt_18, .inl (E.2.1 7, 8, .inr (.inr (.inr (.inr (fun _ => none)))))), (je_19, .inl (E.2.1 4, 4, .inr (.inr (.inr (.inr fe_22))))), (e0_23, .inr (0, [.int 0, .int 0, .ref e0a_24, .ref e0b_25, .ref e0c_26, .ref e0d_27])), (e0a_24, .inl (E.2.1 7, 4, .inr (.inr (.inr (.inr (fun _ => none)))))), (e0b_25, .inl (E.2.1 1, 4, .inl (fun _ => 0))), (e0c_26, .inl (E.2.1 1, 4, .inl (fun _ => 0))), (e0d_27, .inl (E.2.1 1, 16, .inl (fun _ => 0))), (e1_28, .inr (0, [.int 0, .int 0, .ref e1a_29, .ref e1b_30, .ref e1c_31, .ref e1d_32])), (e1a_29, .inl (E.2.1 7, 4, .inr (.inr (.inr (.inr (fun _ => none)))))), (e1b_30, .inl (E.2.1 1, 4, .inl (fun _ => 0))), (e1c_31, .inl (E.2.1 1, 4, .inl (fun _ => 0))), (e1d_32, .inl (E.2.1 1, 16, .inl (fun _ => 0))), (e2_33, .inr (0, [.int 0, .int 0, .ref e2a_34, .ref e2b_35, .ref e2c_36, .ref e2d_37])), (e2a_34, .inl (E.2.1 7, 4, .inr (.inr (.inr (.inr (fun _ => none)))))), (e2b_35, .inl (E.2.1 1, 4, .inl (fun _ => 0))), (e2c_36, .inl (E.2.1 1, 4, .inl (fun _ => 0))), (e2d_37, .inl (E.2.1 1, 16, .inl (fun _ => 0))), (e3_38, .inr (0, [.int 0, .int 0, .ref e3a_39, .ref e3b_40, .ref e3c_41, .ref e3d_42])), (e3a_39, .inl (E.2.1 7, 4, .inr (.inr (.inr (.inr (fun _ => none)))))), (e3b_40, .inl (E.2.1 1, 4, .inl (fun _ => 0))), (e3c_41, .inl (E.2.1 1, 4, .inl (fun _ => 0))), (e3d_42, .inl (E.2.1 1, 16, .inl (fun _ => 0))), (q_47, .inr (3, [.ref m_48, .int 0, .int 0, .ref a_49, .ref b_50, .ref c_51])), (q_52, .inr (1, [.null, .null, .int 0, .ref a_53, .ref b_54, .ref c_55])), (q_59, .inl (E.2.1 8, 4, .inr (.inr (.inr (.inr f_65))))), (q_60, .inr (9, [.int 0, .int 0, .int 0, .ref a_61])), (a_61, .inl (E.2.1 1, 48, .inl (fun _ => 0))), (q_63, .inr (9, [.int 0, .int 0, .int 0, .ref a_64])), (a_64, .inl (E.2.1 1, 48, .inl (fun _ => 0))), (q_66, .inr (9, [.int 0, .int 0, .int 0, .null]))]) ?_ rfl rfl rfl
  refine ww_dup C dX11_init_121 rfl ?_
  refine ww_cv (wr := [(hx, .inr (11, [.ref q_1, .ref a_4, .int 0, .int 0, .ref q_10, .ref q_17, .ref q_47, .ref q_52, .ref a_56, .int 0, .ref q_57, .ref q_58, .int 0, .int 0, .ref q_59])), (q_1, .inr (4, [.int 0, .int 0, .ref a_2, .ref b_3])), (a_2, .inl (E.2.1 1, 24, .inl (fun _ => 0))), (b_3, .inl (E.2.1 1, 96, .inl (fun _ => 0))), (a_4, .inl (E.2.1 6, 8, .inr (.inr (.inr (.inr fp_5))))), (m_6, .inr (4, [.int 0, .int 0, .ref x_7, .ref y_8])), (x_7, .inl (E.2.1 1, 24, .inl (fun _ => 0))), (y_8, .inl (E.2.1 1, 96, .inl (fun _ => 0))), (q_10, .inr (5, [.ref t_11, .ref a_12, .ref b_13, .ref c_14, .ref d_15, .int 0, .int 0, .int 0, .int 0, .int 0])), (t_11, .inr (10, [.ref tb_16, .int 0, .int 0, .int 0, .int 0])), (tb_16, .inl (E.2.1 0, 160, .inl (fun _ => 0))), (q_17, .inr (2, [.ref jt_18, .ref je_19, .ref ju_20, .ref ja_21])), (jt_18, .inl (E.2.1 7, 8, .inr (.inr (.inr (.inr (fun _ => none)))))), (je_19, .inl (E.2.1 4, 4, .inr (.inr (.inr (.inr fe_22))))), (e0_23, .inr (0, [.int 0, .int 0, .ref e0a_24, .ref e0b_25, .ref e0c_26, .ref e0d_27])), (e0a_24, .inl (E.2.1 7, 4, .inr (.inr (.inr (.inr (fun _ => none)))))), (e0b_25, .inl (E.2.1 1, 4, .inl (fun _ => 0))), (e0c_26, .inl (E.2.1 1, 4, .inl (fun _ => 0))), (e0d_27, .inl (E.2.1 1, 16, .inl (fun _ => 0))), (e1_28, .inr (0, [.int 0, .int 0, .ref e1a_29, .ref e1b_30, .ref e1c_31, .ref e1d_32])), (e1a_29, .inl (E.2.1 7, 4, .inr (.inr (.inr (.inr (fun _ => none)))))), (e1b_30, .inl (E.2.1 1, 4, .inl (fun _ => 0))), (e1c_31, .inl (E.2.1 1, 4, .inl (fun _ => 0))), (e1d_32, .inl (E.2.1 1, 16, .inl (fun _ => 0))), (e2_33, .inr (0, [.int 0, .int 0, .ref e2a_34, .ref e2b_35, .ref e2c_36, .ref e2d_37])), (e2a_34, .inl (E.2.1 7, 4, .inr (.inr (.inr (.inr (fun _ => none)))))), (e2b_35, .inl (E.2.1 1, 4, .inl (fun _ => 0))), (e2c_36, .inl (E.2.1 1, 4, .inl (fun _ => 0))), (e2d_37, .inl (E.2.1 1, 16, .inl (fun _ => 0))), (e3_38, .inr (0, [.int 0, .int 0, .ref e3a_39, .ref e3b_40, .ref e3c_41, .ref e3d_42])), (e3a_39, .inl (E.2.1 7, 4, .inr (.inr (.inr (.inr (fun _ => none)))))), (e3b_40, .inl (E.2.1 1, 4, .inl (fun _ => 0))), (e3c_41, .inl (E.2.1 1, 4, .inl (fun _ => 0))), (e3d_42, .inl (E.2.1 1, 16, .inl (fun _ => 0))), (q_47, .inr (3, [.ref m_48, .int 0, .int 0, .ref a_49, .ref b_50, .ref c_51])), (q_52, .inr (1, [.null, .null, .int 0, .ref a_53, .ref b_54, .ref c_55])), (q_59, .inl (E.2.1 8, 4, .inr (.inr (.inr (.inr f_65))))), (q_60, .inr (9, [.int 0, .int 0, .int 0, .ref a_61])), (a_61, .inl (E.2.1 1, 48, .inl (fun _ => 0))), (q_63, .inr (9, [.int 0, .int 0, .int 0, .ref a_64])), (a_64, .inl (E.2.1 1, 48, .inl (fun _ => 0)))]) (k' := 133) (n' := 3770) C (run_IN (As := []) (rest := [.ref q_66, .int 2, .ref q_59]) C (k_Sheet X.2.1 E q_66) mn_X9_init (List.mem_of_getElem? (i := 11) rfl) rfl rfl rfl rfl dX11_init_122) [41] [0, 1, 2, 3, 4, 5, 6, 7, 8, 9, 10, 11, 12, 13, 14, 15, 16, 17, 18, 19, 20, 21, 22, 23, 24, 25, 26, 27, 28, 29, 30, 31, 32, 33, 34, 35, 36, 37, 38, 39, 40] rfl rfl rfl rfl (fun u hw => ?_)
  obtain ⟨a_67, rfl⟩ := hw
  refine ww_eq (ws' := [(hx, .inr (11, [.ref q_1, .ref a_4, .int 0, .int 0, .ref q_10, .ref q_17, .ref q_47, .ref q_52, .ref a_56, .int 0, .ref q_57, .ref q_58, .int 0, .int 0, .ref q_59])), (q_1, .inr (4, [.int 0, .int 0, .ref a_2, .ref b_3])), (a_2, .inl (E.2.1 1, 24, .inl (fun _ => 0))), (b_3, .inl (E.2.1 1, 96, .inl (fun _ => 0))), (a_4, .inl (E.2.1 6, 8, .inr (.inr (.inr (.inr fp_5))))), (m_6, .inr (4, [.int 0, .int 0, .ref x_7, .ref y_8])), (x_7, .inl (E.2.1 1, 24, .inl (fun _ => 0))), (y_8, .inl (E.2.1 1, 96, .inl (fun _ => 0))), (q_10, .inr (5, [.ref t_11, .ref a_12, .ref b_13, .ref c_14, .ref d_15, .int 0, .int 0, .int 0, .int 0, .int 0])), (t_11, .inr (10, [.ref tb_16, .int 0, .int 0, .int 0, .int 0])), (tb_16, .inl (E.2.1 0, 160, .inl (fun _ => 0))), (q_17, .inr (2, [.ref jt_18, .ref je_19, .ref ju_20, .ref ja_21])), (jt_18, .inl (E.2.1 7, 8, .inr (.inr (.inr (.inr (fun _ => none)))))), (je_19, .inl (E.2.1 4, 4, .inr (.inr (.inr (.inr fe_22))))), (e0_23, .inr (0, [.int 0, .int 0, .ref e0a_24, .ref e0b_25, .ref e0c_26, .ref e0d_27])), (e0a_24, .inl (E.2.1 7, 4, .inr (.inr (.inr (.inr (fun _ => none)))))), (e0b_25, .inl (E.2.1 1, 4, .inl (fun _ => 0))), (e0c_26, .inl (E.2.1 1, 4, .inl (fun _ => 0))), (e0d_27, .inl (E.2.1 1, 16, .inl (fun _ => 0))), (e1_28, .inr (0, [.int 0, .int 0, .ref e1a_29, .ref e1b_30, .ref e1c_31, .ref e1d_32])), (e1a_29, .inl (E.2.1 7, 4, .inr (.inr (.inr (.inr (fun _ => none)))))), (e1b_30, .inl (E.2.1 1, 4, .inl (fun _ => 0))), (e1c_31, .inl (E.2.1 1, 4, .inl (fun _ => 0))), (e1d_32, .inl (E.2.1 1, 16, .inl (fun _ => 0))), (e2_33, .inr (0, [.int 0, .int 0, .ref e2a_34, .ref e2b_35, .ref e2c_36, .ref e2d_37])), (e2a_34, .inl (E.2.1 7, 4, .inr (.inr (.inr (.inr (fun _ => none)))))), (e2b_35, .inl (E.2.1 1, 4, .inl (fun _ => 0))), (e2c_36, .inl (E.2.1 1, 4, .inl (fun _ => 0))), (e2d_37, .inl (E.2.1 1, 16, .inl (fun _ => 0))), (e3_38, .inr (0, [.int 0, .int 0, .ref e3a_39, .ref e3b_40, .ref e3c_41, .ref e3d_42])), (e3a_39, .inl (E.2.1 7, 4, .inr (.inr (.inr (.inr (fun _ => none)))))), (e3b_40, .inl (E.2.1 1, 4, .inl (fun _ => 0))), (e3c_41, .inl (E.2.1 1, 4, .inl (fun _ => 0))), (e3d_42, .inl (E.2.1 1, 16, .inl (fun _ => 0))), (q_47, .inr (3, [.ref m_48, .int 0, .int 0, .ref a_49, .ref b_50, .ref c_51])), (q_52, .inr (1, [.null, .null, .int 0, .ref a_53, .ref b_54, .ref c_55])), (q_59, .inl (E.2.1 8, 4, .inr (.inr (.inr (.inr f_65))))), (q_60, .inr (9, [.int 0, .int 0, .int 0, .ref a_61])), (a_61, .inl (E.2.1 1, 48, .inl (fun _ => 0))), (q_63, .inr (9, [.int 0, .int 0, .int 0, .ref a_64])), (a_64, .inl (E.2.1 1, 48, .inl (fun _ => 0))), (q_66, .inr (9, [.int 0, .int 0, .int 0, .ref a_67])), (a_67, .inl (E.2.1 1, 48, .inl (fun _ => 0)))]) ?_ rfl rfl rfl
  obtain ⟨f_68, ef_68⟩ : ∃ z : Nat → Option Nat, va_up f_65 2 (some q_66) = z := ⟨_, rfl⟩
  refine ww_ast (t0 := 8) (ws' := [(hx, .inr (11, [.ref q_1, .ref a_4, .int 0, .int 0, .ref q_10, .ref q_17, .ref q_47, .ref q_52, .ref a_56, .int 0, .ref q_57, .ref q_58, .int 0, .int 0, .ref q_59])), (q_1, .inr (4, [.int 0, .int 0, .ref a_2, .ref b_3])), (a_2, .inl (E.2.1 1, 24, .inl (fun _ => 0))), (b_3, .inl (E.2.1 1, 96, .inl (fun _ => 0))), (a_4, .inl (E.2.1 6, 8, .inr (.inr (.inr (.inr fp_5))))), (m_6, .inr (4, [.int 0, .int 0, .ref x_7, .ref y_8])), (x_7, .inl (E.2.1 1, 24, .inl (fun _ => 0))), (y_8, .inl (E.2.1 1, 96, .inl (fun _ => 0))), (q_10, .inr (5, [.ref t_11, .ref a_12, .ref b_13, .ref c_14, .ref d_15, .int 0, .int 0, .int 0, .int 0, .int 0])), (t_11, .inr (10, [.ref tb_16, .int 0, .int 0, .int 0, .int 0])), (tb_16, .inl (E.2.1 0, 160, .inl (fun _ => 0))), (q_17, .inr (2, [.ref jt_18, .ref je_19, .ref ju_20, .ref ja_21])), (jt_18, .inl (E.2.1 7, 8, .inr (.inr (.inr (.inr (fun _ => none)))))), (je_19, .inl (E.2.1 4, 4, .inr (.inr (.inr (.inr fe_22))))), (e0_23, .inr (0, [.int 0, .int 0, .ref e0a_24, .ref e0b_25, .ref e0c_26, .ref e0d_27])), (e0a_24, .inl (E.2.1 7, 4, .inr (.inr (.inr (.inr (fun _ => none)))))), (e0b_25, .inl (E.2.1 1, 4, .inl (fun _ => 0))), (e0c_26, .inl (E.2.1 1, 4, .inl (fun _ => 0))), (e0d_27, .inl (E.2.1 1, 16, .inl (fun _ => 0))), (e1_28, .inr (0, [.int 0, .int 0, .ref e1a_29, .ref e1b_30, .ref e1c_31, .ref e1d_32])), (e1a_29, .inl (E.2.1 7, 4, .inr (.inr (.inr (.inr (fun _ => none)))))), (e1b_30, .inl (E.2.1 1, 4, .inl (fun _ => 0))), (e1c_31, .inl (E.2.1 1, 4, .inl (fun _ => 0))), (e1d_32, .inl (E.2.1 1, 16, .inl (fun _ => 0))), (e2_33, .inr (0, [.int 0, .int 0, .ref e2a_34, .ref e2b_35, .ref e2c_36, .ref e2d_37])), (e2a_34, .inl (E.2.1 7, 4, .inr (.inr (.inr (.inr (fun _ => none)))))), (e2b_35, .inl (E.2.1 1, 4, .inl (fun _ => 0))), (e2c_36, .inl (E.2.1 1, 4, .inl (fun _ => 0))), (e2d_37, .inl (E.2.1 1, 16, .inl (fun _ => 0))), (e3_38, .inr (0, [.int 0, .int 0, .ref e3a_39, .ref e3b_40, .ref e3c_41, .ref e3d_42])), (e3a_39, .inl (E.2.1 7, 4, .inr (.inr (.inr (.inr (fun _ => none)))))), (e3b_40, .inl (E.2.1 1, 4, .inl (fun _ => 0))), (e3c_41, .inl (E.2.1 1, 4, .inl (fun _ => 0))), (e3d_42, .inl (E.2.1 1, 16, .inl (fun _ => 0))), (q_47, .inr (3, [.ref m_48, .int 0, .int 0, .ref a_49, .ref b_50, .ref c_51])), (q_52, .inr (1, [.null, .null, .int 0, .ref a_53, .ref b_54, .ref c_55])), (q_59, .inl (E.2.1 8, 4, .inr (.inr (.inr (.inr f_68))))), (q_60, .inr (9, [.int 0, .int 0, .int 0, .ref a_61])), (a_61, .inl (E.2.1 1, 48, .inl (fun _ => 0))), (q_63, .inr (9, [.int 0, .int 0, .int 0, .ref a_64])), (a_64, .inl (E.2.1 1, 48, .inl (fun _ => 0))), (q_66, .inr (9, [.int 0, .int 0, .int 0, .ref a_67])), (a_67, .inl (E.2.1 1, 48, .inl (fun _ => 0)))]) C 36 41 rfl rfl rfl rfl (vin rfl) ef_68 rfl dX11_init_125 ?_
  refine ww_iinc (j := 0) (v := 3) (lv' := [(1, .int 3), (0, .ref hx)]) C dX11_init_126 rfl rfl rfl rfl ?_
  refine ww_goto (tgt := 108) C dX11_init_129 (by decide) ?_
  refine ww_iload_n C dX11_init_108 0 rfl rfl ?_
  refine ww_iconst (v := 4) C dX11_init_109 rfl ?_
  refine ww_icmp_ge_f (tgt := 132) C dX11_init_110 (by decide) (by decide) ?_
  refine ww_aload_n C dX11_init_113 1 rfl rfl ?_
  refine ww_get C fg_X11_71 0 rfl rfl dX11_init_114 ?_
  refine ww_iload_n C dX11_init_117 0 rfl rfl ?_
  refine ww_new (k' := 134) (n' := 3774) C cn_X11_69 rfl dX11_init_118 (fun q_69 => ?_)
  refine ww_eq (ws' := [(hx, .inr (11, [.ref q_1, .ref a_4, .int 0, .int 0, .ref q_10, .ref q_17, .ref q_47, .ref q_52, .ref a_56, .int 0, .ref q_57, .ref q_58, .int 0, .int 0, .ref q_59])), (q_1, .inr (4, [.int 0, .int 0, .ref a_2, .ref b_3])), (a_2, .inl (E.2.1 1, 24, .inl (fun _ => 0))), (b_3, .inl (E.2.1 1, 96, .inl (fun _ => 0))), (a_4, .inl (E.2.1 6, 8, .inr (.inr (.inr (.inr fp_5))))), (m_6, .inr (4, [.int 0, .int 0, .ref x_7, .ref y_8])), (x_7, .inl (E.2.1 1, 24, .inl (fun _ => 0))), (y_8, .inl (E.2.1 1, 96, .inl (fun _ => 0))), (q_10, .inr (5, [.ref t_11, .ref a_12, .ref b_13, .ref c_14, .ref d_15, .int 0, .int 0, .int 0, .int 0, .int 0])), (t_11, .inr (10, [.ref tb_16, .int 0, .int 0, .int 0, .int 0])), (tb_16, .inl (E.2.1 0, 160, .inl (fun _ => 0))), (q_17, .inr (2, [.ref jt_18, .ref je_19, .ref ju_20, .ref ja_21])), (jt_18, .inl (E.2.1 7, 8, .inr (.inr (.inr (.inr (fun _ => none)))))), (je_19, .inl (E.2.1 4, 4, .inr (.inr (.inr (.inr fe_22))))), (e0_23, .inr (0, [.int 0, .int 0, .ref e0a_24, .ref e0b_25, .ref e0c_26, .ref e0d_27])), (e0a_24, .inl (E.2.1 7, 4, .inr (.inr (.inr (.inr (fun _ => none)))))), (e0b_25, .inl (E.2.1 1, 4, .inl (fun _ => 0))), (e0c_26, .inl (E.2.1 1, 4, .inl (fun _ => 0))), (e0d_27, .inl (E.2.1 1, 16, .inl (fun _ => 0))), (e1_28, .inr (0, [.int 0, .int 0, .ref e1a_29, .ref e1b_30, .ref e1c_31, .ref e1d_32])), (e1a_29, .inl (E.2.1 7, 4, .inr (.inr (.inr (.inr (fun _ => none)))))), (e1b_30, .inl (E.2.1 1, 4, .inl (fun _ => 0))), (e1c_31, .inl (E.2.1 1, 4, .inl (fun _ => 0))), (e1d_32, .inl (E.2.1 1, 16, .inl (fun _ => 0))), (e2_33, .inr (0, [.int 0, .int 0, .ref e2a_34, .ref e2b_35, .ref e2c_36, .ref e2d_37])), (e2a_34, .inl (E.2.1 7, 4, .inr (.inr (.inr (.inr (fun _ => none)))))), (e2b_35, .inl (E.2.1 1, 4, .inl (fun _ => 0))), (e2c_36, .inl (E.2.1 1, 4, .inl (fun _ => 0))), (e2d_37, .inl (E.2.1 1, 16, .inl (fun _ => 0))), (e3_38, .inr (0, [.int 0, .int 0, .ref e3a_39, .ref e3b_40, .ref e3c_41, .ref e3d_42])), (e3a_39, .inl (E.2.1 7, 4, .inr (.inr (.inr (.inr (fun _ => none)))))), (e3b_40, .inl (E.2.1 1, 4, .inl (fun _ => 0))), (e3c_41, .inl (E.2.1 1, 4, .inl (fun _ => 0))), (e3d_42, .inl (E.2.1 1, 16, .inl (fun _ => 0))), (q_47, .inr (3, [.ref m_48, .int 0, .int 0, .ref a_49, .ref b_50, .ref c_51])), (q_52, .inr (1, [.null, .null, .int 0, .ref a_53, .ref b_54, .ref c_55])), (q_59, .inl (E.2.1 8, 4, .inr (.inr (.inr (.inr f_68))))), (q_60, .inr (9, [.int 0, .int 0, .int 0, .ref a_61])), (a_61, .inl (E.2.1 1, 48, .inl (fun _ => 0))), (q_63, .inr (9, [.int 0, .int 0, .int 0, .ref a_64])), (a_64, .inl (E.2.1 1, 48, .inl (fun _ => 0))), (q_66, .inr (9, [.int 0, .int 0, .int 0, .ref a_67])), (a_67, .inl (E.2.1 1, 48, .inl (fun _ => 0))), (q_69, .inr (9, [.int 0, .int 0, .int 0, .null]))]) ?_ rfl rfl rfl
  refine ww_dup C dX11_init_121 rfl ?_
  refine ww_cv (wr := [(hx, .inr (11, [.ref q_1, .ref a_4, .int 0, .int 0, .ref q_10, .ref q_17, .ref q_47, .ref q_52, .ref a_56, .int 0, .ref q_57, .ref q_58, .int 0, .int 0, .ref q_59])), (q_1, .inr (4, [.int 0, .int 0, .ref a_2, .ref b_3])), (a_2, .inl (E.2.1 1, 24, .inl (fun _ => 0))), (b_3, .inl (E.2.1 1, 96, .inl (fun _ => 0))), (a_4, .inl (E.2.1 6, 8, .inr (.inr (.inr (.inr fp_5))))), (m_6, .inr (4, [.int 0, .int 0, .ref x_7, .ref y_8])), (x_7, .inl (E.2.1 1, 24, .inl (fun _ => 0))), (y_8, .inl (E.2.1 1, 96, .inl (fun _ => 0))), (q_10, .inr (5, [.ref t_11, .ref a_12, .ref b_13, .ref c_14, .ref d_15, .int 0, .int 0, .int 0, .int 0, .int 0])), (t_11, .inr (10, [.ref tb_16, .int 0, .int 0, .int 0, .int 0])), (tb_16, .inl (E.2.1 0, 160, .inl (fun _ => 0))), (q_17, .inr (2, [.ref jt_18, .ref je_19, .ref ju_20, .ref ja_21])), (jt_18, .inl (E.2.1 7, 8, .inr (.inr (.inr (.inr (fun _ => none)))))), (je_19, .inl (E.2.1 4, 4, .inr (.inr (.inr (.inr fe_22))))), (e0_23, .inr (0, [.int 0, .int 0, .ref e0a_24, .ref e0b_25, .ref e0c_26, .ref e0d_27])), (e0a_24, .inl (E.2.1 7, 4, .inr (.inr (.inr (.inr (fun _ => none)))))), (e0b_25, .inl (E.2.1 1, 4, .inl (fun _ => 0))), (e0c_26, .inl (E.2.1 1, 4, .inl (fun _ => 0))), (e0d_27, .inl (E.2.1 1, 16, .inl (fun _ => 0))), (e1_28, .inr (0, [.int 0, .int 0, .ref e1a_29, .ref e1b_30, .ref e1c_31, .ref e1d_32])), (e1a_29, .inl (E.2.1 7, 4, .inr (.inr (.inr (.inr (fun _ => none)))))), (e1b_30, .inl (E.2.1 1, 4, .inl (fun _ => 0))), (e1c_31, .inl (E.2.1 1, 4, .inl (fun _ => 0))), (e1d_32, .inl (E.2.1 1, 16, .inl (fun _ => 0))), (e2_33, .inr (0, [.int 0, .int 0, .ref e2a_34, .ref e2b_35, .ref e2c_36, .ref e2d_37])), (e2a_34, .inl (E.2.1 7, 4, .inr (.inr (.inr (.inr (fun _ => none)))))), (e2b_35, .inl (E.2.1 1, 4, .inl (fun _ => 0))), (e2c_36, .inl (E.2.1 1, 4, .inl (fun _ => 0))), (e2d_37, .inl (E.2.1 1, 16, .inl (fun _ => 0))), (e3_38, .inr (0, [.int 0, .int 0, .ref e3a_39, .ref e3b_40, .ref e3c_41, .ref e3d_42])), (e3a_39, .inl (E.2.1 7, 4, .inr (.inr (.inr (.inr (fun _ => none)))))), (e3b_40, .inl (E.2.1 1, 4, .inl (fun _ => 0))), (e3c_41, .inl (E.2.1 1, 4, .inl (fun _ => 0))), (e3d_42, .inl (E.2.1 1, 16, .inl (fun _ => 0))), (q_47, .inr (3, [.ref m_48, .int 0, .int 0, .ref a_49, .ref b_50, .ref c_51])), (q_52, .inr (1, [.null, .null, .int 0, .ref a_53, .ref b_54, .ref c_55])), (q_59, .inl (E.2.1 8, 4, .inr (.inr (.inr (.inr f_68))))), (q_60, .inr (9, [.int 0, .int 0, .int 0, .ref a_61])), (a_61, .inl (E.2.1 1, 48, .inl (fun _ => 0))), (q_63, .inr (9, [.int 0, .int 0, .int 0, .ref a_64])), (a_64, .inl (E.2.1 1, 48, .inl (fun _ => 0))), (q_66, .inr (9, [.int 0, .int 0, .int 0, .ref a_67])), (a_67, .inl (E.2.1 1, 48, .inl (fun _ => 0)))]) (k' := 135) (n' := 3822) C (run_IN (As := []) (rest := [.ref q_69, .int 3, .ref q_59]) C (k_Sheet X.2.1 E q_69) mn_X9_init (List.mem_of_getElem? (i := 11) rfl) rfl rfl rfl rfl dX11_init_122) [43] [0, 1, 2, 3, 4, 5, 6, 7, 8, 9, 10, 11, 12, 13, 14, 15, 16, 17, 18, 19, 20, 21, 22, 23, 24, 25, 26, 27, 28, 29, 30, 31, 32, 33, 34, 35, 36, 37, 38, 39, 40, 41, 42] rfl rfl rfl rfl (fun u hw => ?_)
  obtain ⟨a_70, rfl⟩ := hw
  refine ww_eq (ws' := [(hx, .inr (11, [.ref q_1, .ref a_4, .int 0, .int 0, .ref q_10, .ref q_17, .ref q_47, .ref q_52, .ref a_56, .int 0, .ref q_57, .ref q_58, .int 0, .int 0, .ref q_59])), (q_1, .inr (4, [.int 0, .int 0, .ref a_2, .ref b_3])), (a_2, .inl (E.2.1 1, 24, .inl (fun _ => 0))), (b_3, .inl (E.2.1 1, 96, .inl (fun _ => 0))), (a_4, .inl (E.2.1 6, 8, .inr (.inr (.inr (.inr fp_5))))), (m_6, .inr (4, [.int 0, .int 0, .ref x_7, .ref y_8])), (x_7, .inl (E.2.1 1, 24, .inl (fun _ => 0))), (y_8, .inl (E.2.1 1, 96, .inl (fun _ => 0))), (q_10, .inr (5, [.ref t_11, .ref a_12, .ref b_13, .ref c_14, .ref d_15, .int 0, .int 0, .int 0, .int 0, .int 0])), (t_11, .inr (10, [.ref tb_16, .int 0, .int 0, .int 0, .int 0])), (tb_16, .inl (E.2.1 0, 160, .inl (fun _ => 0))), (q_17, .inr (2, [.ref jt_18, .ref je_19, .ref ju_20, .ref ja_21])), (jt_18, .inl (E.2.1 7, 8, .inr (.inr (.inr (.inr (fun _ => none)))))), (je_19, .inl (E.2.1 4, 4, .inr (.inr (.inr (.inr fe_22))))), (e0_23, .inr (0, [.int 0, .int 0, .ref e0a_24, .ref e0b_25, .ref e0c_26, .ref e0d_27])), (e0a_24, .inl (E.2.1 7, 4, .inr (.inr (.inr (.inr (fun _ => none)))))), (e0b_25, .inl (E.2.1 1, 4, .inl (fun _ => 0))), (e0c_26, .inl (E.2.1 1, 4, .inl (fun _ => 0))), (e0d_27, .inl (E.2.1 1, 16, .inl (fun _ => 0))), (e1_28, .inr (0, [.int 0, .int 0, .ref e1a_29, .ref e1b_30, .ref e1c_31, .ref e1d_32])), (e1a_29, .inl (E.2.1 7, 4, .inr (.inr (.inr (.inr (fun _ => none)))))), (e1b_30, .inl (E.2.1 1, 4, .inl (fun _ => 0))), (e1c_31, .inl (E.2.1 1, 4, .inl (fun _ => 0))), (e1d_32, .inl (E.2.1 1, 16, .inl (fun _ => 0))), (e2_33, .inr (0, [.int 0, .int 0, .ref e2a_34, .ref e2b_35, .ref e2c_36, .ref e2d_37])), (e2a_34, .inl (E.2.1 7, 4, .inr (.inr (.inr (.inr (fun _ => none)))))), (e2b_35, .inl (E.2.1 1, 4, .inl (fun _ => 0))), (e2c_36, .inl (E.2.1 1, 4, .inl (fun _ => 0))), (e2d_37, .inl (E.2.1 1, 16, .inl (fun _ => 0))), (e3_38, .inr (0, [.int 0, .int 0, .ref e3a_39, .ref e3b_40, .ref e3c_41, .ref e3d_42])), (e3a_39, .inl (E.2.1 7, 4, .inr (.inr (.inr (.inr (fun _ => none)))))), (e3b_40, .inl (E.2.1 1, 4, .inl (fun _ => 0))), (e3c_41, .inl (E.2.1 1, 4, .inl (fun _ => 0))), (e3d_42, .inl (E.2.1 1, 16, .inl (fun _ => 0))), (q_47, .inr (3, [.ref m_48, .int 0, .int 0, .ref a_49, .ref b_50, .ref c_51])), (q_52, .inr (1, [.null, .null, .int 0, .ref a_53, .ref b_54, .ref c_55])), (q_59, .inl (E.2.1 8, 4, .inr (.inr (.inr (.inr f_68))))), (q_60, .inr (9, [.int 0, .int 0, .int 0, .ref a_61])), (a_61, .inl (E.2.1 1, 48, .inl (fun _ => 0))), (q_63, .inr (9, [.int 0, .int 0, .int 0, .ref a_64])), (a_64, .inl (E.2.1 1, 48, .inl (fun _ => 0))), (q_66, .inr (9, [.int 0, .int 0, .int 0, .ref a_67])), (a_67, .inl (E.2.1 1, 48, .inl (fun _ => 0))), (q_69, .inr (9, [.int 0, .int 0, .int 0, .ref a_70])), (a_70, .inl (E.2.1 1, 48, .inl (fun _ => 0)))]) ?_ rfl rfl rfl
  obtain ⟨f_71, ef_71⟩ : ∃ z : Nat → Option Nat, va_up f_68 3 (some q_69) = z := ⟨_, rfl⟩
  refine ww_ast (t0 := 8) (ws' := [(hx, .inr (11, [.ref q_1, .ref a_4, .int 0, .int 0, .ref q_10, .ref q_17, .ref q_47, .ref q_52, .ref a_56, .int 0, .ref q_57, .ref q_58, .int 0, .int 0, .ref q_59])), (q_1, .inr (4, [.int 0, .int 0, .ref a_2, .ref b_3])), (a_2, .inl (E.2.1 1, 24, .inl (fun _ => 0))), (b_3, .inl (E.2.1 1, 96, .inl (fun _ => 0))), (a_4, .inl (E.2.1 6, 8, .inr (.inr (.inr (.inr fp_5))))), (m_6, .inr (4, [.int 0, .int 0, .ref x_7, .ref y_8])), (x_7, .inl (E.2.1 1, 24, .inl (fun _ => 0))), (y_8, .inl (E.2.1 1, 96, .inl (fun _ => 0))), (q_10, .inr (5, [.ref t_11, .ref a_12, .ref b_13, .ref c_14, .ref d_15, .int 0, .int 0, .int 0, .int 0, .int 0])), (t_11, .inr (10, [.ref tb_16, .int 0, .int 0, .int 0, .int 0])), (tb_16, .inl (E.2.1 0, 160, .inl (fun _ => 0))), (q_17, .inr (2, [.ref jt_18, .ref je_19, .ref ju_20, .ref ja_21])), (jt_18, .inl (E.2.1 7, 8, .inr (.inr (.inr (.inr (fun _ => none)))))), (je_19, .inl (E.2.1 4, 4, .inr (.inr (.inr (.inr fe_22))))), (e0_23, .inr (0, [.int 0, .int 0, .ref e0a_24, .ref e0b_25, .ref e0c_26, .ref e0d_27])), (e0a_24, .inl (E.2.1 7, 4, .inr (.inr (.inr (.inr (fun _ => none)))))), (e0b_25, .inl (E.2.1 1, 4, .inl (fun _ => 0))), (e0c_26, .inl (E.2.1 1, 4, .inl (fun _ => 0))), (e0d_27, .inl (E.2.1 1, 16, .inl (fun _ => 0))), (e1_28, .inr (0, [.int 0, .int 0, .ref e1a_29, .ref e1b_30, .ref e1c_31, .ref e1d_32])), (e1a_29, .inl (E.2.1 7, 4, .inr (.inr (.inr (.inr (fun _ => none)))))), (e1b_30, .inl (E.2.1 1, 4, .inl (fun _ => 0))), (e1c_31, .inl (E.2.1 1, 4, .inl (fun _ => 0))), (e1d_32, .inl (E.2.1 1, 16, .inl (fun _ => 0))), (e2_33, .inr (0, [.int 0, .int 0, .ref e2a_34, .ref e2b_35, .ref e2c_36, .ref e2d_37])), (e2a_34, .inl (E.2.1 7, 4, .inr (.inr (.inr (.inr (fun _ => none)))))), (e2b_35, .inl (E.2.1 1, 4, .inl (fun _ => 0))), (e2c_36, .inl (E.2.1 1, 4, .inl (fun _ => 0))), (e2d_37, .inl (E.2.1 1, 16, .inl (fun _ => 0))), (e3_38, .inr (0, [.int 0, .int 0, .ref e3a_39, .ref e3b_40, .ref e3c_41, .ref e3d_42])), (e3a_39, .inl (E.2.1 7, 4, .inr (.inr (.inr (.inr (fun _ => none)))))), (e3b_40, .inl (E.2.1 1, 4, .inl (fun _ => 0))), (e3c_41, .inl (E.2.1 1, 4, .inl (fun _ => 0))), (e3d_42, .inl (E.2.1 1, 16, .inl (fun _ => 0))), (q_47, .inr (3, [.ref m_48, .int 0, .int 0, .ref a_49, .ref b_50, .ref c_51])), (q_52, .inr (1, [.null, .null, .int 0, .ref a_53, .ref b_54, .ref c_55])), (q_59, .inl (E.2.1 8, 4, .inr (.inr (.inr (.inr f_71))))), (q_60, .inr (9, [.int 0, .int 0, .int 0, .ref a_61])), (a_61, .inl (E.2.1 1, 48, .inl (fun _ => 0))), (q_63, .inr (9, [.int 0, .int 0, .int 0, .ref a_64])), (a_64, .inl (E.2.1 1, 48, .inl (fun _ => 0))), (q_66, .inr (9, [.int 0, .int 0, .int 0, .ref a_67])), (a_67, .inl (E.2.1 1, 48, .inl (fun _ => 0))), (q_69, .inr (9, [.int 0, .int 0, .int 0, .ref a_70])), (a_70, .inl (E.2.1 1, 48, .inl (fun _ => 0)))]) C 36 43 rfl rfl rfl rfl (vin rfl) ef_71 rfl dX11_init_125 ?_
  refine ww_iinc (j := 0) (v := 4) (lv' := [(1, .int 4), (0, .ref hx)]) C dX11_init_126 rfl rfl rfl rfl ?_
  refine ww_goto (tgt := 108) C dX11_init_129 (by decide) ?_
  refine ww_iload_n C dX11_init_108 0 rfl rfl ?_
  refine ww_iconst (v := 4) C dX11_init_109 rfl ?_
  refine ww_icmp_ge_t (tgt := 132) C dX11_init_110 (by decide) (by decide) ?_
  exact ww_vret (u := [(hx, .inr (11, [.ref q_1, .ref a_4, .int 0, .int 0, .ref q_10, .ref q_17, .ref q_47, .ref q_52, .ref a_56, .int 0, .ref q_57, .ref q_58, .int 0, .int 0, .ref q_59])), (q_1, .inr (4, [.int 0, .int 0, .ref a_2, .ref b_3])), (a_2, .inl (E.2.1 1, 24, .inl (fun _ => 0))), (b_3, .inl (E.2.1 1, 96, .inl (fun _ => 0))), (a_4, .inl (E.2.1 6, 8, .inr (.inr (.inr (.inr fp_5))))), (m_6, .inr (4, [.int 0, .int 0, .ref x_7, .ref y_8])), (x_7, .inl (E.2.1 1, 24, .inl (fun _ => 0))), (y_8, .inl (E.2.1 1, 96, .inl (fun _ => 0))), (q_10, .inr (5, [.ref t_11, .ref a_12, .ref b_13, .ref c_14, .ref d_15, .int 0, .int 0, .int 0, .int 0, .int 0])), (t_11, .inr (10, [.ref tb_16, .int 0, .int 0, .int 0, .int 0])), (tb_16, .inl (E.2.1 0, 160, .inl (fun _ => 0))), (q_17, .inr (2, [.ref jt_18, .ref je_19, .ref ju_20, .ref ja_21])), (jt_18, .inl (E.2.1 7, 8, .inr (.inr (.inr (.inr (fun _ => none)))))), (je_19, .inl (E.2.1 4, 4, .inr (.inr (.inr (.inr fe_22))))), (e0_23, .inr (0, [.int 0, .int 0, .ref e0a_24, .ref e0b_25, .ref e0c_26, .ref e0d_27])), (e0a_24, .inl (E.2.1 7, 4, .inr (.inr (.inr (.inr (fun _ => none)))))), (e0b_25, .inl (E.2.1 1, 4, .inl (fun _ => 0))), (e0c_26, .inl (E.2.1 1, 4, .inl (fun _ => 0))), (e0d_27, .inl (E.2.1 1, 16, .inl (fun _ => 0))), (e1_28, .inr (0, [.int 0, .int 0, .ref e1a_29, .ref e1b_30, .ref e1c_31, .ref e1d_32])), (e1a_29, .inl (E.2.1 7, 4, .inr (.inr (.inr (.inr (fun _ => none)))))), (e1b_30, .inl (E.2.1 1, 4, .inl (fun _ => 0))), (e1c_31, .inl (E.2.1 1, 4, .inl (fun _ => 0))), (e1d_32, .inl (E.2.1 1, 16, .inl (fun _ => 0))), (e2_33, .inr (0, [.int 0, .int 0, .ref e2a_34, .ref e2b_35, .ref e2c_36, .ref e2d_37])), (e2a_34, .inl (E.2.1 7, 4, .inr (.inr (.inr (.inr (fun _ => none)))))), (e2b_35, .inl (E.2.1 1, 4, .inl (fun _ => 0))), (e2c_36, .inl (E.2.1 1, 4, .inl (fun _ => 0))), (e2d_37, .inl (E.2.1 1, 16, .inl (fun _ => 0))), (e3_38, .inr (0, [.int 0, .int 0, .ref e3a_39, .ref e3b_40, .ref e3c_41, .ref e3d_42])), (e3a_39, .inl (E.2.1 7, 4, .inr (.inr (.inr (.inr (fun _ => none)))))), (e3b_40, .inl (E.2.1 1, 4, .inl (fun _ => 0))), (e3c_41, .inl (E.2.1 1, 4, .inl (fun _ => 0))), (e3d_42, .inl (E.2.1 1, 16, .inl (fun _ => 0))), (q_52, .inr (1, [.null, .null, .int 0, .ref a_53, .ref b_54, .ref c_55])), (q_59, .inl (E.2.1 8, 4, .inr (.inr (.inr (.inr f_71))))), (q_60, .inr (9, [.int 0, .int 0, .int 0, .ref a_61])), (a_61, .inl (E.2.1 1, 48, .inl (fun _ => 0))), (q_63, .inr (9, [.int 0, .int 0, .int 0, .ref a_64])), (a_64, .inl (E.2.1 1, 48, .inl (fun _ => 0))), (q_66, .inr (9, [.int 0, .int 0, .int 0, .ref a_67])), (a_67, .inl (E.2.1 1, 48, .inl (fun _ => 0))), (q_69, .inr (9, [.int 0, .int 0, .int 0, .ref a_70])), (a_70, .inl (E.2.1 1, 48, .inl (fun _ => 0)))]) C hT [0, 1, 2, 3, 4, 5, 6, 7, 8, 9, 10, 11, 12, 13, 14, 15, 16, 17, 18, 19, 20, 21, 22, 23, 24, 25, 26, 27, 28, 29, 30, 31, 32, 33, 35, 36, 37, 38, 39, 40, 41, 42, 43, 44] rfl rfl rfl rfl dX11_init_132 (⟨q_1, a_4, q_10, q_17, q_47, q_52, a_56, q_57, q_58, q_59, a_2, b_3, fp_5, m_6, x_7, y_8, t_11, a_12, b_13, c_14, d_15, tb_16, jt_18, je_19, ju_20, ja_21, fe_22, e0_23, e0a_24, e0b_25, e0c_26, e0d_27, e1_28, e1a_29, e1b_30, e1c_31, e1d_32, e2_33, e2a_34, e2b_35, e2c_36, e2d_37, e3_38, e3a_39, e3b_40, e3c_41, e3d_42, a_53, b_54, c_55, f_71, q_60, a_61, q_63, a_64, q_66, a_67, q_69, a_70, rfl, h_9, h_43, h_44, h_45, h_46, ((congrFun ef_71 0).symm.trans ((vup_n (by decide)).trans ((congrFun ef_68 0).symm.trans ((vup_n (by decide)).trans ((congrFun ef_65 0).symm.trans ((vup_n (by decide)).trans ((congrFun ef_62 0).symm.trans vup_s))))))), ((congrFun ef_71 1).symm.trans ((vup_n (by decide)).trans ((congrFun ef_68 1).symm.trans ((vup_n (by decide)).trans ((congrFun ef_65 1).symm.trans vup_s))))), ((congrFun ef_71 2).symm.trans ((vup_n (by decide)).trans ((congrFun ef_68 2).symm.trans vup_s))), ((congrFun ef_71 3).symm.trans vup_s)⟩)
end
section
theorem dX4_become_0 : decode cX4_become 0 = .ok (.aload_n 0, 1) := by decide +kernel
theorem dX4_become_1 : decode cX4_become 1 = .ok (.aload_n 1, 1) := by decide +kernel
theorem dX4_become_2 : decode cX4_become 2 = .ok (.getfield 18, 3) := by decide +kernel
theorem dX4_become_5 : decode cX4_become 5 = .ok (.putfield 18, 3) := by decide +kernel
theorem fp_X4_18 : FP RX4 18 4 0 .int false := ⟨RX4, TX4, 4, tyX4, uw_X4, wf_X4_18, rfl, by decide, rfl, tyX4_ok, nmX4, rfl, by decide +kernel⟩
theorem dX4_become_8 : decode cX4_become 8 = .ok (.aload_n 0, 1) := by decide +kernel
theorem dX4_become_9 : decode cX4_become 9 = .ok (.aload_n 1, 1) := by decide +kernel
theorem dX4_become_10 : decode cX4_become 10 = .ok (.getfield 22, 3) := by decide +kernel
theorem wf_X4_22 : Cond.fieldLink RX4 22 RX4 "realOne" "I" ∈ TB := tbm (tq1 (List.mem_of_getElem? (i := 41) (by decide +kernel))) (by decide +kernel)
theorem fg_X4_22 : FG RX4 22 4 1 := ⟨RX4, TX4, 4, uw_X4, wf_X4_22, rfl, by decide, rfl⟩
theorem dX4_become_13 : decode cX4_become 13 = .ok (.putfield 22, 3) := by decide +kernel
theorem fp_X4_22 : FP RX4 22 4 1 .int false := ⟨RX4, TX4, 4, tyX4, uw_X4, wf_X4_22, rfl, by decide, rfl, tyX4_ok, nmX4, rfl, by decide +kernel⟩
theorem dX4_become_16 : decode cX4_become 16 = .ok (.aload_n 1, 1) := by decide +kernel
theorem dX4_become_17 : decode cX4_become 17 = .ok (.getfield 9, 3) := by decide +kernel
theorem fg_X4_9 : FG RX4 9 4 2 := ⟨RX4, TX4, 4, uw_X4, wf_X4_9, rfl, by decide, rfl⟩
theorem dX4_become_20 : decode cX4_become 20 = .ok (.iconst 0, 1) := by decide +kernel
theorem dX4_become_21 : decode cX4_become 21 = .ok (.aload_n 0, 1) := by decide +kernel
theorem dX4_become_22 : decode cX4_become 22 = .ok (.getfield 9, 3) := by decide +kernel
theorem dX4_become_25 : decode cX4_become 25 = .ok (.iconst 0, 1) := by decide +kernel
theorem dX4_become_26 : decode cX4_become 26 = .ok (.bipush 24, 2) := by decide +kernel
theorem dX4_become_28 : decode cX4_become 28 = .ok (.invokestatic 38, 3) := by decide +kernel
theorem wl_X4_38 : Cond.methodLink RX4 38 arraycopyName ∈ TB := tbm (tq2 (List.mem_of_getElem? (i := 157) (by decide +kernel))) (by decide +kernel)
theorem wn_ac : Cond.native arraycopyName ∈ TB := tbm (tq2 (List.mem_of_getElem? (i := 159) (by decide +kernel))) (by decide +kernel)
theorem wt_ac : Cond.static arraycopyName ∈ TB := tbm (tq2 (List.mem_of_getElem? (i := 158) (by decide +kernel))) (by decide +kernel)
theorem wn_Sys : Cond.initialized "java/lang/System" ∈ TB := tbm (tq1 (List.mem_of_getElem? (i := 13) (by decide +kernel))) (by decide +kernel)
theorem dX4_become_31 : decode cX4_become 31 = .ok (.aload_n 1, 1) := by decide +kernel
theorem dX4_become_32 : decode cX4_become 32 = .ok (.getfield 15, 3) := by decide +kernel
theorem fg_X4_15 : FG RX4 15 4 3 := ⟨RX4, TX4, 4, uw_X4, wf_X4_15, rfl, by decide, rfl⟩
theorem dX4_become_35 : decode cX4_become 35 = .ok (.iconst 0, 1) := by decide +kernel
theorem dX4_become_36 : decode cX4_become 36 = .ok (.aload_n 0, 1) := by decide +kernel
theorem dX4_become_37 : decode cX4_become 37 = .ok (.getfield 15, 3) := by decide +kernel
theorem dX4_become_40 : decode cX4_become 40 = .ok (.iconst 0, 1) := by decide +kernel
theorem dX4_become_41 : decode cX4_become 41 = .ok (.bipush 96, 2) := by decide +kernel
theorem dX4_become_43 : decode cX4_become 43 = .ok (.invokestatic 38, 3) := by decide +kernel
theorem dX4_become_46 : decode cX4_become 46 = .ok (.return_, 1) := by decide +kernel
set_option maxRecDepth 100000 in
set_option maxHeartbeats 4000000 in
theorem c_become (l : Launch) (E : EV) (h : Nat) (o : Nat) (s1 : Int32) (r1 : Int32) (a : Nat) (b : Nat) (f1 : Nat → Int32) (g1 : Nat → Int32) (s2 : Int32) (r2 : Int32) (c : Nat) (d : Nat) (f2 : Nat → Int32) (g2 : Nat → Int32)  : CT l yX4_become (Cond.code yX4_become cX4_become 2 none :: TB) ({ frames := 1, cells := 0, slots := 0, locals := 64 }) E [.ref h, .ref o] [(h, .inr (4, [.int s1, .int r1, .ref a, .ref b])), (a, .inl (E.2.1 1, 24, .inl f1)), (b, .inl (E.2.1 1, 96, .inl g1)), (o, .inr (4, [.int s2, .int r2, .ref c, .ref d])), (c, .inl (E.2.1 1, 24, .inl f2)), (d, .inl (E.2.1 1, 96, .inl g2))] (Qv E (fun u => (∃ (f3 : Nat → Int32) (g3 : Nat → Int32), u = [(h, .inr (4, [.int s2, .int r2, .ref a, .ref b])), (a, .inl (E.2.1 1, 24, .inl f3)), (b, .inl (E.2.1 1, 96, .inl g3)), (o, .inr (4, [.int s2, .int r2, .ref c, .ref d])), (c, .inl (E.2.1 1, 24, .inl f2)), (d, .inl (E.2.1 1, 96, .inl g2))]))) 0 0 := by
  refine ct_of rfl rfl ?_
  intro X C hT hin
  show WW X 2 E 0 [(0, .ref h), (1, .ref o)] [] [(h, .inr (4, [.int s1, .int r1, .ref a, .ref b])), (a, .inl (E.2.1 1, 24, .inl f1)), (b, .inl (E.2.1 1, 96, .inl g1)), (o, .inr (4, [.int s2, .int r2, .ref c, .ref d])), (c, .inl (E.2.1 1, 24, .inl f2)), (d, .inl (E.2.1 1, 96, .inl g2))] 0 0
  refine ww_aload_n C dX4_become_0 0 rfl rfl ?_
  refine ww_aload_n C dX4_become_1 1 rfl rfl ?_
  refine ww_get C fg_X4_18 3 rfl rfl dX4_become_2 ?_
  refine ww_put (ws' := [(h, .inr (4, [.int s2, .int r1, .ref a, .ref b])), (a, .inl (E.2.1 1, 24, .inl f1)), (b, .inl (E.2.1 1, 96, .inl g1)), (o, .inr (4, [.int s2, .int r2, .ref c, .ref d])), (c, .inl (E.2.1 1, 24, .inl f2)), (d, .inl (E.2.1 1, 96, .inl g2))]) C fp_X4_18 0 rfl rfl rfl rfl rfl dX4_become_5 ?_
  refine ww_aload_n C dX4_become_8 0 rfl rfl ?_
  refine ww_aload_n C dX4_become_9 1 rfl rfl ?_
  refine ww_get C fg_X4_22 3 rfl rfl dX4_become_10 ?_
  refine ww_put (ws' := [(h, .inr (4, [.int s2, .int r2, .ref a, .ref b])), (a, .inl (E.2.1 1, 24, .inl f1)), (b, .inl (E.2.1 1, 96, .inl g1)), (o, .inr (4, [.int s2, .int r2, .ref c, .ref d])), (c, .inl (E.2.1 1, 24, .inl f2)), (d, .inl (E.2.1 1, 96, .inl g2))]) C fp_X4_22 0 rfl rfl rfl rfl rfl dX4_become_13 ?_
  refine ww_aload_n C dX4_become_16 1 rfl rfl ?_
  refine ww_get C fg_X4_9 3 rfl rfl dX4_become_17 ?_
  refine ww_iconst (v := 0) C dX4_become_20 rfl ?_
  refine ww_aload_n C dX4_become_21 0 rfl rfl ?_
  refine ww_get C fg_X4_9 0 rfl rfl dX4_become_22 ?_
  refine ww_iconst (v := 0) C dX4_become_25 rfl ?_
  refine ww_bipush (v := 24) C dX4_become_26 rfl ?_
  obtain ⟨f_1, ef_1⟩ : ∃ z : Nat → Int32, va_cpy f2 f1 0 0 24 = z := ⟨_, rfl⟩
  refine ww_copyi (ws' := [(h, .inr (4, [.int s2, .int r2, .ref a, .ref b])), (a, .inl (E.2.1 1, 24, .inl f_1)), (b, .inl (E.2.1 1, 96, .inl g1)), (o, .inr (4, [.int s2, .int r2, .ref c, .ref d])), (c, .inl (E.2.1 1, 24, .inl f2)), (d, .inl (E.2.1 1, 96, .inl g2))]) C wl_X4_38 wn_ac wt_ac wn_Sys 4 1 rfl rfl (by decide) (by decide) (by decide) (by decide) (by decide) rfl ef_1 rfl dX4_become_28 ?_
  refine ww_aload_n C dX4_become_31 1 rfl rfl ?_
  refine ww_get C fg_X4_15 3 rfl rfl dX4_become_32 ?_
  refine ww_iconst (v := 0) C dX4_become_35 rfl ?_
  refine ww_aload_n C dX4_become_36 0 rfl rfl ?_
  refine ww_get C fg_X4_15 0 rfl rfl dX4_become_37 ?_
  refine ww_iconst (v := 0) C dX4_become_40 rfl ?_
  refine ww_bipush (v := 96) C dX4_become_41 rfl ?_
  obtain ⟨f_2, ef_2⟩ : ∃ z : Nat → Int32, va_cpy g2 g1 0 0 96 = z := ⟨_, rfl⟩
  refine ww_copyi (ws' := [(h, .inr (4, [.int s2, .int r2, .ref a, .ref b])), (a, .inl (E.2.1 1, 24, .inl f_1)), (b, .inl (E.2.1 1, 96, .inl f_2)), (o, .inr (4, [.int s2, .int r2, .ref c, .ref d])), (c, .inl (E.2.1 1, 24, .inl f2)), (d, .inl (E.2.1 1, 96, .inl g2))]) C wl_X4_38 wn_ac wt_ac wn_Sys 5 2 rfl rfl (by decide) (by decide) (by decide) (by decide) (by decide) rfl ef_2 rfl dX4_become_43 ?_
  exact ww_vret (u := [(h, .inr (4, [.int s2, .int r2, .ref a, .ref b])), (a, .inl (E.2.1 1, 24, .inl f_1)), (b, .inl (E.2.1 1, 96, .inl f_2)), (o, .inr (4, [.int s2, .int r2, .ref c, .ref d])), (c, .inl (E.2.1 1, 24, .inl f2)), (d, .inl (E.2.1 1, 96, .inl g2))]) C hT [0, 1, 2, 3, 4, 5] rfl rfl rfl rfl dX4_become_46 (⟨f_1, f_2, rfl⟩)
theorem dX11_remember_0 : decode cX11_remember 0 = .ok (.aload_n 0, 1) := by decide +kernel
theorem dX11_remember_1 : decode cX11_remember 1 = .ok (.getfield 20, 3) := by decide +kernel
theorem fg_X11_20 : FG RX11 20 11 1 := ⟨RX11, TX11, 15, uw_X11, wf_X11_20, rfl, by decide, rfl⟩
theorem dX11_remember_4 : decode cX11_remember 4 = .ok (.aload_n 0, 1) := by decide +kernel
theorem dX11_remember_5 : decode cX11_remember 5 = .ok (.getfield 109, 3) := by decide +kernel
theorem wf_X11_109 : Cond.fieldLink RX11 109 RX11 "nextPast" "I" ∈ TB := tbm (tq2 (List.mem_of_getElem? (i := 99) (by decide +kernel))) (by decide +kernel)
theorem fg_X11_109 : FG RX11 109 11 3 := ⟨RX11, TX11, 15, uw_X11, wf_X11_109, rfl, by decide, rfl⟩
theorem dX11_remember_8 : decode cX11_remember 8 = .ok (.aaload, 1) := by decide +kernel
theorem dX11_remember_9 : decode cX11_remember 9 = .ok (.aload_n 0, 1) := by decide +kernel
theorem dX11_remember_10 : decode cX11_remember 10 = .ok (.getfield 10, 3) := by decide +kernel
theorem fg_X11_10 : FG RX11 10 11 0 := ⟨RX11, TX11, 15, uw_X11, wf_X11_10, rfl, by decide, rfl⟩
theorem dX11_remember_13 : decode cX11_remember 13 = .ok (.invokevirtual 112, 3) := by decide +kernel
theorem wl_X11_112 : Cond.methodLink RX11 112 yX4_become ∈ TB := tbm (tq2 (List.mem_of_getElem? (i := 153) (by decide +kernel))) (by decide +kernel)
theorem wc_X4_become : Cond.code yX4_become cX4_become 2 none ∈ TB := tbm (tq2 (List.mem_of_getElem? (i := 156) (rfl))) (by decide +kernel)
theorem wi_X4_become : Cond.instanceMethod yX4_become ∈ TB := tbm (tq2 (List.mem_of_getElem? (i := 154) (by decide +kernel))) (by decide +kernel)
theorem ws_X4_become : Cond.selects RX4 yX4_become yX4_become ∈ TB := tbm (tq2 (List.mem_of_getElem? (i := 155) (by decide +kernel))) (by decide +kernel)
theorem mi_X4_become : MI yX4_become cX4_become 2 none 1 := ⟨wc_X4_become, wn_X4, ⟨by decide +kernel, by decide +kernel, by decide +kernel⟩, wi_X4_become, ws_X4_become⟩
theorem dX11_remember_16 : decode cX11_remember 16 = .ok (.aload_n 0, 1) := by decide +kernel
theorem dX11_remember_17 : decode cX11_remember 17 = .ok (.aload_n 0, 1) := by decide +kernel
theorem dX11_remember_18 : decode cX11_remember 18 = .ok (.getfield 109, 3) := by decide +kernel
theorem dX11_remember_21 : decode cX11_remember 21 = .ok (.iconst 1, 1) := by decide +kernel
theorem dX11_remember_22 : decode cX11_remember 22 = .ok (.iadd, 1) := by decide +kernel
theorem dX11_remember_23 : decode cX11_remember 23 = .ok (.bipush 8, 2) := by decide +kernel
theorem dX11_remember_25 : decode cX11_remember 25 = .ok (.irem, 1) := by decide +kernel
theorem dX11_remember_26 : decode cX11_remember 26 = .ok (.putfield 109, 3) := by decide +kernel
theorem fp_X11_109 : FP RX11 109 11 3 .int false := ⟨RX11, TX11, 15, tyX11, uw_X11, wf_X11_109, rfl, by decide, rfl, tyX11_ok, nmX11, rfl, by decide +kernel⟩
theorem dX11_remember_29 : decode cX11_remember 29 = .ok (.aload_n 0, 1) := by decide +kernel
theorem dX11_remember_30 : decode cX11_remember 30 = .ok (.aload_n 0, 1) := by decide +kernel
theorem dX11_remember_31 : decode cX11_remember 31 = .ok (.getfield 116, 3) := by decide +kernel
theorem wf_X11_116 : Cond.fieldLink RX11 116 RX11 "acts" "I" ∈ TB := tbm (tq2 (List.mem_of_getElem? (i := 98) (by decide +kernel))) (by decide +kernel)
theorem fg_X11_116 : FG RX11 116 11 2 := ⟨RX11, TX11, 15, uw_X11, wf_X11_116, rfl, by decide, rfl⟩
theorem dX11_remember_34 : decode cX11_remember 34 = .ok (.iconst 1, 1) := by decide +kernel
theorem dX11_remember_35 : decode cX11_remember 35 = .ok (.iadd, 1) := by decide +kernel
theorem dX11_remember_36 : decode cX11_remember 36 = .ok (.bipush 8, 2) := by decide +kernel
theorem dX11_remember_38 : decode cX11_remember 38 = .ok (.invokestatic 119, 3) := by decide +kernel
theorem wl_X11_119 : Cond.methodLink RX11 119 Lib.Math.min.name ∈ TB := tbm (tq2 (List.mem_of_getElem? (i := 160) (by decide +kernel))) (by decide +kernel)
theorem wt_Mmin : Cond.static Lib.Math.min.name ∈ TB := tbm (tq2 (List.mem_of_getElem? (i := 161) (by decide +kernel))) (by decide +kernel)
theorem wn_Math : Cond.initialized "java/lang/Math" ∈ TB := tbm (tq1 (List.mem_of_getElem? (i := 14) (by decide +kernel))) (by decide +kernel)
theorem wc_Mmin : Cond.code Lib.Math.min.name Lib.Math.min.code 2 (some .int) ∈ TB := tbm (tq2 (List.mem_of_getElem? (i := 162) (rfl))) (by decide +kernel)
theorem dX11_remember_41 : decode cX11_remember 41 = .ok (.putfield 116, 3) := by decide +kernel
theorem fp_X11_116 : FP RX11 116 11 2 .int false := ⟨RX11, TX11, 15, tyX11, uw_X11, wf_X11_116, rfl, by decide, rfl, tyX11_ok, nmX11, rfl, by decide +kernel⟩
theorem dX11_remember_44 : decode cX11_remember 44 = .ok (.return_, 1) := by decide +kernel
set_option maxRecDepth 100000 in
set_option maxHeartbeats 4000000 in
theorem c_remember0 (l : Launch) (E : EV) (hx : Nat) (qn : Nat) (qp : Nat) (qs : Nat) (qj : Nat) (ql : Nat) (qh : Nat) (qk : Nat) (qr : Nat) (qg : Nat) (qsh : Nat) (nf : Nat) (np : Nat) (fp : Nat → Option Nat) (pm : Nat) (pf : Nat) (pp : Nat) (k_fp_0 : fp 0 = some pm) : CT l yX11_remember (Cond.code yX11_remember cX11_remember 1 none :: TB) ({ frames := 2, cells := 0, slots := 0, locals := 85 }) E [.ref hx] [(hx, .inr (11, [.ref qn, .ref qp, .int 0, .int 0, .ref qs, .ref qj, .ref ql, .ref qh, .ref qk, .int 0, .ref qr, .ref qg, .int 0, .int 0, .ref qsh])), (qn, .inr (4, [.int 0, .int 0, .ref nf, .ref np])), (nf, .inl (E.2.1 1, 24, .inl (fun _ => 0))), (np, .inl (E.2.1 1, 96, .inl (fun _ => 0))), (qp, .inl (E.2.1 6, 8, .inr (.inr (.inr (.inr fp))))), (pm, .inr (4, [.int 0, .int 0, .ref pf, .ref pp])), (pf, .inl (E.2.1 1, 24, .inl (fun _ => 0))), (pp, .inl (E.2.1 1, 96, .inl (fun _ => 0)))] (Qv E (fun u => (u = [(hx, .inr (11, [.ref qn, .ref qp, .int 1, .int 1, .ref qs, .ref qj, .ref ql, .ref qh, .ref qk, .int 0, .ref qr, .ref qg, .int 0, .int 0, .ref qsh])), (qn, .inr (4, [.int 0, .int 0, .ref nf, .ref np])), (nf, .inl (E.2.1 1, 24, .inl (fun _ => 0))), (np, .inl (E.2.1 1, 96, .inl (fun _ => 0)))]))) 0 0 := by
  refine ct_of rfl rfl ?_
  intro X C hT hin
  show WW X 1 E 0 [(0, .ref hx)] [] [(hx, .inr (11, [.ref qn, .ref qp, .int 0, .int 0, .ref qs, .ref qj, .ref ql, .ref qh, .ref qk, .int 0, .ref qr, .ref qg, .int 0, .int 0, .ref qsh])), (qn, .inr (4, [.int 0, .int 0, .ref nf, .ref np])), (nf, .inl (E.2.1 1, 24, .inl (fun _ => 0))), (np, .inl (E.2.1 1, 96, .inl (fun _ => 0))), (qp, .inl (E.2.1 6, 8, .inr (.inr (.inr (.inr fp))))), (pm, .inr (4, [.int 0, .int 0, .ref pf, .ref pp])), (pf, .inl (E.2.1 1, 24, .inl (fun _ => 0))), (pp, .inl (E.2.1 1, 96, .inl (fun _ => 0)))] 0 0
  refine ww_aload_n C dX11_remember_0 0 rfl rfl ?_
  refine ww_get C fg_X11_20 0 rfl rfl dX11_remember_1 ?_
  refine ww_aload_n C dX11_remember_4 0 rfl rfl ?_
  refine ww_get C fg_X11_109 0 rfl rfl dX11_remember_5 ?_
  refine ww_ald (v := (some pm)) (t0 := 6) C 4 rfl rfl (vin rfl) k_fp_0 dX11_remember_8 ?_
  refine ww_eq (st' := [.ref pm]) ?_ rfl rfl rfl
  refine ww_aload_n C dX11_remember_9 0 rfl rfl ?_
  refine ww_get C fg_X11_10 0 rfl rfl dX11_remember_10 ?_
  refine ww_cv (wr := [(hx, .inr (11, [.ref qn, .ref qp, .int 0, .int 0, .ref qs, .ref qj, .ref ql, .ref qh, .ref qk, .int 0, .ref qr, .ref qg, .int 0, .int 0, .ref qsh])), (qp, .inl (E.2.1 6, 8, .inr (.inr (.inr (.inr fp)))))]) (k' := 0) (n' := 0) C (run_V (As := [.ref qn]) (rest := []) C (c_become X.2.1 E pm qn 0 0 pf pp (fun _ => 0) (fun _ => 0) 0 0 nf np (fun _ => 0) (fun _ => 0)) mi_X4_become wl_X11_112 rfl 0 4 rfl rfl rfl rfl rfl dX11_remember_13) [5, 6, 7, 1, 2, 3] [0, 4] rfl rfl rfl rfl (fun u hw => ?_)
  obtain ⟨f3_1, g3_2, rfl⟩ := hw
  refine ww_eq (ws' := [(hx, .inr (11, [.ref qn, .ref qp, .int 0, .int 0, .ref qs, .ref qj, .ref ql, .ref qh, .ref qk, .int 0, .ref qr, .ref qg, .int 0, .int 0, .ref qsh])), (qp, .inl (E.2.1 6, 8, .inr (.inr (.inr (.inr fp))))), (pm, .inr (4, [.int 0, .int 0, .ref pf, .ref pp])), (pf, .inl (E.2.1 1, 24, .inl f3_1)), (pp, .inl (E.2.1 1, 96, .inl g3_2)), (qn, .inr (4, [.int 0, .int 0, .ref nf, .ref np])), (nf, .inl (E.2.1 1, 24, .inl (fun _ => 0))), (np, .inl (E.2.1 1, 96, .inl (fun _ => 0)))]) ?_ rfl rfl rfl
  refine ww_aload_n C dX11_remember_16 0 rfl rfl ?_
  refine ww_aload_n C dX11_remember_17 0 rfl rfl ?_
  refine ww_get C fg_X11_109 0 rfl rfl dX11_remember_18 ?_
  refine ww_iconst (v := 1) C dX11_remember_21 rfl ?_
  refine ww_iadd (v := 1) C dX11_remember_22 (by decide) ?_
  refine ww_bipush (v := 8) C dX11_remember_23 rfl ?_
  refine ww_irem (v := 1) C dX11_remember_25 (by decide) (by decide) ?_
  refine ww_put (ws' := [(hx, .inr (11, [.ref qn, .ref qp, .int 0, .int 1, .ref qs, .ref qj, .ref ql, .ref qh, .ref qk, .int 0, .ref qr, .ref qg, .int 0, .int 0, .ref qsh])), (qp, .inl (E.2.1 6, 8, .inr (.inr (.inr (.inr fp))))), (pm, .inr (4, [.int 0, .int 0, .ref pf, .ref pp])), (pf, .inl (E.2.1 1, 24, .inl f3_1)), (pp, .inl (E.2.1 1, 96, .inl g3_2)), (qn, .inr (4, [.int 0, .int 0, .ref nf, .ref np])), (nf, .inl (E.2.1 1, 24, .inl (fun _ => 0))), (np, .inl (E.2.1 1, 96, .inl (fun _ => 0)))]) C fp_X11_109 0 rfl rfl rfl rfl rfl dX11_remember_26 ?_
  refine ww_aload_n C dX11_remember_29 0 rfl rfl ?_
  refine ww_aload_n C dX11_remember_30 0 rfl rfl ?_
  refine ww_get C fg_X11_116 0 rfl rfl dX11_remember_31 ?_
  refine ww_iconst (v := 1) C dX11_remember_34 rfl ?_
  refine ww_iadd (v := 1) C dX11_remember_35 (by decide) ?_
  refine ww_bipush (v := 8) C dX11_remember_36 rfl ?_
  refine ww_mmin (v := 1) C wl_X11_119 wt_Mmin wn_Math wc_Mmin rfl (by decide) dX11_remember_38 ?_
  refine ww_put (ws' := [(hx, .inr (11, [.ref qn, .ref qp, .int 1, .int 1, .ref qs, .ref qj, .ref ql, .ref qh, .ref qk, .int 0, .ref qr, .ref qg, .int 0, .int 0, .ref qsh])), (qp, .inl (E.2.1 6, 8, .inr (.inr (.inr (.inr fp))))), (pm, .inr (4, [.int 0, .int 0, .ref pf, .ref pp])), (pf, .inl (E.2.1 1, 24, .inl f3_1)), (pp, .inl (E.2.1 1, 96, .inl g3_2)), (qn, .inr (4, [.int 0, .int 0, .ref nf, .ref np])), (nf, .inl (E.2.1 1, 24, .inl (fun _ => 0))), (np, .inl (E.2.1 1, 96, .inl (fun _ => 0)))]) C fp_X11_116 0 rfl rfl rfl rfl rfl dX11_remember_41 ?_
  exact ww_vret (u := [(hx, .inr (11, [.ref qn, .ref qp, .int 1, .int 1, .ref qs, .ref qj, .ref ql, .ref qh, .ref qk, .int 0, .ref qr, .ref qg, .int 0, .int 0, .ref qsh])), (qn, .inr (4, [.int 0, .int 0, .ref nf, .ref np])), (nf, .inl (E.2.1 1, 24, .inl (fun _ => 0))), (np, .inl (E.2.1 1, 96, .inl (fun _ => 0)))]) C hT [0, 5, 6, 7] rfl rfl rfl rfl dX11_remember_44 (rfl)
theorem dX4_add_0 : decode cX4_add 0 = .ok (.aload_n 0, 1) := by decide +kernel
theorem dX4_add_1 : decode cX4_add 1 = .ok (.getfield 9, 3) := by decide +kernel
theorem dX4_add_4 : decode cX4_add 4 = .ok (.aload_n 0, 1) := by decide +kernel
theorem dX4_add_5 : decode cX4_add 5 = .ok (.getfield 18, 3) := by decide +kernel
theorem dX4_add_8 : decode cX4_add 8 = .ok (.iload_n 1, 1) := by decide +kernel
theorem dX4_add_9 : decode cX4_add 9 = .ok (.iastore, 1) := by decide +kernel
theorem dX4_add_10 : decode cX4_add 10 = .ok (.iconst 0, 1) := by decide +kernel
theorem dX4_add_11 : decode cX4_add 11 = .ok (.istore_n 2, 1) := by decide +kernel
theorem dX4_add_12 : decode cX4_add 12 = .ok (.iload_n 2, 1) := by decide +kernel
theorem dX4_add_13 : decode cX4_add 13 = .ok (.iconst 4, 1) := by decide +kernel
theorem dX4_add_14 : decode cX4_add 14 = .ok (.if_icmp .ge 24, 3) := by decide +kernel
theorem dX4_add_17 : decode cX4_add 17 = .ok (.aload_n 0, 1) := by decide +kernel
theorem dX4_add_18 : decode cX4_add 18 = .ok (.getfield 15, 3) := by decide +kernel
theorem dX4_add_21 : decode cX4_add 21 = .ok (.iload_n 2, 1) := by decide +kernel
theorem dX4_add_22 : decode cX4_add 22 = .ok (.bipush 24, 2) := by decide +kernel
theorem dX4_add_24 : decode cX4_add 24 = .ok (.imul, 1) := by decide +kernel
theorem dX4_add_25 : decode cX4_add 25 = .ok (.aload_n 0, 1) := by decide +kernel
theorem dX4_add_26 : decode cX4_add 26 = .ok (.getfield 18, 3) := by decide +kernel
theorem dX4_add_29 : decode cX4_add 29 = .ok (.iadd, 1) := by decide +kernel
theorem dX4_add_30 : decode cX4_add 30 = .ok (.iconst 0, 1) := by decide +kernel
theorem dX4_add_31 : decode cX4_add 31 = .ok (.iastore, 1) := by decide +kernel
theorem dX4_add_32 : decode cX4_add 32 = .ok (.iinc 2 1, 3) := by decide +kernel
theorem dX4_add_35 : decode cX4_add 35 = .ok (.goto (-23), 3) := by decide +kernel
theorem dX4_add_38 : decode cX4_add 38 = .ok (.aload_n 0, 1) := by decide +kernel
theorem dX4_add_39 : decode cX4_add 39 = .ok (.dup, 1) := by decide +kernel
theorem dX4_add_40 : decode cX4_add 40 = .ok (.getfield 18, 3) := by decide +kernel
theorem dX4_add_43 : decode cX4_add 43 = .ok (.iconst 1, 1) := by decide +kernel
theorem dX4_add_44 : decode cX4_add 44 = .ok (.iadd, 1) := by decide +kernel
theorem dX4_add_45 : decode cX4_add 45 = .ok (.putfield 18, 3) := by decide +kernel
theorem dX4_add_48 : decode cX4_add 48 = .ok (.aload_n 0, 1) := by decide +kernel
theorem dX4_add_49 : decode cX4_add 49 = .ok (.getfield 18, 3) := by decide +kernel
theorem dX4_add_52 : decode cX4_add 52 = .ok (.iconst 1, 1) := by decide +kernel
theorem dX4_add_53 : decode cX4_add 53 = .ok (.isub, 1) := by decide +kernel
theorem dX4_add_54 : decode cX4_add 54 = .ok (.ireturn, 1) := by decide +kernel
set_option maxRecDepth 100000 in
set_option maxHeartbeats 4000000 in
theorem c_add0 (l : Launch) (E : EV) (h : Nat) (f : Int32) (a : Nat) (b : Nat) (f1 : Nat → Int32) (g1 : Nat → Int32)  : CT l yX4_add (Cond.code yX4_add cX4_add 3 (some .int) :: TB) ({ frames := 0, cells := 0, slots := 0, locals := 0 }) E [.ref h, .int f] [(h, .inr (4, [.int 0, .int 0, .ref a, .ref b])), (a, .inl (E.2.1 1, 24, .inl f1)), (b, .inl (E.2.1 1, 96, .inl g1))] (Qi E (fun (r : Int32) u => (r = 0 ∧ u = []))) 0 0 := by
  refine ct_of rfl rfl ?_
  intro X C hT hin
  show WW X 3 E 0 [(0, .ref h), (1, .int f)] [] [(h, .inr (4, [.int 0, .int 0, .ref a, .ref b])), (a, .inl (E.2.1 1, 24, .inl f1)), (b, .inl (E.2.1 1, 96, .inl g1))] 0 0
  refine ww_aload_n C dX4_add_0 0 rfl rfl ?_
  refine ww_get C fg_X4_9 0 rfl rfl dX4_add_1 ?_
  refine ww_aload_n C dX4_add_4 0 rfl rfl ?_
  refine ww_get C fg_X4_18 0 rfl rfl dX4_add_5 ?_
  refine ww_iload_n C dX4_add_8 1 rfl rfl ?_
  obtain ⟨f_1, ef_1⟩ : ∃ z : Nat → Int32, upd f1 0 f = z := ⟨_, rfl⟩
  refine ww_iast (ws' := [(h, .inr (4, [.int 0, .int 0, .ref a, .ref b])), (a, .inl (E.2.1 1, 24, .inl f_1)), (b, .inl (E.2.1 1, 96, .inl g1))]) C 1 rfl (vin rfl) ef_1 rfl dX4_add_9 ?_
  refine ww_iconst (v := 0) C dX4_add_10 rfl ?_
  refine ww_istore_n (lv' := [(2, .int 0), (0, .ref h), (1, .int f)]) C dX4_add_11 rfl rfl rfl ?_
  refine ww_iload_n C dX4_add_12 0 rfl rfl ?_
  refine ww_iconst (v := 4) C dX4_add_13 rfl ?_
  refine ww_icmp_ge_f (tgt := 38) C dX4_add_14 (by decide) (by decide) ?_
  refine ww_aload_n C dX4_add_17 1 rfl rfl ?_
  refine ww_get C fg_X4_15 0 rfl rfl dX4_add_18 ?_
  refine ww_iload_n C dX4_add_21 0 rfl rfl ?_
  refine ww_bipush (v := 24) C dX4_add_22 rfl ?_
  refine ww_imul (v := 0) C dX4_add_24 (by decide) ?_
  refine ww_aload_n C dX4_add_25 1 rfl rfl ?_
  refine ww_get C fg_X4_18 0 rfl rfl dX4_add_26 ?_
  refine ww_iadd (v := 0) C dX4_add_29 (by decide) ?_
  refine ww_iconst (v := 0) C dX4_add_30 rfl ?_
  obtain ⟨f_2, ef_2⟩ : ∃ z : Nat → Int32, upd g1 0 0 = z := ⟨_, rfl⟩
  refine ww_iast (ws' := [(h, .inr (4, [.int 0, .int 0, .ref a, .ref b])), (a, .inl (E.2.1 1, 24, .inl f_1)), (b, .inl (E.2.1 1, 96, .inl f_2))]) C 2 rfl (vin rfl) ef_2 rfl dX4_add_31 ?_
  refine ww_iinc (j := 0) (v := 1) (lv' := [(2, .int 1), (0, .ref h), (1, .int f)]) C dX4_add_32 rfl rfl rfl rfl ?_
  refine ww_goto (tgt := 12) C dX4_add_35 (by decide) ?_
  refine ww_iload_n C dX4_add_12 0 rfl rfl ?_
  refine ww_iconst (v := 4) C dX4_add_13 rfl ?_
  refine ww_icmp_ge_f (tgt := 38) C dX4_add_14 (by decide) (by decide) ?_
  refine ww_aload_n C dX4_add_17 1 rfl rfl ?_
  refine ww_get C fg_X4_15 0 rfl rfl dX4_add_18 ?_
  refine ww_iload_n C dX4_add_21 0 rfl rfl ?_
  refine ww_bipush (v := 24) C dX4_add_22 rfl ?_
  refine ww_imul (v := 24) C dX4_add_24 (by decide) ?_
  refine ww_aload_n C dX4_add_25 1 rfl rfl ?_
  refine ww_get C fg_X4_18 0 rfl rfl dX4_add_26 ?_
  refine ww_iadd (v := 24) C dX4_add_29 (by decide) ?_
  refine ww_iconst (v := 0) C dX4_add_30 rfl ?_
  obtain ⟨f_3, ef_3⟩ : ∃ z : Nat → Int32, upd f_2 24 0 = z := ⟨_, rfl⟩
  refine ww_iast (ws' := [(h, .inr (4, [.int 0, .int 0, .ref a, .ref b])), (a, .inl (E.2.1 1, 24, .inl f_1)), (b, .inl (E.2.1 1, 96, .inl f_3))]) C 2 rfl (vin rfl) ef_3 rfl dX4_add_31 ?_
  refine ww_iinc (j := 0) (v := 2) (lv' := [(2, .int 2), (0, .ref h), (1, .int f)]) C dX4_add_32 rfl rfl rfl rfl ?_
  refine ww_goto (tgt := 12) C dX4_add_35 (by decide) ?_
  refine ww_iload_n C dX4_add_12 0 rfl rfl ?_
  refine ww_iconst (v := 4) C dX4_add_13 rfl ?_
  refine ww_icmp_ge_f (tgt := 38) C dX4_add_14 (by decide) (by decide) ?_
  refine ww_aload_n C dX4_add_17 1 rfl rfl ?_
  refine ww_get C fg_X4_15 0 rfl rfl dX4_add_18 ?_
  refine ww_iload_n C dX4_add_21 0 rfl rfl ?_
  refine ww_bipush (v := 24) C dX4_add_22 rfl ?_
  refine ww_imul (v := 48) C dX4_add_24 (by decide) ?_
  refine ww_aload_n C dX4_add_25 1 rfl rfl ?_
  refine ww_get C fg_X4_18 0 rfl rfl dX4_add_26 ?_
  refine ww_iadd (v := 48) C dX4_add_29 (by decide) ?_
  refine ww_iconst (v := 0) C dX4_add_30 rfl ?_
  obtain ⟨f_4, ef_4⟩ : ∃ z : Nat → Int32, upd f_3 48 0 = z := ⟨_, rfl⟩
  refine ww_iast (ws' := [(h, .inr (4, [.int 0, .int 0, .ref a, .ref b])), (a, .inl (E.2.1 1, 24, .inl f_1)), (b, .inl (E.2.1 1, 96, .inl f_4))]) C 2 rfl (vin rfl) ef_4 rfl dX4_add_31 ?_
  refine ww_iinc (j := 0) (v := 3) (lv' := [(2, .int 3), (0, .ref h), (1, .int f)]) C dX4_add_32 rfl rfl rfl rfl ?_
  refine ww_goto (tgt := 12) C dX4_add_35 (by decide) ?_
  refine ww_iload_n C dX4_add_12 0 rfl rfl ?_
  refine ww_iconst (v := 4) C dX4_add_13 rfl ?_
  refine ww_icmp_ge_f (tgt := 38) C dX4_add_14 (by decide) (by decide) ?_
  refine ww_aload_n C dX4_add_17 1 rfl rfl ?_
  refine ww_get C fg_X4_15 0 rfl rfl dX4_add_18 ?_
  refine ww_iload_n C dX4_add_21 0 rfl rfl ?_
  refine ww_bipush (v := 24) C dX4_add_22 rfl ?_
  refine ww_imul (v := 72) C dX4_add_24 (by decide) ?_
  refine ww_aload_n C dX4_add_25 1 rfl rfl ?_
  refine ww_get C fg_X4_18 0 rfl rfl dX4_add_26 ?_
  refine ww_iadd (v := 72) C dX4_add_29 (by decide) ?_
  refine ww_iconst (v := 0) C dX4_add_30 rfl ?_
  obtain ⟨f_5, ef_5⟩ : ∃ z : Nat → Int32, upd f_4 72 0 = z := ⟨_, rfl⟩
  refine ww_iast (ws' := [(h, .inr (4, [.int 0, .int 0, .ref a, .ref b])), (a, .inl (E.2.1 1, 24, .inl f_1)), (b, .inl (E.2.1 1, 96, .inl f_5))]) C 2 rfl (vin rfl) ef_5 rfl dX4_add_31 ?_
  refine ww_iinc (j := 0) (v := 4) (lv' := [(2, .int 4), (0, .ref h), (1, .int f)]) C dX4_add_32 rfl rfl rfl rfl ?_
  refine ww_goto (tgt := 12) C dX4_add_35 (by decide) ?_
  refine ww_iload_n C dX4_add_12 0 rfl rfl ?_
  refine ww_iconst (v := 4) C dX4_add_13 rfl ?_
  refine ww_icmp_ge_t (tgt := 38) C dX4_add_14 (by decide) (by decide) ?_
  refine ww_aload_n C dX4_add_38 1 rfl rfl ?_
  refine ww_dup C dX4_add_39 rfl ?_
  refine ww_get C fg_X4_18 0 rfl rfl dX4_add_40 ?_
  refine ww_iconst (v := 1) C dX4_add_43 rfl ?_
  refine ww_iadd (v := 1) C dX4_add_44 (by decide) ?_
  refine ww_put (ws' := [(h, .inr (4, [.int 1, .int 0, .ref a, .ref b])), (a, .inl (E.2.1 1, 24, .inl f_1)), (b, .inl (E.2.1 1, 96, .inl f_5))]) C fp_X4_18 0 rfl rfl rfl rfl rfl dX4_add_45 ?_
  refine ww_aload_n C dX4_add_48 1 rfl rfl ?_
  refine ww_get C fg_X4_18 0 rfl rfl dX4_add_49 ?_
  refine ww_iconst (v := 1) C dX4_add_52 rfl ?_
  refine ww_isub (v := 0) C dX4_add_53 (by decide) ?_
  exact ww_iret (u := []) C hT [] rfl rfl rfl rfl dX4_add_54 (⟨rfl, rfl⟩)
theorem dX4_blindfold_0 : decode cX4_blindfold 0 = .ok (.iconst 0, 1) := by decide +kernel
theorem dX4_blindfold_1 : decode cX4_blindfold 1 = .ok (.istore_n 2, 1) := by decide +kernel
theorem dX4_blindfold_2 : decode cX4_blindfold 2 = .ok (.iconst 0, 1) := by decide +kernel
theorem dX4_blindfold_3 : decode cX4_blindfold 3 = .ok (.istore_n 3, 1) := by decide +kernel
theorem dX4_blindfold_4 : decode cX4_blindfold 4 = .ok (.iload_n 3, 1) := by decide +kernel
theorem dX4_blindfold_5 : decode cX4_blindfold 5 = .ok (.iconst 4, 1) := by decide +kernel
theorem dX4_blindfold_6 : decode cX4_blindfold 6 = .ok (.if_icmp .ge 69, 3) := by decide +kernel
theorem dX4_blindfold_9 : decode cX4_blindfold 9 = .ok (.iload_n 1, 1) := by decide +kernel
theorem dX4_blindfold_10 : decode cX4_blindfold 10 = .ok (.iconst 4, 1) := by decide +kernel
theorem dX4_blindfold_11 : decode cX4_blindfold 11 = .ok (.iload_n 3, 1) := by decide +kernel
theorem dX4_blindfold_12 : decode cX4_blindfold 12 = .ok (.imul, 1) := by decide +kernel
theorem dX4_blindfold_13 : decode cX4_blindfold 13 = .ok (.ishr, 1) := by decide +kernel
theorem dX4_blindfold_14 : decode cX4_blindfold 14 = .ok (.bipush 15, 2) := by decide +kernel
theorem dX4_blindfold_16 : decode cX4_blindfold 16 = .ok (.iand, 1) := by decide +kernel
theorem dX4_blindfold_17 : decode cX4_blindfold 17 = .ok (.istore 4, 2) := by decide +kernel
theorem dX4_blindfold_19 : decode cX4_blindfold 19 = .ok (.iconst 0, 1) := by decide +kernel
theorem dX4_blindfold_20 : decode cX4_blindfold 20 = .ok (.istore 5, 2) := by decide +kernel
theorem dX4_blindfold_22 : decode cX4_blindfold 22 = .ok (.iload 5, 2) := by decide +kernel
theorem dX4_blindfold_24 : decode cX4_blindfold 24 = .ok (.aload_n 0, 1) := by decide +kernel
theorem dX4_blindfold_25 : decode cX4_blindfold 25 = .ok (.getfield 18, 3) := by decide +kernel
theorem dX4_blindfold_28 : decode cX4_blindfold 28 = .ok (.if_icmp .ge 41, 3) := by decide +kernel
theorem dX4_blindfold_69 : decode cX4_blindfold 69 = .ok (.iinc 3 1, 3) := by decide +kernel
theorem dX4_blindfold_72 : decode cX4_blindfold 72 = .ok (.goto (-68), 3) := by decide +kernel
theorem dX4_blindfold_75 : decode cX4_blindfold 75 = .ok (.iload_n 2, 1) := by decide +kernel
theorem dX4_blindfold_76 : decode cX4_blindfold 76 = .ok (.ireturn, 1) := by decide +kernel
set_option maxRecDepth 100000 in
set_option maxHeartbeats 4000000 in
theorem c_blind0 (l : Launch) (E : EV) (h : Nat) (f : Int32) (a : Nat) (b : Nat) (f1 : Nat → Int32) (g1 : Nat → Int32)  : CT l yX4_blindfold (Cond.code yX4_blindfold cX4_blindfold 7 (some .int) :: TB) ({ frames := 0, cells := 0, slots := 0, locals := 0 }) E [.ref h, .int f] [(h, .inr (4, [.int 0, .int 0, .ref a, .ref b])), (a, .inl (E.2.1 1, 24, .inl f1)), (b, .inl (E.2.1 1, 96, .inl g1))] (Qi E (fun (r : Int32) u => (r = 0 ∧ u = []))) 0 0 := by
  refine ct_of rfl rfl ?_
  intro X C hT hin
  show WW X 7 E 0 [(0, .ref h), (1, .int f)] [] [(h, .inr (4, [.int 0, .int 0, .ref a, .ref b])), (a, .inl (E.2.1 1, 24, .inl f1)), (b, .inl (E.2.1 1, 96, .inl g1))] 0 0
  refine ww_iconst (v := 0) C dX4_blindfold_0 rfl ?_
  refine ww_istore_n (lv' := [(2, .int 0), (0, .ref h), (1, .int f)]) C dX4_blindfold_1 rfl rfl rfl ?_
  refine ww_iconst (v := 0) C dX4_blindfold_2 rfl ?_
  refine ww_istore_n (lv' := [(3, .int 0), (2, .int 0), (0, .ref h), (1, .int f)]) C dX4_blindfold_3 rfl rfl rfl ?_
  refine ww_iload_n C dX4_blindfold_4 0 rfl rfl ?_
  refine ww_iconst (v := 4) C dX4_blindfold_5 rfl ?_
  refine ww_icmp_ge_f (tgt := 75) C dX4_blindfold_6 (by decide) (by decide) ?_
  refine ww_iload_n C dX4_blindfold_9 3 rfl rfl ?_
  refine ww_iconst (v := 4) C dX4_blindfold_10 rfl ?_
  refine ww_iload_n C dX4_blindfold_11 0 rfl rfl ?_
  refine ww_imul (v := 0) C dX4_blindfold_12 (by decide) ?_
  obtain ⟨x_1, ex_1⟩ : ∃ z : Int32, f >>> ((0 : Int32) &&& 31) = z := ⟨_, rfl⟩
  refine ww_ishr (v := x_1) C dX4_blindfold_13 ex_1 ?_
  refine ww_bipush (v := 15) C dX4_blindfold_14 rfl ?_
  obtain ⟨x_2, ex_2⟩ : ∃ z : Int32, x_1 &&& (15 : Int32) = z := ⟨_, rfl⟩
  refine ww_iand (v := x_2) C dX4_blindfold_16 ex_2 ?_
  refine ww_istore (lv' := [(4, .int x_2), (3, .int 0), (2, .int 0), (0, .ref h), (1, .int f)]) C dX4_blindfold_17 rfl rfl ?_
  refine ww_iconst (v := 0) C dX4_blindfold_19 rfl ?_
  refine ww_istore (lv' := [(5, .int 0), (4, .int x_2), (3, .int 0), (2, .int 0), (0, .ref h), (1, .int f)]) C dX4_blindfold_20 rfl rfl ?_
  refine ww_iload C dX4_blindfold_22 0 rfl ?_
  refine ww_aload_n C dX4_blindfold_24 4 rfl rfl ?_
  refine ww_get C fg_X4_18 0 rfl rfl dX4_blindfold_25 ?_
  refine ww_icmp_ge_t (tgt := 69) C dX4_blindfold_28 (by decide) (by decide) ?_
  refine ww_iinc (j := 2) (v := 1) (lv' := [(3, .int 1), (5, .int 0), (4, .int x_2), (2, .int 0), (0, .ref h), (1, .int f)]) C dX4_blindfold_69 rfl rfl rfl rfl ?_
  refine ww_goto (tgt := 4) C dX4_blindfold_72 (by decide) ?_
  refine ww_iload_n C dX4_blindfold_4 0 rfl rfl ?_
  refine ww_iconst (v := 4) C dX4_blindfold_5 rfl ?_
  refine ww_icmp_ge_f (tgt := 75) C dX4_blindfold_6 (by decide) (by decide) ?_
  refine ww_iload_n C dX4_blindfold_9 5 rfl rfl ?_
  refine ww_iconst (v := 4) C dX4_blindfold_10 rfl ?_
  refine ww_iload_n C dX4_blindfold_11 0 rfl rfl ?_
  refine ww_imul (v := 4) C dX4_blindfold_12 (by decide) ?_
  obtain ⟨x_3, ex_3⟩ : ∃ z : Int32, f >>> ((4 : Int32) &&& 31) = z := ⟨_, rfl⟩
  refine ww_ishr (v := x_3) C dX4_blindfold_13 ex_3 ?_
  refine ww_bipush (v := 15) C dX4_blindfold_14 rfl ?_
  obtain ⟨x_4, ex_4⟩ : ∃ z : Int32, x_3 &&& (15 : Int32) = z := ⟨_, rfl⟩
  refine ww_iand (v := x_4) C dX4_blindfold_16 ex_4 ?_
  refine ww_istore (lv' := [(4, .int x_4), (3, .int 1), (5, .int 0), (2, .int 0), (0, .ref h), (1, .int f)]) C dX4_blindfold_17 rfl rfl ?_
  refine ww_iconst (v := 0) C dX4_blindfold_19 rfl ?_
  refine ww_istore (lv' := [(5, .int 0), (4, .int x_4), (3, .int 1), (2, .int 0), (0, .ref h), (1, .int f)]) C dX4_blindfold_20 rfl rfl ?_
  refine ww_iload C dX4_blindfold_22 0 rfl ?_
  refine ww_aload_n C dX4_blindfold_24 4 rfl rfl ?_
  refine ww_get C fg_X4_18 0 rfl rfl dX4_blindfold_25 ?_
  refine ww_icmp_ge_t (tgt := 69) C dX4_blindfold_28 (by decide) (by decide) ?_
  refine ww_iinc (j := 2) (v := 2) (lv' := [(3, .int 2), (5, .int 0), (4, .int x_4), (2, .int 0), (0, .ref h), (1, .int f)]) C dX4_blindfold_69 rfl rfl rfl rfl ?_
  refine ww_goto (tgt := 4) C dX4_blindfold_72 (by decide) ?_
  refine ww_iload_n C dX4_blindfold_4 0 rfl rfl ?_
  refine ww_iconst (v := 4) C dX4_blindfold_5 rfl ?_
  refine ww_icmp_ge_f (tgt := 75) C dX4_blindfold_6 (by decide) (by decide) ?_
  refine ww_iload_n C dX4_blindfold_9 5 rfl rfl ?_
  refine ww_iconst (v := 4) C dX4_blindfold_10 rfl ?_
  refine ww_iload_n C dX4_blindfold_11 0 rfl rfl ?_
  refine ww_imul (v := 8) C dX4_blindfold_12 (by decide) ?_
  obtain ⟨x_5, ex_5⟩ : ∃ z : Int32, f >>> ((8 : Int32) &&& 31) = z := ⟨_, rfl⟩
  refine ww_ishr (v := x_5) C dX4_blindfold_13 ex_5 ?_
  refine ww_bipush (v := 15) C dX4_blindfold_14 rfl ?_
  obtain ⟨x_6, ex_6⟩ : ∃ z : Int32, x_5 &&& (15 : Int32) = z := ⟨_, rfl⟩
  refine ww_iand (v := x_6) C dX4_blindfold_16 ex_6 ?_
  refine ww_istore (lv' := [(4, .int x_6), (3, .int 2), (5, .int 0), (2, .int 0), (0, .ref h), (1, .int f)]) C dX4_blindfold_17 rfl rfl ?_
  refine ww_iconst (v := 0) C dX4_blindfold_19 rfl ?_
  refine ww_istore (lv' := [(5, .int 0), (4, .int x_6), (3, .int 2), (2, .int 0), (0, .ref h), (1, .int f)]) C dX4_blindfold_20 rfl rfl ?_
  refine ww_iload C dX4_blindfold_22 0 rfl ?_
  refine ww_aload_n C dX4_blindfold_24 4 rfl rfl ?_
  refine ww_get C fg_X4_18 0 rfl rfl dX4_blindfold_25 ?_
  refine ww_icmp_ge_t (tgt := 69) C dX4_blindfold_28 (by decide) (by decide) ?_
  refine ww_iinc (j := 2) (v := 3) (lv' := [(3, .int 3), (5, .int 0), (4, .int x_6), (2, .int 0), (0, .ref h), (1, .int f)]) C dX4_blindfold_69 rfl rfl rfl rfl ?_
  refine ww_goto (tgt := 4) C dX4_blindfold_72 (by decide) ?_
  refine ww_iload_n C dX4_blindfold_4 0 rfl rfl ?_
  refine ww_iconst (v := 4) C dX4_blindfold_5 rfl ?_
  refine ww_icmp_ge_f (tgt := 75) C dX4_blindfold_6 (by decide) (by decide) ?_
  refine ww_iload_n C dX4_blindfold_9 5 rfl rfl ?_
  refine ww_iconst (v := 4) C dX4_blindfold_10 rfl ?_
  refine ww_iload_n C dX4_blindfold_11 0 rfl rfl ?_
  refine ww_imul (v := 12) C dX4_blindfold_12 (by decide) ?_
  obtain ⟨x_7, ex_7⟩ : ∃ z : Int32, f >>> ((12 : Int32) &&& 31) = z := ⟨_, rfl⟩
  refine ww_ishr (v := x_7) C dX4_blindfold_13 ex_7 ?_
  refine ww_bipush (v := 15) C dX4_blindfold_14 rfl ?_
  obtain ⟨x_8, ex_8⟩ : ∃ z : Int32, x_7 &&& (15 : Int32) = z := ⟨_, rfl⟩
  refine ww_iand (v := x_8) C dX4_blindfold_16 ex_8 ?_
  refine ww_istore (lv' := [(4, .int x_8), (3, .int 3), (5, .int 0), (2, .int 0), (0, .ref h), (1, .int f)]) C dX4_blindfold_17 rfl rfl ?_
  refine ww_iconst (v := 0) C dX4_blindfold_19 rfl ?_
  refine ww_istore (lv' := [(5, .int 0), (4, .int x_8), (3, .int 3), (2, .int 0), (0, .ref h), (1, .int f)]) C dX4_blindfold_20 rfl rfl ?_
  refine ww_iload C dX4_blindfold_22 0 rfl ?_
  refine ww_aload_n C dX4_blindfold_24 4 rfl rfl ?_
  refine ww_get C fg_X4_18 0 rfl rfl dX4_blindfold_25 ?_
  refine ww_icmp_ge_t (tgt := 69) C dX4_blindfold_28 (by decide) (by decide) ?_
  refine ww_iinc (j := 2) (v := 4) (lv' := [(3, .int 4), (5, .int 0), (4, .int x_8), (2, .int 0), (0, .ref h), (1, .int f)]) C dX4_blindfold_69 rfl rfl rfl rfl ?_
  refine ww_goto (tgt := 4) C dX4_blindfold_72 (by decide) ?_
  refine ww_iload_n C dX4_blindfold_4 0 rfl rfl ?_
  refine ww_iconst (v := 4) C dX4_blindfold_5 rfl ?_
  refine ww_icmp_ge_t (tgt := 75) C dX4_blindfold_6 (by decide) (by decide) ?_
  refine ww_iload_n C dX4_blindfold_75 3 rfl rfl ?_
  exact ww_iret (u := []) C hT [] rfl rfl rfl rfl dX4_blindfold_76 (⟨rfl, rfl⟩)
theorem dX11_world_0 : decode cX11_world 0 = .ok (.iload_n 1, 1) := by decide +kernel
theorem dX11_world_1 : decode cX11_world 1 = .ok (.iconst 0, 1) := by decide +kernel
theorem dX11_world_2 : decode cX11_world 2 = .ok (.bipush 15, 2) := by decide +kernel
theorem dX11_world_4 : decode cX11_world 4 = .ok (.invokestatic 76, 3) := by decide +kernel
theorem wl_X11_76 : Cond.methodLink RX11 76 yX11_within ∈ TB := tbm (tq2 (List.mem_of_getElem? (i := 146) (by decide +kernel))) (by decide +kernel)
theorem wc_X11_within : Cond.code yX11_within cX11_within 3 (some .boolean) ∈ TB := tbm (tq2 (List.mem_of_getElem? (i := 148) (rfl))) (by decide +kernel)
theorem wt_X11_within : Cond.static yX11_within ∈ TB := tbm (tq2 (List.mem_of_getElem? (i := 147) (by decide +kernel))) (by decide +kernel)
theorem ms_X11_within : MS yX11_within cX11_within 3 (some .boolean) 3 := ⟨wc_X11_within, wn_X11, ⟨by decide +kernel, by decide +kernel, by decide +kernel⟩, wt_X11_within⟩
theorem dX11_world_7 : decode cX11_world 7 = .ok (.ifCond .ne 5, 3) := by decide +kernel
theorem dX11_world_12 : decode cX11_world 12 = .ok (.aload_n 0, 1) := by decide +kernel
theorem dX11_world_13 : decode cX11_world 13 = .ok (.getfield 10, 3) := by decide +kernel
theorem dX11_world_16 : decode cX11_world 16 = .ok (.getfield 125, 3) := by decide +kernel
theorem wf_X11_125 : Cond.fieldLink RX11 125 RX4 "size" "I" ∈ TB := tbm (tq1 (List.mem_of_getElem? (i := 38) (by decide +kernel))) (by decide +kernel)
theorem fg_X11_125 : FG RX11 125 4 0 := ⟨RX4, TX4, 4, uw_X4, wf_X11_125, rfl, by decide, rfl⟩
theorem dX11_world_19 : decode cX11_world 19 = .ok (.bipush 24, 2) := by decide +kernel
theorem dX11_world_21 : decode cX11_world 21 = .ok (.if_icmp .lt 6, 3) := by decide +kernel
theorem dX11_world_27 : decode cX11_world 27 = .ok (.aload_n 0, 1) := by decide +kernel
theorem dX11_world_28 : decode cX11_world 28 = .ok (.invokevirtual 128, 3) := by decide +kernel
theorem wl_X11_128 : Cond.methodLink RX11 128 yX11_remember ∈ TB := tbm (tq2 (List.mem_of_getElem? (i := 149) (by decide +kernel))) (by decide +kernel)
theorem wc_X11_remember : Cond.code yX11_remember cX11_remember 1 none ∈ TB := tbm (tq2 (List.mem_of_getElem? (i := 152) (rfl))) (by decide +kernel)
theorem wi_X11_remember : Cond.instanceMethod yX11_remember ∈ TB := tbm (tq2 (List.mem_of_getElem? (i := 151) (by decide +kernel))) (by decide +kernel)
theorem ws_X11_remember : Cond.selects RX11 yX11_remember yX11_remember ∈ TB := tbm (tq0 (List.mem_of_getElem? (i := 0) (by decide +kernel))) (by decide +kernel)
theorem mi_X11_remember : MI yX11_remember cX11_remember 1 none 0 := ⟨wc_X11_remember, wn_X11, ⟨by decide +kernel, by decide +kernel, by decide +kernel⟩, wi_X11_remember, ws_X11_remember⟩
theorem dX11_world_31 : decode cX11_world 31 = .ok (.aload_n 0, 1) := by decide +kernel
theorem dX11_world_32 : decode cX11_world 32 = .ok (.getfield 10, 3) := by decide +kernel
theorem dX11_world_35 : decode cX11_world 35 = .ok (.iload_n 1, 1) := by decide +kernel
theorem dX11_world_36 : decode cX11_world 36 = .ok (.invokevirtual 131, 3) := by decide +kernel
theorem wl_X11_131 : Cond.methodLink RX11 131 yX4_add ∈ TB := tbm (tq2 (List.mem_of_getElem? (i := 163) (by decide +kernel))) (by decide +kernel)
theorem wc_X4_add : Cond.code yX4_add cX4_add 3 (some .int) ∈ TB := tbm (tq2 (List.mem_of_getElem? (i := 166) (rfl))) (by decide +kernel)
theorem wi_X4_add : Cond.instanceMethod yX4_add ∈ TB := tbm (tq2 (List.mem_of_getElem? (i := 164) (by decide +kernel))) (by decide +kernel)
theorem ws_X4_add : Cond.selects RX4 yX4_add yX4_add ∈ TB := tbm (tq2 (List.mem_of_getElem? (i := 165) (by decide +kernel))) (by decide +kernel)
theorem mi_X4_add : MI yX4_add cX4_add 3 (some .int) 1 := ⟨wc_X4_add, wn_X4, ⟨by decide +kernel, by decide +kernel, by decide +kernel⟩, wi_X4_add, ws_X4_add⟩
theorem dX11_world_39 : decode cX11_world 39 = .ok (.ireturn, 1) := by decide +kernel
theorem dX11_world_10 : decode cX11_world 10 = .ok (.iconst (-1), 1) := by decide +kernel
theorem dX11_world_11 : decode cX11_world 11 = .ok (.ireturn, 1) := by decide +kernel
set_option maxRecDepth 100000 in
set_option maxHeartbeats 4000000 in
theorem x_world (l : Launch) (E : EV) (hx : Nat) (p0 : Int32) (qn : Nat) (qp : Nat) (qs : Nat) (qj : Nat) (ql : Nat) (qh : Nat) (qk : Nat) (qr : Nat) (qg : Nat) (qsh : Nat) (nf : Nat) (np : Nat) (fp : Nat → Option Nat) (pm : Nat) (pf : Nat) (pp : Nat) (k_fp_0 : fp 0 = some pm) : CT l yX11_world (Cond.code yX11_world cX11_world 2 (some .int) :: TB) ({ frames := 3, cells := 0, slots := 0, locals := 105 }) E [.ref hx, .int p0] [(hx, .inr (11, [.ref qn, .ref qp, .int 0, .int 0, .ref qs, .ref qj, .ref ql, .ref qh, .ref qk, .int 0, .ref qr, .ref qg, .int 0, .int 0, .ref qsh])), (qn, .inr (4, [.int 0, .int 0, .ref nf, .ref np])), (nf, .inl (E.2.1 1, 24, .inl (fun _ => 0))), (np, .inl (E.2.1 1, 96, .inl (fun _ => 0))), (qp, .inl (E.2.1 6, 8, .inr (.inr (.inr (.inr fp))))), (pm, .inr (4, [.int 0, .int 0, .ref pf, .ref pp])), (pf, .inl (E.2.1 1, 24, .inl (fun _ => 0))), (pp, .inl (E.2.1 1, 96, .inl (fun _ => 0)))] (Qi E (fun (r : Int32) u => (r = (-1) ∧ u = [] ∧ (p0.toInt < 0 ∨ 15 < p0.toInt)) ∨ (r = 0 ∧ u = [] ∧ (0 ≤ p0.toInt) ∧ (p0.toInt ≤ 15)))) 0 0 := by
  refine ct_of rfl rfl ?_
  intro X C hT hin
  show WW X 2 E 0 [(0, .ref hx), (1, .int p0)] [] [(hx, .inr (11, [.ref qn, .ref qp, .int 0, .int 0, .ref qs, .ref qj, .ref ql, .ref qh, .ref qk, .int 0, .ref qr, .ref qg, .int 0, .int 0, .ref qsh])), (qn, .inr (4, [.int 0, .int 0, .ref nf, .ref np])), (nf, .inl (E.2.1 1, 24, .inl (fun _ => 0))), (np, .inl (E.2.1 1, 96, .inl (fun _ => 0))), (qp, .inl (E.2.1 6, 8, .inr (.inr (.inr (.inr fp))))), (pm, .inr (4, [.int 0, .int 0, .ref pf, .ref pp])), (pf, .inl (E.2.1 1, 24, .inl (fun _ => 0))), (pp, .inl (E.2.1 1, 96, .inl (fun _ => 0)))] 0 0
  refine ww_iload_n C dX11_world_0 1 rfl rfl ?_
  refine ww_iconst (v := 0) C dX11_world_1 rfl ?_
  refine ww_bipush (v := 15) C dX11_world_2 rfl ?_
  refine ww_ci (wr := [(hx, .inr (11, [.ref qn, .ref qp, .int 0, .int 0, .ref qs, .ref qj, .ref ql, .ref qh, .ref qk, .int 0, .ref qr, .ref qg, .int 0, .int 0, .ref qsh])), (qn, .inr (4, [.int 0, .int 0, .ref nf, .ref np])), (nf, .inl (E.2.1 1, 24, .inl (fun _ => 0))), (np, .inl (E.2.1 1, 96, .inl (fun _ => 0))), (qp, .inl (E.2.1 6, 8, .inr (.inr (.inr (.inr fp))))), (pm, .inr (4, [.int 0, .int 0, .ref pf, .ref pp])), (pf, .inl (E.2.1 1, 24, .inl (fun _ => 0))), (pp, .inl (E.2.1 1, 96, .inl (fun _ => 0)))]) (k' := 0) (n' := 0) C (run_S (As := [.int p0, .int 0, .int 15]) (rest := []) C (c_within X.2.1 E p0 0 15 p0.toInt 0 15 rfl rfl rfl) ms_X11_within wl_X11_76 rfl rfl rfl rfl dX11_world_4) [] [0, 1, 2, 3, 4, 5, 6, 7] rfl rfl rfl rfl (fun r u hw => ?_)
  rcases hw with ⟨rfl, rfl, h_1, h_2⟩ | ⟨rfl, rfl, h_3⟩
  · refine ww_eq (ws' := [(hx, .inr (11, [.ref qn, .ref qp, .int 0, .int 0, .ref qs, .ref qj, .ref ql, .ref qh, .ref qk, .int 0, .ref qr, .ref qg, .int 0, .int 0, .ref qsh])), (qn, .inr (4, [.int 0, .int 0, .ref nf, .ref np])), (nf, .inl (E.2.1 1, 24, .inl (fun _ => 0))), (np, .inl (E.2.1 1, 96, .inl (fun _ => 0))), (qp, .inl (E.2.1 6, 8, .inr (.inr (.inr (.inr fp))))), (pm, .inr (4, [.int 0, .int 0, .ref pf, .ref pp])), (pf, .inl (E.2.1 1, 24, .inl (fun _ => 0))), (pp, .inl (E.2.1 1, 96, .inl (fun _ => 0)))]) ?_ rfl rfl rfl
    refine ww_if_ne_t (tgt := 12) C dX11_world_7 (by decide) (by decide) ?_
    refine ww_aload_n C dX11_world_12 0 rfl rfl ?_
    refine ww_get C fg_X11_10 0 rfl rfl dX11_world_13 ?_
    refine ww_get C fg_X11_125 1 rfl rfl dX11_world_16 ?_
    refine ww_bipush (v := 24) C dX11_world_19 rfl ?_
    refine ww_icmp_lt_t (tgt := 27) C dX11_world_21 (by decide) (by decide) ?_
    refine ww_aload_n C dX11_world_27 0 rfl rfl ?_
    refine ww_cv (wr := []) (k' := 0) (n' := 0) C (run_V (As := []) (rest := []) C (c_remember0 X.2.1 E hx qn qp qs qj ql qh qk qr qg qsh nf np fp pm pf pp k_fp_0) mi_X11_remember wl_X11_128 rfl 0 11 rfl rfl rfl rfl rfl dX11_world_28) [0, 1, 2, 3, 4, 5, 6, 7] [] rfl rfl rfl rfl (fun u hw => ?_)
    obtain ⟨rfl⟩ := hw
    refine ww_eq (ws' := [(hx, .inr (11, [.ref qn, .ref qp, .int 1, .int 1, .ref qs, .ref qj, .ref ql, .ref qh, .ref qk, .int 0, .ref qr, .ref qg, .int 0, .int 0, .ref qsh])), (qn, .inr (4, [.int 0, .int 0, .ref nf, .ref np])), (nf, .inl (E.2.1 1, 24, .inl (fun _ => 0))), (np, .inl (E.2.1 1, 96, .inl (fun _ => 0)))]) ?_ rfl rfl rfl
    refine ww_aload_n C dX11_world_31 0 rfl rfl ?_
    refine ww_get C fg_X11_10 0 rfl rfl dX11_world_32 ?_
    refine ww_iload_n C dX11_world_35 1 rfl rfl ?_
    refine ww_ci (wr := [(hx, .inr (11, [.ref qn, .ref qp, .int 1, .int 1, .ref qs, .ref qj, .ref ql, .ref qh, .ref qk, .int 0, .ref qr, .ref qg, .int 0, .int 0, .ref qsh]))]) (k' := 0) (n' := 0) C (run_V (As := [.int p0]) (rest := []) C (c_add0 X.2.1 E qn p0 nf np (fun _ => 0) (fun _ => 0)) mi_X4_add wl_X11_131 rfl 0 4 rfl rfl rfl rfl rfl dX11_world_36) [1, 2, 3] [0] rfl rfl rfl rfl (fun r u hw => ?_)
    obtain ⟨rfl, rfl⟩ := hw
    refine ww_eq (ws' := [(hx, .inr (11, [.ref qn, .ref qp, .int 1, .int 1, .ref qs, .ref qj, .ref ql, .ref qh, .ref qk, .int 0, .ref qr, .ref qg, .int 0, .int 0, .ref qsh]))]) ?_ rfl rfl rfl
    exact ww_iret (u := []) C hT [] rfl rfl rfl rfl dX11_world_39 (Or.inr ⟨rfl, rfl, (by first | assumption | omega | decide), (by first | assumption | omega | decide)⟩)
  · refine ww_eq (ws' := [(hx, .inr (11, [.ref qn, .ref qp, .int 0, .int 0, .ref qs, .ref qj, .ref ql, .ref qh, .ref qk, .int 0, .ref qr, .ref qg, .int 0, .int 0, .ref qsh])), (qn, .inr (4, [.int 0, .int 0, .ref nf, .ref np])), (nf, .inl (E.2.1 1, 24, .inl (fun _ => 0))), (np, .inl (E.2.1 1, 96, .inl (fun _ => 0))), (qp, .inl (E.2.1 6, 8, .inr (.inr (.inr (.inr fp))))), (pm, .inr (4, [.int 0, .int 0, .ref pf, .ref pp])), (pf, .inl (E.2.1 1, 24, .inl (fun _ => 0))), (pp, .inl (E.2.1 1, 96, .inl (fun _ => 0)))]) ?_ rfl rfl rfl
    refine ww_if_ne_f (tgt := 12) C dX11_world_7 (by decide) (rfl) ?_
    refine ww_iconst (v := (-1)) C dX11_world_10 rfl ?_
    exact ww_iret (u := []) C hT [] rfl rfl rfl rfl dX11_world_11 (Or.inl ⟨rfl, rfl, (by first | assumption | omega | decide)⟩)
theorem dX11_sees_0 : decode cX11_sees 0 = .ok (.iload_n 1, 1) := by decide +kernel
theorem dX11_sees_1 : decode cX11_sees 1 = .ok (.iconst 0, 1) := by decide +kernel
theorem dX11_sees_2 : decode cX11_sees 2 = .ok (.iconst 3, 1) := by decide +kernel
theorem dX11_sees_3 : decode cX11_sees 3 = .ok (.invokestatic 76, 3) := by decide +kernel
theorem dX11_sees_6 : decode cX11_sees 6 = .ok (.ifCond .eq 25, 3) := by decide +kernel
theorem dX11_sees_9 : decode cX11_sees 9 = .ok (.aload_n 0, 1) := by decide +kernel
theorem dX11_sees_10 : decode cX11_sees 10 = .ok (.getfield 10, 3) := by decide +kernel
theorem dX11_sees_13 : decode cX11_sees 13 = .ok (.iload_n 2, 1) := by decide +kernel
theorem dX11_sees_14 : decode cX11_sees 14 = .ok (.invokevirtual 135, 3) := by decide +kernel
theorem wl_X11_135 : Cond.methodLink RX11 135 yX4_contains ∈ TB := tbm (tq2 (List.mem_of_getElem? (i := 171) (by decide +kernel))) (by decide +kernel)
theorem wc_X4_contains : Cond.code yX4_contains cX4_contains 2 (some .boolean) ∈ TB := tbm (tq2 (List.mem_of_getElem? (i := 174) (rfl))) (by decide +kernel)
theorem wi_X4_contains : Cond.instanceMethod yX4_contains ∈ TB := tbm (tq2 (List.mem_of_getElem? (i := 172) (by decide +kernel))) (by decide +kernel)
theorem ws_X4_contains : Cond.selects RX4 yX4_contains yX4_contains ∈ TB := tbm (tq2 (List.mem_of_getElem? (i := 173) (by decide +kernel))) (by decide +kernel)
theorem mi_X4_contains : MI yX4_contains cX4_contains 2 (some .boolean) 1 := ⟨wc_X4_contains, wn_X4, ⟨by decide +kernel, by decide +kernel, by decide +kernel⟩, wi_X4_contains, ws_X4_contains⟩
theorem dX11_sees_17 : decode cX11_sees 17 = .ok (.ifCond .eq 14, 3) := by decide +kernel
theorem dX11_sees_31 : decode cX11_sees 31 = .ok (.iconst (-1), 1) := by decide +kernel
theorem dX11_sees_32 : decode cX11_sees 32 = .ok (.ireturn, 1) := by decide +kernel
set_option maxRecDepth 100000 in
set_option maxHeartbeats 4000000 in
theorem x_sees (l : Launch) (E : EV) (hx : Nat) (p0 : Int32) (p1 : Int32) (p2 : Int32) (p3 : Int32) (p4 : Int32) (qn : Nat) (qp : Nat) (qs : Nat) (qj : Nat) (ql : Nat) (qh : Nat) (qk : Nat) (qr : Nat) (qg : Nat) (qsh : Nat) (nf : Nat) (np : Nat)  : CT l yX11_sees (Cond.code yX11_sees cX11_sees 7 (some .int) :: TB) ({ frames := 1, cells := 0, slots := 0, locals := 22 }) E [.ref hx, .int p0, .int p1, .int p2, .int p3, .int p4] [(hx, .inr (11, [.ref qn, .ref qp, .int 0, .int 0, .ref qs, .ref qj, .ref ql, .ref qh, .ref qk, .int 0, .ref qr, .ref qg, .int 0, .int 0, .ref qsh])), (qn, .inr (4, [.int 0, .int 0, .ref nf, .ref np])), (nf, .inl (E.2.1 1, 24, .inl (fun _ => 0))), (np, .inl (E.2.1 1, 96, .inl (fun _ => 0)))] (Qi E (fun (r : Int32) u => (r = (-1) ∧ u = []))) 0 0 := by
  refine ct_of rfl rfl ?_
  intro X C hT hin
  show WW X 7 E 0 [(0, .ref hx), (1, .int p0), (2, .int p1), (3, .int p2), (4, .int p3), (5, .int p4)] [] [(hx, .inr (11, [.ref qn, .ref qp, .int 0, .int 0, .ref qs, .ref qj, .ref ql, .ref qh, .ref qk, .int 0, .ref qr, .ref qg, .int 0, .int 0, .ref qsh])), (qn, .inr (4, [.int 0, .int 0, .ref nf, .ref np])), (nf, .inl (E.2.1 1, 24, .inl (fun _ => 0))), (np, .inl (E.2.1 1, 96, .inl (fun _ => 0)))] 0 0
  refine ww_iload_n C dX11_sees_0 1 rfl rfl ?_
  refine ww_iconst (v := 0) C dX11_sees_1 rfl ?_
  refine ww_iconst (v := 3) C dX11_sees_2 rfl ?_
  refine ww_ci (wr := [(hx, .inr (11, [.ref qn, .ref qp, .int 0, .int 0, .ref qs, .ref qj, .ref ql, .ref qh, .ref qk, .int 0, .ref qr, .ref qg, .int 0, .int 0, .ref qsh])), (qn, .inr (4, [.int 0, .int 0, .ref nf, .ref np])), (nf, .inl (E.2.1 1, 24, .inl (fun _ => 0))), (np, .inl (E.2.1 1, 96, .inl (fun _ => 0)))]) (k' := 0) (n' := 0) C (run_S (As := [.int p0, .int 0, .int 3]) (rest := []) C (c_within X.2.1 E p0 0 3 p0.toInt 0 3 rfl rfl rfl) ms_X11_within wl_X11_76 rfl rfl rfl rfl dX11_sees_3) [] [0, 1, 2, 3] rfl rfl rfl rfl (fun r u hw => ?_)
  rcases hw with ⟨rfl, rfl, h_1, h_2⟩ | ⟨rfl, rfl, h_3⟩
  · refine ww_eq (ws' := [(hx, .inr (11, [.ref qn, .ref qp, .int 0, .int 0, .ref qs, .ref qj, .ref ql, .ref qh, .ref qk, .int 0, .ref qr, .ref qg, .int 0, .int 0, .ref qsh])), (qn, .inr (4, [.int 0, .int 0, .ref nf, .ref np])), (nf, .inl (E.2.1 1, 24, .inl (fun _ => 0))), (np, .inl (E.2.1 1, 96, .inl (fun _ => 0)))]) ?_ rfl rfl rfl
    refine ww_if_eq_f (tgt := 31) C dX11_sees_6 (by decide) (by decide) ?_
    refine ww_aload_n C dX11_sees_9 0 rfl rfl ?_
    refine ww_get C fg_X11_10 0 rfl rfl dX11_sees_10 ?_
    refine ww_iload_n C dX11_sees_13 2 rfl rfl ?_
    refine ww_ci (wr := [(hx, .inr (11, [.ref qn, .ref qp, .int 0, .int 0, .ref qs, .ref qj, .ref ql, .ref qh, .ref qk, .int 0, .ref qr, .ref qg, .int 0, .int 0, .ref qsh])), (nf, .inl (E.2.1 1, 24, .inl (fun _ => 0))), (np, .inl (E.2.1 1, 96, .inl (fun _ => 0)))]) (k' := 0) (n' := 0) C (run_V (As := [.int p1]) (rest := []) C (c_contains0 X.2.1 E qn nf np p1) mi_X4_contains wl_X11_135 rfl 0 4 rfl rfl rfl rfl rfl dX11_sees_14) [1] [0, 2, 3] rfl rfl rfl rfl (fun r u hw => ?_)
    obtain ⟨rfl, rfl⟩ := hw
    refine ww_eq (ws' := [(hx, .inr (11, [.ref qn, .ref qp, .int 0, .int 0, .ref qs, .ref qj, .ref ql, .ref qh, .ref qk, .int 0, .ref qr, .ref qg, .int 0, .int 0, .ref qsh])), (nf, .inl (E.2.1 1, 24, .inl (fun _ => 0))), (np, .inl (E.2.1 1, 96, .inl (fun _ => 0))), (qn, .inr (4, [.int 0, .int 0, .ref nf, .ref np]))]) ?_ rfl rfl rfl
    refine ww_if_eq_t (tgt := 31) C dX11_sees_17 (by decide) (rfl) ?_
    refine ww_iconst (v := (-1)) C dX11_sees_31 rfl ?_
    exact ww_iret (u := []) C hT [] rfl rfl rfl rfl dX11_sees_32 (⟨rfl, rfl⟩)
  · refine ww_eq (ws' := [(hx, .inr (11, [.ref qn, .ref qp, .int 0, .int 0, .ref qs, .ref qj, .ref ql, .ref qh, .ref qk, .int 0, .ref qr, .ref qg, .int 0, .int 0, .ref qsh])), (qn, .inr (4, [.int 0, .int 0, .ref nf, .ref np])), (nf, .inl (E.2.1 1, 24, .inl (fun _ => 0))), (np, .inl (E.2.1 1, 96, .inl (fun _ => 0)))]) ?_ rfl rfl rfl
    refine ww_if_eq_t (tgt := 31) C dX11_sees_6 (by decide) (rfl) ?_
    refine ww_iconst (v := (-1)) C dX11_sees_31 rfl ?_
    exact ww_iret (u := []) C hT [] rfl rfl rfl rfl dX11_sees_32 (⟨rfl, rfl⟩)
theorem dX11_blind_0 : decode cX11_blind 0 = .ok (.iload_n 1, 1) := by decide +kernel
theorem dX11_blind_1 : decode cX11_blind 1 = .ok (.iconst 0, 1) := by decide +kernel
theorem dX11_blind_2 : decode cX11_blind 2 = .ok (.ldc 145, 2) := by decide +kernel
theorem wv_X11_145 : Cond.constant RX11 145 65535 ∈ TB := tbm (tq2 (List.mem_of_getElem? (i := 188) (by decide +kernel))) (by decide +kernel)
theorem dX11_blind_4 : decode cX11_blind 4 = .ok (.invokestatic 76, 3) := by decide +kernel
theorem dX11_blind_7 : decode cX11_blind 7 = .ok (.ifCond .ne 5, 3) := by decide +kernel
theorem dX11_blind_12 : decode cX11_blind 12 = .ok (.aload_n 0, 1) := by decide +kernel
theorem dX11_blind_13 : decode cX11_blind 13 = .ok (.invokevirtual 128, 3) := by decide +kernel
theorem dX11_blind_16 : decode cX11_blind 16 = .ok (.aload_n 0, 1) := by decide +kernel
theorem dX11_blind_17 : decode cX11_blind 17 = .ok (.getfield 10, 3) := by decide +kernel
theorem dX11_blind_20 : decode cX11_blind 20 = .ok (.iload_n 1, 1) := by decide +kernel
theorem dX11_blind_21 : decode cX11_blind 21 = .ok (.invokevirtual 146, 3) := by decide +kernel
theorem wl_X11_146 : Cond.methodLink RX11 146 yX4_blindfold ∈ TB := tbm (tq2 (List.mem_of_getElem? (i := 189) (by decide +kernel))) (by decide +kernel)
theorem wc_X4_blindfold : Cond.code yX4_blindfold cX4_blindfold 7 (some .int) ∈ TB := tbm (tq2 (List.mem_of_getElem? (i := 192) (rfl))) (by decide +kernel)
theorem wi_X4_blindfold : Cond.instanceMethod yX4_blindfold ∈ TB := tbm (tq2 (List.mem_of_getElem? (i := 190) (by decide +kernel))) (by decide +kernel)
theorem ws_X4_blindfold : Cond.selects RX4 yX4_blindfold yX4_blindfold ∈ TB := tbm (tq2 (List.mem_of_getElem? (i := 191) (by decide +kernel))) (by decide +kernel)
theorem mi_X4_blindfold : MI yX4_blindfold cX4_blindfold 7 (some .int) 1 := ⟨wc_X4_blindfold, wn_X4, ⟨by decide +kernel, by decide +kernel, by decide +kernel⟩, wi_X4_blindfold, ws_X4_blindfold⟩
theorem dX11_blind_24 : decode cX11_blind 24 = .ok (.ireturn, 1) := by decide +kernel
theorem dX11_blind_10 : decode cX11_blind 10 = .ok (.iconst (-1), 1) := by decide +kernel
theorem dX11_blind_11 : decode cX11_blind 11 = .ok (.ireturn, 1) := by decide +kernel
set_option maxRecDepth 100000 in
set_option maxHeartbeats 4000000 in
theorem x_blind (l : Launch) (E : EV) (hx : Nat) (p0 : Int32) (qn : Nat) (qp : Nat) (qs : Nat) (qj : Nat) (ql : Nat) (qh : Nat) (qk : Nat) (qr : Nat) (qg : Nat) (qsh : Nat) (nf : Nat) (np : Nat) (fp : Nat → Option Nat) (pm : Nat) (pf : Nat) (pp : Nat) (k_fp_0 : fp 0 = some pm) : CT l yX11_blind (Cond.code yX11_blind cX11_blind 2 (some .int) :: TB) ({ frames := 3, cells := 0, slots := 0, locals := 105 }) E [.ref hx, .int p0] [(hx, .inr (11, [.ref qn, .ref qp, .int 0, .int 0, .ref qs, .ref qj, .ref ql, .ref qh, .ref qk, .int 0, .ref qr, .ref qg, .int 0, .int 0, .ref qsh])), (qn, .inr (4, [.int 0, .int 0, .ref nf, .ref np])), (nf, .inl (E.2.1 1, 24, .inl (fun _ => 0))), (np, .inl (E.2.1 1, 96, .inl (fun _ => 0))), (qp, .inl (E.2.1 6, 8, .inr (.inr (.inr (.inr fp))))), (pm, .inr (4, [.int 0, .int 0, .ref pf, .ref pp])), (pf, .inl (E.2.1 1, 24, .inl (fun _ => 0))), (pp, .inl (E.2.1 1, 96, .inl (fun _ => 0)))] (Qi E (fun (r : Int32) u => (r = (-1) ∧ u = [] ∧ (p0.toInt < 0 ∨ 65535 < p0.toInt)) ∨ (r = 0 ∧ u = [] ∧ (0 ≤ p0.toInt) ∧ (p0.toInt ≤ 65535)))) 0 0 := by
  refine ct_of rfl rfl ?_
  intro X C hT hin
  show WW X 2 E 0 [(0, .ref hx), (1, .int p0)] [] [(hx, .inr (11, [.ref qn, .ref qp, .int 0, .int 0, .ref qs, .ref qj, .ref ql, .ref qh, .ref qk, .int 0, .ref qr, .ref qg, .int 0, .int 0, .ref qsh])), (qn, .inr (4, [.int 0, .int 0, .ref nf, .ref np])), (nf, .inl (E.2.1 1, 24, .inl (fun _ => 0))), (np, .inl (E.2.1 1, 96, .inl (fun _ => 0))), (qp, .inl (E.2.1 6, 8, .inr (.inr (.inr (.inr fp))))), (pm, .inr (4, [.int 0, .int 0, .ref pf, .ref pp])), (pf, .inl (E.2.1 1, 24, .inl (fun _ => 0))), (pp, .inl (E.2.1 1, 96, .inl (fun _ => 0)))] 0 0
  refine ww_iload_n C dX11_blind_0 1 rfl rfl ?_
  refine ww_iconst (v := 0) C dX11_blind_1 rfl ?_
  refine ww_ldc C wv_X11_145 dX11_blind_2 ?_
  refine ww_ci (wr := [(hx, .inr (11, [.ref qn, .ref qp, .int 0, .int 0, .ref qs, .ref qj, .ref ql, .ref qh, .ref qk, .int 0, .ref qr, .ref qg, .int 0, .int 0, .ref qsh])), (qn, .inr (4, [.int 0, .int 0, .ref nf, .ref np])), (nf, .inl (E.2.1 1, 24, .inl (fun _ => 0))), (np, .inl (E.2.1 1, 96, .inl (fun _ => 0))), (qp, .inl (E.2.1 6, 8, .inr (.inr (.inr (.inr fp))))), (pm, .inr (4, [.int 0, .int 0, .ref pf, .ref pp])), (pf, .inl (E.2.1 1, 24, .inl (fun _ => 0))), (pp, .inl (E.2.1 1, 96, .inl (fun _ => 0)))]) (k' := 0) (n' := 0) C (run_S (As := [.int p0, .int 0, .int 65535]) (rest := []) C (c_within X.2.1 E p0 0 65535 p0.toInt 0 65535 rfl rfl rfl) ms_X11_within wl_X11_76 rfl rfl rfl rfl dX11_blind_4) [] [0, 1, 2, 3, 4, 5, 6, 7] rfl rfl rfl rfl (fun r u hw => ?_)
  rcases hw with ⟨rfl, rfl, h_1, h_2⟩ | ⟨rfl, rfl, h_3⟩
  · refine ww_eq (ws' := [(hx, .inr (11, [.ref qn, .ref qp, .int 0, .int 0, .ref qs, .ref qj, .ref ql, .ref qh, .ref qk, .int 0, .ref qr, .ref qg, .int 0, .int 0, .ref qsh])), (qn, .inr (4, [.int 0, .int 0, .ref nf, .ref np])), (nf, .inl (E.2.1 1, 24, .inl (fun _ => 0))), (np, .inl (E.2.1 1, 96, .inl (fun _ => 0))), (qp, .inl (E.2.1 6, 8, .inr (.inr (.inr (.inr fp))))), (pm, .inr (4, [.int 0, .int 0, .ref pf, .ref pp])), (pf, .inl (E.2.1 1, 24, .inl (fun _ => 0))), (pp, .inl (E.2.1 1, 96, .inl (fun _ => 0)))]) ?_ rfl rfl rfl
    refine ww_if_ne_t (tgt := 12) C dX11_blind_7 (by decide) (by decide) ?_
    refine ww_aload_n C dX11_blind_12 0 rfl rfl ?_
    refine ww_cv (wr := []) (k' := 0) (n' := 0) C (run_V (As := []) (rest := []) C (c_remember0 X.2.1 E hx qn qp qs qj ql qh qk qr qg qsh nf np fp pm pf pp k_fp_0) mi_X11_remember wl_X11_128 rfl 0 11 rfl rfl rfl rfl rfl dX11_blind_13) [0, 1, 2, 3, 4, 5, 6, 7] [] rfl rfl rfl rfl (fun u hw => ?_)
    obtain ⟨rfl⟩ := hw
    refine ww_eq (ws' := [(hx, .inr (11, [.ref qn, .ref qp, .int 1, .int 1, .ref qs, .ref qj, .ref ql, .ref qh, .ref qk, .int 0, .ref qr, .ref qg, .int 0, .int 0, .ref qsh])), (qn, .inr (4, [.int 0, .int 0, .ref nf, .ref np])), (nf, .inl (E.2.1 1, 24, .inl (fun _ => 0))), (np, .inl (E.2.1 1, 96, .inl (fun _ => 0)))]) ?_ rfl rfl rfl
    refine ww_aload_n C dX11_blind_16 0 rfl rfl ?_
    refine ww_get C fg_X11_10 0 rfl rfl dX11_blind_17 ?_
    refine ww_iload_n C dX11_blind_20 1 rfl rfl ?_
    refine ww_ci (wr := [(hx, .inr (11, [.ref qn, .ref qp, .int 1, .int 1, .ref qs, .ref qj, .ref ql, .ref qh, .ref qk, .int 0, .ref qr, .ref qg, .int 0, .int 0, .ref qsh]))]) (k' := 0) (n' := 0) C (run_V (As := [.int p0]) (rest := []) C (c_blind0 X.2.1 E qn p0 nf np (fun _ => 0) (fun _ => 0)) mi_X4_blindfold wl_X11_146 rfl 0 4 rfl rfl rfl rfl rfl dX11_blind_21) [1, 2, 3] [0] rfl rfl rfl rfl (fun r u hw => ?_)
    obtain ⟨rfl, rfl⟩ := hw
    refine ww_eq (ws' := [(hx, .inr (11, [.ref qn, .ref qp, .int 1, .int 1, .ref qs, .ref qj, .ref ql, .ref qh, .ref qk, .int 0, .ref qr, .ref qg, .int 0, .int 0, .ref qsh]))]) ?_ rfl rfl rfl
    exact ww_iret (u := []) C hT [] rfl rfl rfl rfl dX11_blind_24 (Or.inr ⟨rfl, rfl, (by first | assumption | omega | decide), (by first | assumption | omega | decide)⟩)
  · refine ww_eq (ws' := [(hx, .inr (11, [.ref qn, .ref qp, .int 0, .int 0, .ref qs, .ref qj, .ref ql, .ref qh, .ref qk, .int 0, .ref qr, .ref qg, .int 0, .int 0, .ref qsh])), (qn, .inr (4, [.int 0, .int 0, .ref nf, .ref np])), (nf, .inl (E.2.1 1, 24, .inl (fun _ => 0))), (np, .inl (E.2.1 1, 96, .inl (fun _ => 0))), (qp, .inl (E.2.1 6, 8, .inr (.inr (.inr (.inr fp))))), (pm, .inr (4, [.int 0, .int 0, .ref pf, .ref pp])), (pf, .inl (E.2.1 1, 24, .inl (fun _ => 0))), (pp, .inl (E.2.1 1, 96, .inl (fun _ => 0)))]) ?_ rfl rfl rfl
    refine ww_if_ne_f (tgt := 12) C dX11_blind_7 (by decide) (rfl) ?_
    refine ww_iconst (v := (-1)) C dX11_blind_10 rfl ?_
    exact ww_iret (u := []) C hT [] rfl rfl rfl rfl dX11_blind_11 (Or.inl ⟨rfl, rfl, (by first | assumption | omega | decide)⟩)
theorem dX11_real_0 : decode cX11_real 0 = .ok (.aload_n 0, 1) := by decide +kernel
theorem dX11_real_1 : decode cX11_real 1 = .ok (.getfield 10, 3) := by decide +kernel
theorem dX11_real_4 : decode cX11_real 4 = .ok (.iload_n 1, 1) := by decide +kernel
theorem dX11_real_5 : decode cX11_real 5 = .ok (.invokevirtual 135, 3) := by decide +kernel
theorem dX11_real_8 : decode cX11_real 8 = .ok (.ifCond .ne 5, 3) := by decide +kernel
theorem dX11_real_11 : decode cX11_real 11 = .ok (.iconst (-1), 1) := by decide +kernel
theorem dX11_real_12 : decode cX11_real 12 = .ok (.ireturn, 1) := by decide +kernel
set_option maxRecDepth 100000 in
set_option maxHeartbeats 4000000 in
theorem x_real (l : Launch) (E : EV) (hx : Nat) (p0 : Int32) (qn : Nat) (qp : Nat) (qs : Nat) (qj : Nat) (ql : Nat) (qh : Nat) (qk : Nat) (qr : Nat) (qg : Nat) (qsh : Nat) (nf : Nat) (np : Nat)  : CT l yX11_real (Cond.code yX11_real cX11_real 3 (some .int) :: TB) ({ frames := 1, cells := 0, slots := 0, locals := 21 }) E [.ref hx, .int p0] [(hx, .inr (11, [.ref qn, .ref qp, .int 0, .int 0, .ref qs, .ref qj, .ref ql, .ref qh, .ref qk, .int 0, .ref qr, .ref qg, .int 0, .int 0, .ref qsh])), (qn, .inr (4, [.int 0, .int 0, .ref nf, .ref np])), (nf, .inl (E.2.1 1, 24, .inl (fun _ => 0))), (np, .inl (E.2.1 1, 96, .inl (fun _ => 0)))] (Qi E (fun (r : Int32) u => (r = (-1) ∧ u = []))) 0 0 := by
  refine ct_of rfl rfl ?_
  intro X C hT hin
  show WW X 3 E 0 [(0, .ref hx), (1, .int p0)] [] [(hx, .inr (11, [.ref qn, .ref qp, .int 0, .int 0, .ref qs, .ref qj, .ref ql, .ref qh, .ref qk, .int 0, .ref qr, .ref qg, .int 0, .int 0, .ref qsh])), (qn, .inr (4, [.int 0, .int 0, .ref nf, .ref np])), (nf, .inl (E.2.1 1, 24, .inl (fun _ => 0))), (np, .inl (E.2.1 1, 96, .inl (fun _ => 0)))] 0 0
  refine ww_aload_n C dX11_real_0 0 rfl rfl ?_
  refine ww_get C fg_X11_10 0 rfl rfl dX11_real_1 ?_
  refine ww_iload_n C dX11_real_4 1 rfl rfl ?_
  refine ww_ci (wr := [(hx, .inr (11, [.ref qn, .ref qp, .int 0, .int 0, .ref qs, .ref qj, .ref ql, .ref qh, .ref qk, .int 0, .ref qr, .ref qg, .int 0, .int 0, .ref qsh])), (nf, .inl (E.2.1 1, 24, .inl (fun _ => 0))), (np, .inl (E.2.1 1, 96, .inl (fun _ => 0)))]) (k' := 0) (n' := 0) C (run_V (As := [.int p0]) (rest := []) C (c_contains0 X.2.1 E qn nf np p0) mi_X4_contains wl_X11_135 rfl 0 4 rfl rfl rfl rfl rfl dX11_real_5) [1] [0, 2, 3] rfl rfl rfl rfl (fun r u hw => ?_)
  obtain ⟨rfl, rfl⟩ := hw
  refine ww_eq (ws' := [(hx, .inr (11, [.ref qn, .ref qp, .int 0, .int 0, .ref qs, .ref qj, .ref ql, .ref qh, .ref qk, .int 0, .ref qr, .ref qg, .int 0, .int 0, .ref qsh])), (nf, .inl (E.2.1 1, 24, .inl (fun _ => 0))), (np, .inl (E.2.1 1, 96, .inl (fun _ => 0))), (qn, .inr (4, [.int 0, .int 0, .ref nf, .ref np]))]) ?_ rfl rfl rfl
  refine ww_if_ne_f (tgt := 13) C dX11_real_8 (by decide) (rfl) ?_
  refine ww_iconst (v := (-1)) C dX11_real_11 rfl ?_
  exact ww_iret (u := []) C hT [] rfl rfl rfl rfl dX11_real_12 (⟨rfl, rfl⟩)
theorem dX11_of_0 : decode cX11_of 0 = .ok (.aload_n 0, 1) := by decide +kernel
theorem dX11_of_1 : decode cX11_of 1 = .ok (.getfield 10, 3) := by decide +kernel
theorem dX11_of_4 : decode cX11_of 4 = .ok (.iload_n 1, 1) := by decide +kernel
theorem dX11_of_5 : decode cX11_of 5 = .ok (.invokevirtual 135, 3) := by decide +kernel
theorem dX11_of_8 : decode cX11_of 8 = .ok (.ifCond .eq 13, 3) := by decide +kernel
theorem dX11_of_21 : decode cX11_of 21 = .ok (.iconst (-1), 1) := by decide +kernel
theorem dX11_of_22 : decode cX11_of 22 = .ok (.ireturn, 1) := by decide +kernel
set_option maxRecDepth 100000 in
set_option maxHeartbeats 4000000 in
theorem x_of (l : Launch) (E : EV) (hx : Nat) (p0 : Int32) (p1 : Int32) (qn : Nat) (qp : Nat) (qs : Nat) (qj : Nat) (ql : Nat) (qh : Nat) (qk : Nat) (qr : Nat) (qg : Nat) (qsh : Nat) (nf : Nat) (np : Nat)  : CT l yX11_of (Cond.code yX11_of cX11_of 3 (some .int) :: TB) ({ frames := 1, cells := 0, slots := 0, locals := 21 }) E [.ref hx, .int p0, .int p1] [(hx, .inr (11, [.ref qn, .ref qp, .int 0, .int 0, .ref qs, .ref qj, .ref ql, .ref qh, .ref qk, .int 0, .ref qr, .ref qg, .int 0, .int 0, .ref qsh])), (qn, .inr (4, [.int 0, .int 0, .ref nf, .ref np])), (nf, .inl (E.2.1 1, 24, .inl (fun _ => 0))), (np, .inl (E.2.1 1, 96, .inl (fun _ => 0)))] (Qi E (fun (r : Int32) u => (r = (-1) ∧ u = []))) 0 0 := by
  refine ct_of rfl rfl ?_
  intro X C hT hin
  show WW X 3 E 0 [(0, .ref hx), (1, .int p0), (2, .int p1)] [] [(hx, .inr (11, [.ref qn, .ref qp, .int 0, .int 0, .ref qs, .ref qj, .ref ql, .ref qh, .ref qk, .int 0, .ref qr, .ref qg, .int 0, .int 0, .ref qsh])), (qn, .inr (4, [.int 0, .int 0, .ref nf, .ref np])), (nf, .inl (E.2.1 1, 24, .inl (fun _ => 0))), (np, .inl (E.2.1 1, 96, .inl (fun _ => 0)))] 0 0
  refine ww_aload_n C dX11_of_0 0 rfl rfl ?_
  refine ww_get C fg_X11_10 0 rfl rfl dX11_of_1 ?_
  refine ww_iload_n C dX11_of_4 1 rfl rfl ?_
  refine ww_ci (wr := [(hx, .inr (11, [.ref qn, .ref qp, .int 0, .int 0, .ref qs, .ref qj, .ref ql, .ref qh, .ref qk, .int 0, .ref qr, .ref qg, .int 0, .int 0, .ref qsh])), (nf, .inl (E.2.1 1, 24, .inl (fun _ => 0))), (np, .inl (E.2.1 1, 96, .inl (fun _ => 0)))]) (k' := 0) (n' := 0) C (run_V (As := [.int p0]) (rest := []) C (c_contains0 X.2.1 E qn nf np p0) mi_X4_contains wl_X11_135 rfl 0 4 rfl rfl rfl rfl rfl dX11_of_5) [1] [0, 2, 3] rfl rfl rfl rfl (fun r u hw => ?_)
  obtain ⟨rfl, rfl⟩ := hw
  refine ww_eq (ws' := [(hx, .inr (11, [.ref qn, .ref qp, .int 0, .int 0, .ref qs, .ref qj, .ref ql, .ref qh, .ref qk, .int 0, .ref qr, .ref qg, .int 0, .int 0, .ref qsh])), (nf, .inl (E.2.1 1, 24, .inl (fun _ => 0))), (np, .inl (E.2.1 1, 96, .inl (fun _ => 0))), (qn, .inr (4, [.int 0, .int 0, .ref nf, .ref np]))]) ?_ rfl rfl rfl
  refine ww_if_eq_t (tgt := 21) C dX11_of_8 (by decide) (rfl) ?_
  refine ww_iconst (v := (-1)) C dX11_of_21 rfl ?_
  exact ww_iret (u := []) C hT [] rfl rfl rfl rfl dX11_of_22 (⟨rfl, rfl⟩)
theorem dX11_reach_0 : decode cX11_reach 0 = .ok (.iload_n 1, 1) := by decide +kernel
theorem dX11_reach_1 : decode cX11_reach 1 = .ok (.iconst 0, 1) := by decide +kernel
theorem dX11_reach_2 : decode cX11_reach 2 = .ok (.bipush 15, 2) := by decide +kernel
theorem dX11_reach_4 : decode cX11_reach 4 = .ok (.invokestatic 76, 3) := by decide +kernel
theorem dX11_reach_7 : decode cX11_reach 7 = .ok (.ifCond .eq 14, 3) := by decide +kernel
theorem dX11_reach_10 : decode cX11_reach 10 = .ok (.aload_n 0, 1) := by decide +kernel
theorem dX11_reach_11 : decode cX11_reach 11 = .ok (.getfield 10, 3) := by decide +kernel
theorem dX11_reach_14 : decode cX11_reach 14 = .ok (.iload_n 2, 1) := by decide +kernel
theorem dX11_reach_15 : decode cX11_reach 15 = .ok (.invokevirtual 135, 3) := by decide +kernel
theorem dX11_reach_18 : decode cX11_reach 18 = .ok (.ifCond .ne 5, 3) := by decide +kernel
theorem dX11_reach_21 : decode cX11_reach 21 = .ok (.iconst (-1), 1) := by decide +kernel
theorem dX11_reach_22 : decode cX11_reach 22 = .ok (.ireturn, 1) := by decide +kernel
set_option maxRecDepth 100000 in
set_option maxHeartbeats 4000000 in
theorem x_reach (l : Launch) (E : EV) (hx : Nat) (p0 : Int32) (p1 : Int32) (qn : Nat) (qp : Nat) (qs : Nat) (qj : Nat) (ql : Nat) (qh : Nat) (qk : Nat) (qr : Nat) (qg : Nat) (qsh : Nat) (nf : Nat) (np : Nat)  : CT l yX11_reach (Cond.code yX11_reach cX11_reach 3 (some .int) :: TB) ({ frames := 1, cells := 0, slots := 0, locals := 22 }) E [.ref hx, .int p0, .int p1] [(hx, .inr (11, [.ref qn, .ref qp, .int 0, .int 0, .ref qs, .ref qj, .ref ql, .ref qh, .ref qk, .int 0, .ref qr, .ref qg, .int 0, .int 0, .ref qsh])), (qn, .inr (4, [.int 0, .int 0, .ref nf, .ref np])), (nf, .inl (E.2.1 1, 24, .inl (fun _ => 0))), (np, .inl (E.2.1 1, 96, .inl (fun _ => 0)))] (Qi E (fun (r : Int32) u => (r = (-1) ∧ u = []))) 0 0 := by
  refine ct_of rfl rfl ?_
  intro X C hT hin
  show WW X 3 E 0 [(0, .ref hx), (1, .int p0), (2, .int p1)] [] [(hx, .inr (11, [.ref qn, .ref qp, .int 0, .int 0, .ref qs, .ref qj, .ref ql, .ref qh, .ref qk, .int 0, .ref qr, .ref qg, .int 0, .int 0, .ref qsh])), (qn, .inr (4, [.int 0, .int 0, .ref nf, .ref np])), (nf, .inl (E.2.1 1, 24, .inl (fun _ => 0))), (np, .inl (E.2.1 1, 96, .inl (fun _ => 0)))] 0 0
  refine ww_iload_n C dX11_reach_0 1 rfl rfl ?_
  refine ww_iconst (v := 0) C dX11_reach_1 rfl ?_
  refine ww_bipush (v := 15) C dX11_reach_2 rfl ?_
  refine ww_ci (wr := [(hx, .inr (11, [.ref qn, .ref qp, .int 0, .int 0, .ref qs, .ref qj, .ref ql, .ref qh, .ref qk, .int 0, .ref qr, .ref qg, .int 0, .int 0, .ref qsh])), (qn, .inr (4, [.int 0, .int 0, .ref nf, .ref np])), (nf, .inl (E.2.1 1, 24, .inl (fun _ => 0))), (np, .inl (E.2.1 1, 96, .inl (fun _ => 0)))]) (k' := 0) (n' := 0) C (run_S (As := [.int p0, .int 0, .int 15]) (rest := []) C (c_within X.2.1 E p0 0 15 p0.toInt 0 15 rfl rfl rfl) ms_X11_within wl_X11_76 rfl rfl rfl rfl dX11_reach_4) [] [0, 1, 2, 3] rfl rfl rfl rfl (fun r u hw => ?_)
  rcases hw with ⟨rfl, rfl, h_1, h_2⟩ | ⟨rfl, rfl, h_3⟩
  · refine ww_eq (ws' := [(hx, .inr (11, [.ref qn, .ref qp, .int 0, .int 0, .ref qs, .ref qj, .ref ql, .ref qh, .ref qk, .int 0, .ref qr, .ref qg, .int 0, .int 0, .ref qsh])), (qn, .inr (4, [.int 0, .int 0, .ref nf, .ref np])), (nf, .inl (E.2.1 1, 24, .inl (fun _ => 0))), (np, .inl (E.2.1 1, 96, .inl (fun _ => 0)))]) ?_ rfl rfl rfl
    refine ww_if_eq_f (tgt := 21) C dX11_reach_7 (by decide) (by decide) ?_
    refine ww_aload_n C dX11_reach_10 0 rfl rfl ?_
    refine ww_get C fg_X11_10 0 rfl rfl dX11_reach_11 ?_
    refine ww_iload_n C dX11_reach_14 2 rfl rfl ?_
    refine ww_ci (wr := [(hx, .inr (11, [.ref qn, .ref qp, .int 0, .int 0, .ref qs, .ref qj, .ref ql, .ref qh, .ref qk, .int 0, .ref qr, .ref qg, .int 0, .int 0, .ref qsh])), (nf, .inl (E.2.1 1, 24, .inl (fun _ => 0))), (np, .inl (E.2.1 1, 96, .inl (fun _ => 0)))]) (k' := 0) (n' := 0) C (run_V (As := [.int p1]) (rest := []) C (c_contains0 X.2.1 E qn nf np p1) mi_X4_contains wl_X11_135 rfl 0 4 rfl rfl rfl rfl rfl dX11_reach_15) [1] [0, 2, 3] rfl rfl rfl rfl (fun r u hw => ?_)
    obtain ⟨rfl, rfl⟩ := hw
    refine ww_eq (ws' := [(hx, .inr (11, [.ref qn, .ref qp, .int 0, .int 0, .ref qs, .ref qj, .ref ql, .ref qh, .ref qk, .int 0, .ref qr, .ref qg, .int 0, .int 0, .ref qsh])), (nf, .inl (E.2.1 1, 24, .inl (fun _ => 0))), (np, .inl (E.2.1 1, 96, .inl (fun _ => 0))), (qn, .inr (4, [.int 0, .int 0, .ref nf, .ref np]))]) ?_ rfl rfl rfl
    refine ww_if_ne_f (tgt := 23) C dX11_reach_18 (by decide) (rfl) ?_
    refine ww_iconst (v := (-1)) C dX11_reach_21 rfl ?_
    exact ww_iret (u := []) C hT [] rfl rfl rfl rfl dX11_reach_22 (⟨rfl, rfl⟩)
  · refine ww_eq (ws' := [(hx, .inr (11, [.ref qn, .ref qp, .int 0, .int 0, .ref qs, .ref qj, .ref ql, .ref qh, .ref qk, .int 0, .ref qr, .ref qg, .int 0, .int 0, .ref qsh])), (qn, .inr (4, [.int 0, .int 0, .ref nf, .ref np])), (nf, .inl (E.2.1 1, 24, .inl (fun _ => 0))), (np, .inl (E.2.1 1, 96, .inl (fun _ => 0)))]) ?_ rfl rfl rfl
    refine ww_if_eq_t (tgt := 21) C dX11_reach_7 (by decide) (rfl) ?_
    refine ww_iconst (v := (-1)) C dX11_reach_21 rfl ?_
    exact ww_iret (u := []) C hT [] rfl rfl rfl rfl dX11_reach_22 (⟨rfl, rfl⟩)
end
section
theorem dX10_add_0 : decode cX10_add 0 = .ok (.aload_n 0, 1) := by decide +kernel
theorem dX10_add_1 : decode cX10_add 1 = .ok (.getfield 15, 3) := by decide +kernel
theorem wf_X10_15 : Cond.fieldLink RX10 15 RX10 "length" "I" ∈ TB := tbm (tq1 (List.mem_of_getElem? (i := 79) (by decide +kernel))) (by decide +kernel)
theorem fg_X10_15 : FG RX10 15 10 1 := ⟨RX10, TX10, 5, uw_X10, wf_X10_15, rfl, by decide, rfl⟩
theorem dX10_add_4 : decode cX10_add 4 = .ok (.bipush 8, 2) := by decide +kernel
theorem dX10_add_6 : decode cX10_add 6 = .ok (.iadd, 1) := by decide +kernel
theorem dX10_add_7 : decode cX10_add 7 = .ok (.sipush 160, 3) := by decide +kernel
theorem dX10_add_10 : decode cX10_add 10 = .ok (.if_icmp .le 5, 3) := by decide +kernel
theorem dX10_add_15 : decode cX10_add 15 = .ok (.iconst 0, 1) := by decide +kernel
theorem dX10_add_16 : decode cX10_add 16 = .ok (.istore_n 3, 1) := by decide +kernel
theorem dX10_add_17 : decode cX10_add 17 = .ok (.iload_n 3, 1) := by decide +kernel
theorem dX10_add_18 : decode cX10_add 18 = .ok (.bipush 8, 2) := by decide +kernel
theorem dX10_add_20 : decode cX10_add 20 = .ok (.if_icmp .ge 31, 3) := by decide +kernel
theorem dX10_add_23 : decode cX10_add 23 = .ok (.aload_n 0, 1) := by decide +kernel
theorem dX10_add_24 : decode cX10_add 24 = .ok (.getfield 9, 3) := by decide +kernel
theorem fg_X10_9 : FG RX10 9 10 0 := ⟨RX10, TX10, 5, uw_X10, wf_X10_9, rfl, by decide, rfl⟩
theorem dX10_add_27 : decode cX10_add 27 = .ok (.aload_n 0, 1) := by decide +kernel
theorem dX10_add_28 : decode cX10_add 28 = .ok (.getfield 15, 3) := by decide +kernel
theorem dX10_add_31 : decode cX10_add 31 = .ok (.iload_n 3, 1) := by decide +kernel
theorem dX10_add_32 : decode cX10_add 32 = .ok (.iadd, 1) := by decide +kernel
theorem dX10_add_33 : decode cX10_add 33 = .ok (.lload_n 1, 1) := by decide +kernel
theorem dX10_add_34 : decode cX10_add 34 = .ok (.bipush 56, 2) := by decide +kernel
theorem dX10_add_36 : decode cX10_add 36 = .ok (.bipush 8, 2) := by decide +kernel
theorem dX10_add_38 : decode cX10_add 38 = .ok (.iload_n 3, 1) := by decide +kernel
theorem dX10_add_39 : decode cX10_add 39 = .ok (.imul, 1) := by decide +kernel
theorem dX10_add_40 : decode cX10_add 40 = .ok (.isub, 1) := by decide +kernel
theorem dX10_add_41 : decode cX10_add 41 = .ok (.lushr, 1) := by decide +kernel
theorem dX10_add_42 : decode cX10_add 42 = .ok (.l2i, 1) := by decide +kernel
theorem dX10_add_43 : decode cX10_add 43 = .ok (.i2b, 1) := by decide +kernel
theorem dX10_add_44 : decode cX10_add 44 = .ok (.bastore, 1) := by decide +kernel
theorem dX10_add_45 : decode cX10_add 45 = .ok (.iinc 3 1, 3) := by decide +kernel
theorem dX10_add_48 : decode cX10_add 48 = .ok (.goto (-31), 3) := by decide +kernel
theorem dX10_add_51 : decode cX10_add 51 = .ok (.aload_n 0, 1) := by decide +kernel
theorem dX10_add_52 : decode cX10_add 52 = .ok (.dup, 1) := by decide +kernel
theorem dX10_add_53 : decode cX10_add 53 = .ok (.getfield 15, 3) := by decide +kernel
theorem dX10_add_56 : decode cX10_add 56 = .ok (.bipush 8, 2) := by decide +kernel
theorem dX10_add_58 : decode cX10_add 58 = .ok (.iadd, 1) := by decide +kernel
theorem dX10_add_59 : decode cX10_add 59 = .ok (.putfield 15, 3) := by decide +kernel
theorem fp_X10_15 : FP RX10 15 10 1 .int false := ⟨RX10, TX10, 5, tyX10, uw_X10, wf_X10_15, rfl, by decide, rfl, tyX10_ok, nmX10, rfl, by decide +kernel⟩
theorem dX10_add_62 : decode cX10_add 62 = .ok (.iconst 1, 1) := by decide +kernel
theorem dX10_add_63 : decode cX10_add 63 = .ok (.ireturn, 1) := by decide +kernel
set_option maxRecDepth 100000 in
set_option maxHeartbeats 4000000 in
theorem c_tadd (l : Launch) (E : EV) (qt : Nat) (v : Int64) (tb : Nat)  : CT l yX10_add (Cond.code yX10_add cX10_add 4 (some .boolean) :: TB) ({ frames := 0, cells := 0, slots := 0, locals := 0 }) E [.ref qt, .long v] [(qt, .inr (10, [.ref tb, .int 0, .int 0, .int 0, .int 0])), (tb, .inl (E.2.1 0, 160, .inl (fun _ => 0)))] (Qi E (fun (r : Int32) u => (r = 1 ∧ u = [(qt, .inr (10, [.ref tb, .int 8, .int 0, .int 0, .int 0]))]))) 0 0 := by
  refine ct_of rfl rfl ?_
  intro X C hT hin
  show WW X 4 E 0 [(0, .ref qt), (1, .long v)] [] [(qt, .inr (10, [.ref tb, .int 0, .int 0, .int 0, .int 0])), (tb, .inl (E.2.1 0, 160, .inl (fun _ => 0)))] 0 0
  refine ww_aload_n C dX10_add_0 0 rfl rfl ?_
  refine ww_get C fg_X10_15 0 rfl rfl dX10_add_1 ?_
  refine ww_bipush (v := 8) C dX10_add_4 rfl ?_
  refine ww_iadd (v := 8) C dX10_add_6 (by decide) ?_
  refine ww_sipush (v := 160) C dX10_add_7 rfl ?_
  refine ww_icmp_le_t (tgt := 15) C dX10_add_10 (by decide) (by decide) ?_
  refine ww_iconst (v := 0) C dX10_add_15 rfl ?_
  refine ww_istore_n (lv' := [(3, .int 0), (0, .ref qt), (1, .long v)]) C dX10_add_16 rfl rfl rfl ?_
  refine ww_iload_n C dX10_add_17 0 rfl rfl ?_
  refine ww_bipush (v := 8) C dX10_add_18 rfl ?_
  refine ww_icmp_ge_f (tgt := 51) C dX10_add_20 (by decide) (by decide) ?_
  refine ww_aload_n C dX10_add_23 1 rfl rfl ?_
  refine ww_get C fg_X10_9 0 rfl rfl dX10_add_24 ?_
  refine ww_aload_n C dX10_add_27 1 rfl rfl ?_
  refine ww_get C fg_X10_15 0 rfl rfl dX10_add_28 ?_
  refine ww_iload_n C dX10_add_31 0 rfl rfl ?_
  refine ww_iadd (v := 0) C dX10_add_32 (by decide) ?_
  refine ww_lload_n C dX10_add_33 2 rfl rfl ?_
  refine ww_bipush (v := 56) C dX10_add_34 rfl ?_
  refine ww_bipush (v := 8) C dX10_add_36 rfl ?_
  refine ww_iload_n C dX10_add_38 0 rfl rfl ?_
  refine ww_imul (v := 0) C dX10_add_39 (by decide) ?_
  refine ww_isub (v := 56) C dX10_add_40 (by decide) ?_
  obtain ⟨l_1, el_1⟩ : ∃ z : Int64, (v.toUInt64 >>> ((56 : Int32).toInt64.toUInt64 &&& Int64.toUInt64 63)).toInt64 = z := ⟨_, rfl⟩
  refine ww_lushr C dX10_add_41 el_1 ?_
  obtain ⟨x_2, ex_2⟩ : ∃ z : Int32, l_1.toInt32 = z := ⟨_, rfl⟩
  refine ww_l2i (v := x_2) C dX10_add_42 ex_2 ?_
  obtain ⟨x_3, ex_3⟩ : ∃ z : Int32, x_2.toInt8.toInt32 = z := ⟨_, rfl⟩
  refine ww_i2b (v := x_3) C dX10_add_43 ex_3 ?_
  obtain ⟨f_4, ef_4⟩ : ∃ z : Nat → Int32, upd (fun _ => 0) 0 (vp_nar .byte x_3) = z := ⟨_, rfl⟩
  refine ww_bast (ws' := [(qt, .inr (10, [.ref tb, .int 0, .int 0, .int 0, .int 0])), (tb, .inl (E.2.1 0, 160, .inl f_4))]) C 1 rfl (vin rfl) ef_4 rfl dX10_add_44 ?_
  refine ww_iinc (j := 0) (v := 1) (lv' := [(3, .int 1), (0, .ref qt), (1, .long v)]) C dX10_add_45 rfl rfl rfl rfl ?_
  refine ww_goto (tgt := 17) C dX10_add_48 (by decide) ?_
  refine ww_iload_n C dX10_add_17 0 rfl rfl ?_
  refine ww_bipush (v := 8) C dX10_add_18 rfl ?_
  refine ww_icmp_ge_f (tgt := 51) C dX10_add_20 (by decide) (by decide) ?_
  refine ww_aload_n C dX10_add_23 1 rfl rfl ?_
  refine ww_get C fg_X10_9 0 rfl rfl dX10_add_24 ?_
  refine ww_aload_n C dX10_add_27 1 rfl rfl ?_
  refine ww_get C fg_X10_15 0 rfl rfl dX10_add_28 ?_
  refine ww_iload_n C dX10_add_31 0 rfl rfl ?_
  refine ww_iadd (v := 1) C dX10_add_32 (by decide) ?_
  refine ww_lload_n C dX10_add_33 2 rfl rfl ?_
  refine ww_bipush (v := 56) C dX10_add_34 rfl ?_
  refine ww_bipush (v := 8) C dX10_add_36 rfl ?_
  refine ww_iload_n C dX10_add_38 0 rfl rfl ?_
  refine ww_imul (v := 8) C dX10_add_39 (by decide) ?_
  refine ww_isub (v := 48) C dX10_add_40 (by decide) ?_
  obtain ⟨l_5, el_5⟩ : ∃ z : Int64, (v.toUInt64 >>> ((48 : Int32).toInt64.toUInt64 &&& Int64.toUInt64 63)).toInt64 = z := ⟨_, rfl⟩
  refine ww_lushr C dX10_add_41 el_5 ?_
  obtain ⟨x_6, ex_6⟩ : ∃ z : Int32, l_5.toInt32 = z := ⟨_, rfl⟩
  refine ww_l2i (v := x_6) C dX10_add_42 ex_6 ?_
  obtain ⟨x_7, ex_7⟩ : ∃ z : Int32, x_6.toInt8.toInt32 = z := ⟨_, rfl⟩
  refine ww_i2b (v := x_7) C dX10_add_43 ex_7 ?_
  obtain ⟨f_8, ef_8⟩ : ∃ z : Nat → Int32, upd f_4 1 (vp_nar .byte x_7) = z := ⟨_, rfl⟩
  refine ww_bast (ws' := [(qt, .inr (10, [.ref tb, .int 0, .int 0, .int 0, .int 0])), (tb, .inl (E.2.1 0, 160, .inl f_8))]) C 1 rfl (vin rfl) ef_8 rfl dX10_add_44 ?_
  refine ww_iinc (j := 0) (v := 2) (lv' := [(3, .int 2), (0, .ref qt), (1, .long v)]) C dX10_add_45 rfl rfl rfl rfl ?_
  refine ww_goto (tgt := 17) C dX10_add_48 (by decide) ?_
  refine ww_iload_n C dX10_add_17 0 rfl rfl ?_
  refine ww_bipush (v := 8) C dX10_add_18 rfl ?_
  refine ww_icmp_ge_f (tgt := 51) C dX10_add_20 (by decide) (by decide) ?_
  refine ww_aload_n C dX10_add_23 1 rfl rfl ?_
  refine ww_get C fg_X10_9 0 rfl rfl dX10_add_24 ?_
  refine ww_aload_n C dX10_add_27 1 rfl rfl ?_
  refine ww_get C fg_X10_15 0 rfl rfl dX10_add_28 ?_
  refine ww_iload_n C dX10_add_31 0 rfl rfl ?_
  refine ww_iadd (v := 2) C dX10_add_32 (by decide) ?_
  refine ww_lload_n C dX10_add_33 2 rfl rfl ?_
  refine ww_bipush (v := 56) C dX10_add_34 rfl ?_
  refine ww_bipush (v := 8) C dX10_add_36 rfl ?_
  refine ww_iload_n C dX10_add_38 0 rfl rfl ?_
  refine ww_imul (v := 16) C dX10_add_39 (by decide) ?_
  refine ww_isub (v := 40) C dX10_add_40 (by decide) ?_
  obtain ⟨l_9, el_9⟩ : ∃ z : Int64, (v.toUInt64 >>> ((40 : Int32).toInt64.toUInt64 &&& Int64.toUInt64 63)).toInt64 = z := ⟨_, rfl⟩
  refine ww_lushr C dX10_add_41 el_9 ?_
  obtain ⟨x_10, ex_10⟩ : ∃ z : Int32, l_9.toInt32 = z := ⟨_, rfl⟩
  refine ww_l2i (v := x_10) C dX10_add_42 ex_10 ?_
  obtain ⟨x_11, ex_11⟩ : ∃ z : Int32, x_10.toInt8.toInt32 = z := ⟨_, rfl⟩
  refine ww_i2b (v := x_11) C dX10_add_43 ex_11 ?_
  obtain ⟨f_12, ef_12⟩ : ∃ z : Nat → Int32, upd f_8 2 (vp_nar .byte x_11) = z := ⟨_, rfl⟩
  refine ww_bast (ws' := [(qt, .inr (10, [.ref tb, .int 0, .int 0, .int 0, .int 0])), (tb, .inl (E.2.1 0, 160, .inl f_12))]) C 1 rfl (vin rfl) ef_12 rfl dX10_add_44 ?_
  refine ww_iinc (j := 0) (v := 3) (lv' := [(3, .int 3), (0, .ref qt), (1, .long v)]) C dX10_add_45 rfl rfl rfl rfl ?_
  refine ww_goto (tgt := 17) C dX10_add_48 (by decide) ?_
  refine ww_iload_n C dX10_add_17 0 rfl rfl ?_
  refine ww_bipush (v := 8) C dX10_add_18 rfl ?_
  refine ww_icmp_ge_f (tgt := 51) C dX10_add_20 (by decide) (by decide) ?_
  refine ww_aload_n C dX10_add_23 1 rfl rfl ?_
  refine ww_get C fg_X10_9 0 rfl rfl dX10_add_24 ?_
  refine ww_aload_n C dX10_add_27 1 rfl rfl ?_
  refine ww_get C fg_X10_15 0 rfl rfl dX10_add_28 ?_
  refine ww_iload_n C dX10_add_31 0 rfl rfl ?_
  refine ww_iadd (v := 3) C dX10_add_32 (by decide) ?_
  refine ww_lload_n C dX10_add_33 2 rfl rfl ?_
  refine ww_bipush (v := 56) C dX10_add_34 rfl ?_
  refine ww_bipush (v := 8) C dX10_add_36 rfl ?_
  refine ww_iload_n C dX10_add_38 0 rfl rfl ?_
  refine ww_imul (v := 24) C dX10_add_39 (by decide) ?_
  refine ww_isub (v := 32) C dX10_add_40 (by decide) ?_
  obtain ⟨l_13, el_13⟩ : ∃ z : Int64, (v.toUInt64 >>> ((32 : Int32).toInt64.toUInt64 &&& Int64.toUInt64 63)).toInt64 = z := ⟨_, rfl⟩
  refine ww_lushr C dX10_add_41 el_13 ?_
  obtain ⟨x_14, ex_14⟩ : ∃ z : Int32, l_13.toInt32 = z := ⟨_, rfl⟩
  refine ww_l2i (v := x_14) C dX10_add_42 ex_14 ?_
  obtain ⟨x_15, ex_15⟩ : ∃ z : Int32, x_14.toInt8.toInt32 = z := ⟨_, rfl⟩
  refine ww_i2b (v := x_15) C dX10_add_43 ex_15 ?_
  obtain ⟨f_16, ef_16⟩ : ∃ z : Nat → Int32, upd f_12 3 (vp_nar .byte x_15) = z := ⟨_, rfl⟩
  refine ww_bast (ws' := [(qt, .inr (10, [.ref tb, .int 0, .int 0, .int 0, .int 0])), (tb, .inl (E.2.1 0, 160, .inl f_16))]) C 1 rfl (vin rfl) ef_16 rfl dX10_add_44 ?_
  refine ww_iinc (j := 0) (v := 4) (lv' := [(3, .int 4), (0, .ref qt), (1, .long v)]) C dX10_add_45 rfl rfl rfl rfl ?_
  refine ww_goto (tgt := 17) C dX10_add_48 (by decide) ?_
  refine ww_iload_n C dX10_add_17 0 rfl rfl ?_
  refine ww_bipush (v := 8) C dX10_add_18 rfl ?_
  refine ww_icmp_ge_f (tgt := 51) C dX10_add_20 (by decide) (by decide) ?_
  refine ww_aload_n C dX10_add_23 1 rfl rfl ?_
  refine ww_get C fg_X10_9 0 rfl rfl dX10_add_24 ?_
  refine ww_aload_n C dX10_add_27 1 rfl rfl ?_
  refine ww_get C fg_X10_15 0 rfl rfl dX10_add_28 ?_
  refine ww_iload_n C dX10_add_31 0 rfl rfl ?_
  refine ww_iadd (v := 4) C dX10_add_32 (by decide) ?_
  refine ww_lload_n C dX10_add_33 2 rfl rfl ?_
  refine ww_bipush (v := 56) C dX10_add_34 rfl ?_
  refine ww_bipush (v := 8) C dX10_add_36 rfl ?_
  refine ww_iload_n C dX10_add_38 0 rfl rfl ?_
  refine ww_imul (v := 32) C dX10_add_39 (by decide) ?_
  refine ww_isub (v := 24) C dX10_add_40 (by decide) ?_
  obtain ⟨l_17, el_17⟩ : ∃ z : Int64, (v.toUInt64 >>> ((24 : Int32).toInt64.toUInt64 &&& Int64.toUInt64 63)).toInt64 = z := ⟨_, rfl⟩
  refine ww_lushr C dX10_add_41 el_17 ?_
  obtain ⟨x_18, ex_18⟩ : ∃ z : Int32, l_17.toInt32 = z := ⟨_, rfl⟩
  refine ww_l2i (v := x_18) C dX10_add_42 ex_18 ?_
  obtain ⟨x_19, ex_19⟩ : ∃ z : Int32, x_18.toInt8.toInt32 = z := ⟨_, rfl⟩
  refine ww_i2b (v := x_19) C dX10_add_43 ex_19 ?_
  obtain ⟨f_20, ef_20⟩ : ∃ z : Nat → Int32, upd f_16 4 (vp_nar .byte x_19) = z := ⟨_, rfl⟩
  refine ww_bast (ws' := [(qt, .inr (10, [.ref tb, .int 0, .int 0, .int 0, .int 0])), (tb, .inl (E.2.1 0, 160, .inl f_20))]) C 1 rfl (vin rfl) ef_20 rfl dX10_add_44 ?_
  refine ww_iinc (j := 0) (v := 5) (lv' := [(3, .int 5), (0, .ref qt), (1, .long v)]) C dX10_add_45 rfl rfl rfl rfl ?_
  refine ww_goto (tgt := 17) C dX10_add_48 (by decide) ?_
  refine ww_iload_n C dX10_add_17 0 rfl rfl ?_
  refine ww_bipush (v := 8) C dX10_add_18 rfl ?_
  refine ww_icmp_ge_f (tgt := 51) C dX10_add_20 (by decide) (by decide) ?_
  refine ww_aload_n C dX10_add_23 1 rfl rfl ?_
  refine ww_get C fg_X10_9 0 rfl rfl dX10_add_24 ?_
  refine ww_aload_n C dX10_add_27 1 rfl rfl ?_
  refine ww_get C fg_X10_15 0 rfl rfl dX10_add_28 ?_
  refine ww_iload_n C dX10_add_31 0 rfl rfl ?_
  refine ww_iadd (v := 5) C dX10_add_32 (by decide) ?_
  refine ww_lload_n C dX10_add_33 2 rfl rfl ?_
  refine ww_bipush (v := 56) C dX10_add_34 rfl ?_
  refine ww_bipush (v := 8) C dX10_add_36 rfl ?_
  refine ww_iload_n C dX10_add_38 0 rfl rfl ?_
  refine ww_imul (v := 40) C dX10_add_39 (by decide) ?_
  refine ww_isub (v := 16) C dX10_add_40 (by decide) ?_
  obtain ⟨l_21, el_21⟩ : ∃ z : Int64, (v.toUInt64 >>> ((16 : Int32).toInt64.toUInt64 &&& Int64.toUInt64 63)).toInt64 = z := ⟨_, rfl⟩
  refine ww_lushr C dX10_add_41 el_21 ?_
  obtain ⟨x_22, ex_22⟩ : ∃ z : Int32, l_21.toInt32 = z := ⟨_, rfl⟩
  refine ww_l2i (v := x_22) C dX10_add_42 ex_22 ?_
  obtain ⟨x_23, ex_23⟩ : ∃ z : Int32, x_22.toInt8.toInt32 = z := ⟨_, rfl⟩
  refine ww_i2b (v := x_23) C dX10_add_43 ex_23 ?_
  obtain ⟨f_24, ef_24⟩ : ∃ z : Nat → Int32, upd f_20 5 (vp_nar .byte x_23) = z := ⟨_, rfl⟩
  refine ww_bast (ws' := [(qt, .inr (10, [.ref tb, .int 0, .int 0, .int 0, .int 0])), (tb, .inl (E.2.1 0, 160, .inl f_24))]) C 1 rfl (vin rfl) ef_24 rfl dX10_add_44 ?_
  refine ww_iinc (j := 0) (v := 6) (lv' := [(3, .int 6), (0, .ref qt), (1, .long v)]) C dX10_add_45 rfl rfl rfl rfl ?_
  refine ww_goto (tgt := 17) C dX10_add_48 (by decide) ?_
  refine ww_iload_n C dX10_add_17 0 rfl rfl ?_
  refine ww_bipush (v := 8) C dX10_add_18 rfl ?_
  refine ww_icmp_ge_f (tgt := 51) C dX10_add_20 (by decide) (by decide) ?_
  refine ww_aload_n C dX10_add_23 1 rfl rfl ?_
  refine ww_get C fg_X10_9 0 rfl rfl dX10_add_24 ?_
  refine ww_aload_n C dX10_add_27 1 rfl rfl ?_
  refine ww_get C fg_X10_15 0 rfl rfl dX10_add_28 ?_
  refine ww_iload_n C dX10_add_31 0 rfl rfl ?_
  refine ww_iadd (v := 6) C dX10_add_32 (by decide) ?_
  refine ww_lload_n C dX10_add_33 2 rfl rfl ?_
  refine ww_bipush (v := 56) C dX10_add_34 rfl ?_
  refine ww_bipush (v := 8) C dX10_add_36 rfl ?_
  refine ww_iload_n C dX10_add_38 0 rfl rfl ?_
  refine ww_imul (v := 48) C dX10_add_39 (by decide) ?_
  refine ww_isub (v := 8) C dX10_add_40 (by decide) ?_
  obtain ⟨l_25, el_25⟩ : ∃ z : Int64, (v.toUInt64 >>> ((8 : Int32).toInt64.toUInt64 &&& Int64.toUInt64 63)).toInt64 = z := ⟨_, rfl⟩
  refine ww_lushr C dX10_add_41 el_25 ?_
  obtain ⟨x_26, ex_26⟩ : ∃ z : Int32, l_25.toInt32 = z := ⟨_, rfl⟩
  refine ww_l2i (v := x_26) C dX10_add_42 ex_26 ?_
  obtain ⟨x_27, ex_27⟩ : ∃ z : Int32, x_26.toInt8.toInt32 = z := ⟨_, rfl⟩
  refine ww_i2b (v := x_27) C dX10_add_43 ex_27 ?_
  obtain ⟨f_28, ef_28⟩ : ∃ z : Nat → Int32, upd f_24 6 (vp_nar .byte x_27) = z := ⟨_, rfl⟩
  refine ww_bast (ws' := [(qt, .inr (10, [.ref tb, .int 0, .int 0, .int 0, .int 0])), (tb, .inl (E.2.1 0, 160, .inl f_28))]) C 1 rfl (vin rfl) ef_28 rfl dX10_add_44 ?_
  refine ww_iinc (j := 0) (v := 7) (lv' := [(3, .int 7), (0, .ref qt), (1, .long v)]) C dX10_add_45 rfl rfl rfl rfl ?_
  refine ww_goto (tgt := 17) C dX10_add_48 (by decide) ?_
  refine ww_iload_n C dX10_add_17 0 rfl rfl ?_
  refine ww_bipush (v := 8) C dX10_add_18 rfl ?_
  refine ww_icmp_ge_f (tgt := 51) C dX10_add_20 (by decide) (by decide) ?_
  refine ww_aload_n C dX10_add_23 1 rfl rfl ?_
  refine ww_get C fg_X10_9 0 rfl rfl dX10_add_24 ?_
  refine ww_aload_n C dX10_add_27 1 rfl rfl ?_
  refine ww_get C fg_X10_15 0 rfl rfl dX10_add_28 ?_
  refine ww_iload_n C dX10_add_31 0 rfl rfl ?_
  refine ww_iadd (v := 7) C dX10_add_32 (by decide) ?_
  refine ww_lload_n C dX10_add_33 2 rfl rfl ?_
  refine ww_bipush (v := 56) C dX10_add_34 rfl ?_
  refine ww_bipush (v := 8) C dX10_add_36 rfl ?_
  refine ww_iload_n C dX10_add_38 0 rfl rfl ?_
  refine ww_imul (v := 56) C dX10_add_39 (by decide) ?_
  refine ww_isub (v := 0) C dX10_add_40 (by decide) ?_
  obtain ⟨l_29, el_29⟩ : ∃ z : Int64, (v.toUInt64 >>> ((0 : Int32).toInt64.toUInt64 &&& Int64.toUInt64 63)).toInt64 = z := ⟨_, rfl⟩
  refine ww_lushr C dX10_add_41 el_29 ?_
  obtain ⟨x_30, ex_30⟩ : ∃ z : Int32, l_29.toInt32 = z := ⟨_, rfl⟩
  refine ww_l2i (v := x_30) C dX10_add_42 ex_30 ?_
  obtain ⟨x_31, ex_31⟩ : ∃ z : Int32, x_30.toInt8.toInt32 = z := ⟨_, rfl⟩
  refine ww_i2b (v := x_31) C dX10_add_43 ex_31 ?_
  obtain ⟨f_32, ef_32⟩ : ∃ z : Nat → Int32, upd f_28 7 (vp_nar .byte x_31) = z := ⟨_, rfl⟩
  refine ww_bast (ws' := [(qt, .inr (10, [.ref tb, .int 0, .int 0, .int 0, .int 0])), (tb, .inl (E.2.1 0, 160, .inl f_32))]) C 1 rfl (vin rfl) ef_32 rfl dX10_add_44 ?_
  refine ww_iinc (j := 0) (v := 8) (lv' := [(3, .int 8), (0, .ref qt), (1, .long v)]) C dX10_add_45 rfl rfl rfl rfl ?_
  refine ww_goto (tgt := 17) C dX10_add_48 (by decide) ?_
  refine ww_iload_n C dX10_add_17 0 rfl rfl ?_
  refine ww_bipush (v := 8) C dX10_add_18 rfl ?_
  refine ww_icmp_ge_t (tgt := 51) C dX10_add_20 (by decide) (by decide) ?_
  refine ww_aload_n C dX10_add_51 1 rfl rfl ?_
  refine ww_dup C dX10_add_52 rfl ?_
  refine ww_get C fg_X10_15 0 rfl rfl dX10_add_53 ?_
  refine ww_bipush (v := 8) C dX10_add_56 rfl ?_
  refine ww_iadd (v := 8) C dX10_add_58 (by decide) ?_
  refine ww_put (ws' := [(qt, .inr (10, [.ref tb, .int 8, .int 0, .int 0, .int 0])), (tb, .inl (E.2.1 0, 160, .inl f_32))]) C fp_X10_15 0 rfl rfl rfl rfl rfl dX10_add_59 ?_
  refine ww_iconst (v := 1) C dX10_add_62 rfl ?_
  exact ww_zret (u := [(qt, .inr (10, [.ref tb, .int 8, .int 0, .int 0, .int 0]))]) C hT [0] rfl rfl rfl rfl rfl dX10_add_63 (⟨rfl, rfl⟩)
theorem dX11_feed_0 : decode cX11_feed 0 = .ok (.aload_n 0, 1) := by decide +kernel
theorem dX11_feed_1 : decode cX11_feed 1 = .ok (.getfield 27, 3) := by decide +kernel
theorem fg_X11_27 : FG RX11 27 11 4 := ⟨RX11, TX11, 15, uw_X11, wf_X11_27, rfl, by decide, rfl⟩
theorem dX11_feed_4 : decode cX11_feed 4 = .ok (.getfield 162, 3) := by decide +kernel
theorem wf_X11_162 : Cond.fieldLink RX11 162 RX5 "tape" "LWhoKnows$Tape;" ∈ TB := tbm (tq1 (List.mem_of_getElem? (i := 99) (by decide +kernel))) (by decide +kernel)
theorem fg_X11_162 : FG RX11 162 5 0 := ⟨RX5, TX5, 10, uw_X5, wf_X11_162, rfl, by decide, rfl⟩
theorem dX11_feed_7 : decode cX11_feed 7 = .ok (.lload_n 1, 1) := by decide +kernel
theorem dX11_feed_8 : decode cX11_feed 8 = .ok (.invokevirtual 166, 3) := by decide +kernel
theorem wl_X11_166 : Cond.methodLink RX11 166 yX10_add ∈ TB := tbm (tq2 (List.mem_of_getElem? (i := 234) (by decide +kernel))) (by decide +kernel)
theorem wc_X10_add : Cond.code yX10_add cX10_add 4 (some .boolean) ∈ TB := tbm (tq2 (List.mem_of_getElem? (i := 237) (rfl))) (by decide +kernel)
theorem wi_X10_add : Cond.instanceMethod yX10_add ∈ TB := tbm (tq2 (List.mem_of_getElem? (i := 235) (by decide +kernel))) (by decide +kernel)
theorem ws_X10_add : Cond.selects RX10 yX10_add yX10_add ∈ TB := tbm (tq2 (List.mem_of_getElem? (i := 236) (by decide +kernel))) (by decide +kernel)
theorem mi_X10_add : MI yX10_add cX10_add 4 (some .boolean) 1 := ⟨wc_X10_add, wn_X10, ⟨by decide +kernel, by decide +kernel, by decide +kernel⟩, wi_X10_add, ws_X10_add⟩
theorem dX11_feed_11 : decode cX11_feed 11 = .ok (.ifCond .eq 16, 3) := by decide +kernel
theorem dX11_feed_14 : decode cX11_feed 14 = .ok (.aload_n 0, 1) := by decide +kernel
theorem dX11_feed_15 : decode cX11_feed 15 = .ok (.getfield 27, 3) := by decide +kernel
theorem dX11_feed_18 : decode cX11_feed 18 = .ok (.getfield 162, 3) := by decide +kernel
theorem dX11_feed_21 : decode cX11_feed 21 = .ok (.getfield 171, 3) := by decide +kernel
theorem wf_X11_171 : Cond.fieldLink RX11 171 RX10 "length" "I" ∈ TB := tbm (tq1 (List.mem_of_getElem? (i := 80) (by decide +kernel))) (by decide +kernel)
theorem fg_X11_171 : FG RX11 171 10 1 := ⟨RX10, TX10, 5, uw_X10, wf_X11_171, rfl, by decide, rfl⟩
theorem dX11_feed_24 : decode cX11_feed 24 = .ok (.goto 5, 3) := by decide +kernel
theorem dX11_feed_29 : decode cX11_feed 29 = .ok (.ireturn, 1) := by decide +kernel
set_option maxRecDepth 100000 in
set_option maxHeartbeats 4000000 in
theorem x_feed (l : Launch) (E : EV) (hx : Nat) (p0 : Int64) (qn : Nat) (qp : Nat) (qs : Nat) (qj : Nat) (ql : Nat) (qh : Nat) (qk : Nat) (qr : Nat) (qg : Nat) (qsh : Nat) (qt : Nat) (sa : Nat) (sb : Nat) (sc : Nat) (sd : Nat) (tb : Nat)  : CT l yX11_feed (Cond.code yX11_feed cX11_feed 3 (some .int) :: TB) ({ frames := 1, cells := 0, slots := 0, locals := 23 }) E [.ref hx, .long p0] [(hx, .inr (11, [.ref qn, .ref qp, .int 0, .int 0, .ref qs, .ref qj, .ref ql, .ref qh, .ref qk, .int 0, .ref qr, .ref qg, .int 0, .int 0, .ref qsh])), (qs, .inr (5, [.ref qt, .ref sa, .ref sb, .ref sc, .ref sd, .int 0, .int 0, .int 0, .int 0, .int 0])), (qt, .inr (10, [.ref tb, .int 0, .int 0, .int 0, .int 0])), (tb, .inl (E.2.1 0, 160, .inl (fun _ => 0)))] (Qi E (fun (r : Int32) u => (r = 8 ∧ u = []))) 0 0 := by
  refine ct_of rfl rfl ?_
  intro X C hT hin
  show WW X 3 E 0 [(0, .ref hx), (1, .long p0)] [] [(hx, .inr (11, [.ref qn, .ref qp, .int 0, .int 0, .ref qs, .ref qj, .ref ql, .ref qh, .ref qk, .int 0, .ref qr, .ref qg, .int 0, .int 0, .ref qsh])), (qs, .inr (5, [.ref qt, .ref sa, .ref sb, .ref sc, .ref sd, .int 0, .int 0, .int 0, .int 0, .int 0])), (qt, .inr (10, [.ref tb, .int 0, .int 0, .int 0, .int 0])), (tb, .inl (E.2.1 0, 160, .inl (fun _ => 0)))] 0 0
  refine ww_aload_n C dX11_feed_0 0 rfl rfl ?_
  refine ww_get C fg_X11_27 0 rfl rfl dX11_feed_1 ?_
  refine ww_get C fg_X11_162 1 rfl rfl dX11_feed_4 ?_
  refine ww_lload_n C dX11_feed_7 1 rfl rfl ?_
  refine ww_ci (wr := [(hx, .inr (11, [.ref qn, .ref qp, .int 0, .int 0, .ref qs, .ref qj, .ref ql, .ref qh, .ref qk, .int 0, .ref qr, .ref qg, .int 0, .int 0, .ref qsh])), (qs, .inr (5, [.ref qt, .ref sa, .ref sb, .ref sc, .ref sd, .int 0, .int 0, .int 0, .int 0, .int 0]))]) (k' := 0) (n' := 0) C (run_V (As := [.long p0]) (rest := []) C (c_tadd X.2.1 E qt p0 tb) mi_X10_add wl_X11_166 rfl 0 10 rfl rfl rfl rfl rfl dX11_feed_8) [2, 3] [0, 1] rfl rfl rfl rfl (fun r u hw => ?_)
  obtain ⟨rfl, rfl⟩ := hw
  refine ww_eq (ws' := [(hx, .inr (11, [.ref qn, .ref qp, .int 0, .int 0, .ref qs, .ref qj, .ref ql, .ref qh, .ref qk, .int 0, .ref qr, .ref qg, .int 0, .int 0, .ref qsh])), (qs, .inr (5, [.ref qt, .ref sa, .ref sb, .ref sc, .ref sd, .int 0, .int 0, .int 0, .int 0, .int 0])), (qt, .inr (10, [.ref tb, .int 8, .int 0, .int 0, .int 0]))]) ?_ rfl rfl rfl
  refine ww_if_eq_f (tgt := 27) C dX11_feed_11 (by decide) (by decide) ?_
  refine ww_aload_n C dX11_feed_14 0 rfl rfl ?_
  refine ww_get C fg_X11_27 0 rfl rfl dX11_feed_15 ?_
  refine ww_get C fg_X11_162 1 rfl rfl dX11_feed_18 ?_
  refine ww_get C fg_X11_171 2 rfl rfl dX11_feed_21 ?_
  refine ww_goto (tgt := 29) C dX11_feed_24 (by decide) ?_
  exact ww_iret (u := []) C hT [] rfl rfl rfl rfl dX11_feed_29 (⟨rfl, rfl⟩)
theorem dX11_end_0 : decode cX11_end 0 = .ok (.iload_n 1, 1) := by decide +kernel
theorem dX11_end_1 : decode cX11_end 1 = .ok (.iconst 0, 1) := by decide +kernel
theorem dX11_end_2 : decode cX11_end 2 = .ok (.aload_n 0, 1) := by decide +kernel
theorem dX11_end_3 : decode cX11_end 3 = .ok (.getfield 27, 3) := by decide +kernel
theorem dX11_end_6 : decode cX11_end 6 = .ok (.getfield 162, 3) := by decide +kernel
theorem dX11_end_9 : decode cX11_end 9 = .ok (.getfield 171, 3) := by decide +kernel
theorem dX11_end_12 : decode cX11_end 12 = .ok (.invokestatic 76, 3) := by decide +kernel
theorem dX11_end_15 : decode cX11_end 15 = .ok (.ifCond .ne 5, 3) := by decide +kernel
theorem dX11_end_20 : decode cX11_end 20 = .ok (.aload_n 0, 1) := by decide +kernel
theorem dX11_end_21 : decode cX11_end 21 = .ok (.getfield 27, 3) := by decide +kernel
theorem dX11_end_24 : decode cX11_end 24 = .ok (.getfield 162, 3) := by decide +kernel
theorem dX11_end_27 : decode cX11_end 27 = .ok (.getfield 171, 3) := by decide +kernel
theorem dX11_end_30 : decode cX11_end 30 = .ok (.istore_n 2, 1) := by decide +kernel
theorem dX11_end_31 : decode cX11_end 31 = .ok (.aload_n 0, 1) := by decide +kernel
theorem dX11_end_32 : decode cX11_end 32 = .ok (.getfield 27, 3) := by decide +kernel
theorem dX11_end_35 : decode cX11_end 35 = .ok (.getfield 162, 3) := by decide +kernel
theorem dX11_end_38 : decode cX11_end 38 = .ok (.iload_n 1, 1) := by decide +kernel
theorem dX11_end_39 : decode cX11_end 39 = .ok (.putfield 171, 3) := by decide +kernel
theorem fp_X11_171 : FP RX11 171 10 1 .int false := ⟨RX10, TX10, 5, tyX10, uw_X10, wf_X11_171, rfl, by decide, rfl, tyX10_ok, nmX10, rfl, by decide +kernel⟩
theorem dX11_end_42 : decode cX11_end 42 = .ok (.iload_n 2, 1) := by decide +kernel
theorem dX11_end_43 : decode cX11_end 43 = .ok (.ireturn, 1) := by decide +kernel
theorem dX11_end_18 : decode cX11_end 18 = .ok (.iconst (-1), 1) := by decide +kernel
theorem dX11_end_19 : decode cX11_end 19 = .ok (.ireturn, 1) := by decide +kernel
set_option maxRecDepth 100000 in
set_option maxHeartbeats 4000000 in
theorem x_end (l : Launch) (E : EV) (hx : Nat) (p0 : Int32) (qn : Nat) (qp : Nat) (qs : Nat) (qj : Nat) (ql : Nat) (qh : Nat) (qk : Nat) (qr : Nat) (qg : Nat) (qsh : Nat) (qt : Nat) (sa : Nat) (sb : Nat) (sc : Nat) (sd : Nat) (tb : Nat)  : CT l yX11_end (Cond.code yX11_end cX11_end 3 (some .int) :: TB) ({ frames := 1, cells := 0, slots := 0, locals := 22 }) E [.ref hx, .int p0] [(hx, .inr (11, [.ref qn, .ref qp, .int 0, .int 0, .ref qs, .ref qj, .ref ql, .ref qh, .ref qk, .int 0, .ref qr, .ref qg, .int 0, .int 0, .ref qsh])), (qs, .inr (5, [.ref qt, .ref sa, .ref sb, .ref sc, .ref sd, .int 0, .int 0, .int 0, .int 0, .int 0])), (qt, .inr (10, [.ref tb, .int 0, .int 0, .int 0, .int 0])), (tb, .inl (E.2.1 0, 160, .inl (fun _ => 0)))] (Qi E (fun (r : Int32) u => (r = 0 ∧ u = [] ∧ (p0.toInt = 0)) ∨ (r = (-1) ∧ u = [] ∧ (p0.toInt < 0 ∨ 0 < p0.toInt)))) 0 0 := by
  refine ct_of rfl rfl ?_
  intro X C hT hin
  show WW X 3 E 0 [(0, .ref hx), (1, .int p0)] [] [(hx, .inr (11, [.ref qn, .ref qp, .int 0, .int 0, .ref qs, .ref qj, .ref ql, .ref qh, .ref qk, .int 0, .ref qr, .ref qg, .int 0, .int 0, .ref qsh])), (qs, .inr (5, [.ref qt, .ref sa, .ref sb, .ref sc, .ref sd, .int 0, .int 0, .int 0, .int 0, .int 0])), (qt, .inr (10, [.ref tb, .int 0, .int 0, .int 0, .int 0])), (tb, .inl (E.2.1 0, 160, .inl (fun _ => 0)))] 0 0
  refine ww_iload_n C dX11_end_0 1 rfl rfl ?_
  refine ww_iconst (v := 0) C dX11_end_1 rfl ?_
  refine ww_aload_n C dX11_end_2 0 rfl rfl ?_
  refine ww_get C fg_X11_27 0 rfl rfl dX11_end_3 ?_
  refine ww_get C fg_X11_162 1 rfl rfl dX11_end_6 ?_
  refine ww_get C fg_X11_171 2 rfl rfl dX11_end_9 ?_
  refine ww_ci (wr := [(hx, .inr (11, [.ref qn, .ref qp, .int 0, .int 0, .ref qs, .ref qj, .ref ql, .ref qh, .ref qk, .int 0, .ref qr, .ref qg, .int 0, .int 0, .ref qsh])), (qs, .inr (5, [.ref qt, .ref sa, .ref sb, .ref sc, .ref sd, .int 0, .int 0, .int 0, .int 0, .int 0])), (qt, .inr (10, [.ref tb, .int 0, .int 0, .int 0, .int 0])), (tb, .inl (E.2.1 0, 160, .inl (fun _ => 0)))]) (k' := 0) (n' := 0) C (run_S (As := [.int p0, .int 0, .int 0]) (rest := []) C (c_within X.2.1 E p0 0 0 p0.toInt 0 0 rfl rfl rfl) ms_X11_within wl_X11_76 rfl rfl rfl rfl dX11_end_12) [] [0, 1, 2, 3] rfl rfl rfl rfl (fun r u hw => ?_)
  rcases hw with ⟨rfl, rfl, h_1, h_2⟩ | ⟨rfl, rfl, h_3⟩
  · refine ww_eq (ws' := [(hx, .inr (11, [.ref qn, .ref qp, .int 0, .int 0, .ref qs, .ref qj, .ref ql, .ref qh, .ref qk, .int 0, .ref qr, .ref qg, .int 0, .int 0, .ref qsh])), (qs, .inr (5, [.ref qt, .ref sa, .ref sb, .ref sc, .ref sd, .int 0, .int 0, .int 0, .int 0, .int 0])), (qt, .inr (10, [.ref tb, .int 0, .int 0, .int 0, .int 0])), (tb, .inl (E.2.1 0, 160, .inl (fun _ => 0)))]) ?_ rfl rfl rfl
    refine ww_if_ne_t (tgt := 20) C dX11_end_15 (by decide) (by decide) ?_
    refine ww_aload_n C dX11_end_20 0 rfl rfl ?_
    refine ww_get C fg_X11_27 0 rfl rfl dX11_end_21 ?_
    refine ww_get C fg_X11_162 1 rfl rfl dX11_end_24 ?_
    refine ww_get C fg_X11_171 2 rfl rfl dX11_end_27 ?_
    refine ww_istore_n (lv' := [(2, .int 0), (0, .ref hx), (1, .int p0)]) C dX11_end_30 rfl rfl rfl ?_
    refine ww_aload_n C dX11_end_31 1 rfl rfl ?_
    refine ww_get C fg_X11_27 0 rfl rfl dX11_end_32 ?_
    refine ww_get C fg_X11_162 1 rfl rfl dX11_end_35 ?_
    refine ww_iload_n C dX11_end_38 2 rfl rfl ?_
    refine ww_put (ws' := [(hx, .inr (11, [.ref qn, .ref qp, .int 0, .int 0, .ref qs, .ref qj, .ref ql, .ref qh, .ref qk, .int 0, .ref qr, .ref qg, .int 0, .int 0, .ref qsh])), (qs, .inr (5, [.ref qt, .ref sa, .ref sb, .ref sc, .ref sd, .int 0, .int 0, .int 0, .int 0, .int 0])), (qt, .inr (10, [.ref tb, .int p0, .int 0, .int 0, .int 0])), (tb, .inl (E.2.1 0, 160, .inl (fun _ => 0)))]) C fp_X11_171 2 rfl rfl rfl rfl rfl dX11_end_39 ?_
    refine ww_iload_n C dX11_end_42 0 rfl rfl ?_
    exact ww_iret (u := []) C hT [] rfl rfl rfl rfl dX11_end_43 (Or.inl ⟨rfl, rfl, (by first | assumption | omega | decide)⟩)
  · refine ww_eq (ws' := [(hx, .inr (11, [.ref qn, .ref qp, .int 0, .int 0, .ref qs, .ref qj, .ref ql, .ref qh, .ref qk, .int 0, .ref qr, .ref qg, .int 0, .int 0, .ref qsh])), (qs, .inr (5, [.ref qt, .ref sa, .ref sb, .ref sc, .ref sd, .int 0, .int 0, .int 0, .int 0, .int 0])), (qt, .inr (10, [.ref tb, .int 0, .int 0, .int 0, .int 0])), (tb, .inl (E.2.1 0, 160, .inl (fun _ => 0)))]) ?_ rfl rfl rfl
    refine ww_if_ne_f (tgt := 20) C dX11_end_15 (by decide) (rfl) ?_
    refine ww_iconst (v := (-1)) C dX11_end_18 rfl ?_
    exact ww_iret (u := []) C hT [] rfl rfl rfl rfl dX11_end_19 (Or.inr ⟨rfl, rfl, (by first | assumption | omega | decide)⟩)
theorem dX10_behind_0 : decode cX10_behind 0 = .ok (.iload_n 1, 1) := by decide +kernel
theorem dX10_behind_1 : decode cX10_behind 1 = .ok (.istore 4, 2) := by decide +kernel
theorem dX10_behind_3 : decode cX10_behind 3 = .ok (.iload 4, 2) := by decide +kernel
theorem dX10_behind_5 : decode cX10_behind 5 = .ok (.aload_n 0, 1) := by decide +kernel
theorem dX10_behind_6 : decode cX10_behind 6 = .ok (.getfield 15, 3) := by decide +kernel
theorem dX10_behind_9 : decode cX10_behind 9 = .ok (.if_icmp .ge 31, 3) := by decide +kernel
theorem dX10_behind_40 : decode cX10_behind 40 = .ok (.iload 4, 2) := by decide +kernel
theorem dX10_behind_42 : decode cX10_behind 42 = .ok (.ireturn, 1) := by decide +kernel
set_option maxRecDepth 100000 in
set_option maxHeartbeats 4000000 in
theorem c_behind (l : Launch) (E : EV) (qt : Nat) (u : Int32) (v : Int32) (tb : Nat)  : CT l yX10_behind (Cond.code yX10_behind cX10_behind 5 (some .int) :: TB) ({ frames := 0, cells := 0, slots := 0, locals := 0 }) E [.ref qt, .int 0, .int u, .int v] [(qt, .inr (10, [.ref tb, .int 0, .int 0, .int 0, .int 0])), (tb, .inl (E.2.1 0, 160, .inl (fun _ => 0)))] (Qi E (fun (r : Int32) u => (r = 0 ∧ u = [(qt, .inr (10, [.ref tb, .int 0, .int 0, .int 0, .int 0])), (tb, .inl (E.2.1 0, 160, .inl (fun _ => 0)))]))) 0 0 := by
  refine ct_of rfl rfl ?_
  intro X C hT hin
  show WW X 5 E 0 [(0, .ref qt), (1, .int 0), (2, .int u), (3, .int v)] [] [(qt, .inr (10, [.ref tb, .int 0, .int 0, .int 0, .int 0])), (tb, .inl (E.2.1 0, 160, .inl (fun _ => 0)))] 0 0
  refine ww_iload_n C dX10_behind_0 1 rfl rfl ?_
  refine ww_istore (lv' := [(4, .int 0), (0, .ref qt), (1, .int 0), (2, .int u), (3, .int v)]) C dX10_behind_1 rfl rfl ?_
  refine ww_iload C dX10_behind_3 0 rfl ?_
  refine ww_aload_n C dX10_behind_5 1 rfl rfl ?_
  refine ww_get C fg_X10_15 0 rfl rfl dX10_behind_6 ?_
  refine ww_icmp_ge_t (tgt := 40) C dX10_behind_9 (by decide) (by decide) ?_
  refine ww_iload C dX10_behind_40 0 rfl ?_
  exact ww_iret (u := [(qt, .inr (10, [.ref tb, .int 0, .int 0, .int 0, .int 0])), (tb, .inl (E.2.1 0, 160, .inl (fun _ => 0)))]) C hT [0, 1] rfl rfl rfl rfl dX10_behind_42 (⟨rfl, rfl⟩)
theorem dX10_readToken_0 : decode cX10_readToken 0 = .ok (.aload_n 0, 1) := by decide +kernel
theorem dX10_readToken_1 : decode cX10_readToken 1 = .ok (.aload_n 0, 1) := by decide +kernel
theorem dX10_readToken_2 : decode cX10_readToken 2 = .ok (.aload_n 0, 1) := by decide +kernel
theorem dX10_readToken_3 : decode cX10_readToken 3 = .ok (.getfield 19, 3) := by decide +kernel
theorem wf_X10_19 : Cond.fieldLink RX10 19 RX10 "at" "I" ∈ TB := tbm (tq1 (List.mem_of_getElem? (i := 81) (by decide +kernel))) (by decide +kernel)
theorem fg_X10_19 : FG RX10 19 10 2 := ⟨RX10, TX10, 5, uw_X10, wf_X10_19, rfl, by decide, rfl⟩
theorem dX10_readToken_6 : decode cX10_readToken 6 = .ok (.bipush 32, 2) := by decide +kernel
theorem dX10_readToken_8 : decode cX10_readToken 8 = .ok (.bipush 32, 2) := by decide +kernel
theorem dX10_readToken_10 : decode cX10_readToken 10 = .ok (.invokevirtual 22, 3) := by decide +kernel
theorem wl_X10_22 : Cond.methodLink RX10 22 yX10_behind ∈ TB := tbm (tq3 (List.mem_of_getElem? (i := 22) (by decide +kernel))) (by decide +kernel)
theorem wc_X10_behind : Cond.code yX10_behind cX10_behind 5 (some .int) ∈ TB := tbm (tq3 (List.mem_of_getElem? (i := 25) (rfl))) (by decide +kernel)
theorem wi_X10_behind : Cond.instanceMethod yX10_behind ∈ TB := tbm (tq3 (List.mem_of_getElem? (i := 24) (by decide +kernel))) (by decide +kernel)
theorem ws_X10_behind : Cond.selects RX10 yX10_behind yX10_behind ∈ TB := tbm (tq0 (List.mem_of_getElem? (i := 4) (by decide +kernel))) (by decide +kernel)
theorem mi_X10_behind : MI yX10_behind cX10_behind 5 (some .int) 3 := ⟨wc_X10_behind, wn_X10, ⟨by decide +kernel, by decide +kernel, by decide +kernel⟩, wi_X10_behind, ws_X10_behind⟩
theorem dX10_readToken_13 : decode cX10_readToken 13 = .ok (.putfield 26, 3) := by decide +kernel
theorem wf_X10_26 : Cond.fieldLink RX10 26 RX10 "start" "I" ∈ TB := tbm (tq1 (List.mem_of_getElem? (i := 85) (by decide +kernel))) (by decide +kernel)
theorem fp_X10_26 : FP RX10 26 10 4 .int false := ⟨RX10, TX10, 5, tyX10, uw_X10, wf_X10_26, rfl, by decide, rfl, tyX10_ok, nmX10, rfl, by decide +kernel⟩
theorem dX10_readToken_16 : decode cX10_readToken 16 = .ok (.aload_n 0, 1) := by decide +kernel
theorem dX10_readToken_17 : decode cX10_readToken 17 = .ok (.aload_n 0, 1) := by decide +kernel
theorem dX10_readToken_18 : decode cX10_readToken 18 = .ok (.getfield 26, 3) := by decide +kernel
theorem fg_X10_26 : FG RX10 26 10 4 := ⟨RX10, TX10, 5, uw_X10, wf_X10_26, rfl, by decide, rfl⟩
theorem dX10_readToken_21 : decode cX10_readToken 21 = .ok (.putfield 19, 3) := by decide +kernel
theorem fp_X10_19 : FP RX10 19 10 2 .int false := ⟨RX10, TX10, 5, tyX10, uw_X10, wf_X10_19, rfl, by decide, rfl, tyX10_ok, nmX10, rfl, by decide +kernel⟩
theorem dX10_readToken_24 : decode cX10_readToken 24 = .ok (.aload_n 0, 1) := by decide +kernel
theorem dX10_readToken_25 : decode cX10_readToken 25 = .ok (.getfield 26, 3) := by decide +kernel
theorem dX10_readToken_28 : decode cX10_readToken 28 = .ok (.aload_n 0, 1) := by decide +kernel
theorem dX10_readToken_29 : decode cX10_readToken 29 = .ok (.getfield 15, 3) := by decide +kernel
theorem dX10_readToken_32 : decode cX10_readToken 32 = .ok (.if_icmp .lt 11, 3) := by decide +kernel
theorem dX10_readToken_35 : decode cX10_readToken 35 = .ok (.aload_n 0, 1) := by decide +kernel
theorem dX10_readToken_36 : decode cX10_readToken 36 = .ok (.iconst 0, 1) := by decide +kernel
theorem dX10_readToken_37 : decode cX10_readToken 37 = .ok (.putfield 29, 3) := by decide +kernel
theorem wf_X10_29 : Cond.fieldLink RX10 29 RX10 "kind" "I" ∈ TB := tbm (tq1 (List.mem_of_getElem? (i := 83) (by decide +kernel))) (by decide +kernel)
theorem fp_X10_29 : FP RX10 29 10 3 .int false := ⟨RX10, TX10, 5, tyX10, uw_X10, wf_X10_29, rfl, by decide, rfl, tyX10_ok, nmX10, rfl, by decide +kernel⟩
theorem dX10_readToken_40 : decode cX10_readToken 40 = .ok (.goto 80, 3) := by decide +kernel
theorem dX10_readToken_120 : decode cX10_readToken 120 = .ok (.return_, 1) := by decide +kernel
set_option maxRecDepth 100000 in
set_option maxHeartbeats 4000000 in
theorem c_readToken (l : Launch) (E : EV) (qt : Nat) (tb : Nat)  : CT l yX10_readToken (Cond.code yX10_readToken cX10_readToken 1 none :: TB) ({ frames := 1, cells := 0, slots := 0, locals := 24 }) E [.ref qt] [(qt, .inr (10, [.ref tb, .int 0, .int 0, .int 0, .int 0])), (tb, .inl (E.2.1 0, 160, .inl (fun _ => 0)))] (Qv E (fun u => (u = [(qt, .inr (10, [.ref tb, .int 0, .int 0, .int 0, .int 0])), (tb, .inl (E.2.1 0, 160, .inl (fun _ => 0)))]))) 0 0 := by
  refine ct_of rfl rfl ?_
  intro X C hT hin
  show WW X 1 E 0 [(0, .ref qt)] [] [(qt, .inr (10, [.ref tb, .int 0, .int 0, .int 0, .int 0])), (tb, .inl (E.2.1 0, 160, .inl (fun _ => 0)))] 0 0
  refine ww_aload_n C dX10_readToken_0 0 rfl rfl ?_
  refine ww_aload_n C dX10_readToken_1 0 rfl rfl ?_
  refine ww_aload_n C dX10_readToken_2 0 rfl rfl ?_
  refine ww_get C fg_X10_19 0 rfl rfl dX10_readToken_3 ?_
  refine ww_bipush (v := 32) C dX10_readToken_6 rfl ?_
  refine ww_bipush (v := 32) C dX10_readToken_8 rfl ?_
  refine ww_ci (wr := []) (k' := 0) (n' := 0) C (run_V (As := [.int 0, .int 32, .int 32]) (rest := [.ref qt]) C (c_behind X.2.1 E qt 32 32 tb) mi_X10_behind wl_X10_22 rfl 0 10 rfl rfl rfl rfl rfl dX10_readToken_10) [0, 1] [] rfl rfl rfl rfl (fun r u hw => ?_)
  obtain ⟨rfl, rfl⟩ := hw
  refine ww_eq (ws' := [(qt, .inr (10, [.ref tb, .int 0, .int 0, .int 0, .int 0])), (tb, .inl (E.2.1 0, 160, .inl (fun _ => 0)))]) ?_ rfl rfl rfl
  refine ww_put (ws' := [(qt, .inr (10, [.ref tb, .int 0, .int 0, .int 0, .int 0])), (tb, .inl (E.2.1 0, 160, .inl (fun _ => 0)))]) C fp_X10_26 0 rfl rfl rfl rfl rfl dX10_readToken_13 ?_
  refine ww_aload_n C dX10_readToken_16 0 rfl rfl ?_
  refine ww_aload_n C dX10_readToken_17 0 rfl rfl ?_
  refine ww_get C fg_X10_26 0 rfl rfl dX10_readToken_18 ?_
  refine ww_put (ws' := [(qt, .inr (10, [.ref tb, .int 0, .int 0, .int 0, .int 0])), (tb, .inl (E.2.1 0, 160, .inl (fun _ => 0)))]) C fp_X10_19 0 rfl rfl rfl rfl rfl dX10_readToken_21 ?_
  refine ww_aload_n C dX10_readToken_24 0 rfl rfl ?_
  refine ww_get C fg_X10_26 0 rfl rfl dX10_readToken_25 ?_
  refine ww_aload_n C dX10_readToken_28 0 rfl rfl ?_
  refine ww_get C fg_X10_15 0 rfl rfl dX10_readToken_29 ?_
  refine ww_icmp_lt_f (tgt := 43) C dX10_readToken_32 (by decide) (by decide) ?_
  refine ww_aload_n C dX10_readToken_35 0 rfl rfl ?_
  refine ww_iconst (v := 0) C dX10_readToken_36 rfl ?_
  refine ww_put (ws' := [(qt, .inr (10, [.ref tb, .int 0, .int 0, .int 0, .int 0])), (tb, .inl (E.2.1 0, 160, .inl (fun _ => 0)))]) C fp_X10_29 0 rfl rfl rfl rfl rfl dX10_readToken_37 ?_
  refine ww_goto (tgt := 120) C dX10_readToken_40 (by decide) ?_
  exact ww_vret (u := [(qt, .inr (10, [.ref tb, .int 0, .int 0, .int 0, .int 0])), (tb, .inl (E.2.1 0, 160, .inl (fun _ => 0)))]) C hT [0, 1] rfl rfl rfl rfl dX10_readToken_120 (rfl)
theorem dX10_isName_0 : decode cX10_isName 0 = .ok (.aload_n 0, 1) := by decide +kernel
theorem dX10_isName_1 : decode cX10_isName 1 = .ok (.getfield 29, 3) := by decide +kernel
theorem fg_X10_29 : FG RX10 29 10 3 := ⟨RX10, TX10, 5, uw_X10, wf_X10_29, rfl, by decide, rfl⟩
theorem dX10_isName_4 : decode cX10_isName 4 = .ok (.iconst 1, 1) := by decide +kernel
theorem dX10_isName_5 : decode cX10_isName 5 = .ok (.if_icmp .ne 19, 3) := by decide +kernel
theorem dX10_isName_24 : decode cX10_isName 24 = .ok (.iconst 0, 1) := by decide +kernel
theorem dX10_isName_25 : decode cX10_isName 25 = .ok (.ireturn, 1) := by decide +kernel
set_option maxRecDepth 100000 in
set_option maxHeartbeats 4000000 in
theorem c_isName (l : Launch) (E : EV) (qt : Nat) (wd : Nat) (tb : Nat)  : CT l yX10_isName (Cond.code yX10_isName cX10_isName 3 (some .boolean) :: TB) ({ frames := 0, cells := 0, slots := 0, locals := 0 }) E [.ref qt, .ref wd] [(qt, .inr (10, [.ref tb, .int 0, .int 0, .int 0, .int 0])), (tb, .inl (E.2.1 0, 160, .inl (fun _ => 0)))] (Qi E (fun (r : Int32) u => (r = 0 ∧ u = [(qt, .inr (10, [.ref tb, .int 0, .int 0, .int 0, .int 0])), (tb, .inl (E.2.1 0, 160, .inl (fun _ => 0)))]))) 0 0 := by
  refine ct_of rfl rfl ?_
  intro X C hT hin
  show WW X 3 E 0 [(0, .ref qt), (1, .ref wd)] [] [(qt, .inr (10, [.ref tb, .int 0, .int 0, .int 0, .int 0])), (tb, .inl (E.2.1 0, 160, .inl (fun _ => 0)))] 0 0
  refine ww_aload_n C dX10_isName_0 0 rfl rfl ?_
  refine ww_get C fg_X10_29 0 rfl rfl dX10_isName_1 ?_
  refine ww_iconst (v := 1) C dX10_isName_4 rfl ?_
  refine ww_icmp_ne_t (tgt := 24) C dX10_isName_5 (by decide) (by decide) ?_
  refine ww_iconst (v := 0) C dX10_isName_24 rfl ?_
  exact ww_zret (u := [(qt, .inr (10, [.ref tb, .int 0, .int 0, .int 0, .int 0])), (tb, .inl (E.2.1 0, 160, .inl (fun _ => 0)))]) C hT [0, 1] rfl rfl rfl rfl rfl dX10_isName_25 (⟨rfl, rfl⟩)
theorem dX10_rewind_0 : decode cX10_rewind 0 = .ok (.aload_n 0, 1) := by decide +kernel
theorem dX10_rewind_1 : decode cX10_rewind 1 = .ok (.iconst 0, 1) := by decide +kernel
theorem dX10_rewind_2 : decode cX10_rewind 2 = .ok (.putfield 19, 3) := by decide +kernel
theorem dX10_rewind_5 : decode cX10_rewind 5 = .ok (.return_, 1) := by decide +kernel
set_option maxRecDepth 100000 in
set_option maxHeartbeats 4000000 in
theorem c_rewind (l : Launch) (E : EV) (qt : Nat) (tb : Nat)  : CT l yX10_rewind (Cond.code yX10_rewind cX10_rewind 1 none :: TB) ({ frames := 0, cells := 0, slots := 0, locals := 0 }) E [.ref qt] [(qt, .inr (10, [.ref tb, .int 0, .int 0, .int 0, .int 0])), (tb, .inl (E.2.1 0, 160, .inl (fun _ => 0)))] (Qv E (fun u => (u = [(qt, .inr (10, [.ref tb, .int 0, .int 0, .int 0, .int 0])), (tb, .inl (E.2.1 0, 160, .inl (fun _ => 0)))]))) 0 0 := by
  refine ct_of rfl rfl ?_
  intro X C hT hin
  show WW X 1 E 0 [(0, .ref qt)] [] [(qt, .inr (10, [.ref tb, .int 0, .int 0, .int 0, .int 0])), (tb, .inl (E.2.1 0, 160, .inl (fun _ => 0)))] 0 0
  refine ww_aload_n C dX10_rewind_0 0 rfl rfl ?_
  refine ww_iconst (v := 0) C dX10_rewind_1 rfl ?_
  refine ww_put (ws' := [(qt, .inr (10, [.ref tb, .int 0, .int 0, .int 0, .int 0])), (tb, .inl (E.2.1 0, 160, .inl (fun _ => 0)))]) C fp_X10_19 0 rfl rfl rfl rfl rfl dX10_rewind_2 ?_
  exact ww_vret (u := [(qt, .inr (10, [.ref tb, .int 0, .int 0, .int 0, .int 0])), (tb, .inl (E.2.1 0, 160, .inl (fun _ => 0)))]) C hT [0, 1] rfl rfl rfl rfl dX10_rewind_5 (rfl)
theorem dX5_fail_0 : decode cX5_fail 0 = .ok (.aload_n 0, 1) := by decide +kernel
theorem dX5_fail_1 : decode cX5_fail 1 = .ok (.iload_n 1, 1) := by decide +kernel
theorem dX5_fail_2 : decode cX5_fail 2 = .ok (.putfield 41, 3) := by decide +kernel
theorem wf_X5_41 : Cond.fieldLink RX5 41 RX5 "wrong" "I" ∈ TB := tbm (tq1 (List.mem_of_getElem? (i := 107) (by decide +kernel))) (by decide +kernel)
theorem fp_X5_41 : FP RX5 41 5 8 .int false := ⟨RX5, TX5, 10, tyX5, uw_X5, wf_X5_41, rfl, by decide, rfl, tyX5_ok, nmX5, rfl, by decide +kernel⟩
theorem dX5_fail_5 : decode cX5_fail 5 = .ok (.aload_n 0, 1) := by decide +kernel
theorem dX5_fail_6 : decode cX5_fail 6 = .ok (.aload_n 0, 1) := by decide +kernel
theorem dX5_fail_7 : decode cX5_fail 7 = .ok (.getfield 12, 3) := by decide +kernel
theorem fg_X5_12 : FG RX5 12 5 0 := ⟨RX5, TX5, 10, uw_X5, wf_X5_12, rfl, by decide, rfl⟩
theorem dX5_fail_10 : decode cX5_fail 10 = .ok (.getfield 71, 3) := by decide +kernel
theorem wf_X5_71 : Cond.fieldLink RX5 71 RX10 "start" "I" ∈ TB := tbm (tq1 (List.mem_of_getElem? (i := 84) (by decide +kernel))) (by decide +kernel)
theorem fg_X5_71 : FG RX5 71 10 4 := ⟨RX10, TX10, 5, uw_X10, wf_X5_71, rfl, by decide, rfl⟩
theorem dX5_fail_13 : decode cX5_fail 13 = .ok (.putfield 44, 3) := by decide +kernel
theorem wf_X5_44 : Cond.fieldLink RX5 44 RX5 "place" "I" ∈ TB := tbm (tq1 (List.mem_of_getElem? (i := 109) (by decide +kernel))) (by decide +kernel)
theorem fp_X5_44 : FP RX5 44 5 9 .int false := ⟨RX5, TX5, 10, tyX5, uw_X5, wf_X5_44, rfl, by decide, rfl, tyX5_ok, nmX5, rfl, by decide +kernel⟩
theorem dX5_fail_16 : decode cX5_fail 16 = .ok (.iconst 0, 1) := by decide +kernel
theorem dX5_fail_17 : decode cX5_fail 17 = .ok (.ireturn, 1) := by decide +kernel
set_option maxRecDepth 100000 in
set_option maxHeartbeats 4000000 in
theorem c_fail2 (l : Launch) (E : EV) (qs : Nat) (qt : Nat) (sa : Nat) (sb : Nat) (sc : Nat) (sd : Nat) (tb : Nat)  : CT l yX5_fail (Cond.code yX5_fail cX5_fail 2 (some .boolean) :: TB) ({ frames := 0, cells := 0, slots := 0, locals := 0 }) E [.ref qs, .int 2] [(qs, .inr (5, [.ref qt, .ref sa, .ref sb, .ref sc, .ref sd, .int 0, .int 0, .int 0, .int 0, .int 0])), (qt, .inr (10, [.ref tb, .int 0, .int 0, .int 0, .int 0])), (tb, .inl (E.2.1 0, 160, .inl (fun _ => 0)))] (Qi E (fun (r : Int32) u => (r = 0 ∧ u = [(qs, .inr (5, [.ref qt, .ref sa, .ref sb, .ref sc, .ref sd, .int 0, .int 0, .int 0, .int 2, .int 0])), (qt, .inr (10, [.ref tb, .int 0, .int 0, .int 0, .int 0])), (tb, .inl (E.2.1 0, 160, .inl (fun _ => 0)))]))) 0 0 := by
  refine ct_of rfl rfl ?_
  intro X C hT hin
  show WW X 2 E 0 [(0, .ref qs), (1, .int 2)] [] [(qs, .inr (5, [.ref qt, .ref sa, .ref sb, .ref sc, .ref sd, .int 0, .int 0, .int 0, .int 0, .int 0])), (qt, .inr (10, [.ref tb, .int 0, .int 0, .int 0, .int 0])), (tb, .inl (E.2.1 0, 160, .inl (fun _ => 0)))] 0 0
  refine ww_aload_n C dX5_fail_0 0 rfl rfl ?_
  refine ww_iload_n C dX5_fail_1 1 rfl rfl ?_
  refine ww_put (ws' := [(qs, .inr (5, [.ref qt, .ref sa, .ref sb, .ref sc, .ref sd, .int 0, .int 0, .int 0, .int 2, .int 0])), (qt, .inr (10, [.ref tb, .int 0, .int 0, .int 0, .int 0])), (tb, .inl (E.2.1 0, 160, .inl (fun _ => 0)))]) C fp_X5_41 0 rfl rfl rfl rfl rfl dX5_fail_2 ?_
  refine ww_aload_n C dX5_fail_5 0 rfl rfl ?_
  refine ww_aload_n C dX5_fail_6 0 rfl rfl ?_
  refine ww_get C fg_X5_12 0 rfl rfl dX5_fail_7 ?_
  refine ww_get C fg_X5_71 1 rfl rfl dX5_fail_10 ?_
  refine ww_put (ws' := [(qs, .inr (5, [.ref qt, .ref sa, .ref sb, .ref sc, .ref sd, .int 0, .int 0, .int 0, .int 2, .int 0])), (qt, .inr (10, [.ref tb, .int 0, .int 0, .int 0, .int 0])), (tb, .inl (E.2.1 0, 160, .inl (fun _ => 0)))]) C fp_X5_44 0 rfl rfl rfl rfl rfl dX5_fail_13 ?_
  refine ww_iconst (v := 0) C dX5_fail_16 rfl ?_
  exact ww_zret (u := [(qs, .inr (5, [.ref qt, .ref sa, .ref sb, .ref sc, .ref sd, .int 0, .int 0, .int 0, .int 2, .int 0])), (qt, .inr (10, [.ref tb, .int 0, .int 0, .int 0, .int 0])), (tb, .inl (E.2.1 0, 160, .inl (fun _ => 0)))]) C hT [0, 1, 2] rfl rfl rfl rfl rfl dX5_fail_17 (⟨rfl, rfl⟩)
theorem dX5_next_0 : decode cX5_next 0 = .ok (.aload_n 0, 1) := by decide +kernel
theorem dX5_next_1 : decode cX5_next 1 = .ok (.getfield 12, 3) := by decide +kernel
theorem dX5_next_4 : decode cX5_next 4 = .ok (.invokevirtual 74, 3) := by decide +kernel
theorem wl_X5_74 : Cond.methodLink RX5 74 yX10_readToken ∈ TB := tbm (tq3 (List.mem_of_getElem? (i := 18) (by decide +kernel))) (by decide +kernel)
theorem wc_X10_readToken : Cond.code yX10_readToken cX10_readToken 1 none ∈ TB := tbm (tq3 (List.mem_of_getElem? (i := 21) (rfl))) (by decide +kernel)
theorem wi_X10_readToken : Cond.instanceMethod yX10_readToken ∈ TB := tbm (tq3 (List.mem_of_getElem? (i := 19) (by decide +kernel))) (by decide +kernel)
theorem ws_X10_readToken : Cond.selects RX10 yX10_readToken yX10_readToken ∈ TB := tbm (tq3 (List.mem_of_getElem? (i := 20) (by decide +kernel))) (by decide +kernel)
theorem mi_X10_readToken : MI yX10_readToken cX10_readToken 1 none 0 := ⟨wc_X10_readToken, wn_X10, ⟨by decide +kernel, by decide +kernel, by decide +kernel⟩, wi_X10_readToken, ws_X10_readToken⟩
theorem dX5_next_7 : decode cX5_next 7 = .ok (.aload_n 0, 1) := by decide +kernel
theorem dX5_next_8 : decode cX5_next 8 = .ok (.getfield 12, 3) := by decide +kernel
theorem dX5_next_11 : decode cX5_next 11 = .ok (.getfield 60, 3) := by decide +kernel
theorem wf_X5_60 : Cond.fieldLink RX5 60 RX10 "kind" "I" ∈ TB := tbm (tq1 (List.mem_of_getElem? (i := 82) (by decide +kernel))) (by decide +kernel)
theorem fg_X5_60 : FG RX5 60 10 3 := ⟨RX10, TX10, 5, uw_X10, wf_X5_60, rfl, by decide, rfl⟩
theorem dX5_next_14 : decode cX5_next 14 = .ok (.iconst 3, 1) := by decide +kernel
theorem dX5_next_15 : decode cX5_next 15 = .ok (.if_icmp .ne 11, 3) := by decide +kernel
theorem dX5_next_26 : decode cX5_next 26 = .ok (.iconst 1, 1) := by decide +kernel
theorem dX5_next_27 : decode cX5_next 27 = .ok (.goto 4, 3) := by decide +kernel
theorem dX5_next_31 : decode cX5_next 31 = .ok (.ireturn, 1) := by decide +kernel
set_option maxRecDepth 100000 in
set_option maxHeartbeats 4000000 in
theorem c_next (l : Launch) (E : EV) (qs : Nat) (qt : Nat) (sa : Nat) (sb : Nat) (sc : Nat) (sd : Nat) (tb : Nat)  : CT l yX5_next (Cond.code yX5_next cX5_next 1 (some .boolean) :: TB) ({ frames := 2, cells := 0, slots := 0, locals := 44 }) E [.ref qs] [(qs, .inr (5, [.ref qt, .ref sa, .ref sb, .ref sc, .ref sd, .int 0, .int 0, .int 0, .int 0, .int 0])), (qt, .inr (10, [.ref tb, .int 0, .int 0, .int 0, .int 0])), (tb, .inl (E.2.1 0, 160, .inl (fun _ => 0)))] (Qi E (fun (r : Int32) u => (r = 1 ∧ u = [(qs, .inr (5, [.ref qt, .ref sa, .ref sb, .ref sc, .ref sd, .int 0, .int 0, .int 0, .int 0, .int 0])), (qt, .inr (10, [.ref tb, .int 0, .int 0, .int 0, .int 0])), (tb, .inl (E.2.1 0, 160, .inl (fun _ => 0)))]))) 0 0 := by
  refine ct_of rfl rfl ?_
  intro X C hT hin
  show WW X 1 E 0 [(0, .ref qs)] [] [(qs, .inr (5, [.ref qt, .ref sa, .ref sb, .ref sc, .ref sd, .int 0, .int 0, .int 0, .int 0, .int 0])), (qt, .inr (10, [.ref tb, .int 0, .int 0, .int 0, .int 0])), (tb, .inl (E.2.1 0, 160, .inl (fun _ => 0)))] 0 0
  refine ww_aload_n C dX5_next_0 0 rfl rfl ?_
  refine ww_get C fg_X5_12 0 rfl rfl dX5_next_1 ?_
  refine ww_cv (wr := [(qs, .inr (5, [.ref qt, .ref sa, .ref sb, .ref sc, .ref sd, .int 0, .int 0, .int 0, .int 0, .int 0]))]) (k' := 0) (n' := 0) C (run_V (As := []) (rest := []) C (c_readToken X.2.1 E qt tb) mi_X10_readToken wl_X5_74 rfl 0 10 rfl rfl rfl rfl rfl dX5_next_4) [1, 2] [0] rfl rfl rfl rfl (fun u hw => ?_)
  obtain ⟨rfl⟩ := hw
  refine ww_eq (ws' := [(qs, .inr (5, [.ref qt, .ref sa, .ref sb, .ref sc, .ref sd, .int 0, .int 0, .int 0, .int 0, .int 0])), (qt, .inr (10, [.ref tb, .int 0, .int 0, .int 0, .int 0])), (tb, .inl (E.2.1 0, 160, .inl (fun _ => 0)))]) ?_ rfl rfl rfl
  refine ww_aload_n C dX5_next_7 0 rfl rfl ?_
  refine ww_get C fg_X5_12 0 rfl rfl dX5_next_8 ?_
  refine ww_get C fg_X5_60 1 rfl rfl dX5_next_11 ?_
  refine ww_iconst (v := 3) C dX5_next_14 rfl ?_
  refine ww_icmp_ne_t (tgt := 26) C dX5_next_15 (by decide) (by decide) ?_
  refine ww_iconst (v := 1) C dX5_next_26 rfl ?_
  refine ww_goto (tgt := 31) C dX5_next_27 (by decide) ?_
  exact ww_zret (u := [(qs, .inr (5, [.ref qt, .ref sa, .ref sb, .ref sc, .ref sd, .int 0, .int 0, .int 0, .int 0, .int 0])), (qt, .inr (10, [.ref tb, .int 0, .int 0, .int 0, .int 0])), (tb, .inl (E.2.1 0, 160, .inl (fun _ => 0)))]) C hT [0, 1, 2] rfl rfl rfl rfl rfl dX5_next_31 (⟨rfl, rfl⟩)
theorem dX5_readAfters_0 : decode cX5_readAfters 0 = .ok (.iconst 0, 1) := by decide +kernel
theorem dX5_readAfters_1 : decode cX5_readAfters 1 = .ok (.istore_n 1, 1) := by decide +kernel
theorem dX5_readAfters_2 : decode cX5_readAfters 2 = .ok (.iload_n 1, 1) := by decide +kernel
theorem dX5_readAfters_3 : decode cX5_readAfters 3 = .ok (.iconst 2, 1) := by decide +kernel
theorem dX5_readAfters_4 : decode cX5_readAfters 4 = .ok (.if_icmp .gt 48, 3) := by decide +kernel
theorem dX5_readAfters_7 : decode cX5_readAfters 7 = .ok (.aload_n 0, 1) := by decide +kernel
theorem dX5_readAfters_8 : decode cX5_readAfters 8 = .ok (.getfield 12, 3) := by decide +kernel
theorem dX5_readAfters_11 : decode cX5_readAfters 11 = .ok (.ldc 77, 2) := by decide +kernel
theorem dX5_readAfters_13 : decode cX5_readAfters 13 = .ok (.invokevirtual 78, 3) := by decide +kernel
theorem wl_X5_78 : Cond.methodLink RX5 78 yX10_isName ∈ TB := tbm (tq3 (List.mem_of_getElem? (i := 38) (by decide +kernel))) (by decide +kernel)
theorem wc_X10_isName : Cond.code yX10_isName cX10_isName 3 (some .boolean) ∈ TB := tbm (tq3 (List.mem_of_getElem? (i := 41) (rfl))) (by decide +kernel)
theorem wi_X10_isName : Cond.instanceMethod yX10_isName ∈ TB := tbm (tq3 (List.mem_of_getElem? (i := 39) (by decide +kernel))) (by decide +kernel)
theorem ws_X10_isName : Cond.selects RX10 yX10_isName yX10_isName ∈ TB := tbm (tq3 (List.mem_of_getElem? (i := 40) (by decide +kernel))) (by decide +kernel)
theorem mi_X10_isName : MI yX10_isName cX10_isName 3 (some .boolean) 1 := ⟨wc_X10_isName, wn_X10, ⟨by decide +kernel, by decide +kernel, by decide +kernel⟩, wi_X10_isName, ws_X10_isName⟩
theorem dX5_readAfters_16 : decode cX5_readAfters 16 = .ok (.ifCond .eq 36, 3) := by decide +kernel
theorem dX5_readAfters_52 : decode cX5_readAfters 52 = .ok (.iconst 1, 1) := by decide +kernel
theorem dX5_readAfters_53 : decode cX5_readAfters 53 = .ok (.ireturn, 1) := by decide +kernel
set_option maxRecDepth 100000 in
set_option maxHeartbeats 4000000 in
theorem c_readAfters (l : Launch) (E : EV) (qs : Nat) (qt : Nat) (sa : Nat) (sb : Nat) (sc : Nat) (sd : Nat) (tb : Nat)  : CT l yX5_readAfters (Cond.code yX5_readAfters cX5_readAfters 2 (some .boolean) :: TB) ({ frames := 1, cells := 0, slots := 0, locals := 22 }) E [.ref qs] [(qs, .inr (5, [.ref qt, .ref sa, .ref sb, .ref sc, .ref sd, .int 0, .int 0, .int 0, .int 0, .int 0])), (qt, .inr (10, [.ref tb, .int 0, .int 0, .int 0, .int 0])), (tb, .inl (E.2.1 0, 160, .inl (fun _ => 0)))] (Qi E (fun (r : Int32) u => (r = 1 ∧ u = [(qs, .inr (5, [.ref qt, .ref sa, .ref sb, .ref sc, .ref sd, .int 0, .int 0, .int 0, .int 0, .int 0])), (qt, .inr (10, [.ref tb, .int 0, .int 0, .int 0, .int 0])), (tb, .inl (E.2.1 0, 160, .inl (fun _ => 0)))]))) 0 0 := by
  refine ct_of rfl rfl ?_
  intro X C hT hin
  show WW X 2 E 0 [(0, .ref qs)] [] [(qs, .inr (5, [.ref qt, .ref sa, .ref sb, .ref sc, .ref sd, .int 0, .int 0, .int 0, .int 0, .int 0])), (qt, .inr (10, [.ref tb, .int 0, .int 0, .int 0, .int 0])), (tb, .inl (E.2.1 0, 160, .inl (fun _ => 0)))] 0 0
  refine ww_iconst (v := 0) C dX5_readAfters_0 rfl ?_
  refine ww_istore_n (lv' := [(1, .int 0), (0, .ref qs)]) C dX5_readAfters_1 rfl rfl rfl ?_
  refine ww_iload_n C dX5_readAfters_2 0 rfl rfl ?_
  refine ww_iconst (v := 2) C dX5_readAfters_3 rfl ?_
  refine ww_icmp_gt_f (tgt := 52) C dX5_readAfters_4 (by decide) (by decide) ?_
  refine ww_aload_n C dX5_readAfters_7 1 rfl rfl ?_
  refine ww_get C fg_X5_12 0 rfl rfl dX5_readAfters_8 ?_
  refine ww_ldcS (tx := "after") C (List.mem_of_getElem? (i := 0) rfl) rfl dX5_readAfters_11 ?_
  refine ww_ci (wr := [(qs, .inr (5, [.ref qt, .ref sa, .ref sb, .ref sc, .ref sd, .int 0, .int 0, .int 0, .int 0, .int 0]))]) (k' := 0) (n' := 0) C (run_V (As := [.ref (E.2.2 77)]) (rest := []) C (c_isName X.2.1 E qt (E.2.2 77) tb) mi_X10_isName wl_X5_78 rfl 0 10 rfl rfl rfl rfl rfl dX5_readAfters_13) [1, 2] [0] rfl rfl rfl rfl (fun r u hw => ?_)
  obtain ⟨rfl, rfl⟩ := hw
  refine ww_eq (ws' := [(qs, .inr (5, [.ref qt, .ref sa, .ref sb, .ref sc, .ref sd, .int 0, .int 0, .int 0, .int 0, .int 0])), (qt, .inr (10, [.ref tb, .int 0, .int 0, .int 0, .int 0])), (tb, .inl (E.2.1 0, 160, .inl (fun _ => 0)))]) ?_ rfl rfl rfl
  refine ww_if_eq_t (tgt := 52) C dX5_readAfters_16 (by decide) (rfl) ?_
  refine ww_iconst (v := 1) C dX5_readAfters_52 rfl ?_
  exact ww_zret (u := [(qs, .inr (5, [.ref qt, .ref sa, .ref sb, .ref sc, .ref sd, .int 0, .int 0, .int 0, .int 0, .int 0])), (qt, .inr (10, [.ref tb, .int 0, .int 0, .int 0, .int 0])), (tb, .inl (E.2.1 0, 160, .inl (fun _ => 0)))]) C hT [0, 1, 2] rfl rfl rfl rfl rfl dX5_readAfters_53 (⟨rfl, rfl⟩)
theorem dX5_factOfName_0 : decode cX5_factOfName 0 = .ok (.aload_n 0, 1) := by decide +kernel
theorem dX5_factOfName_1 : decode cX5_factOfName 1 = .ok (.getfield 12, 3) := by decide +kernel
theorem dX5_factOfName_4 : decode cX5_factOfName 4 = .ok (.ldc 116, 2) := by decide +kernel
theorem dX5_factOfName_6 : decode cX5_factOfName 6 = .ok (.invokevirtual 78, 3) := by decide +kernel
theorem dX5_factOfName_9 : decode cX5_factOfName 9 = .ok (.ifCond .eq 5, 3) := by decide +kernel
theorem dX5_factOfName_14 : decode cX5_factOfName 14 = .ok (.aload_n 0, 1) := by decide +kernel
theorem dX5_factOfName_15 : decode cX5_factOfName 15 = .ok (.getfield 12, 3) := by decide +kernel
theorem dX5_factOfName_18 : decode cX5_factOfName 18 = .ok (.ldc 118, 2) := by decide +kernel
theorem dX5_factOfName_20 : decode cX5_factOfName 20 = .ok (.invokevirtual 78, 3) := by decide +kernel
theorem dX5_factOfName_23 : decode cX5_factOfName 23 = .ok (.ifCond .eq 5, 3) := by decide +kernel
theorem dX5_factOfName_28 : decode cX5_factOfName 28 = .ok (.aload_n 0, 1) := by decide +kernel
theorem dX5_factOfName_29 : decode cX5_factOfName 29 = .ok (.getfield 12, 3) := by decide +kernel
theorem dX5_factOfName_32 : decode cX5_factOfName 32 = .ok (.ldc 120, 2) := by decide +kernel
theorem dX5_factOfName_34 : decode cX5_factOfName 34 = .ok (.invokevirtual 78, 3) := by decide +kernel
theorem dX5_factOfName_37 : decode cX5_factOfName 37 = .ok (.ifCond .eq 5, 3) := by decide +kernel
theorem dX5_factOfName_42 : decode cX5_factOfName 42 = .ok (.aload_n 0, 1) := by decide +kernel
theorem dX5_factOfName_43 : decode cX5_factOfName 43 = .ok (.getfield 12, 3) := by decide +kernel
theorem dX5_factOfName_46 : decode cX5_factOfName 46 = .ok (.ldc 122, 2) := by decide +kernel
theorem dX5_factOfName_48 : decode cX5_factOfName 48 = .ok (.invokevirtual 78, 3) := by decide +kernel
theorem dX5_factOfName_51 : decode cX5_factOfName 51 = .ok (.ifCond .eq 8, 3) := by decide +kernel
theorem dX5_factOfName_59 : decode cX5_factOfName 59 = .ok (.iconst 0, 1) := by decide +kernel
theorem dX5_factOfName_60 : decode cX5_factOfName 60 = .ok (.ireturn, 1) := by decide +kernel
set_option maxRecDepth 100000 in
set_option maxHeartbeats 4000000 in
theorem c_factOfName (l : Launch) (E : EV) (qs : Nat) (qt : Nat) (sa : Nat) (sb : Nat) (sc : Nat) (sd : Nat) (tb : Nat)  : CT l yX5_factOfName (Cond.code yX5_factOfName cX5_factOfName 1 (some .int) :: TB) ({ frames := 1, cells := 0, slots := 0, locals := 22 }) E [.ref qs] [(qs, .inr (5, [.ref qt, .ref sa, .ref sb, .ref sc, .ref sd, .int 0, .int 0, .int 0, .int 0, .int 0])), (qt, .inr (10, [.ref tb, .int 0, .int 0, .int 0, .int 0])), (tb, .inl (E.2.1 0, 160, .inl (fun _ => 0)))] (Qi E (fun (r : Int32) u => (r = 0 ∧ u = [(qs, .inr (5, [.ref qt, .ref sa, .ref sb, .ref sc, .ref sd, .int 0, .int 0, .int 0, .int 0, .int 0])), (qt, .inr (10, [.ref tb, .int 0, .int 0, .int 0, .int 0])), (tb, .inl (E.2.1 0, 160, .inl (fun _ => 0)))]))) 0 0 := by
  refine ct_of rfl rfl ?_
  intro X C hT hin
  show WW X 1 E 0 [(0, .ref qs)] [] [(qs, .inr (5, [.ref qt, .ref sa, .ref sb, .ref sc, .ref sd, .int 0, .int 0, .int 0, .int 0, .int 0])), (qt, .inr (10, [.ref tb, .int 0, .int 0, .int 0, .int 0])), (tb, .inl (E.2.1 0, 160, .inl (fun _ => 0)))] 0 0
  refine ww_aload_n C dX5_factOfName_0 0 rfl rfl ?_
  refine ww_get C fg_X5_12 0 rfl rfl dX5_factOfName_1 ?_
  refine ww_ldcS (tx := String.singleton 'p') C (List.mem_of_getElem? (i := 1) rfl) rfl dX5_factOfName_4 ?_
  refine ww_ci (wr := [(qs, .inr (5, [.ref qt, .ref sa, .ref sb, .ref sc, .ref sd, .int 0, .int 0, .int 0, .int 0, .int 0]))]) (k' := 0) (n' := 0) C (run_V (As := [.ref (E.2.2 116)]) (rest := []) C (c_isName X.2.1 E qt (E.2.2 116) tb) mi_X10_isName wl_X5_78 rfl 0 10 rfl rfl rfl rfl rfl dX5_factOfName_6) [1, 2] [0] rfl rfl rfl rfl (fun r u hw => ?_)
  obtain ⟨rfl, rfl⟩ := hw
  refine ww_eq (ws' := [(qs, .inr (5, [.ref qt, .ref sa, .ref sb, .ref sc, .ref sd, .int 0, .int 0, .int 0, .int 0, .int 0])), (qt, .inr (10, [.ref tb, .int 0, .int 0, .int 0, .int 0])), (tb, .inl (E.2.1 0, 160, .inl (fun _ => 0)))]) ?_ rfl rfl rfl
  refine ww_if_eq_t (tgt := 14) C dX5_factOfName_9 (by decide) (rfl) ?_
  refine ww_aload_n C dX5_factOfName_14 0 rfl rfl ?_
  refine ww_get C fg_X5_12 0 rfl rfl dX5_factOfName_15 ?_
  refine ww_ldcS (tx := String.singleton 'q') C (List.mem_of_getElem? (i := 2) rfl) rfl dX5_factOfName_18 ?_
  refine ww_ci (wr := [(qs, .inr (5, [.ref qt, .ref sa, .ref sb, .ref sc, .ref sd, .int 0, .int 0, .int 0, .int 0, .int 0]))]) (k' := 0) (n' := 0) C (run_V (As := [.ref (E.2.2 118)]) (rest := []) C (c_isName X.2.1 E qt (E.2.2 118) tb) mi_X10_isName wl_X5_78 rfl 0 10 rfl rfl rfl rfl rfl dX5_factOfName_20) [1, 2] [0] rfl rfl rfl rfl (fun r u hw => ?_)
  obtain ⟨rfl, rfl⟩ := hw
  refine ww_eq (ws' := [(qs, .inr (5, [.ref qt, .ref sa, .ref sb, .ref sc, .ref sd, .int 0, .int 0, .int 0, .int 0, .int 0])), (qt, .inr (10, [.ref tb, .int 0, .int 0, .int 0, .int 0])), (tb, .inl (E.2.1 0, 160, .inl (fun _ => 0)))]) ?_ rfl rfl rfl
  refine ww_if_eq_t (tgt := 28) C dX5_factOfName_23 (by decide) (rfl) ?_
  refine ww_aload_n C dX5_factOfName_28 0 rfl rfl ?_
  refine ww_get C fg_X5_12 0 rfl rfl dX5_factOfName_29 ?_
  refine ww_ldcS (tx := String.singleton 'r') C (List.mem_of_getElem? (i := 3) rfl) rfl dX5_factOfName_32 ?_
  refine ww_ci (wr := [(qs, .inr (5, [.ref qt, .ref sa, .ref sb, .ref sc, .ref sd, .int 0, .int 0, .int 0, .int 0, .int 0]))]) (k' := 0) (n' := 0) C (run_V (As := [.ref (E.2.2 120)]) (rest := []) C (c_isName X.2.1 E qt (E.2.2 120) tb) mi_X10_isName wl_X5_78 rfl 0 10 rfl rfl rfl rfl rfl dX5_factOfName_34) [1, 2] [0] rfl rfl rfl rfl (fun r u hw => ?_)
  obtain ⟨rfl, rfl⟩ := hw
  refine ww_eq (ws' := [(qs, .inr (5, [.ref qt, .ref sa, .ref sb, .ref sc, .ref sd, .int 0, .int 0, .int 0, .int 0, .int 0])), (qt, .inr (10, [.ref tb, .int 0, .int 0, .int 0, .int 0])), (tb, .inl (E.2.1 0, 160, .inl (fun _ => 0)))]) ?_ rfl rfl rfl
  refine ww_if_eq_t (tgt := 42) C dX5_factOfName_37 (by decide) (rfl) ?_
  refine ww_aload_n C dX5_factOfName_42 0 rfl rfl ?_
  refine ww_get C fg_X5_12 0 rfl rfl dX5_factOfName_43 ?_
  refine ww_ldcS (tx := String.singleton 's') C (List.mem_of_getElem? (i := 4) rfl) rfl dX5_factOfName_46 ?_
  refine ww_ci (wr := [(qs, .inr (5, [.ref qt, .ref sa, .ref sb, .ref sc, .ref sd, .int 0, .int 0, .int 0, .int 0, .int 0]))]) (k' := 0) (n' := 0) C (run_V (As := [.ref (E.2.2 122)]) (rest := []) C (c_isName X.2.1 E qt (E.2.2 122) tb) mi_X10_isName wl_X5_78 rfl 0 10 rfl rfl rfl rfl rfl dX5_factOfName_48) [1, 2] [0] rfl rfl rfl rfl (fun r u hw => ?_)
  obtain ⟨rfl, rfl⟩ := hw
  refine ww_eq (ws' := [(qs, .inr (5, [.ref qt, .ref sa, .ref sb, .ref sc, .ref sd, .int 0, .int 0, .int 0, .int 0, .int 0])), (qt, .inr (10, [.ref tb, .int 0, .int 0, .int 0, .int 0])), (tb, .inl (E.2.1 0, 160, .inl (fun _ => 0)))]) ?_ rfl rfl rfl
  refine ww_if_eq_t (tgt := 59) C dX5_factOfName_51 (by decide) (rfl) ?_
  refine ww_iconst (v := 0) C dX5_factOfName_59 rfl ?_
  exact ww_iret (u := [(qs, .inr (5, [.ref qt, .ref sa, .ref sb, .ref sc, .ref sd, .int 0, .int 0, .int 0, .int 0, .int 0])), (qt, .inr (10, [.ref tb, .int 0, .int 0, .int 0, .int 0])), (tb, .inl (E.2.1 0, 160, .inl (fun _ => 0)))]) C hT [0, 1, 2] rfl rfl rfl rfl dX5_factOfName_60 (⟨rfl, rfl⟩)
theorem dX5_opAboutKnowers_0 : decode cX5_opAboutKnowers 0 = .ok (.aload_n 0, 1) := by decide +kernel
theorem dX5_opAboutKnowers_1 : decode cX5_opAboutKnowers 1 = .ok (.getfield 12, 3) := by decide +kernel
theorem dX5_opAboutKnowers_4 : decode cX5_opAboutKnowers 4 = .ok (.ldc 95, 2) := by decide +kernel
theorem dX5_opAboutKnowers_6 : decode cX5_opAboutKnowers 6 = .ok (.invokevirtual 78, 3) := by decide +kernel
theorem dX5_opAboutKnowers_9 : decode cX5_opAboutKnowers 9 = .ok (.ifCond .ne 15, 3) := by decide +kernel
theorem dX5_opAboutKnowers_12 : decode cX5_opAboutKnowers 12 = .ok (.aload_n 0, 1) := by decide +kernel
theorem dX5_opAboutKnowers_13 : decode cX5_opAboutKnowers 13 = .ok (.getfield 12, 3) := by decide +kernel
theorem dX5_opAboutKnowers_16 : decode cX5_opAboutKnowers 16 = .ok (.ldc 135, 2) := by decide +kernel
theorem dX5_opAboutKnowers_18 : decode cX5_opAboutKnowers 18 = .ok (.invokevirtual 78, 3) := by decide +kernel
theorem dX5_opAboutKnowers_21 : decode cX5_opAboutKnowers 21 = .ok (.ifCond .eq 6, 3) := by decide +kernel
theorem dX5_opAboutKnowers_27 : decode cX5_opAboutKnowers 27 = .ok (.aload_n 0, 1) := by decide +kernel
theorem dX5_opAboutKnowers_28 : decode cX5_opAboutKnowers 28 = .ok (.getfield 12, 3) := by decide +kernel
theorem dX5_opAboutKnowers_31 : decode cX5_opAboutKnowers 31 = .ok (.ldc 137, 2) := by decide +kernel
theorem dX5_opAboutKnowers_33 : decode cX5_opAboutKnowers 33 = .ok (.invokevirtual 78, 3) := by decide +kernel
theorem dX5_opAboutKnowers_36 : decode cX5_opAboutKnowers 36 = .ok (.ifCond .eq 5, 3) := by decide +kernel
theorem dX5_opAboutKnowers_41 : decode cX5_opAboutKnowers 41 = .ok (.aload_n 0, 1) := by decide +kernel
theorem dX5_opAboutKnowers_42 : decode cX5_opAboutKnowers 42 = .ok (.getfield 12, 3) := by decide +kernel
theorem dX5_opAboutKnowers_45 : decode cX5_opAboutKnowers 45 = .ok (.ldc 139, 2) := by decide +kernel
theorem dX5_opAboutKnowers_47 : decode cX5_opAboutKnowers 47 = .ok (.invokevirtual 78, 3) := by decide +kernel
theorem dX5_opAboutKnowers_50 : decode cX5_opAboutKnowers 50 = .ok (.ifCond .eq 6, 3) := by decide +kernel
theorem dX5_opAboutKnowers_56 : decode cX5_opAboutKnowers 56 = .ok (.aload_n 0, 1) := by decide +kernel
theorem dX5_opAboutKnowers_57 : decode cX5_opAboutKnowers 57 = .ok (.getfield 12, 3) := by decide +kernel
theorem dX5_opAboutKnowers_60 : decode cX5_opAboutKnowers 60 = .ok (.ldc 141, 2) := by decide +kernel
theorem dX5_opAboutKnowers_62 : decode cX5_opAboutKnowers 62 = .ok (.invokevirtual 78, 3) := by decide +kernel
theorem dX5_opAboutKnowers_65 : decode cX5_opAboutKnowers 65 = .ok (.ifCond .eq 8, 3) := by decide +kernel
theorem dX5_opAboutKnowers_73 : decode cX5_opAboutKnowers 73 = .ok (.bipush (-4), 2) := by decide +kernel
theorem dX5_opAboutKnowers_75 : decode cX5_opAboutKnowers 75 = .ok (.ireturn, 1) := by decide +kernel
set_option maxRecDepth 100000 in
set_option maxHeartbeats 4000000 in
theorem c_opAboutKnowers (l : Launch) (E : EV) (qs : Nat) (qt : Nat) (sa : Nat) (sb : Nat) (sc : Nat) (sd : Nat) (tb : Nat)  : CT l yX5_opAboutKnowers (Cond.code yX5_opAboutKnowers cX5_opAboutKnowers 1 (some .int) :: TB) ({ frames := 1, cells := 0, slots := 0, locals := 22 }) E [.ref qs] [(qs, .inr (5, [.ref qt, .ref sa, .ref sb, .ref sc, .ref sd, .int 0, .int 0, .int 0, .int 0, .int 0])), (qt, .inr (10, [.ref tb, .int 0, .int 0, .int 0, .int 0])), (tb, .inl (E.2.1 0, 160, .inl (fun _ => 0)))] (Qi E (fun (r : Int32) u => (r = (-4) ∧ u = [(qs, .inr (5, [.ref qt, .ref sa, .ref sb, .ref sc, .ref sd, .int 0, .int 0, .int 0, .int 0, .int 0])), (qt, .inr (10, [.ref tb, .int 0, .int 0, .int 0, .int 0])), (tb, .inl (E.2.1 0, 160, .inl (fun _ => 0)))]))) 0 0 := by
  refine ct_of rfl rfl ?_
  intro X C hT hin
  show WW X 1 E 0 [(0, .ref qs)] [] [(qs, .inr (5, [.ref qt, .ref sa, .ref sb, .ref sc, .ref sd, .int 0, .int 0, .int 0, .int 0, .int 0])), (qt, .inr (10, [.ref tb, .int 0, .int 0, .int 0, .int 0])), (tb, .inl (E.2.1 0, 160, .inl (fun _ => 0)))] 0 0
  refine ww_aload_n C dX5_opAboutKnowers_0 0 rfl rfl ?_
  refine ww_get C fg_X5_12 0 rfl rfl dX5_opAboutKnowers_1 ?_
  refine ww_ldcS (tx := "know") C (List.mem_of_getElem? (i := 9) rfl) rfl dX5_opAboutKnowers_4 ?_
  refine ww_ci (wr := [(qs, .inr (5, [.ref qt, .ref sa, .ref sb, .ref sc, .ref sd, .int 0, .int 0, .int 0, .int 0, .int 0]))]) (k' := 0) (n' := 0) C (run_V (As := [.ref (E.2.2 95)]) (rest := []) C (c_isName X.2.1 E qt (E.2.2 95) tb) mi_X10_isName wl_X5_78 rfl 0 10 rfl rfl rfl rfl rfl dX5_opAboutKnowers_6) [1, 2] [0] rfl rfl rfl rfl (fun r u hw => ?_)
  obtain ⟨rfl, rfl⟩ := hw
  refine ww_eq (ws' := [(qs, .inr (5, [.ref qt, .ref sa, .ref sb, .ref sc, .ref sd, .int 0, .int 0, .int 0, .int 0, .int 0])), (qt, .inr (10, [.ref tb, .int 0, .int 0, .int 0, .int 0])), (tb, .inl (E.2.1 0, 160, .inl (fun _ => 0)))]) ?_ rfl rfl rfl
  refine ww_if_ne_f (tgt := 24) C dX5_opAboutKnowers_9 (by decide) (rfl) ?_
  refine ww_aload_n C dX5_opAboutKnowers_12 0 rfl rfl ?_
  refine ww_get C fg_X5_12 0 rfl rfl dX5_opAboutKnowers_13 ?_
  refine ww_ldcS (tx := "every") C (List.mem_of_getElem? (i := 10) rfl) rfl dX5_opAboutKnowers_16 ?_
  refine ww_ci (wr := [(qs, .inr (5, [.ref qt, .ref sa, .ref sb, .ref sc, .ref sd, .int 0, .int 0, .int 0, .int 0, .int 0]))]) (k' := 0) (n' := 0) C (run_V (As := [.ref (E.2.2 135)]) (rest := []) C (c_isName X.2.1 E qt (E.2.2 135) tb) mi_X10_isName wl_X5_78 rfl 0 10 rfl rfl rfl rfl rfl dX5_opAboutKnowers_18) [1, 2] [0] rfl rfl rfl rfl (fun r u hw => ?_)
  obtain ⟨rfl, rfl⟩ := hw
  refine ww_eq (ws' := [(qs, .inr (5, [.ref qt, .ref sa, .ref sb, .ref sc, .ref sd, .int 0, .int 0, .int 0, .int 0, .int 0])), (qt, .inr (10, [.ref tb, .int 0, .int 0, .int 0, .int 0])), (tb, .inl (E.2.1 0, 160, .inl (fun _ => 0)))]) ?_ rfl rfl rfl
  refine ww_if_eq_t (tgt := 27) C dX5_opAboutKnowers_21 (by decide) (rfl) ?_
  refine ww_aload_n C dX5_opAboutKnowers_27 0 rfl rfl ?_
  refine ww_get C fg_X5_12 0 rfl rfl dX5_opAboutKnowers_28 ?_
  refine ww_ldcS (tx := "whether") C (List.mem_of_getElem? (i := 11) rfl) rfl dX5_opAboutKnowers_31 ?_
  refine ww_ci (wr := [(qs, .inr (5, [.ref qt, .ref sa, .ref sb, .ref sc, .ref sd, .int 0, .int 0, .int 0, .int 0, .int 0]))]) (k' := 0) (n' := 0) C (run_V (As := [.ref (E.2.2 137)]) (rest := []) C (c_isName X.2.1 E qt (E.2.2 137) tb) mi_X10_isName wl_X5_78 rfl 0 10 rfl rfl rfl rfl rfl dX5_opAboutKnowers_33) [1, 2] [0] rfl rfl rfl rfl (fun r u hw => ?_)
  obtain ⟨rfl, rfl⟩ := hw
  refine ww_eq (ws' := [(qs, .inr (5, [.ref qt, .ref sa, .ref sb, .ref sc, .ref sd, .int 0, .int 0, .int 0, .int 0, .int 0])), (qt, .inr (10, [.ref tb, .int 0, .int 0, .int 0, .int 0])), (tb, .inl (E.2.1 0, 160, .inl (fun _ => 0)))]) ?_ rfl rfl rfl
  refine ww_if_eq_t (tgt := 41) C dX5_opAboutKnowers_36 (by decide) (rfl) ?_
  refine ww_aload_n C dX5_opAboutKnowers_41 0 rfl rfl ?_
  refine ww_get C fg_X5_12 0 rfl rfl dX5_opAboutKnowers_42 ?_
  refine ww_ldcS (tx := "common") C (List.mem_of_getElem? (i := 12) rfl) rfl dX5_opAboutKnowers_45 ?_
  refine ww_ci (wr := [(qs, .inr (5, [.ref qt, .ref sa, .ref sb, .ref sc, .ref sd, .int 0, .int 0, .int 0, .int 0, .int 0]))]) (k' := 0) (n' := 0) C (run_V (As := [.ref (E.2.2 139)]) (rest := []) C (c_isName X.2.1 E qt (E.2.2 139) tb) mi_X10_isName wl_X5_78 rfl 0 10 rfl rfl rfl rfl rfl dX5_opAboutKnowers_47) [1, 2] [0] rfl rfl rfl rfl (fun r u hw => ?_)
  obtain ⟨rfl, rfl⟩ := hw
  refine ww_eq (ws' := [(qs, .inr (5, [.ref qt, .ref sa, .ref sb, .ref sc, .ref sd, .int 0, .int 0, .int 0, .int 0, .int 0])), (qt, .inr (10, [.ref tb, .int 0, .int 0, .int 0, .int 0])), (tb, .inl (E.2.1 0, 160, .inl (fun _ => 0)))]) ?_ rfl rfl rfl
  refine ww_if_eq_t (tgt := 56) C dX5_opAboutKnowers_50 (by decide) (rfl) ?_
  refine ww_aload_n C dX5_opAboutKnowers_56 0 rfl rfl ?_
  refine ww_get C fg_X5_12 0 rfl rfl dX5_opAboutKnowers_57 ?_
  refine ww_ldcS (tx := "together") C (List.mem_of_getElem? (i := 13) rfl) rfl dX5_opAboutKnowers_60 ?_
  refine ww_ci (wr := [(qs, .inr (5, [.ref qt, .ref sa, .ref sb, .ref sc, .ref sd, .int 0, .int 0, .int 0, .int 0, .int 0]))]) (k' := 0) (n' := 0) C (run_V (As := [.ref (E.2.2 141)]) (rest := []) C (c_isName X.2.1 E qt (E.2.2 141) tb) mi_X10_isName wl_X5_78 rfl 0 10 rfl rfl rfl rfl rfl dX5_opAboutKnowers_62) [1, 2] [0] rfl rfl rfl rfl (fun r u hw => ?_)
  obtain ⟨rfl, rfl⟩ := hw
  refine ww_eq (ws' := [(qs, .inr (5, [.ref qt, .ref sa, .ref sb, .ref sc, .ref sd, .int 0, .int 0, .int 0, .int 0, .int 0])), (qt, .inr (10, [.ref tb, .int 0, .int 0, .int 0, .int 0])), (tb, .inl (E.2.1 0, 160, .inl (fun _ => 0)))]) ?_ rfl rfl rfl
  refine ww_if_eq_t (tgt := 73) C dX5_opAboutKnowers_65 (by decide) (rfl) ?_
  refine ww_bipush (v := (-4)) C dX5_opAboutKnowers_73 rfl ?_
  exact ww_iret (u := [(qs, .inr (5, [.ref qt, .ref sa, .ref sb, .ref sc, .ref sd, .int 0, .int 0, .int 0, .int 0, .int 0])), (qt, .inr (10, [.ref tb, .int 0, .int 0, .int 0, .int 0])), (tb, .inl (E.2.1 0, 160, .inl (fun _ => 0)))]) C hT [0, 1, 2] rfl rfl rfl rfl dX5_opAboutKnowers_75 (⟨rfl, rfl⟩)
theorem dX5_opOfName_0 : decode cX5_opOfName 0 = .ok (.aload_n 0, 1) := by decide +kernel
theorem dX5_opOfName_1 : decode cX5_opOfName 1 = .ok (.invokevirtual 92, 3) := by decide +kernel
theorem wl_X5_92 : Cond.methodLink RX5 92 yX5_factOfName ∈ TB := tbm (tq3 (List.mem_of_getElem? (i := 106) (by decide +kernel))) (by decide +kernel)
theorem wc_X5_factOfName : Cond.code yX5_factOfName cX5_factOfName 1 (some .int) ∈ TB := tbm (tq3 (List.mem_of_getElem? (i := 109) (rfl))) (by decide +kernel)
theorem wi_X5_factOfName : Cond.instanceMethod yX5_factOfName ∈ TB := tbm (tq3 (List.mem_of_getElem? (i := 108) (by decide +kernel))) (by decide +kernel)
theorem ws_X5_factOfName : Cond.selects RX5 yX5_factOfName yX5_factOfName ∈ TB := tbm (tq0 (List.mem_of_getElem? (i := 10) (by decide +kernel))) (by decide +kernel)
theorem mi_X5_factOfName : MI yX5_factOfName cX5_factOfName 1 (some .int) 0 := ⟨wc_X5_factOfName, wn_X5, ⟨by decide +kernel, by decide +kernel, by decide +kernel⟩, wi_X5_factOfName, ws_X5_factOfName⟩
theorem dX5_opOfName_4 : decode cX5_opOfName 4 = .ok (.ifCond .eq 5, 3) := by decide +kernel
theorem dX5_opOfName_9 : decode cX5_opOfName 9 = .ok (.aload_n 0, 1) := by decide +kernel
theorem dX5_opOfName_10 : decode cX5_opOfName 10 = .ok (.getfield 12, 3) := by decide +kernel
theorem dX5_opOfName_13 : decode cX5_opOfName 13 = .ok (.ldc 124, 2) := by decide +kernel
theorem dX5_opOfName_15 : decode cX5_opOfName 15 = .ok (.invokevirtual 78, 3) := by decide +kernel
theorem dX5_opOfName_18 : decode cX5_opOfName 18 = .ok (.ifCond .eq 5, 3) := by decide +kernel
theorem dX5_opOfName_23 : decode cX5_opOfName 23 = .ok (.aload_n 0, 1) := by decide +kernel
theorem dX5_opOfName_24 : decode cX5_opOfName 24 = .ok (.getfield 12, 3) := by decide +kernel
theorem dX5_opOfName_27 : decode cX5_opOfName 27 = .ok (.ldc 126, 2) := by decide +kernel
theorem dX5_opOfName_29 : decode cX5_opOfName 29 = .ok (.invokevirtual 78, 3) := by decide +kernel
theorem dX5_opOfName_32 : decode cX5_opOfName 32 = .ok (.ifCond .eq 5, 3) := by decide +kernel
theorem dX5_opOfName_37 : decode cX5_opOfName 37 = .ok (.aload_n 0, 1) := by decide +kernel
theorem dX5_opOfName_38 : decode cX5_opOfName 38 = .ok (.getfield 12, 3) := by decide +kernel
theorem dX5_opOfName_41 : decode cX5_opOfName 41 = .ok (.ldc 128, 2) := by decide +kernel
theorem dX5_opOfName_43 : decode cX5_opOfName 43 = .ok (.invokevirtual 78, 3) := by decide +kernel
theorem dX5_opOfName_46 : decode cX5_opOfName 46 = .ok (.ifCond .eq 5, 3) := by decide +kernel
theorem dX5_opOfName_51 : decode cX5_opOfName 51 = .ok (.aload_n 0, 1) := by decide +kernel
theorem dX5_opOfName_52 : decode cX5_opOfName 52 = .ok (.getfield 12, 3) := by decide +kernel
theorem dX5_opOfName_55 : decode cX5_opOfName 55 = .ok (.ldc 130, 2) := by decide +kernel
theorem dX5_opOfName_57 : decode cX5_opOfName 57 = .ok (.invokevirtual 78, 3) := by decide +kernel
theorem dX5_opOfName_60 : decode cX5_opOfName 60 = .ok (.ifCond .eq 5, 3) := by decide +kernel
theorem dX5_opOfName_65 : decode cX5_opOfName 65 = .ok (.aload_n 0, 1) := by decide +kernel
theorem dX5_opOfName_66 : decode cX5_opOfName 66 = .ok (.invokevirtual 132, 3) := by decide +kernel
theorem wl_X5_132 : Cond.methodLink RX5 132 yX5_opAboutKnowers ∈ TB := tbm (tq3 (List.mem_of_getElem? (i := 118) (by decide +kernel))) (by decide +kernel)
theorem wc_X5_opAboutKnowers : Cond.code yX5_opAboutKnowers cX5_opAboutKnowers 1 (some .int) ∈ TB := tbm (tq3 (List.mem_of_getElem? (i := 121) (rfl))) (by decide +kernel)
theorem wi_X5_opAboutKnowers : Cond.instanceMethod yX5_opAboutKnowers ∈ TB := tbm (tq3 (List.mem_of_getElem? (i := 120) (by decide +kernel))) (by decide +kernel)
theorem ws_X5_opAboutKnowers : Cond.selects RX5 yX5_opAboutKnowers yX5_opAboutKnowers ∈ TB := tbm (tq0 (List.mem_of_getElem? (i := 11) (by decide +kernel))) (by decide +kernel)
theorem mi_X5_opAboutKnowers : MI yX5_opAboutKnowers cX5_opAboutKnowers 1 (some .int) 0 := ⟨wc_X5_opAboutKnowers, wn_X5, ⟨by decide +kernel, by decide +kernel, by decide +kernel⟩, wi_X5_opAboutKnowers, ws_X5_opAboutKnowers⟩
theorem dX5_opOfName_69 : decode cX5_opOfName 69 = .ok (.ireturn, 1) := by decide +kernel
set_option maxRecDepth 100000 in
set_option maxHeartbeats 4000000 in
theorem c_opOfName (l : Launch) (E : EV) (qs : Nat) (qt : Nat) (sa : Nat) (sb : Nat) (sc : Nat) (sd : Nat) (tb : Nat)  : CT l yX5_opOfName (Cond.code yX5_opOfName cX5_opOfName 1 (some .int) :: TB) ({ frames := 2, cells := 0, slots := 0, locals := 42 }) E [.ref qs] [(qs, .inr (5, [.ref qt, .ref sa, .ref sb, .ref sc, .ref sd, .int 0, .int 0, .int 0, .int 0, .int 0])), (qt, .inr (10, [.ref tb, .int 0, .int 0, .int 0, .int 0])), (tb, .inl (E.2.1 0, 160, .inl (fun _ => 0)))] (Qi E (fun (r : Int32) u => (r = (-4) ∧ u = [(qs, .inr (5, [.ref qt, .ref sa, .ref sb, .ref sc, .ref sd, .int 0, .int 0, .int 0, .int 0, .int 0])), (qt, .inr (10, [.ref tb, .int 0, .int 0, .int 0, .int 0])), (tb, .inl (E.2.1 0, 160, .inl (fun _ => 0)))]))) 0 0 := by
  refine ct_of rfl rfl ?_
  intro X C hT hin
  show WW X 1 E 0 [(0, .ref qs)] [] [(qs, .inr (5, [.ref qt, .ref sa, .ref sb, .ref sc, .ref sd, .int 0, .int 0, .int 0, .int 0, .int 0])), (qt, .inr (10, [.ref tb, .int 0, .int 0, .int 0, .int 0])), (tb, .inl (E.2.1 0, 160, .inl (fun _ => 0)))] 0 0
  refine ww_aload_n C dX5_opOfName_0 0 rfl rfl ?_
  refine ww_ci (wr := []) (k' := 0) (n' := 0) C (run_V (As := []) (rest := []) C (c_factOfName X.2.1 E qs qt sa sb sc sd tb) mi_X5_factOfName wl_X5_92 rfl 0 5 rfl rfl rfl rfl rfl dX5_opOfName_1) [0, 1, 2] [] rfl rfl rfl rfl (fun r u hw => ?_)
  obtain ⟨rfl, rfl⟩ := hw
  refine ww_eq (ws' := [(qs, .inr (5, [.ref qt, .ref sa, .ref sb, .ref sc, .ref sd, .int 0, .int 0, .int 0, .int 0, .int 0])), (qt, .inr (10, [.ref tb, .int 0, .int 0, .int 0, .int 0])), (tb, .inl (E.2.1 0, 160, .inl (fun _ => 0)))]) ?_ rfl rfl rfl
  refine ww_if_eq_t (tgt := 9) C dX5_opOfName_4 (by decide) (rfl) ?_
  refine ww_aload_n C dX5_opOfName_9 0 rfl rfl ?_
  refine ww_get C fg_X5_12 0 rfl rfl dX5_opOfName_10 ?_
  refine ww_ldcS (tx := "yes") C (List.mem_of_getElem? (i := 5) rfl) rfl dX5_opOfName_13 ?_
  refine ww_ci (wr := [(qs, .inr (5, [.ref qt, .ref sa, .ref sb, .ref sc, .ref sd, .int 0, .int 0, .int 0, .int 0, .int 0]))]) (k' := 0) (n' := 0) C (run_V (As := [.ref (E.2.2 124)]) (rest := []) C (c_isName X.2.1 E qt (E.2.2 124) tb) mi_X10_isName wl_X5_78 rfl 0 10 rfl rfl rfl rfl rfl dX5_opOfName_15) [1, 2] [0] rfl rfl rfl rfl (fun r u hw => ?_)
  obtain ⟨rfl, rfl⟩ := hw
  refine ww_eq (ws' := [(qs, .inr (5, [.ref qt, .ref sa, .ref sb, .ref sc, .ref sd, .int 0, .int 0, .int 0, .int 0, .int 0])), (qt, .inr (10, [.ref tb, .int 0, .int 0, .int 0, .int 0])), (tb, .inl (E.2.1 0, 160, .inl (fun _ => 0)))]) ?_ rfl rfl rfl
  refine ww_if_eq_t (tgt := 23) C dX5_opOfName_18 (by decide) (rfl) ?_
  refine ww_aload_n C dX5_opOfName_23 0 rfl rfl ?_
  refine ww_get C fg_X5_12 0 rfl rfl dX5_opOfName_24 ?_
  refine ww_ldcS (tx := "not") C (List.mem_of_getElem? (i := 6) rfl) rfl dX5_opOfName_27 ?_
  refine ww_ci (wr := [(qs, .inr (5, [.ref qt, .ref sa, .ref sb, .ref sc, .ref sd, .int 0, .int 0, .int 0, .int 0, .int 0]))]) (k' := 0) (n' := 0) C (run_V (As := [.ref (E.2.2 126)]) (rest := []) C (c_isName X.2.1 E qt (E.2.2 126) tb) mi_X10_isName wl_X5_78 rfl 0 10 rfl rfl rfl rfl rfl dX5_opOfName_29) [1, 2] [0] rfl rfl rfl rfl (fun r u hw => ?_)
  obtain ⟨rfl, rfl⟩ := hw
  refine ww_eq (ws' := [(qs, .inr (5, [.ref qt, .ref sa, .ref sb, .ref sc, .ref sd, .int 0, .int 0, .int 0, .int 0, .int 0])), (qt, .inr (10, [.ref tb, .int 0, .int 0, .int 0, .int 0])), (tb, .inl (E.2.1 0, 160, .inl (fun _ => 0)))]) ?_ rfl rfl rfl
  refine ww_if_eq_t (tgt := 37) C dX5_opOfName_32 (by decide) (rfl) ?_
  refine ww_aload_n C dX5_opOfName_37 0 rfl rfl ?_
  refine ww_get C fg_X5_12 0 rfl rfl dX5_opOfName_38 ?_
  refine ww_ldcS (tx := "and") C (List.mem_of_getElem? (i := 7) rfl) rfl dX5_opOfName_41 ?_
  refine ww_ci (wr := [(qs, .inr (5, [.ref qt, .ref sa, .ref sb, .ref sc, .ref sd, .int 0, .int 0, .int 0, .int 0, .int 0]))]) (k' := 0) (n' := 0) C (run_V (As := [.ref (E.2.2 128)]) (rest := []) C (c_isName X.2.1 E qt (E.2.2 128) tb) mi_X10_isName wl_X5_78 rfl 0 10 rfl rfl rfl rfl rfl dX5_opOfName_43) [1, 2] [0] rfl rfl rfl rfl (fun r u hw => ?_)
  obtain ⟨rfl, rfl⟩ := hw
  refine ww_eq (ws' := [(qs, .inr (5, [.ref qt, .ref sa, .ref sb, .ref sc, .ref sd, .int 0, .int 0, .int 0, .int 0, .int 0])), (qt, .inr (10, [.ref tb, .int 0, .int 0, .int 0, .int 0])), (tb, .inl (E.2.1 0, 160, .inl (fun _ => 0)))]) ?_ rfl rfl rfl
  refine ww_if_eq_t (tgt := 51) C dX5_opOfName_46 (by decide) (rfl) ?_
  refine ww_aload_n C dX5_opOfName_51 0 rfl rfl ?_
  refine ww_get C fg_X5_12 0 rfl rfl dX5_opOfName_52 ?_
  refine ww_ldcS (tx := "or") C (List.mem_of_getElem? (i := 8) rfl) rfl dX5_opOfName_55 ?_
  refine ww_ci (wr := [(qs, .inr (5, [.ref qt, .ref sa, .ref sb, .ref sc, .ref sd, .int 0, .int 0, .int 0, .int 0, .int 0]))]) (k' := 0) (n' := 0) C (run_V (As := [.ref (E.2.2 130)]) (rest := []) C (c_isName X.2.1 E qt (E.2.2 130) tb) mi_X10_isName wl_X5_78 rfl 0 10 rfl rfl rfl rfl rfl dX5_opOfName_57) [1, 2] [0] rfl rfl rfl rfl (fun r u hw => ?_)
  obtain ⟨rfl, rfl⟩ := hw
  refine ww_eq (ws' := [(qs, .inr (5, [.ref qt, .ref sa, .ref sb, .ref sc, .ref sd, .int 0, .int 0, .int 0, .int 0, .int 0])), (qt, .inr (10, [.ref tb, .int 0, .int 0, .int 0, .int 0])), (tb, .inl (E.2.1 0, 160, .inl (fun _ => 0)))]) ?_ rfl rfl rfl
  refine ww_if_eq_t (tgt := 65) C dX5_opOfName_60 (by decide) (rfl) ?_
  refine ww_aload_n C dX5_opOfName_65 0 rfl rfl ?_
  refine ww_ci (wr := []) (k' := 0) (n' := 0) C (run_V (As := []) (rest := []) C (c_opAboutKnowers X.2.1 E qs qt sa sb sc sd tb) mi_X5_opAboutKnowers wl_X5_132 rfl 0 5 rfl rfl rfl rfl rfl dX5_opOfName_66) [0, 1, 2] [] rfl rfl rfl rfl (fun r u hw => ?_)
  obtain ⟨rfl, rfl⟩ := hw
  refine ww_eq (ws' := [(qs, .inr (5, [.ref qt, .ref sa, .ref sb, .ref sc, .ref sd, .int 0, .int 0, .int 0, .int 0, .int 0])), (qt, .inr (10, [.ref tb, .int 0, .int 0, .int 0, .int 0])), (tb, .inl (E.2.1 0, 160, .inl (fun _ => 0)))]) ?_ rfl rfl rfl
  exact ww_iret (u := [(qs, .inr (5, [.ref qt, .ref sa, .ref sb, .ref sc, .ref sd, .int 0, .int 0, .int 0, .int 0, .int 0])), (qt, .inr (10, [.ref tb, .int 0, .int 0, .int 0, .int 0])), (tb, .inl (E.2.1 0, 160, .inl (fun _ => 0)))]) C hT [0, 1, 2] rfl rfl rfl rfl dX5_opOfName_69 (⟨rfl, rfl⟩)
theorem dX5_readSaying_0 : decode cX5_readSaying 0 = .ok (.iconst 1, 1) := by decide +kernel
theorem dX5_readSaying_1 : decode cX5_readSaying 1 = .ok (.istore_n 1, 1) := by decide +kernel
theorem dX5_readSaying_2 : decode cX5_readSaying 2 = .ok (.iconst 0, 1) := by decide +kernel
theorem dX5_readSaying_3 : decode cX5_readSaying 3 = .ok (.istore_n 2, 1) := by decide +kernel
theorem dX5_readSaying_4 : decode cX5_readSaying 4 = .ok (.iload_n 2, 1) := by decide +kernel
theorem dX5_readSaying_5 : decode cX5_readSaying 5 = .ok (.bipush 32, 2) := by decide +kernel
theorem dX5_readSaying_7 : decode cX5_readSaying 7 = .ok (.if_icmp .gt 141, 3) := by decide +kernel
theorem dX5_readSaying_10 : decode cX5_readSaying 10 = .ok (.iload_n 1, 1) := by decide +kernel
theorem dX5_readSaying_11 : decode cX5_readSaying 11 = .ok (.ifCond .le 137, 3) := by decide +kernel
theorem dX5_readSaying_14 : decode cX5_readSaying 14 = .ok (.aload_n 0, 1) := by decide +kernel
theorem dX5_readSaying_15 : decode cX5_readSaying 15 = .ok (.invokevirtual 89, 3) := by decide +kernel
theorem wl_X5_89 : Cond.methodLink RX5 89 yX5_opOfName ∈ TB := tbm (tq3 (List.mem_of_getElem? (i := 102) (by decide +kernel))) (by decide +kernel)
theorem wc_X5_opOfName : Cond.code yX5_opOfName cX5_opOfName 1 (some .int) ∈ TB := tbm (tq3 (List.mem_of_getElem? (i := 105) (rfl))) (by decide +kernel)
theorem wi_X5_opOfName : Cond.instanceMethod yX5_opOfName ∈ TB := tbm (tq3 (List.mem_of_getElem? (i := 104) (by decide +kernel))) (by decide +kernel)
theorem ws_X5_opOfName : Cond.selects RX5 yX5_opOfName yX5_opOfName ∈ TB := tbm (tq0 (List.mem_of_getElem? (i := 9) (by decide +kernel))) (by decide +kernel)
theorem mi_X5_opOfName : MI yX5_opOfName cX5_opOfName 1 (some .int) 0 := ⟨wc_X5_opOfName, wn_X5, ⟨by decide +kernel, by decide +kernel, by decide +kernel⟩, wi_X5_opOfName, ws_X5_opOfName⟩
theorem dX5_readSaying_18 : decode cX5_readSaying 18 = .ok (.istore_n 3, 1) := by decide +kernel
theorem dX5_readSaying_19 : decode cX5_readSaying 19 = .ok (.iload_n 3, 1) := by decide +kernel
theorem dX5_readSaying_20 : decode cX5_readSaying 20 = .ok (.bipush (-4), 2) := by decide +kernel
theorem dX5_readSaying_22 : decode cX5_readSaying 22 = .ok (.if_icmp .ne 9, 3) := by decide +kernel
theorem dX5_readSaying_25 : decode cX5_readSaying 25 = .ok (.aload_n 0, 1) := by decide +kernel
theorem dX5_readSaying_26 : decode cX5_readSaying 26 = .ok (.iconst 2, 1) := by decide +kernel
theorem dX5_readSaying_27 : decode cX5_readSaying 27 = .ok (.invokevirtual 63, 3) := by decide +kernel
theorem wl_X5_63 : Cond.methodLink RX5 63 yX5_fail ∈ TB := tbm (tq3 (List.mem_of_getElem? (i := 29) (by decide +kernel))) (by decide +kernel)
theorem wc_X5_fail : Cond.code yX5_fail cX5_fail 2 (some .boolean) ∈ TB := tbm (tq3 (List.mem_of_getElem? (i := 32) (rfl))) (by decide +kernel)
theorem wi_X5_fail : Cond.instanceMethod yX5_fail ∈ TB := tbm (tq3 (List.mem_of_getElem? (i := 31) (by decide +kernel))) (by decide +kernel)
theorem ws_X5_fail : Cond.selects RX5 yX5_fail yX5_fail ∈ TB := tbm (tq0 (List.mem_of_getElem? (i := 5) (by decide +kernel))) (by decide +kernel)
theorem mi_X5_fail : MI yX5_fail cX5_fail 2 (some .boolean) 1 := ⟨wc_X5_fail, wn_X5, ⟨by decide +kernel, by decide +kernel, by decide +kernel⟩, wi_X5_fail, ws_X5_fail⟩
theorem dX5_readSaying_30 : decode cX5_readSaying 30 = .ok (.ireturn, 1) := by decide +kernel
set_option maxRecDepth 100000 in
set_option maxHeartbeats 4000000 in
theorem c_readSaying (l : Launch) (E : EV) (qs : Nat) (qt : Nat) (sa : Nat) (sb : Nat) (sc : Nat) (sd : Nat) (tb : Nat)  : CT l yX5_readSaying (Cond.code yX5_readSaying cX5_readSaying 6 (some .boolean) :: TB) ({ frames := 3, cells := 0, slots := 0, locals := 62 }) E [.ref qs] [(qs, .inr (5, [.ref qt, .ref sa, .ref sb, .ref sc, .ref sd, .int 0, .int 0, .int 0, .int 0, .int 0])), (qt, .inr (10, [.ref tb, .int 0, .int 0, .int 0, .int 0])), (tb, .inl (E.2.1 0, 160, .inl (fun _ => 0)))] (Qi E (fun (r : Int32) u => (r = 0 ∧ u = [(qs, .inr (5, [.ref qt, .ref sa, .ref sb, .ref sc, .ref sd, .int 0, .int 0, .int 0, .int 2, .int 0])), (qt, .inr (10, [.ref tb, .int 0, .int 0, .int 0, .int 0])), (tb, .inl (E.2.1 0, 160, .inl (fun _ => 0)))]))) 0 0 := by
  refine ct_of rfl rfl ?_
  intro X C hT hin
  show WW X 6 E 0 [(0, .ref qs)] [] [(qs, .inr (5, [.ref qt, .ref sa, .ref sb, .ref sc, .ref sd, .int 0, .int 0, .int 0, .int 0, .int 0])), (qt, .inr (10, [.ref tb, .int 0, .int 0, .int 0, .int 0])), (tb, .inl (E.2.1 0, 160, .inl (fun _ => 0)))] 0 0
  refine ww_iconst (v := 1) C dX5_readSaying_0 rfl ?_
  refine ww_istore_n (lv' := [(1, .int 1), (0, .ref qs)]) C dX5_readSaying_1 rfl rfl rfl ?_
  refine ww_iconst (v := 0) C dX5_readSaying_2 rfl ?_
  refine ww_istore_n (lv' := [(2, .int 0), (1, .int 1), (0, .ref qs)]) C dX5_readSaying_3 rfl rfl rfl ?_
  refine ww_iload_n C dX5_readSaying_4 0 rfl rfl ?_
  refine ww_bipush (v := 32) C dX5_readSaying_5 rfl ?_
  refine ww_icmp_gt_f (tgt := 148) C dX5_readSaying_7 (by decide) (by decide) ?_
  refine ww_iload_n C dX5_readSaying_10 1 rfl rfl ?_
  refine ww_if_le_f (tgt := 148) C dX5_readSaying_11 (by decide) (by decide) ?_
  refine ww_aload_n C dX5_readSaying_14 2 rfl rfl ?_
  refine ww_ci (wr := []) (k' := 0) (n' := 0) C (run_V (As := []) (rest := []) C (c_opOfName X.2.1 E qs qt sa sb sc sd tb) mi_X5_opOfName wl_X5_89 rfl 0 5 rfl rfl rfl rfl rfl dX5_readSaying_15) [0, 1, 2] [] rfl rfl rfl rfl (fun r u hw => ?_)
  obtain ⟨rfl, rfl⟩ := hw
  refine ww_eq (ws' := [(qs, .inr (5, [.ref qt, .ref sa, .ref sb, .ref sc, .ref sd, .int 0, .int 0, .int 0, .int 0, .int 0])), (qt, .inr (10, [.ref tb, .int 0, .int 0, .int 0, .int 0])), (tb, .inl (E.2.1 0, 160, .inl (fun _ => 0)))]) ?_ rfl rfl rfl
  refine ww_istore_n (lv' := [(3, .int (-4)), (2, .int 0), (1, .int 1), (0, .ref qs)]) C dX5_readSaying_18 rfl rfl rfl ?_
  refine ww_iload_n C dX5_readSaying_19 0 rfl rfl ?_
  refine ww_bipush (v := (-4)) C dX5_readSaying_20 rfl ?_
  refine ww_icmp_ne_f (tgt := 31) C dX5_readSaying_22 (by decide) (rfl) ?_
  refine ww_aload_n C dX5_readSaying_25 3 rfl rfl ?_
  refine ww_iconst (v := 2) C dX5_readSaying_26 rfl ?_
  refine ww_ci (wr := []) (k' := 0) (n' := 0) C (run_V (As := [.int 2]) (rest := []) C (c_fail2 X.2.1 E qs qt sa sb sc sd tb) mi_X5_fail wl_X5_63 rfl 0 5 rfl rfl rfl rfl rfl dX5_readSaying_27) [0, 1, 2] [] rfl rfl rfl rfl (fun r u hw => ?_)
  obtain ⟨rfl, rfl⟩ := hw
  refine ww_eq (ws' := [(qs, .inr (5, [.ref qt, .ref sa, .ref sb, .ref sc, .ref sd, .int 0, .int 0, .int 0, .int 2, .int 0])), (qt, .inr (10, [.ref tb, .int 0, .int 0, .int 0, .int 0])), (tb, .inl (E.2.1 0, 160, .inl (fun _ => 0)))]) ?_ rfl rfl rfl
  exact ww_zret (u := [(qs, .inr (5, [.ref qt, .ref sa, .ref sb, .ref sc, .ref sd, .int 0, .int 0, .int 0, .int 2, .int 0])), (qt, .inr (10, [.ref tb, .int 0, .int 0, .int 0, .int 0])), (tb, .inl (E.2.1 0, 160, .inl (fun _ => 0)))]) C hT [0, 1, 2] rfl rfl rfl rfl rfl dX5_readSaying_30 (⟨rfl, rfl⟩)
theorem dX5_parse_0 : decode cX5_parse 0 = .ok (.aload_n 0, 1) := by decide +kernel
theorem dX5_parse_1 : decode cX5_parse 1 = .ok (.iconst 0, 1) := by decide +kernel
theorem dX5_parse_2 : decode cX5_parse 2 = .ok (.putfield 31, 3) := by decide +kernel
theorem wf_X5_31 : Cond.fieldLink RX5 31 RX5 "nodes" "I" ∈ TB := tbm (tq1 (List.mem_of_getElem? (i := 104) (by decide +kernel))) (by decide +kernel)
theorem fp_X5_31 : FP RX5 31 5 5 .int false := ⟨RX5, TX5, 10, tyX5, uw_X5, wf_X5_31, rfl, by decide, rfl, tyX5_ok, nmX5, rfl, by decide +kernel⟩
theorem dX5_parse_5 : decode cX5_parse 5 = .ok (.aload_n 0, 1) := by decide +kernel
theorem dX5_parse_6 : decode cX5_parse 6 = .ok (.iconst 0, 1) := by decide +kernel
theorem dX5_parse_7 : decode cX5_parse 7 = .ok (.putfield 35, 3) := by decide +kernel
theorem wf_X5_35 : Cond.fieldLink RX5 35 RX5 "tokens" "I" ∈ TB := tbm (tq1 (List.mem_of_getElem? (i := 105) (by decide +kernel))) (by decide +kernel)
theorem fp_X5_35 : FP RX5 35 5 6 .int false := ⟨RX5, TX5, 10, tyX5, uw_X5, wf_X5_35, rfl, by decide, rfl, tyX5_ok, nmX5, rfl, by decide +kernel⟩
theorem dX5_parse_10 : decode cX5_parse 10 = .ok (.aload_n 0, 1) := by decide +kernel
theorem dX5_parse_11 : decode cX5_parse 11 = .ok (.iconst 0, 1) := by decide +kernel
theorem dX5_parse_12 : decode cX5_parse 12 = .ok (.putfield 38, 3) := by decide +kernel
theorem wf_X5_38 : Cond.fieldLink RX5 38 RX5 "afters" "I" ∈ TB := tbm (tq1 (List.mem_of_getElem? (i := 106) (by decide +kernel))) (by decide +kernel)
theorem fp_X5_38 : FP RX5 38 5 7 .int false := ⟨RX5, TX5, 10, tyX5, uw_X5, wf_X5_38, rfl, by decide, rfl, tyX5_ok, nmX5, rfl, by decide +kernel⟩
theorem dX5_parse_15 : decode cX5_parse 15 = .ok (.aload_n 0, 1) := by decide +kernel
theorem dX5_parse_16 : decode cX5_parse 16 = .ok (.iconst 0, 1) := by decide +kernel
theorem dX5_parse_17 : decode cX5_parse 17 = .ok (.putfield 41, 3) := by decide +kernel
theorem dX5_parse_20 : decode cX5_parse 20 = .ok (.aload_n 0, 1) := by decide +kernel
theorem dX5_parse_21 : decode cX5_parse 21 = .ok (.iconst 0, 1) := by decide +kernel
theorem dX5_parse_22 : decode cX5_parse 22 = .ok (.putfield 44, 3) := by decide +kernel
theorem dX5_parse_25 : decode cX5_parse 25 = .ok (.aload_n 0, 1) := by decide +kernel
theorem dX5_parse_26 : decode cX5_parse 26 = .ok (.getfield 12, 3) := by decide +kernel
theorem dX5_parse_29 : decode cX5_parse 29 = .ok (.invokevirtual 47, 3) := by decide +kernel
theorem wl_X5_47 : Cond.methodLink RX5 47 yX10_rewind ∈ TB := tbm (tq3 (List.mem_of_getElem? (i := 10) (by decide +kernel))) (by decide +kernel)
theorem wc_X10_rewind : Cond.code yX10_rewind cX10_rewind 1 none ∈ TB := tbm (tq3 (List.mem_of_getElem? (i := 13) (rfl))) (by decide +kernel)
theorem wi_X10_rewind : Cond.instanceMethod yX10_rewind ∈ TB := tbm (tq3 (List.mem_of_getElem? (i := 11) (by decide +kernel))) (by decide +kernel)
theorem ws_X10_rewind : Cond.selects RX10 yX10_rewind yX10_rewind ∈ TB := tbm (tq3 (List.mem_of_getElem? (i := 12) (by decide +kernel))) (by decide +kernel)
theorem mi_X10_rewind : MI yX10_rewind cX10_rewind 1 none 0 := ⟨wc_X10_rewind, wn_X10, ⟨by decide +kernel, by decide +kernel, by decide +kernel⟩, wi_X10_rewind, ws_X10_rewind⟩
theorem dX5_parse_32 : decode cX5_parse 32 = .ok (.aload_n 0, 1) := by decide +kernel
theorem dX5_parse_33 : decode cX5_parse 33 = .ok (.invokevirtual 50, 3) := by decide +kernel
theorem wl_X5_50 : Cond.methodLink RX5 50 yX5_next ∈ TB := tbm (tq3 (List.mem_of_getElem? (i := 14) (by decide +kernel))) (by decide +kernel)
theorem wc_X5_next : Cond.code yX5_next cX5_next 1 (some .boolean) ∈ TB := tbm (tq3 (List.mem_of_getElem? (i := 17) (rfl))) (by decide +kernel)
theorem wi_X5_next : Cond.instanceMethod yX5_next ∈ TB := tbm (tq3 (List.mem_of_getElem? (i := 16) (by decide +kernel))) (by decide +kernel)
theorem ws_X5_next : Cond.selects RX5 yX5_next yX5_next ∈ TB := tbm (tq0 (List.mem_of_getElem? (i := 3) (by decide +kernel))) (by decide +kernel)
theorem mi_X5_next : MI yX5_next cX5_next 1 (some .boolean) 0 := ⟨wc_X5_next, wn_X5, ⟨by decide +kernel, by decide +kernel, by decide +kernel⟩, wi_X5_next, ws_X5_next⟩
theorem dX5_parse_36 : decode cX5_parse 36 = .ok (.ifCond .eq 17, 3) := by decide +kernel
theorem dX5_parse_39 : decode cX5_parse 39 = .ok (.aload_n 0, 1) := by decide +kernel
theorem dX5_parse_40 : decode cX5_parse 40 = .ok (.invokevirtual 54, 3) := by decide +kernel
theorem wl_X5_54 : Cond.methodLink RX5 54 yX5_readAfters ∈ TB := tbm (tq3 (List.mem_of_getElem? (i := 33) (by decide +kernel))) (by decide +kernel)
theorem wc_X5_readAfters : Cond.code yX5_readAfters cX5_readAfters 2 (some .boolean) ∈ TB := tbm (tq3 (List.mem_of_getElem? (i := 36) (rfl))) (by decide +kernel)
theorem wi_X5_readAfters : Cond.instanceMethod yX5_readAfters ∈ TB := tbm (tq3 (List.mem_of_getElem? (i := 35) (by decide +kernel))) (by decide +kernel)
theorem ws_X5_readAfters : Cond.selects RX5 yX5_readAfters yX5_readAfters ∈ TB := tbm (tq0 (List.mem_of_getElem? (i := 6) (by decide +kernel))) (by decide +kernel)
theorem mi_X5_readAfters : MI yX5_readAfters cX5_readAfters 2 (some .boolean) 0 := ⟨wc_X5_readAfters, wn_X5, ⟨by decide +kernel, by decide +kernel, by decide +kernel⟩, wi_X5_readAfters, ws_X5_readAfters⟩
theorem dX5_parse_43 : decode cX5_parse 43 = .ok (.ifCond .eq 10, 3) := by decide +kernel
theorem dX5_parse_46 : decode cX5_parse 46 = .ok (.aload_n 0, 1) := by decide +kernel
theorem dX5_parse_47 : decode cX5_parse 47 = .ok (.invokevirtual 57, 3) := by decide +kernel
theorem wl_X5_57 : Cond.methodLink RX5 57 yX5_readSaying ∈ TB := tbm (tq3 (List.mem_of_getElem? (i := 98) (by decide +kernel))) (by decide +kernel)
theorem wc_X5_readSaying : Cond.code yX5_readSaying cX5_readSaying 6 (some .boolean) ∈ TB := tbm (tq3 (List.mem_of_getElem? (i := 101) (rfl))) (by decide +kernel)
theorem wi_X5_readSaying : Cond.instanceMethod yX5_readSaying ∈ TB := tbm (tq3 (List.mem_of_getElem? (i := 100) (by decide +kernel))) (by decide +kernel)
theorem ws_X5_readSaying : Cond.selects RX5 yX5_readSaying yX5_readSaying ∈ TB := tbm (tq0 (List.mem_of_getElem? (i := 8) (by decide +kernel))) (by decide +kernel)
theorem mi_X5_readSaying : MI yX5_readSaying cX5_readSaying 6 (some .boolean) 0 := ⟨wc_X5_readSaying, wn_X5, ⟨by decide +kernel, by decide +kernel, by decide +kernel⟩, wi_X5_readSaying, ws_X5_readSaying⟩
theorem dX5_parse_50 : decode cX5_parse 50 = .ok (.ifCond .ne 5, 3) := by decide +kernel
theorem dX5_parse_53 : decode cX5_parse 53 = .ok (.aconst_null, 1) := by decide +kernel
theorem dX5_parse_54 : decode cX5_parse 54 = .ok (.areturn, 1) := by decide +kernel
set_option maxRecDepth 100000 in
set_option maxHeartbeats 4000000 in
theorem c_parse (l : Launch) (E : EV) (qs : Nat) (qt : Nat) (sa : Nat) (sb : Nat) (sc : Nat) (sd : Nat) (tb : Nat)  : CT l yX5_parse (Cond.code yX5_parse cX5_parse 1 (some (.object "WhoKnows$Saying")) :: TB) ({ frames := 4, cells := 0, slots := 0, locals := 87 }) E [.ref qs] [(qs, .inr (5, [.ref qt, .ref sa, .ref sb, .ref sc, .ref sd, .int 0, .int 0, .int 0, .int 0, .int 0])), (qt, .inr (10, [.ref tb, .int 0, .int 0, .int 0, .int 0])), (tb, .inl (E.2.1 0, 160, .inl (fun _ => 0)))] (Qq E (fun (r : Option Nat) u => (r = none ∧ u = [(qs, .inr (5, [.ref qt, .ref sa, .ref sb, .ref sc, .ref sd, .int 0, .int 0, .int 0, .int 2, .int 0])), (qt, .inr (10, [.ref tb, .int 0, .int 0, .int 0, .int 0])), (tb, .inl (E.2.1 0, 160, .inl (fun _ => 0)))]))) 0 0 := by
  refine ct_of rfl rfl ?_
  intro X C hT hin
  show WW X 1 E 0 [(0, .ref qs)] [] [(qs, .inr (5, [.ref qt, .ref sa, .ref sb, .ref sc, .ref sd, .int 0, .int 0, .int 0, .int 0, .int 0])), (qt, .inr (10, [.ref tb, .int 0, .int 0, .int 0, .int 0])), (tb, .inl (E.2.1 0, 160, .inl (fun _ => 0)))] 0 0
  refine ww_aload_n C dX5_parse_0 0 rfl rfl ?_
  refine ww_iconst (v := 0) C dX5_parse_1 rfl ?_
  refine ww_put (ws' := [(qs, .inr (5, [.ref qt, .ref sa, .ref sb, .ref sc, .ref sd, .int 0, .int 0, .int 0, .int 0, .int 0])), (qt, .inr (10, [.ref tb, .int 0, .int 0, .int 0, .int 0])), (tb, .inl (E.2.1 0, 160, .inl (fun _ => 0)))]) C fp_X5_31 0 rfl rfl rfl rfl rfl dX5_parse_2 ?_
  refine ww_aload_n C dX5_parse_5 0 rfl rfl ?_
  refine ww_iconst (v := 0) C dX5_parse_6 rfl ?_
  refine ww_put (ws' := [(qs, .inr (5, [.ref qt, .ref sa, .ref sb, .ref sc, .ref sd, .int 0, .int 0, .int 0, .int 0, .int 0])), (qt, .inr (10, [.ref tb, .int 0, .int 0, .int 0, .int 0])), (tb, .inl (E.2.1 0, 160, .inl (fun _ => 0)))]) C fp_X5_35 0 rfl rfl rfl rfl rfl dX5_parse_7 ?_
  refine ww_aload_n C dX5_parse_10 0 rfl rfl ?_
  refine ww_iconst (v := 0) C dX5_parse_11 rfl ?_
  refine ww_put (ws' := [(qs, .inr (5, [.ref qt, .ref sa, .ref sb, .ref sc, .ref sd, .int 0, .int 0, .int 0, .int 0, .int 0])), (qt, .inr (10, [.ref tb, .int 0, .int 0, .int 0, .int 0])), (tb, .inl (E.2.1 0, 160, .inl (fun _ => 0)))]) C fp_X5_38 0 rfl rfl rfl rfl rfl dX5_parse_12 ?_
  refine ww_aload_n C dX5_parse_15 0 rfl rfl ?_
  refine ww_iconst (v := 0) C dX5_parse_16 rfl ?_
  refine ww_put (ws' := [(qs, .inr (5, [.ref qt, .ref sa, .ref sb, .ref sc, .ref sd, .int 0, .int 0, .int 0, .int 0, .int 0])), (qt, .inr (10, [.ref tb, .int 0, .int 0, .int 0, .int 0])), (tb, .inl (E.2.1 0, 160, .inl (fun _ => 0)))]) C fp_X5_41 0 rfl rfl rfl rfl rfl dX5_parse_17 ?_
  refine ww_aload_n C dX5_parse_20 0 rfl rfl ?_
  refine ww_iconst (v := 0) C dX5_parse_21 rfl ?_
  refine ww_put (ws' := [(qs, .inr (5, [.ref qt, .ref sa, .ref sb, .ref sc, .ref sd, .int 0, .int 0, .int 0, .int 0, .int 0])), (qt, .inr (10, [.ref tb, .int 0, .int 0, .int 0, .int 0])), (tb, .inl (E.2.1 0, 160, .inl (fun _ => 0)))]) C fp_X5_44 0 rfl rfl rfl rfl rfl dX5_parse_22 ?_
  refine ww_aload_n C dX5_parse_25 0 rfl rfl ?_
  refine ww_get C fg_X5_12 0 rfl rfl dX5_parse_26 ?_
  refine ww_cv (wr := [(qs, .inr (5, [.ref qt, .ref sa, .ref sb, .ref sc, .ref sd, .int 0, .int 0, .int 0, .int 0, .int 0]))]) (k' := 0) (n' := 0) C (run_V (As := []) (rest := []) C (c_rewind X.2.1 E qt tb) mi_X10_rewind wl_X5_47 rfl 0 10 rfl rfl rfl rfl rfl dX5_parse_29) [1, 2] [0] rfl rfl rfl rfl (fun u hw => ?_)
  obtain ⟨rfl⟩ := hw
  refine ww_eq (ws' := [(qs, .inr (5, [.ref qt, .ref sa, .ref sb, .ref sc, .ref sd, .int 0, .int 0, .int 0, .int 0, .int 0])), (qt, .inr (10, [.ref tb, .int 0, .int 0, .int 0, .int 0])), (tb, .inl (E.2.1 0, 160, .inl (fun _ => 0)))]) ?_ rfl rfl rfl
  refine ww_aload_n C dX5_parse_32 0 rfl rfl ?_
  refine ww_ci (wr := []) (k' := 0) (n' := 0) C (run_V (As := []) (rest := []) C (c_next X.2.1 E qs qt sa sb sc sd tb) mi_X5_next wl_X5_50 rfl 0 5 rfl rfl rfl rfl rfl dX5_parse_33) [0, 1, 2] [] rfl rfl rfl rfl (fun r u hw => ?_)
  obtain ⟨rfl, rfl⟩ := hw
  refine ww_eq (ws' := [(qs, .inr (5, [.ref qt, .ref sa, .ref sb, .ref sc, .ref sd, .int 0, .int 0, .int 0, .int 0, .int 0])), (qt, .inr (10, [.ref tb, .int 0, .int 0, .int 0, .int 0])), (tb, .inl (E.2.1 0, 160, .inl (fun _ => 0)))]) ?_ rfl rfl rfl
  refine ww_if_eq_f (tgt := 53) C dX5_parse_36 (by decide) (by decide) ?_
  refine ww_aload_n C dX5_parse_39 0 rfl rfl ?_
  refine ww_ci (wr := []) (k' := 0) (n' := 0) C (run_V (As := []) (rest := []) C (c_readAfters X.2.1 E qs qt sa sb sc sd tb) mi_X5_readAfters wl_X5_54 rfl 0 5 rfl rfl rfl rfl rfl dX5_parse_40) [0, 1, 2] [] rfl rfl rfl rfl (fun r u hw => ?_)
  obtain ⟨rfl, rfl⟩ := hw
  refine ww_eq (ws' := [(qs, .inr (5, [.ref qt, .ref sa, .ref sb, .ref sc, .ref sd, .int 0, .int 0, .int 0, .int 0, .int 0])), (qt, .inr (10, [.ref tb, .int 0, .int 0, .int 0, .int 0])), (tb, .inl (E.2.1 0, 160, .inl (fun _ => 0)))]) ?_ rfl rfl rfl
  refine ww_if_eq_f (tgt := 53) C dX5_parse_43 (by decide) (by decide) ?_
  refine ww_aload_n C dX5_parse_46 0 rfl rfl ?_
  refine ww_ci (wr := []) (k' := 0) (n' := 0) C (run_V (As := []) (rest := []) C (c_readSaying X.2.1 E qs qt sa sb sc sd tb) mi_X5_readSaying wl_X5_57 rfl 0 5 rfl rfl rfl rfl rfl dX5_parse_47) [0, 1, 2] [] rfl rfl rfl rfl (fun r u hw => ?_)
  obtain ⟨rfl, rfl⟩ := hw
  refine ww_eq (ws' := [(qs, .inr (5, [.ref qt, .ref sa, .ref sb, .ref sc, .ref sd, .int 0, .int 0, .int 0, .int 2, .int 0])), (qt, .inr (10, [.ref tb, .int 0, .int 0, .int 0, .int 0])), (tb, .inl (E.2.1 0, 160, .inl (fun _ => 0)))]) ?_ rfl rfl rfl
  refine ww_if_ne_f (tgt := 55) C dX5_parse_50 (by decide) (rfl) ?_
  refine ww_null C dX5_parse_53 ?_
  refine ww_eq (st' := [va_rf none]) ?_ rfl rfl rfl
  exact ww_qret (u := [(qs, .inr (5, [.ref qt, .ref sa, .ref sb, .ref sc, .ref sd, .int 0, .int 0, .int 0, .int 2, .int 0])), (qt, .inr (10, [.ref tb, .int 0, .int 0, .int 0, .int 0])), (tb, .inl (E.2.1 0, 160, .inl (fun _ => 0)))]) C hT (Or.inl ⟨_, rfl⟩) [0, 1, 2] rfl rfl rfl rfl dX5_parse_54 (⟨rfl, rfl⟩)
theorem dX11_say_0 : decode cX11_say 0 = .ok (.iload_n 1, 1) := by decide +kernel
theorem dX11_say_1 : decode cX11_say 1 = .ok (.iconst 0, 1) := by decide +kernel
theorem dX11_say_2 : decode cX11_say 2 = .ok (.bipush 7, 2) := by decide +kernel
theorem dX11_say_4 : decode cX11_say 4 = .ok (.invokestatic 76, 3) := by decide +kernel
theorem dX11_say_7 : decode cX11_say 7 = .ok (.ifCond .ne 5, 3) := by decide +kernel
theorem dX11_say_12 : decode cX11_say 12 = .ok (.aload_n 0, 1) := by decide +kernel
theorem dX11_say_13 : decode cX11_say 13 = .ok (.getfield 27, 3) := by decide +kernel
theorem dX11_say_16 : decode cX11_say 16 = .ok (.invokevirtual 174, 3) := by decide +kernel
theorem wl_X11_174 : Cond.methodLink RX11 174 yX5_parse ∈ TB := tbm (tq3 (List.mem_of_getElem? (i := 6) (by decide +kernel))) (by decide +kernel)
theorem wc_X5_parse : Cond.code yX5_parse cX5_parse 1 (some (.object "WhoKnows$Saying")) ∈ TB := tbm (tq3 (List.mem_of_getElem? (i := 9) (rfl))) (by decide +kernel)
theorem wi_X5_parse : Cond.instanceMethod yX5_parse ∈ TB := tbm (tq3 (List.mem_of_getElem? (i := 7) (by decide +kernel))) (by decide +kernel)
theorem ws_X5_parse : Cond.selects RX5 yX5_parse yX5_parse ∈ TB := tbm (tq3 (List.mem_of_getElem? (i := 8) (by decide +kernel))) (by decide +kernel)
theorem mi_X5_parse : MI yX5_parse cX5_parse 1 (some (.object "WhoKnows$Saying")) 0 := ⟨wc_X5_parse, wn_X5, ⟨by decide +kernel, by decide +kernel, by decide +kernel⟩, wi_X5_parse, ws_X5_parse⟩
theorem dX11_say_19 : decode cX11_say 19 = .ok (.astore_n 2, 1) := by decide +kernel
theorem dX11_say_20 : decode cX11_say 20 = .ok (.aload_n 0, 1) := by decide +kernel
theorem dX11_say_21 : decode cX11_say 21 = .ok (.getfield 27, 3) := by decide +kernel
theorem dX11_say_24 : decode cX11_say 24 = .ok (.getfield 162, 3) := by decide +kernel
theorem dX11_say_27 : decode cX11_say 27 = .ok (.iconst 0, 1) := by decide +kernel
theorem dX11_say_28 : decode cX11_say 28 = .ok (.putfield 171, 3) := by decide +kernel
theorem dX11_say_31 : decode cX11_say 31 = .ok (.aload_n 2, 1) := by decide +kernel
theorem dX11_say_32 : decode cX11_say 32 = .ok (.ifnonnull 14, 3) := by decide +kernel
theorem dX11_say_35 : decode cX11_say 35 = .ok (.bipush (-10), 2) := by decide +kernel
theorem dX11_say_37 : decode cX11_say 37 = .ok (.aload_n 0, 1) := by decide +kernel
theorem dX11_say_38 : decode cX11_say 38 = .ok (.getfield 27, 3) := by decide +kernel
theorem dX11_say_41 : decode cX11_say 41 = .ok (.getfield 178, 3) := by decide +kernel
theorem wf_X11_178 : Cond.fieldLink RX11 178 RX5 "place" "I" ∈ TB := tbm (tq1 (List.mem_of_getElem? (i := 110) (by decide +kernel))) (by decide +kernel)
theorem fg_X11_178 : FG RX11 178 5 9 := ⟨RX5, TX5, 10, uw_X5, wf_X11_178, rfl, by decide, rfl⟩
theorem dX11_say_44 : decode cX11_say 44 = .ok (.isub, 1) := by decide +kernel
theorem dX11_say_45 : decode cX11_say 45 = .ok (.ireturn, 1) := by decide +kernel
theorem dX11_say_10 : decode cX11_say 10 = .ok (.iconst (-1), 1) := by decide +kernel
theorem dX11_say_11 : decode cX11_say 11 = .ok (.ireturn, 1) := by decide +kernel
set_option maxRecDepth 100000 in
set_option maxHeartbeats 4000000 in
theorem x_say (l : Launch) (E : EV) (hx : Nat) (p0 : Int32) (qn : Nat) (qp : Nat) (qs : Nat) (qj : Nat) (ql : Nat) (qh : Nat) (qk : Nat) (qr : Nat) (qg : Nat) (qsh : Nat) (qt : Nat) (sa : Nat) (sb : Nat) (sc : Nat) (sd : Nat) (tb : Nat)  : CT l yX11_say (Cond.code yX11_say cX11_say 3 (some .int) :: TB) ({ frames := 5, cells := 0, slots := 0, locals := 107 }) E [.ref hx, .int p0] [(hx, .inr (11, [.ref qn, .ref qp, .int 0, .int 0, .ref qs, .ref qj, .ref ql, .ref qh, .ref qk, .int 0, .ref qr, .ref qg, .int 0, .int 0, .ref qsh])), (qs, .inr (5, [.ref qt, .ref sa, .ref sb, .ref sc, .ref sd, .int 0, .int 0, .int 0, .int 0, .int 0])), (qt, .inr (10, [.ref tb, .int 0, .int 0, .int 0, .int 0])), (tb, .inl (E.2.1 0, 160, .inl (fun _ => 0)))] (Qi E (fun (r : Int32) u => (r = (-1) ∧ u = [] ∧ (p0.toInt < 0 ∨ 7 < p0.toInt)) ∨ (r = (-10) ∧ u = [] ∧ (0 ≤ p0.toInt) ∧ (p0.toInt ≤ 7)))) 0 0 := by
  refine ct_of rfl rfl ?_
  intro X C hT hin
  show WW X 3 E 0 [(0, .ref hx), (1, .int p0)] [] [(hx, .inr (11, [.ref qn, .ref qp, .int 0, .int 0, .ref qs, .ref qj, .ref ql, .ref qh, .ref qk, .int 0, .ref qr, .ref qg, .int 0, .int 0, .ref qsh])), (qs, .inr (5, [.ref qt, .ref sa, .ref sb, .ref sc, .ref sd, .int 0, .int 0, .int 0, .int 0, .int 0])), (qt, .inr (10, [.ref tb, .int 0, .int 0, .int 0, .int 0])), (tb, .inl (E.2.1 0, 160, .inl (fun _ => 0)))] 0 0
  refine ww_iload_n C dX11_say_0 1 rfl rfl ?_
  refine ww_iconst (v := 0) C dX11_say_1 rfl ?_
  refine ww_bipush (v := 7) C dX11_say_2 rfl ?_
  refine ww_ci (wr := [(hx, .inr (11, [.ref qn, .ref qp, .int 0, .int 0, .ref qs, .ref qj, .ref ql, .ref qh, .ref qk, .int 0, .ref qr, .ref qg, .int 0, .int 0, .ref qsh])), (qs, .inr (5, [.ref qt, .ref sa, .ref sb, .ref sc, .ref sd, .int 0, .int 0, .int 0, .int 0, .int 0])), (qt, .inr (10, [.ref tb, .int 0, .int 0, .int 0, .int 0])), (tb, .inl (E.2.1 0, 160, .inl (fun _ => 0)))]) (k' := 0) (n' := 0) C (run_S (As := [.int p0, .int 0, .int 7]) (rest := []) C (c_within X.2.1 E p0 0 7 p0.toInt 0 7 rfl rfl rfl) ms_X11_within wl_X11_76 rfl rfl rfl rfl dX11_say_4) [] [0, 1, 2, 3] rfl rfl rfl rfl (fun r u hw => ?_)
  rcases hw with ⟨rfl, rfl, h_1, h_2⟩ | ⟨rfl, rfl, h_3⟩
  · refine ww_eq (ws' := [(hx, .inr (11, [.ref qn, .ref qp, .int 0, .int 0, .ref qs, .ref qj, .ref ql, .ref qh, .ref qk, .int 0, .ref qr, .ref qg, .int 0, .int 0, .ref qsh])), (qs, .inr (5, [.ref qt, .ref sa, .ref sb, .ref sc, .ref sd, .int 0, .int 0, .int 0, .int 0, .int 0])), (qt, .inr (10, [.ref tb, .int 0, .int 0, .int 0, .int 0])), (tb, .inl (E.2.1 0, 160, .inl (fun _ => 0)))]) ?_ rfl rfl rfl
    refine ww_if_ne_t (tgt := 12) C dX11_say_7 (by decide) (by decide) ?_
    refine ww_aload_n C dX11_say_12 0 rfl rfl ?_
    refine ww_get C fg_X11_27 0 rfl rfl dX11_say_13 ?_
    refine ww_cq (wr := [(hx, .inr (11, [.ref qn, .ref qp, .int 0, .int 0, .ref qs, .ref qj, .ref ql, .ref qh, .ref qk, .int 0, .ref qr, .ref qg, .int 0, .int 0, .ref qsh]))]) (k' := 0) (n' := 0) C (run_V (As := []) (rest := []) C (c_parse X.2.1 E qs qt sa sb sc sd tb) mi_X5_parse wl_X11_174 rfl 0 5 rfl rfl rfl rfl rfl dX11_say_16) [1, 2, 3] [0] rfl rfl rfl rfl (fun r u hw => ?_)
    obtain ⟨rfl, rfl⟩ := hw
    refine ww_eq (st' := [.null]) (ws' := [(hx, .inr (11, [.ref qn, .ref qp, .int 0, .int 0, .ref qs, .ref qj, .ref ql, .ref qh, .ref qk, .int 0, .ref qr, .ref qg, .int 0, .int 0, .ref qsh])), (qs, .inr (5, [.ref qt, .ref sa, .ref sb, .ref sc, .ref sd, .int 0, .int 0, .int 0, .int 2, .int 0])), (qt, .inr (10, [.ref tb, .int 0, .int 0, .int 0, .int 0])), (tb, .inl (E.2.1 0, 160, .inl (fun _ => 0)))]) ?_ rfl rfl rfl
    refine ww_astore_nN (lv' := [(2, .null), (0, .ref hx), (1, .int p0)]) C dX11_say_19 rfl rfl rfl ?_
    refine ww_aload_n C dX11_say_20 1 rfl rfl ?_
    refine ww_get C fg_X11_27 0 rfl rfl dX11_say_21 ?_
    refine ww_get C fg_X11_162 1 rfl rfl dX11_say_24 ?_
    refine ww_iconst (v := 0) C dX11_say_27 rfl ?_
    refine ww_put (ws' := [(hx, .inr (11, [.ref qn, .ref qp, .int 0, .int 0, .ref qs, .ref qj, .ref ql, .ref qh, .ref qk, .int 0, .ref qr, .ref qg, .int 0, .int 0, .ref qsh])), (qs, .inr (5, [.ref qt, .ref sa, .ref sb, .ref sc, .ref sd, .int 0, .int 0, .int 0, .int 2, .int 0])), (qt, .inr (10, [.ref tb, .int 0, .int 0, .int 0, .int 0])), (tb, .inl (E.2.1 0, 160, .inl (fun _ => 0)))]) C fp_X11_171 2 rfl rfl rfl rfl rfl dX11_say_28 ?_
    refine ww_aload_nN C dX11_say_31 0 rfl rfl ?_
    refine ww_ifnonnullN C dX11_say_32 ?_
    refine ww_bipush (v := (-10)) C dX11_say_35 rfl ?_
    refine ww_aload_n C dX11_say_37 1 rfl rfl ?_
    refine ww_get C fg_X11_27 0 rfl rfl dX11_say_38 ?_
    refine ww_get C fg_X11_178 1 rfl rfl dX11_say_41 ?_
    refine ww_isub (v := (-10)) C dX11_say_44 (by decide) ?_
    exact ww_iret (u := []) C hT [] rfl rfl rfl rfl dX11_say_45 (Or.inr ⟨rfl, rfl, (by first | assumption | omega | decide), (by first | assumption | omega | decide)⟩)
  · refine ww_eq (ws' := [(hx, .inr (11, [.ref qn, .ref qp, .int 0, .int 0, .ref qs, .ref qj, .ref ql, .ref qh, .ref qk, .int 0, .ref qr, .ref qg, .int 0, .int 0, .ref qsh])), (qs, .inr (5, [.ref qt, .ref sa, .ref sb, .ref sc, .ref sd, .int 0, .int 0, .int 0, .int 0, .int 0])), (qt, .inr (10, [.ref tb, .int 0, .int 0, .int 0, .int 0])), (tb, .inl (E.2.1 0, 160, .inl (fun _ => 0)))]) ?_ rfl rfl rfl
    refine ww_if_ne_f (tgt := 12) C dX11_say_7 (by decide) (rfl) ?_
    refine ww_iconst (v := (-1)) C dX11_say_10 rfl ?_
    exact ww_iret (u := []) C hT [] rfl rfl rfl rfl dX11_say_11 (Or.inl ⟨rfl, rfl, (by first | assumption | omega | decide)⟩)
theorem dX11_fault_0 : decode cX11_fault 0 = .ok (.aload_n 0, 1) := by decide +kernel
theorem dX11_fault_1 : decode cX11_fault 1 = .ok (.getfield 27, 3) := by decide +kernel
theorem dX11_fault_4 : decode cX11_fault 4 = .ok (.getfield 184, 3) := by decide +kernel
theorem wf_X11_184 : Cond.fieldLink RX11 184 RX5 "wrong" "I" ∈ TB := tbm (tq1 (List.mem_of_getElem? (i := 108) (by decide +kernel))) (by decide +kernel)
theorem fg_X11_184 : FG RX11 184 5 8 := ⟨RX5, TX5, 10, uw_X5, wf_X11_184, rfl, by decide, rfl⟩
theorem dX11_fault_7 : decode cX11_fault 7 = .ok (.ireturn, 1) := by decide +kernel
set_option maxRecDepth 100000 in
set_option maxHeartbeats 4000000 in
theorem x_fault (l : Launch) (E : EV) (hx : Nat) (qn : Nat) (qp : Nat) (qs : Nat) (qj : Nat) (ql : Nat) (qh : Nat) (qk : Nat) (qr : Nat) (qg : Nat) (qsh : Nat) (qt : Nat) (sa : Nat) (sb : Nat) (sc : Nat) (sd : Nat) (tb : Nat)  : CT l yX11_fault (Cond.code yX11_fault cX11_fault 1 (some .int) :: TB) ({ frames := 0, cells := 0, slots := 0, locals := 0 }) E [.ref hx] [(hx, .inr (11, [.ref qn, .ref qp, .int 0, .int 0, .ref qs, .ref qj, .ref ql, .ref qh, .ref qk, .int 0, .ref qr, .ref qg, .int 0, .int 0, .ref qsh])), (qs, .inr (5, [.ref qt, .ref sa, .ref sb, .ref sc, .ref sd, .int 0, .int 0, .int 0, .int 0, .int 0])), (qt, .inr (10, [.ref tb, .int 0, .int 0, .int 0, .int 0])), (tb, .inl (E.2.1 0, 160, .inl (fun _ => 0)))] (Qi E (fun (r : Int32) u => (r = 0 ∧ u = []))) 0 0 := by
  refine ct_of rfl rfl ?_
  intro X C hT hin
  show WW X 1 E 0 [(0, .ref hx)] [] [(hx, .inr (11, [.ref qn, .ref qp, .int 0, .int 0, .ref qs, .ref qj, .ref ql, .ref qh, .ref qk, .int 0, .ref qr, .ref qg, .int 0, .int 0, .ref qsh])), (qs, .inr (5, [.ref qt, .ref sa, .ref sb, .ref sc, .ref sd, .int 0, .int 0, .int 0, .int 0, .int 0])), (qt, .inr (10, [.ref tb, .int 0, .int 0, .int 0, .int 0])), (tb, .inl (E.2.1 0, 160, .inl (fun _ => 0)))] 0 0
  refine ww_aload_n C dX11_fault_0 0 rfl rfl ?_
  refine ww_get C fg_X11_27 0 rfl rfl dX11_fault_1 ?_
  refine ww_get C fg_X11_184 1 rfl rfl dX11_fault_4 ?_
  exact ww_iret (u := []) C hT [] rfl rfl rfl rfl dX11_fault_7 (⟨rfl, rfl⟩)
theorem dX11_isTold_0 : decode cX11_isTold 0 = .ok (.iload_n 1, 1) := by decide +kernel
theorem dX11_isTold_1 : decode cX11_isTold 1 = .ok (.iconst 0, 1) := by decide +kernel
theorem dX11_isTold_2 : decode cX11_isTold 2 = .ok (.bipush 7, 2) := by decide +kernel
theorem dX11_isTold_4 : decode cX11_isTold 4 = .ok (.invokestatic 76, 3) := by decide +kernel
theorem dX11_isTold_7 : decode cX11_isTold 7 = .ok (.ifCond .eq 19, 3) := by decide +kernel
theorem dX11_isTold_10 : decode cX11_isTold 10 = .ok (.aload_n 0, 1) := by decide +kernel
theorem dX11_isTold_11 : decode cX11_isTold 11 = .ok (.getfield 34, 3) := by decide +kernel
theorem fg_X11_34 : FG RX11 34 11 5 := ⟨RX11, TX11, 15, uw_X11, wf_X11_34, rfl, by decide, rfl⟩
theorem dX11_isTold_14 : decode cX11_isTold 14 = .ok (.getfield 80, 3) := by decide +kernel
theorem wf_X11_80 : Cond.fieldLink RX11 80 RX2 "told" "[LWhoKnows$Saying;" ∈ TB := tbm (tq1 (List.mem_of_getElem? (i := 214) (by decide +kernel))) (by decide +kernel)
theorem fg_X11_80 : FG RX11 80 2 0 := ⟨RX2, TX2, 4, uw_X2, wf_X11_80, rfl, by decide, rfl⟩
theorem dX11_isTold_17 : decode cX11_isTold 17 = .ok (.iload_n 1, 1) := by decide +kernel
theorem dX11_isTold_18 : decode cX11_isTold 18 = .ok (.aaload, 1) := by decide +kernel
theorem dX11_isTold_19 : decode cX11_isTold 19 = .ok (.ifnull 7, 3) := by decide +kernel
theorem dX11_isTold_26 : decode cX11_isTold 26 = .ok (.iconst 0, 1) := by decide +kernel
theorem dX11_isTold_27 : decode cX11_isTold 27 = .ok (.ireturn, 1) := by decide +kernel
set_option maxRecDepth 100000 in
set_option maxHeartbeats 4000000 in
theorem c_isTold (l : Launch) (E : EV) (hx : Nat) (p0 : Int32) (qn : Nat) (qp : Nat) (qs : Nat) (qj : Nat) (ql : Nat) (qh : Nat) (qk : Nat) (qr : Nat) (qg : Nat) (qsh : Nat) (jt : Nat) (je : Nat) (ju : Nat) (ja : Nat)  : CT l yX11_isTold (Cond.code yX11_isTold cX11_isTold 2 (some .boolean) :: TB) ({ frames := 1, cells := 0, slots := 0, locals := 22 }) E [.ref hx, .int p0] [(hx, .inr (11, [.ref qn, .ref qp, .int 0, .int 0, .ref qs, .ref qj, .ref ql, .ref qh, .ref qk, .int 0, .ref qr, .ref qg, .int 0, .int 0, .ref qsh])), (qj, .inr (2, [.ref jt, .ref je, .ref ju, .ref ja])), (jt, .inl (E.2.1 7, 8, .inr (.inr (.inr (.inr (fun _ => none))))))] (Qi E (fun (r : Int32) u => (r = 0 ∧ u = [(hx, .inr (11, [.ref qn, .ref qp, .int 0, .int 0, .ref qs, .ref qj, .ref ql, .ref qh, .ref qk, .int 0, .ref qr, .ref qg, .int 0, .int 0, .ref qsh])), (qj, .inr (2, [.ref jt, .ref je, .ref ju, .ref ja])), (jt, .inl (E.2.1 7, 8, .inr (.inr (.inr (.inr (fun _ => none))))))]))) 0 0 := by
  refine ct_of rfl rfl ?_
  intro X C hT hin
  show WW X 2 E 0 [(0, .ref hx), (1, .int p0)] [] [(hx, .inr (11, [.ref qn, .ref qp, .int 0, .int 0, .ref qs, .ref qj, .ref ql, .ref qh, .ref qk, .int 0, .ref qr, .ref qg, .int 0, .int 0, .ref qsh])), (qj, .inr (2, [.ref jt, .ref je, .ref ju, .ref ja])), (jt, .inl (E.2.1 7, 8, .inr (.inr (.inr (.inr (fun _ => none))))))] 0 0
  refine ww_iload_n C dX11_isTold_0 1 rfl rfl ?_
  refine ww_iconst (v := 0) C dX11_isTold_1 rfl ?_
  refine ww_bipush (v := 7) C dX11_isTold_2 rfl ?_
  refine ww_ci (wr := [(hx, .inr (11, [.ref qn, .ref qp, .int 0, .int 0, .ref qs, .ref qj, .ref ql, .ref qh, .ref qk, .int 0, .ref qr, .ref qg, .int 0, .int 0, .ref qsh])), (qj, .inr (2, [.ref jt, .ref je, .ref ju, .ref ja])), (jt, .inl (E.2.1 7, 8, .inr (.inr (.inr (.inr (fun _ => none))))))]) (k' := 0) (n' := 0) C (run_S (As := [.int p0, .int 0, .int 7]) (rest := []) C (c_within X.2.1 E p0 0 7 p0.toInt 0 7 rfl rfl rfl) ms_X11_within wl_X11_76 rfl rfl rfl rfl dX11_isTold_4) [] [0, 1, 2] rfl rfl rfl rfl (fun r u hw => ?_)
  rcases hw with ⟨rfl, rfl, h_1, h_2⟩ | ⟨rfl, rfl, h_3⟩
  · refine ww_eq (ws' := [(hx, .inr (11, [.ref qn, .ref qp, .int 0, .int 0, .ref qs, .ref qj, .ref ql, .ref qh, .ref qk, .int 0, .ref qr, .ref qg, .int 0, .int 0, .ref qsh])), (qj, .inr (2, [.ref jt, .ref je, .ref ju, .ref ja])), (jt, .inl (E.2.1 7, 8, .inr (.inr (.inr (.inr (fun _ => none))))))]) ?_ rfl rfl rfl
    refine ww_if_eq_f (tgt := 26) C dX11_isTold_7 (by decide) (by decide) ?_
    refine ww_aload_n C dX11_isTold_10 0 rfl rfl ?_
    refine ww_get C fg_X11_34 0 rfl rfl dX11_isTold_11 ?_
    refine ww_get C fg_X11_80 1 rfl rfl dX11_isTold_14 ?_
    refine ww_iload_n C dX11_isTold_17 1 rfl rfl ?_
    refine ww_ald (v := none) (t0 := 7) C 2 rfl rfl (vp_in_iff.mpr ⟨by omega, by omega⟩) rfl dX11_isTold_18 ?_
    refine ww_eq (st' := [.null]) ?_ rfl rfl rfl
    refine ww_ifnullN (tgt := 26) C dX11_isTold_19 (by decide) ?_
    refine ww_iconst (v := 0) C dX11_isTold_26 rfl ?_
    exact ww_zret (u := [(hx, .inr (11, [.ref qn, .ref qp, .int 0, .int 0, .ref qs, .ref qj, .ref ql, .ref qh, .ref qk, .int 0, .ref qr, .ref qg, .int 0, .int 0, .ref qsh])), (qj, .inr (2, [.ref jt, .ref je, .ref ju, .ref ja])), (jt, .inl (E.2.1 7, 8, .inr (.inr (.inr (.inr (fun _ => none))))))]) C hT [0, 1, 2] rfl rfl rfl rfl rfl dX11_isTold_27 (⟨rfl, rfl⟩)
  · refine ww_eq (ws' := [(hx, .inr (11, [.ref qn, .ref qp, .int 0, .int 0, .ref qs, .ref qj, .ref ql, .ref qh, .ref qk, .int 0, .ref qr, .ref qg, .int 0, .int 0, .ref qsh])), (qj, .inr (2, [.ref jt, .ref je, .ref ju, .ref ja])), (jt, .inl (E.2.1 7, 8, .inr (.inr (.inr (.inr (fun _ => none))))))]) ?_ rfl rfl rfl
    refine ww_if_eq_t (tgt := 26) C dX11_isTold_7 (by decide) (rfl) ?_
    refine ww_iconst (v := 0) C dX11_isTold_26 rfl ?_
    exact ww_zret (u := [(hx, .inr (11, [.ref qn, .ref qp, .int 0, .int 0, .ref qs, .ref qj, .ref ql, .ref qh, .ref qk, .int 0, .ref qr, .ref qg, .int 0, .int 0, .ref qsh])), (qj, .inr (2, [.ref jt, .ref je, .ref ju, .ref ja])), (jt, .inl (E.2.1 7, 8, .inr (.inr (.inr (.inr (fun _ => none))))))]) C hT [0, 1, 2] rfl rfl rfl rfl rfl dX11_isTold_27 (⟨rfl, rfl⟩)
theorem dX11_saying_0 : decode cX11_saying 0 = .ok (.aload_n 0, 1) := by decide +kernel
theorem dX11_saying_1 : decode cX11_saying 1 = .ok (.iload_n 1, 1) := by decide +kernel
theorem dX11_saying_2 : decode cX11_saying 2 = .ok (.invokevirtual 98, 3) := by decide +kernel
theorem wl_X11_98 : Cond.methodLink RX11 98 yX11_isTold ∈ TB := tbm (tq3 (List.mem_of_getElem? (i := 203) (by decide +kernel))) (by decide +kernel)
theorem wc_X11_isTold : Cond.code yX11_isTold cX11_isTold 2 (some .boolean) ∈ TB := tbm (tq3 (List.mem_of_getElem? (i := 206) (rfl))) (by decide +kernel)
theorem wi_X11_isTold : Cond.instanceMethod yX11_isTold ∈ TB := tbm (tq3 (List.mem_of_getElem? (i := 205) (by decide +kernel))) (by decide +kernel)
theorem ws_X11_isTold : Cond.selects RX11 yX11_isTold yX11_isTold ∈ TB := tbm (tq0 (List.mem_of_getElem? (i := 16) (by decide +kernel))) (by decide +kernel)
theorem mi_X11_isTold : MI yX11_isTold cX11_isTold 2 (some .boolean) 1 := ⟨wc_X11_isTold, wn_X11, ⟨by decide +kernel, by decide +kernel, by decide +kernel⟩, wi_X11_isTold, ws_X11_isTold⟩
theorem dX11_saying_5 : decode cX11_saying 5 = .ok (.ifCond .ne 5, 3) := by decide +kernel
theorem dX11_saying_8 : decode cX11_saying 8 = .ok (.iconst (-1), 1) := by decide +kernel
theorem dX11_saying_9 : decode cX11_saying 9 = .ok (.ireturn, 1) := by decide +kernel
set_option maxRecDepth 100000 in
set_option maxHeartbeats 4000000 in
theorem x_saying (l : Launch) (E : EV) (hx : Nat) (p0 : Int32) (p1 : Int32) (qn : Nat) (qp : Nat) (qs : Nat) (qj : Nat) (ql : Nat) (qh : Nat) (qk : Nat) (qr : Nat) (qg : Nat) (qsh : Nat) (jt : Nat) (je : Nat) (ju : Nat) (ja : Nat)  : CT l yX11_saying (Cond.code yX11_saying cX11_saying 3 (some .int) :: TB) ({ frames := 2, cells := 0, slots := 0, locals := 43 }) E [.ref hx, .int p0, .int p1] [(hx, .inr (11, [.ref qn, .ref qp, .int 0, .int 0, .ref qs, .ref qj, .ref ql, .ref qh, .ref qk, .int 0, .ref qr, .ref qg, .int 0, .int 0, .ref qsh])), (qj, .inr (2, [.ref jt, .ref je, .ref ju, .ref ja])), (jt, .inl (E.2.1 7, 8, .inr (.inr (.inr (.inr (fun _ => none))))))] (Qi E (fun (r : Int32) u => (r = (-1) ∧ u = []))) 0 0 := by
  refine ct_of rfl rfl ?_
  intro X C hT hin
  show WW X 3 E 0 [(0, .ref hx), (1, .int p0), (2, .int p1)] [] [(hx, .inr (11, [.ref qn, .ref qp, .int 0, .int 0, .ref qs, .ref qj, .ref ql, .ref qh, .ref qk, .int 0, .ref qr, .ref qg, .int 0, .int 0, .ref qsh])), (qj, .inr (2, [.ref jt, .ref je, .ref ju, .ref ja])), (jt, .inl (E.2.1 7, 8, .inr (.inr (.inr (.inr (fun _ => none))))))] 0 0
  refine ww_aload_n C dX11_saying_0 0 rfl rfl ?_
  refine ww_iload_n C dX11_saying_1 1 rfl rfl ?_
  refine ww_ci (wr := []) (k' := 0) (n' := 0) C (run_V (As := [.int p0]) (rest := []) C (c_isTold X.2.1 E hx p0 qn qp qs qj ql qh qk qr qg qsh jt je ju ja) mi_X11_isTold wl_X11_98 rfl 0 11 rfl rfl rfl rfl rfl dX11_saying_2) [0, 1, 2] [] rfl rfl rfl rfl (fun r u hw => ?_)
  obtain ⟨rfl, rfl⟩ := hw
  refine ww_eq (ws' := [(hx, .inr (11, [.ref qn, .ref qp, .int 0, .int 0, .ref qs, .ref qj, .ref ql, .ref qh, .ref qk, .int 0, .ref qr, .ref qg, .int 0, .int 0, .ref qsh])), (qj, .inr (2, [.ref jt, .ref je, .ref ju, .ref ja])), (jt, .inl (E.2.1 7, 8, .inr (.inr (.inr (.inr (fun _ => none))))))]) ?_ rfl rfl rfl
  refine ww_if_ne_f (tgt := 10) C dX11_saying_5 (by decide) (rfl) ?_
  refine ww_iconst (v := (-1)) C dX11_saying_8 rfl ?_
  exact ww_iret (u := []) C hT [] rfl rfl rfl rfl dX11_saying_9 (⟨rfl, rfl⟩)
theorem dX11_truth_0 : decode cX11_truth 0 = .ok (.aload_n 0, 1) := by decide +kernel
theorem dX11_truth_1 : decode cX11_truth 1 = .ok (.iload_n 1, 1) := by decide +kernel
theorem dX11_truth_2 : decode cX11_truth 2 = .ok (.invokevirtual 98, 3) := by decide +kernel
theorem dX11_truth_5 : decode cX11_truth 5 = .ok (.ifCond .eq 26, 3) := by decide +kernel
theorem dX11_truth_31 : decode cX11_truth 31 = .ok (.iconst (-1), 1) := by decide +kernel
theorem dX11_truth_32 : decode cX11_truth 32 = .ok (.ireturn, 1) := by decide +kernel
set_option maxRecDepth 100000 in
set_option maxHeartbeats 4000000 in
theorem x_truth (l : Launch) (E : EV) (hx : Nat) (p0 : Int32) (qn : Nat) (qp : Nat) (qs : Nat) (qj : Nat) (ql : Nat) (qh : Nat) (qk : Nat) (qr : Nat) (qg : Nat) (qsh : Nat) (jt : Nat) (je : Nat) (ju : Nat) (ja : Nat)  : CT l yX11_truth (Cond.code yX11_truth cX11_truth 2 (some .int) :: TB) ({ frames := 2, cells := 0, slots := 0, locals := 43 }) E [.ref hx, .int p0] [(hx, .inr (11, [.ref qn, .ref qp, .int 0, .int 0, .ref qs, .ref qj, .ref ql, .ref qh, .ref qk, .int 0, .ref qr, .ref qg, .int 0, .int 0, .ref qsh])), (qj, .inr (2, [.ref jt, .ref je, .ref ju, .ref ja])), (jt, .inl (E.2.1 7, 8, .inr (.inr (.inr (.inr (fun _ => none))))))] (Qi E (fun (r : Int32) u => (r = (-1) ∧ u = []))) 0 0 := by
  refine ct_of rfl rfl ?_
  intro X C hT hin
  show WW X 2 E 0 [(0, .ref hx), (1, .int p0)] [] [(hx, .inr (11, [.ref qn, .ref qp, .int 0, .int 0, .ref qs, .ref qj, .ref ql, .ref qh, .ref qk, .int 0, .ref qr, .ref qg, .int 0, .int 0, .ref qsh])), (qj, .inr (2, [.ref jt, .ref je, .ref ju, .ref ja])), (jt, .inl (E.2.1 7, 8, .inr (.inr (.inr (.inr (fun _ => none))))))] 0 0
  refine ww_aload_n C dX11_truth_0 0 rfl rfl ?_
  refine ww_iload_n C dX11_truth_1 1 rfl rfl ?_
  refine ww_ci (wr := []) (k' := 0) (n' := 0) C (run_V (As := [.int p0]) (rest := []) C (c_isTold X.2.1 E hx p0 qn qp qs qj ql qh qk qr qg qsh jt je ju ja) mi_X11_isTold wl_X11_98 rfl 0 11 rfl rfl rfl rfl rfl dX11_truth_2) [0, 1, 2] [] rfl rfl rfl rfl (fun r u hw => ?_)
  obtain ⟨rfl, rfl⟩ := hw
  refine ww_eq (ws' := [(hx, .inr (11, [.ref qn, .ref qp, .int 0, .int 0, .ref qs, .ref qj, .ref ql, .ref qh, .ref qk, .int 0, .ref qr, .ref qg, .int 0, .int 0, .ref qsh])), (qj, .inr (2, [.ref jt, .ref je, .ref ju, .ref ja])), (jt, .inl (E.2.1 7, 8, .inr (.inr (.inr (.inr (fun _ => none))))))]) ?_ rfl rfl rfl
  refine ww_if_eq_t (tgt := 31) C dX11_truth_5 (by decide) (rfl) ?_
  refine ww_iconst (v := (-1)) C dX11_truth_31 rfl ?_
  exact ww_iret (u := []) C hT [] rfl rfl rfl rfl dX11_truth_32 (⟨rfl, rfl⟩)
theorem dX11_holds_0 : decode cX11_holds 0 = .ok (.aload_n 0, 1) := by decide +kernel
theorem dX11_holds_1 : decode cX11_holds 1 = .ok (.iload_n 1, 1) := by decide +kernel
theorem dX11_holds_2 : decode cX11_holds 2 = .ok (.invokevirtual 98, 3) := by decide +kernel
theorem dX11_holds_5 : decode cX11_holds 5 = .ok (.ifCond .ne 5, 3) := by decide +kernel
theorem dX11_holds_8 : decode cX11_holds 8 = .ok (.iconst (-1), 1) := by decide +kernel
theorem dX11_holds_9 : decode cX11_holds 9 = .ok (.ireturn, 1) := by decide +kernel
set_option maxRecDepth 100000 in
set_option maxHeartbeats 4000000 in
theorem x_holds (l : Launch) (E : EV) (hx : Nat) (p0 : Int32) (qn : Nat) (qp : Nat) (qs : Nat) (qj : Nat) (ql : Nat) (qh : Nat) (qk : Nat) (qr : Nat) (qg : Nat) (qsh : Nat) (jt : Nat) (je : Nat) (ju : Nat) (ja : Nat)  : CT l yX11_holds (Cond.code yX11_holds cX11_holds 2 (some .int) :: TB) ({ frames := 2, cells := 0, slots := 0, locals := 43 }) E [.ref hx, .int p0] [(hx, .inr (11, [.ref qn, .ref qp, .int 0, .int 0, .ref qs, .ref qj, .ref ql, .ref qh, .ref qk, .int 0, .ref qr, .ref qg, .int 0, .int 0, .ref qsh])), (qj, .inr (2, [.ref jt, .ref je, .ref ju, .ref ja])), (jt, .inl (E.2.1 7, 8, .inr (.inr (.inr (.inr (fun _ => none))))))] (Qi E (fun (r : Int32) u => (r = (-1) ∧ u = []))) 0 0 := by
  refine ct_of rfl rfl ?_
  intro X C hT hin
  show WW X 2 E 0 [(0, .ref hx), (1, .int p0)] [] [(hx, .inr (11, [.ref qn, .ref qp, .int 0, .int 0, .ref qs, .ref qj, .ref ql, .ref qh, .ref qk, .int 0, .ref qr, .ref qg, .int 0, .int 0, .ref qsh])), (qj, .inr (2, [.ref jt, .ref je, .ref ju, .ref ja])), (jt, .inl (E.2.1 7, 8, .inr (.inr (.inr (.inr (fun _ => none))))))] 0 0
  refine ww_aload_n C dX11_holds_0 0 rfl rfl ?_
  refine ww_iload_n C dX11_holds_1 1 rfl rfl ?_
  refine ww_ci (wr := []) (k' := 0) (n' := 0) C (run_V (As := [.int p0]) (rest := []) C (c_isTold X.2.1 E hx p0 qn qp qs qj ql qh qk qr qg qsh jt je ju ja) mi_X11_isTold wl_X11_98 rfl 0 11 rfl rfl rfl rfl rfl dX11_holds_2) [0, 1, 2] [] rfl rfl rfl rfl (fun r u hw => ?_)
  obtain ⟨rfl, rfl⟩ := hw
  refine ww_eq (ws' := [(hx, .inr (11, [.ref qn, .ref qp, .int 0, .int 0, .ref qs, .ref qj, .ref ql, .ref qh, .ref qk, .int 0, .ref qr, .ref qg, .int 0, .int 0, .ref qsh])), (qj, .inr (2, [.ref jt, .ref je, .ref ju, .ref ja])), (jt, .inl (E.2.1 7, 8, .inr (.inr (.inr (.inr (fun _ => none))))))]) ?_ rfl rfl rfl
  refine ww_if_ne_f (tgt := 10) C dX11_holds_5 (by decide) (rfl) ?_
  refine ww_iconst (v := (-1)) C dX11_holds_8 rfl ?_
  exact ww_iret (u := []) C hT [] rfl rfl rfl rfl dX11_holds_9 (⟨rfl, rfl⟩)
end
section
theorem dX11_isEvent_0 : decode cX11_isEvent 0 = .ok (.iload_n 1, 1) := by decide +kernel
theorem dX11_isEvent_1 : decode cX11_isEvent 1 = .ok (.iconst 0, 1) := by decide +kernel
theorem dX11_isEvent_2 : decode cX11_isEvent 2 = .ok (.iconst 3, 1) := by decide +kernel
theorem dX11_isEvent_3 : decode cX11_isEvent 3 = .ok (.invokestatic 76, 3) := by decide +kernel
theorem dX11_isEvent_6 : decode cX11_isEvent 6 = .ok (.ifCond .eq 22, 3) := by decide +kernel
theorem dX11_isEvent_9 : decode cX11_isEvent 9 = .ok (.aload_n 0, 1) := by decide +kernel
theorem dX11_isEvent_10 : decode cX11_isEvent 10 = .ok (.getfield 34, 3) := by decide +kernel
theorem dX11_isEvent_13 : decode cX11_isEvent 13 = .ok (.getfield 84, 3) := by decide +kernel
theorem wf_X11_84 : Cond.fieldLink RX11 84 RX2 "events" "[LWhoKnows$Event;" ∈ TB := tbm (tq1 (List.mem_of_getElem? (i := 217) (by decide +kernel))) (by decide +kernel)
theorem fg_X11_84 : FG RX11 84 2 1 := ⟨RX2, TX2, 4, uw_X2, wf_X11_84, rfl, by decide, rfl⟩
theorem dX11_isEvent_16 : decode cX11_isEvent 16 = .ok (.iload_n 1, 1) := by decide +kernel
theorem dX11_isEvent_17 : decode cX11_isEvent 17 = .ok (.aaload, 1) := by decide +kernel
theorem dX11_isEvent_18 : decode cX11_isEvent 18 = .ok (.getfield 88, 3) := by decide +kernel
theorem wf_X11_88 : Cond.fieldLink RX11 88 RX0 "cases" "I" ∈ TB := tbm (tq1 (List.mem_of_getElem? (i := 152) (by decide +kernel))) (by decide +kernel)
theorem fg_X11_88 : FG RX11 88 0 0 := ⟨RX0, TX0, 6, uw_X0, wf_X11_88, rfl, by decide, rfl⟩
theorem dX11_isEvent_21 : decode cX11_isEvent 21 = .ok (.ifCond .le 7, 3) := by decide +kernel
theorem dX11_isEvent_28 : decode cX11_isEvent 28 = .ok (.iconst 0, 1) := by decide +kernel
theorem dX11_isEvent_29 : decode cX11_isEvent 29 = .ok (.ireturn, 1) := by decide +kernel
set_option maxRecDepth 100000 in
set_option maxHeartbeats 4000000 in
theorem c_isEvent (l : Launch) (E : EV) (hx : Nat) (p0 : Int32) (qn : Nat) (qp : Nat) (qs : Nat) (qj : Nat) (ql : Nat) (qh : Nat) (qk : Nat) (qr : Nat) (qg : Nat) (qsh : Nat) (jt : Nat) (je : Nat) (ju : Nat) (ja : Nat) (fe : Nat → Option Nat) (e0 : Nat) (e1 : Nat) (e2 : Nat) (e3 : Nat) (e0a : Nat) (e0b : Nat) (e0c : Nat) (e0d : Nat) (e1a : Nat) (e1b : Nat) (e1c : Nat) (e1d : Nat) (e2a : Nat) (e2b : Nat) (e2c : Nat) (e2d : Nat) (e3a : Nat) (e3b : Nat) (e3c : Nat) (e3d : Nat) (k_fe_0 : fe 0 = some e0) (k_fe_1 : fe 1 = some e1) (k_fe_2 : fe 2 = some e2) (k_fe_3 : fe 3 = some e3) : CT l yX11_isEvent (Cond.code yX11_isEvent cX11_isEvent 2 (some .boolean) :: TB) ({ frames := 1, cells := 0, slots := 0, locals := 22 }) E [.ref hx, .int p0] [(hx, .inr (11, [.ref qn, .ref qp, .int 0, .int 0, .ref qs, .ref qj, .ref ql, .ref qh, .ref qk, .int 0, .ref qr, .ref qg, .int 0, .int 0, .ref qsh])), (qj, .inr (2, [.ref jt, .ref je, .ref ju, .ref ja])), (je, .inl (E.2.1 4, 4, .inr (.inr (.inr (.inr fe))))), (e0, .inr (0, [.int 0, .int 0, .ref e0a, .ref e0b, .ref e0c, .ref e0d])), (e1, .inr (0, [.int 0, .int 0, .ref e1a, .ref e1b, .ref e1c, .ref e1d])), (e2, .inr (0, [.int 0, .int 0, .ref e2a, .ref e2b, .ref e2c, .ref e2d])), (e3, .inr (0, [.int 0, .int 0, .ref e3a, .ref e3b, .ref e3c, .ref e3d]))] (Qi E (fun (r : Int32) u => (r = 0 ∧ u = [(hx, .inr (11, [.ref qn, .ref qp, .int 0, .int 0, .ref qs, .ref qj, .ref ql, .ref qh, .ref qk, .int 0, .ref qr, .ref qg, .int 0, .int 0, .ref qsh])), (qj, .inr (2, [.ref jt, .ref je, .ref ju, .ref ja])), (je, .inl (E.2.1 4, 4, .inr (.inr (.inr (.inr fe))))), (e0, .inr (0, [.int 0, .int 0, .ref e0a, .ref e0b, .ref e0c, .ref e0d])), (e1, .inr (0, [.int 0, .int 0, .ref e1a, .ref e1b, .ref e1c, .ref e1d])), (e2, .inr (0, [.int 0, .int 0, .ref e2a, .ref e2b, .ref e2c, .ref e2d])), (e3, .inr (0, [.int 0, .int 0, .ref e3a, .ref e3b, .ref e3c, .ref e3d]))]))) 0 0 := by
  refine ct_of rfl rfl ?_
  intro X C hT hin
  show WW X 2 E 0 [(0, .ref hx), (1, .int p0)] [] [(hx, .inr (11, [.ref qn, .ref qp, .int 0, .int 0, .ref qs, .ref qj, .ref ql, .ref qh, .ref qk, .int 0, .ref qr, .ref qg, .int 0, .int 0, .ref qsh])), (qj, .inr (2, [.ref jt, .ref je, .ref ju, .ref ja])), (je, .inl (E.2.1 4, 4, .inr (.inr (.inr (.inr fe))))), (e0, .inr (0, [.int 0, .int 0, .ref e0a, .ref e0b, .ref e0c, .ref e0d])), (e1, .inr (0, [.int 0, .int 0, .ref e1a, .ref e1b, .ref e1c, .ref e1d])), (e2, .inr (0, [.int 0, .int 0, .ref e2a, .ref e2b, .ref e2c, .ref e2d])), (e3, .inr (0, [.int 0, .int 0, .ref e3a, .ref e3b, .ref e3c, .ref e3d]))] 0 0
  refine ww_iload_n C dX11_isEvent_0 1 rfl rfl ?_
  refine ww_iconst (v := 0) C dX11_isEvent_1 rfl ?_
  refine ww_iconst (v := 3) C dX11_isEvent_2 rfl ?_
  refine ww_ci (wr := [(hx, .inr (11, [.ref qn, .ref qp, .int 0, .int 0, .ref qs, .ref qj, .ref ql, .ref qh, .ref qk, .int 0, .ref qr, .ref qg, .int 0, .int 0, .ref qsh])), (qj, .inr (2, [.ref jt, .ref je, .ref ju, .ref ja])), (je, .inl (E.2.1 4, 4, .inr (.inr (.inr (.inr fe))))), (e0, .inr (0, [.int 0, .int 0, .ref e0a, .ref e0b, .ref e0c, .ref e0d])), (e1, .inr (0, [.int 0, .int 0, .ref e1a, .ref e1b, .ref e1c, .ref e1d])), (e2, .inr (0, [.int 0, .int 0, .ref e2a, .ref e2b, .ref e2c, .ref e2d])), (e3, .inr (0, [.int 0, .int 0, .ref e3a, .ref e3b, .ref e3c, .ref e3d]))]) (k' := 0) (n' := 0) C (run_S (As := [.int p0, .int 0, .int 3]) (rest := []) C (c_within X.2.1 E p0 0 3 p0.toInt 0 3 rfl rfl rfl) ms_X11_within wl_X11_76 rfl rfl rfl rfl dX11_isEvent_3) [] [0, 1, 2, 3, 4, 5, 6] rfl rfl rfl rfl (fun r u hw => ?_)
  rcases hw with ⟨rfl, rfl, h_1, h_2⟩ | ⟨rfl, rfl, h_3⟩
  · refine ww_eq (ws' := [(hx, .inr (11, [.ref qn, .ref qp, .int 0, .int 0, .ref qs, .ref qj, .ref ql, .ref qh, .ref qk, .int 0, .ref qr, .ref qg, .int 0, .int 0, .ref qsh])), (qj, .inr (2, [.ref jt, .ref je, .ref ju, .ref ja])), (je, .inl (E.2.1 4, 4, .inr (.inr (.inr (.inr fe))))), (e0, .inr (0, [.int 0, .int 0, .ref e0a, .ref e0b, .ref e0c, .ref e0d])), (e1, .inr (0, [.int 0, .int 0, .ref e1a, .ref e1b, .ref e1c, .ref e1d])), (e2, .inr (0, [.int 0, .int 0, .ref e2a, .ref e2b, .ref e2c, .ref e2d])), (e3, .inr (0, [.int 0, .int 0, .ref e3a, .ref e3b, .ref e3c, .ref e3d]))]) ?_ rfl rfl rfl
    refine ww_if_eq_f (tgt := 28) C dX11_isEvent_6 (by decide) (by decide) ?_
    refine ww_aload_n C dX11_isEvent_9 0 rfl rfl ?_
    refine ww_get C fg_X11_34 0 rfl rfl dX11_isEvent_10 ?_
    refine ww_get C fg_X11_84 1 rfl rfl dX11_isEvent_13 ?_
    rcases sp_0_3 (x := p0) (by omega) (by omega) with rfl | rfl | rfl | rfl
    · refine ww_iload_n C dX11_isEvent_16 1 rfl rfl ?_
      refine ww_ald (v := (some e0)) (t0 := 4) C 2 rfl rfl (vin rfl) k_fe_0 dX11_isEvent_17 ?_
      refine ww_eq (st' := [.ref e0]) ?_ rfl rfl rfl
      refine ww_get C fg_X11_88 3 rfl rfl dX11_isEvent_18 ?_
      refine ww_if_le_t (tgt := 28) C dX11_isEvent_21 (by decide) (by decide) ?_
      refine ww_iconst (v := 0) C dX11_isEvent_28 rfl ?_
      exact ww_zret (u := [(hx, .inr (11, [.ref qn, .ref qp, .int 0, .int 0, .ref qs, .ref qj, .ref ql, .ref qh, .ref qk, .int 0, .ref qr, .ref qg, .int 0, .int 0, .ref qsh])), (qj, .inr (2, [.ref jt, .ref je, .ref ju, .ref ja])), (je, .inl (E.2.1 4, 4, .inr (.inr (.inr (.inr fe))))), (e0, .inr (0, [.int 0, .int 0, .ref e0a, .ref e0b, .ref e0c, .ref e0d])), (e1, .inr (0, [.int 0, .int 0, .ref e1a, .ref e1b, .ref e1c, .ref e1d])), (e2, .inr (0, [.int 0, .int 0, .ref e2a, .ref e2b, .ref e2c, .ref e2d])), (e3, .inr (0, [.int 0, .int 0, .ref e3a, .ref e3b, .ref e3c, .ref e3d]))]) C hT [0, 1, 2, 3, 4, 5, 6] rfl rfl rfl rfl rfl dX11_isEvent_29 (⟨rfl, rfl⟩)
    · refine ww_iload_n C dX11_isEvent_16 1 rfl rfl ?_
      refine ww_ald (v := (some e1)) (t0 := 4) C 2 rfl rfl (vin rfl) k_fe_1 dX11_isEvent_17 ?_
      refine ww_eq (st' := [.ref e1]) ?_ rfl rfl rfl
      refine ww_get C fg_X11_88 4 rfl rfl dX11_isEvent_18 ?_
      refine ww_if_le_t (tgt := 28) C dX11_isEvent_21 (by decide) (by decide) ?_
      refine ww_iconst (v := 0) C dX11_isEvent_28 rfl ?_
      exact ww_zret (u := [(hx, .inr (11, [.ref qn, .ref qp, .int 0, .int 0, .ref qs, .ref qj, .ref ql, .ref qh, .ref qk, .int 0, .ref qr, .ref qg, .int 0, .int 0, .ref qsh])), (qj, .inr (2, [.ref jt, .ref je, .ref ju, .ref ja])), (je, .inl (E.2.1 4, 4, .inr (.inr (.inr (.inr fe))))), (e0, .inr (0, [.int 0, .int 0, .ref e0a, .ref e0b, .ref e0c, .ref e0d])), (e1, .inr (0, [.int 0, .int 0, .ref e1a, .ref e1b, .ref e1c, .ref e1d])), (e2, .inr (0, [.int 0, .int 0, .ref e2a, .ref e2b, .ref e2c, .ref e2d])), (e3, .inr (0, [.int 0, .int 0, .ref e3a, .ref e3b, .ref e3c, .ref e3d]))]) C hT [0, 1, 2, 3, 4, 5, 6] rfl rfl rfl rfl rfl dX11_isEvent_29 (⟨rfl, rfl⟩)
    · refine ww_iload_n C dX11_isEvent_16 1 rfl rfl ?_
      refine ww_ald (v := (some e2)) (t0 := 4) C 2 rfl rfl (vin rfl) k_fe_2 dX11_isEvent_17 ?_
      refine ww_eq (st' := [.ref e2]) ?_ rfl rfl rfl
      refine ww_get C fg_X11_88 5 rfl rfl dX11_isEvent_18 ?_
      refine ww_if_le_t (tgt := 28) C dX11_isEvent_21 (by decide) (by decide) ?_
      refine ww_iconst (v := 0) C dX11_isEvent_28 rfl ?_
      exact ww_zret (u := [(hx, .inr (11, [.ref qn, .ref qp, .int 0, .int 0, .ref qs, .ref qj, .ref ql, .ref qh, .ref qk, .int 0, .ref qr, .ref qg, .int 0, .int 0, .ref qsh])), (qj, .inr (2, [.ref jt, .ref je, .ref ju, .ref ja])), (je, .inl (E.2.1 4, 4, .inr (.inr (.inr (.inr fe))))), (e0, .inr (0, [.int 0, .int 0, .ref e0a, .ref e0b, .ref e0c, .ref e0d])), (e1, .inr (0, [.int 0, .int 0, .ref e1a, .ref e1b, .ref e1c, .ref e1d])), (e2, .inr (0, [.int 0, .int 0, .ref e2a, .ref e2b, .ref e2c, .ref e2d])), (e3, .inr (0, [.int 0, .int 0, .ref e3a, .ref e3b, .ref e3c, .ref e3d]))]) C hT [0, 1, 2, 3, 4, 5, 6] rfl rfl rfl rfl rfl dX11_isEvent_29 (⟨rfl, rfl⟩)
    · refine ww_iload_n C dX11_isEvent_16 1 rfl rfl ?_
      refine ww_ald (v := (some e3)) (t0 := 4) C 2 rfl rfl (vin rfl) k_fe_3 dX11_isEvent_17 ?_
      refine ww_eq (st' := [.ref e3]) ?_ rfl rfl rfl
      refine ww_get C fg_X11_88 6 rfl rfl dX11_isEvent_18 ?_
      refine ww_if_le_t (tgt := 28) C dX11_isEvent_21 (by decide) (by decide) ?_
      refine ww_iconst (v := 0) C dX11_isEvent_28 rfl ?_
      exact ww_zret (u := [(hx, .inr (11, [.ref qn, .ref qp, .int 0, .int 0, .ref qs, .ref qj, .ref ql, .ref qh, .ref qk, .int 0, .ref qr, .ref qg, .int 0, .int 0, .ref qsh])), (qj, .inr (2, [.ref jt, .ref je, .ref ju, .ref ja])), (je, .inl (E.2.1 4, 4, .inr (.inr (.inr (.inr fe))))), (e0, .inr (0, [.int 0, .int 0, .ref e0a, .ref e0b, .ref e0c, .ref e0d])), (e1, .inr (0, [.int 0, .int 0, .ref e1a, .ref e1b, .ref e1c, .ref e1d])), (e2, .inr (0, [.int 0, .int 0, .ref e2a, .ref e2b, .ref e2c, .ref e2d])), (e3, .inr (0, [.int 0, .int 0, .ref e3a, .ref e3b, .ref e3c, .ref e3d]))]) C hT [0, 1, 2, 3, 4, 5, 6] rfl rfl rfl rfl rfl dX11_isEvent_29 (⟨rfl, rfl⟩)
  · refine ww_eq (ws' := [(hx, .inr (11, [.ref qn, .ref qp, .int 0, .int 0, .ref qs, .ref qj, .ref ql, .ref qh, .ref qk, .int 0, .ref qr, .ref qg, .int 0, .int 0, .ref qsh])), (qj, .inr (2, [.ref jt, .ref je, .ref ju, .ref ja])), (je, .inl (E.2.1 4, 4, .inr (.inr (.inr (.inr fe))))), (e0, .inr (0, [.int 0, .int 0, .ref e0a, .ref e0b, .ref e0c, .ref e0d])), (e1, .inr (0, [.int 0, .int 0, .ref e1a, .ref e1b, .ref e1c, .ref e1d])), (e2, .inr (0, [.int 0, .int 0, .ref e2a, .ref e2b, .ref e2c, .ref e2d])), (e3, .inr (0, [.int 0, .int 0, .ref e3a, .ref e3b, .ref e3c, .ref e3d]))]) ?_ rfl rfl rfl
    refine ww_if_eq_t (tgt := 28) C dX11_isEvent_6 (by decide) (rfl) ?_
    refine ww_iconst (v := 0) C dX11_isEvent_28 rfl ?_
    exact ww_zret (u := [(hx, .inr (11, [.ref qn, .ref qp, .int 0, .int 0, .ref qs, .ref qj, .ref ql, .ref qh, .ref qk, .int 0, .ref qr, .ref qg, .int 0, .int 0, .ref qsh])), (qj, .inr (2, [.ref jt, .ref je, .ref ju, .ref ja])), (je, .inl (E.2.1 4, 4, .inr (.inr (.inr (.inr fe))))), (e0, .inr (0, [.int 0, .int 0, .ref e0a, .ref e0b, .ref e0c, .ref e0d])), (e1, .inr (0, [.int 0, .int 0, .ref e1a, .ref e1b, .ref e1c, .ref e1d])), (e2, .inr (0, [.int 0, .int 0, .ref e2a, .ref e2b, .ref e2c, .ref e2d])), (e3, .inr (0, [.int 0, .int 0, .ref e3a, .ref e3b, .ref e3c, .ref e3d]))]) C hT [0, 1, 2, 3, 4, 5, 6] rfl rfl rfl rfl rfl dX11_isEvent_29 (⟨rfl, rfl⟩)
theorem dX11_isCase_0 : decode cX11_isCase 0 = .ok (.aload_n 0, 1) := by decide +kernel
theorem dX11_isCase_1 : decode cX11_isCase 1 = .ok (.iload_n 1, 1) := by decide +kernel
theorem dX11_isCase_2 : decode cX11_isCase 2 = .ok (.invokevirtual 94, 3) := by decide +kernel
theorem wl_X11_94 : Cond.methodLink RX11 94 yX11_isEvent ∈ TB := tbm (tq4 (List.mem_of_getElem? (i := 67) (by decide +kernel))) (by decide +kernel)
theorem wc_X11_isEvent : Cond.code yX11_isEvent cX11_isEvent 2 (some .boolean) ∈ TB := tbm (tq4 (List.mem_of_getElem? (i := 70) (rfl))) (by decide +kernel)
theorem wi_X11_isEvent : Cond.instanceMethod yX11_isEvent ∈ TB := tbm (tq4 (List.mem_of_getElem? (i := 69) (by decide +kernel))) (by decide +kernel)
theorem ws_X11_isEvent : Cond.selects RX11 yX11_isEvent yX11_isEvent ∈ TB := tbm (tq0 (List.mem_of_getElem? (i := 23) (by decide +kernel))) (by decide +kernel)
theorem mi_X11_isEvent : MI yX11_isEvent cX11_isEvent 2 (some .boolean) 1 := ⟨wc_X11_isEvent, wn_X11, ⟨by decide +kernel, by decide +kernel, by decide +kernel⟩, wi_X11_isEvent, ws_X11_isEvent⟩
theorem dX11_isCase_5 : decode cX11_isCase 5 = .ok (.ifCond .eq 29, 3) := by decide +kernel
theorem dX11_isCase_34 : decode cX11_isCase 34 = .ok (.iconst 0, 1) := by decide +kernel
theorem dX11_isCase_35 : decode cX11_isCase 35 = .ok (.ireturn, 1) := by decide +kernel
set_option maxRecDepth 100000 in
set_option maxHeartbeats 4000000 in
theorem c_isCase (l : Launch) (E : EV) (hx : Nat) (p0 : Int32) (p1 : Int32) (qn : Nat) (qp : Nat) (qs : Nat) (qj : Nat) (ql : Nat) (qh : Nat) (qk : Nat) (qr : Nat) (qg : Nat) (qsh : Nat) (jt : Nat) (je : Nat) (ju : Nat) (ja : Nat) (fe : Nat → Option Nat) (e0 : Nat) (e1 : Nat) (e2 : Nat) (e3 : Nat) (e0a : Nat) (e0b : Nat) (e0c : Nat) (e0d : Nat) (e1a : Nat) (e1b : Nat) (e1c : Nat) (e1d : Nat) (e2a : Nat) (e2b : Nat) (e2c : Nat) (e2d : Nat) (e3a : Nat) (e3b : Nat) (e3c : Nat) (e3d : Nat) (k_fe_0 : fe 0 = some e0) (k_fe_1 : fe 1 = some e1) (k_fe_2 : fe 2 = some e2) (k_fe_3 : fe 3 = some e3) : CT l yX11_isCase (Cond.code yX11_isCase cX11_isCase 3 (some .boolean) :: TB) ({ frames := 2, cells := 0, slots := 0, locals := 43 }) E [.ref hx, .int p0, .int p1] [(hx, .inr (11, [.ref qn, .ref qp, .int 0, .int 0, .ref qs, .ref qj, .ref ql, .ref qh, .ref qk, .int 0, .ref qr, .ref qg, .int 0, .int 0, .ref qsh])), (qj, .inr (2, [.ref jt, .ref je, .ref ju, .ref ja])), (je, .inl (E.2.1 4, 4, .inr (.inr (.inr (.inr fe))))), (e0, .inr (0, [.int 0, .int 0, .ref e0a, .ref e0b, .ref e0c, .ref e0d])), (e1, .inr (0, [.int 0, .int 0, .ref e1a, .ref e1b, .ref e1c, .ref e1d])), (e2, .inr (0, [.int 0, .int 0, .ref e2a, .ref e2b, .ref e2c, .ref e2d])), (e3, .inr (0, [.int 0, .int 0, .ref e3a, .ref e3b, .ref e3c, .ref e3d]))] (Qi E (fun (r : Int32) u => (r = 0 ∧ u = [(hx, .inr (11, [.ref qn, .ref qp, .int 0, .int 0, .ref qs, .ref qj, .ref ql, .ref qh, .ref qk, .int 0, .ref qr, .ref qg, .int 0, .int 0, .ref qsh])), (qj, .inr (2, [.ref jt, .ref je, .ref ju, .ref ja])), (je, .inl (E.2.1 4, 4, .inr (.inr (.inr (.inr fe))))), (e0, .inr (0, [.int 0, .int 0, .ref e0a, .ref e0b, .ref e0c, .ref e0d])), (e1, .inr (0, [.int 0, .int 0, .ref e1a, .ref e1b, .ref e1c, .ref e1d])), (e2, .inr (0, [.int 0, .int 0, .ref e2a, .ref e2b, .ref e2c, .ref e2d])), (e3, .inr (0, [.int 0, .int 0, .ref e3a, .ref e3b, .ref e3c, .ref e3d]))]))) 0 0 := by
  refine ct_of rfl rfl ?_
  intro X C hT hin
  show WW X 3 E 0 [(0, .ref hx), (1, .int p0), (2, .int p1)] [] [(hx, .inr (11, [.ref qn, .ref qp, .int 0, .int 0, .ref qs, .ref qj, .ref ql, .ref qh, .ref qk, .int 0, .ref qr, .ref qg, .int 0, .int 0, .ref qsh])), (qj, .inr (2, [.ref jt, .ref je, .ref ju, .ref ja])), (je, .inl (E.2.1 4, 4, .inr (.inr (.inr (.inr fe))))), (e0, .inr (0, [.int 0, .int 0, .ref e0a, .ref e0b, .ref e0c, .ref e0d])), (e1, .inr (0, [.int 0, .int 0, .ref e1a, .ref e1b, .ref e1c, .ref e1d])), (e2, .inr (0, [.int 0, .int 0, .ref e2a, .ref e2b, .ref e2c, .ref e2d])), (e3, .inr (0, [.int 0, .int 0, .ref e3a, .ref e3b, .ref e3c, .ref e3d]))] 0 0
  refine ww_aload_n C dX11_isCase_0 0 rfl rfl ?_
  refine ww_iload_n C dX11_isCase_1 1 rfl rfl ?_
  refine ww_ci (wr := []) (k' := 0) (n' := 0) C (run_V (As := [.int p0]) (rest := []) C (c_isEvent X.2.1 E hx p0 qn qp qs qj ql qh qk qr qg qsh jt je ju ja fe e0 e1 e2 e3 e0a e0b e0c e0d e1a e1b e1c e1d e2a e2b e2c e2d e3a e3b e3c e3d k_fe_0 k_fe_1 k_fe_2 k_fe_3) mi_X11_isEvent wl_X11_94 rfl 0 11 rfl rfl rfl rfl rfl dX11_isCase_2) [0, 1, 2, 3, 4, 5, 6] [] rfl rfl rfl rfl (fun r u hw => ?_)
  obtain ⟨rfl, rfl⟩ := hw
  refine ww_eq (ws' := [(hx, .inr (11, [.ref qn, .ref qp, .int 0, .int 0, .ref qs, .ref qj, .ref ql, .ref qh, .ref qk, .int 0, .ref qr, .ref qg, .int 0, .int 0, .ref qsh])), (qj, .inr (2, [.ref jt, .ref je, .ref ju, .ref ja])), (je, .inl (E.2.1 4, 4, .inr (.inr (.inr (.inr fe))))), (e0, .inr (0, [.int 0, .int 0, .ref e0a, .ref e0b, .ref e0c, .ref e0d])), (e1, .inr (0, [.int 0, .int 0, .ref e1a, .ref e1b, .ref e1c, .ref e1d])), (e2, .inr (0, [.int 0, .int 0, .ref e2a, .ref e2b, .ref e2c, .ref e2d])), (e3, .inr (0, [.int 0, .int 0, .ref e3a, .ref e3b, .ref e3c, .ref e3d]))]) ?_ rfl rfl rfl
  refine ww_if_eq_t (tgt := 34) C dX11_isCase_5 (by decide) (rfl) ?_
  refine ww_iconst (v := 0) C dX11_isCase_34 rfl ?_
  exact ww_zret (u := [(hx, .inr (11, [.ref qn, .ref qp, .int 0, .int 0, .ref qs, .ref qj, .ref ql, .ref qh, .ref qk, .int 0, .ref qr, .ref qg, .int 0, .int 0, .ref qsh])), (qj, .inr (2, [.ref jt, .ref je, .ref ju, .ref ja])), (je, .inl (E.2.1 4, 4, .inr (.inr (.inr (.inr fe))))), (e0, .inr (0, [.int 0, .int 0, .ref e0a, .ref e0b, .ref e0c, .ref e0d])), (e1, .inr (0, [.int 0, .int 0, .ref e1a, .ref e1b, .ref e1c, .ref e1d])), (e2, .inr (0, [.int 0, .int 0, .ref e2a, .ref e2b, .ref e2c, .ref e2d])), (e3, .inr (0, [.int 0, .int 0, .ref e3a, .ref e3b, .ref e3c, .ref e3d]))]) C hT [0, 1, 2, 3, 4, 5, 6] rfl rfl rfl rfl rfl dX11_isCase_35 (⟨rfl, rfl⟩)
theorem dX11_canBeIf_0 : decode cX11_canBeIf 0 = .ok (.aload_n 0, 1) := by decide +kernel
theorem dX11_canBeIf_1 : decode cX11_canBeIf 1 = .ok (.iload_n 1, 1) := by decide +kernel
theorem dX11_canBeIf_2 : decode cX11_canBeIf 2 = .ok (.invokevirtual 98, 3) := by decide +kernel
theorem dX11_canBeIf_5 : decode cX11_canBeIf 5 = .ok (.ifCond .eq 22, 3) := by decide +kernel
theorem dX11_canBeIf_27 : decode cX11_canBeIf 27 = .ok (.iconst 0, 1) := by decide +kernel
theorem dX11_canBeIf_28 : decode cX11_canBeIf 28 = .ok (.ireturn, 1) := by decide +kernel
set_option maxRecDepth 100000 in
set_option maxHeartbeats 4000000 in
theorem c_canBeIf (l : Launch) (E : EV) (hx : Nat) (p0 : Int32) (qn : Nat) (qp : Nat) (qs : Nat) (qj : Nat) (ql : Nat) (qh : Nat) (qk : Nat) (qr : Nat) (qg : Nat) (qsh : Nat) (jt : Nat) (je : Nat) (ju : Nat) (ja : Nat)  : CT l yX11_canBeIf (Cond.code yX11_canBeIf cX11_canBeIf 2 (some .boolean) :: TB) ({ frames := 2, cells := 0, slots := 0, locals := 43 }) E [.ref hx, .int p0] [(hx, .inr (11, [.ref qn, .ref qp, .int 0, .int 0, .ref qs, .ref qj, .ref ql, .ref qh, .ref qk, .int 0, .ref qr, .ref qg, .int 0, .int 0, .ref qsh])), (qj, .inr (2, [.ref jt, .ref je, .ref ju, .ref ja])), (jt, .inl (E.2.1 7, 8, .inr (.inr (.inr (.inr (fun _ => none))))))] (Qi E (fun (r : Int32) u => (r = 0 ∧ u = [(hx, .inr (11, [.ref qn, .ref qp, .int 0, .int 0, .ref qs, .ref qj, .ref ql, .ref qh, .ref qk, .int 0, .ref qr, .ref qg, .int 0, .int 0, .ref qsh])), (qj, .inr (2, [.ref jt, .ref je, .ref ju, .ref ja])), (jt, .inl (E.2.1 7, 8, .inr (.inr (.inr (.inr (fun _ => none))))))]))) 0 0 := by
  refine ct_of rfl rfl ?_
  intro X C hT hin
  show WW X 2 E 0 [(0, .ref hx), (1, .int p0)] [] [(hx, .inr (11, [.ref qn, .ref qp, .int 0, .int 0, .ref qs, .ref qj, .ref ql, .ref qh, .ref qk, .int 0, .ref qr, .ref qg, .int 0, .int 0, .ref qsh])), (qj, .inr (2, [.ref jt, .ref je, .ref ju, .ref ja])), (jt, .inl (E.2.1 7, 8, .inr (.inr (.inr (.inr (fun _ => none))))))] 0 0
  refine ww_aload_n C dX11_canBeIf_0 0 rfl rfl ?_
  refine ww_iload_n C dX11_canBeIf_1 1 rfl rfl ?_
  refine ww_ci (wr := []) (k' := 0) (n' := 0) C (run_V (As := [.int p0]) (rest := []) C (c_isTold X.2.1 E hx p0 qn qp qs qj ql qh qk qr qg qsh jt je ju ja) mi_X11_isTold wl_X11_98 rfl 0 11 rfl rfl rfl rfl rfl dX11_canBeIf_2) [0, 1, 2] [] rfl rfl rfl rfl (fun r u hw => ?_)
  obtain ⟨rfl, rfl⟩ := hw
  refine ww_eq (ws' := [(hx, .inr (11, [.ref qn, .ref qp, .int 0, .int 0, .ref qs, .ref qj, .ref ql, .ref qh, .ref qk, .int 0, .ref qr, .ref qg, .int 0, .int 0, .ref qsh])), (qj, .inr (2, [.ref jt, .ref je, .ref ju, .ref ja])), (jt, .inl (E.2.1 7, 8, .inr (.inr (.inr (.inr (fun _ => none))))))]) ?_ rfl rfl rfl
  refine ww_if_eq_t (tgt := 27) C dX11_canBeIf_5 (by decide) (rfl) ?_
  refine ww_iconst (v := 0) C dX11_canBeIf_27 rfl ?_
  exact ww_zret (u := [(hx, .inr (11, [.ref qn, .ref qp, .int 0, .int 0, .ref qs, .ref qj, .ref ql, .ref qh, .ref qk, .int 0, .ref qr, .ref qg, .int 0, .int 0, .ref qsh])), (qj, .inr (2, [.ref jt, .ref je, .ref ju, .ref ja])), (jt, .inl (E.2.1 7, 8, .inr (.inr (.inr (.inr (fun _ => none))))))]) C hT [0, 1, 2] rfl rfl rfl rfl rfl dX11_canBeIf_28 (⟨rfl, rfl⟩)
theorem dX0_begin_0 : decode cX0_begin 0 = .ok (.aload_n 0, 1) := by decide +kernel
theorem dX0_begin_1 : decode cX0_begin 1 = .ok (.iload_n 1, 1) := by decide +kernel
theorem dX0_begin_2 : decode cX0_begin 2 = .ok (.putfield 27, 3) := by decide +kernel
theorem wf_X0_27 : Cond.fieldLink RX0 27 RX0 "cases" "I" ∈ TB := tbm (tq1 (List.mem_of_getElem? (i := 150) (by decide +kernel))) (by decide +kernel)
theorem fp_X0_27 : FP RX0 27 0 0 .int false := ⟨RX0, TX0, 6, tyX0, uw_X0, wf_X0_27, rfl, by decide, rfl, tyX0_ok, nmX0, rfl, by decide +kernel⟩
theorem dX0_begin_5 : decode cX0_begin 5 = .ok (.aload_n 0, 1) := by decide +kernel
theorem dX0_begin_6 : decode cX0_begin 6 = .ok (.iconst 0, 1) := by decide +kernel
theorem dX0_begin_7 : decode cX0_begin 7 = .ok (.putfield 31, 3) := by decide +kernel
theorem wf_X0_31 : Cond.fieldLink RX0 31 RX0 "realCase" "I" ∈ TB := tbm (tq1 (List.mem_of_getElem? (i := 153) (by decide +kernel))) (by decide +kernel)
theorem fp_X0_31 : FP RX0 31 0 1 .int false := ⟨RX0, TX0, 6, tyX0, uw_X0, wf_X0_31, rfl, by decide, rfl, tyX0_ok, nmX0, rfl, by decide +kernel⟩
theorem dX0_begin_10 : decode cX0_begin 10 = .ok (.iconst 0, 1) := by decide +kernel
theorem dX0_begin_11 : decode cX0_begin 11 = .ok (.istore_n 2, 1) := by decide +kernel
theorem dX0_begin_12 : decode cX0_begin 12 = .ok (.iload_n 2, 1) := by decide +kernel
theorem dX0_begin_13 : decode cX0_begin 13 = .ok (.iconst 4, 1) := by decide +kernel
theorem dX0_begin_14 : decode cX0_begin 14 = .ok (.if_icmp .ge 30, 3) := by decide +kernel
theorem dX0_begin_17 : decode cX0_begin 17 = .ok (.aload_n 0, 1) := by decide +kernel
theorem dX0_begin_18 : decode cX0_begin 18 = .ok (.getfield 11, 3) := by decide +kernel
theorem fg_X0_11 : FG RX0 11 0 2 := ⟨RX0, TX0, 6, uw_X0, wf_X0_11, rfl, by decide, rfl⟩
theorem dX0_begin_21 : decode cX0_begin 21 = .ok (.iload_n 2, 1) := by decide +kernel
theorem dX0_begin_22 : decode cX0_begin 22 = .ok (.aconst_null, 1) := by decide +kernel
theorem dX0_begin_23 : decode cX0_begin 23 = .ok (.aastore, 1) := by decide +kernel
theorem dX0_begin_24 : decode cX0_begin 24 = .ok (.aload_n 0, 1) := by decide +kernel
theorem dX0_begin_25 : decode cX0_begin 25 = .ok (.getfield 17, 3) := by decide +kernel
theorem fg_X0_17 : FG RX0 17 0 3 := ⟨RX0, TX0, 6, uw_X0, wf_X0_17, rfl, by decide, rfl⟩
theorem dX0_begin_28 : decode cX0_begin 28 = .ok (.iload_n 2, 1) := by decide +kernel
theorem dX0_begin_29 : decode cX0_begin 29 = .ok (.iconst 0, 1) := by decide +kernel
theorem dX0_begin_30 : decode cX0_begin 30 = .ok (.iastore, 1) := by decide +kernel
theorem dX0_begin_31 : decode cX0_begin 31 = .ok (.aload_n 0, 1) := by decide +kernel
theorem dX0_begin_32 : decode cX0_begin 32 = .ok (.getfield 21, 3) := by decide +kernel
theorem fg_X0_21 : FG RX0 21 0 4 := ⟨RX0, TX0, 6, uw_X0, wf_X0_21, rfl, by decide, rfl⟩
theorem dX0_begin_35 : decode cX0_begin 35 = .ok (.iload_n 2, 1) := by decide +kernel
theorem dX0_begin_36 : decode cX0_begin 36 = .ok (.iconst 0, 1) := by decide +kernel
theorem dX0_begin_37 : decode cX0_begin 37 = .ok (.iastore, 1) := by decide +kernel
theorem dX0_begin_38 : decode cX0_begin 38 = .ok (.iinc 2 1, 3) := by decide +kernel
theorem dX0_begin_41 : decode cX0_begin 41 = .ok (.goto (-29), 3) := by decide +kernel
theorem dX0_begin_44 : decode cX0_begin 44 = .ok (.iconst 0, 1) := by decide +kernel
theorem dX0_begin_45 : decode cX0_begin 45 = .ok (.istore_n 2, 1) := by decide +kernel
theorem dX0_begin_46 : decode cX0_begin 46 = .ok (.iload_n 2, 1) := by decide +kernel
theorem dX0_begin_47 : decode cX0_begin 47 = .ok (.aload_n 0, 1) := by decide +kernel
theorem dX0_begin_48 : decode cX0_begin 48 = .ok (.getfield 24, 3) := by decide +kernel
theorem fg_X0_24 : FG RX0 24 0 5 := ⟨RX0, TX0, 6, uw_X0, wf_X0_24, rfl, by decide, rfl⟩
theorem dX0_begin_51 : decode cX0_begin 51 = .ok (.arraylength, 1) := by decide +kernel
theorem dX0_begin_52 : decode cX0_begin 52 = .ok (.if_icmp .ge 16, 3) := by decide +kernel
theorem dX0_begin_55 : decode cX0_begin 55 = .ok (.aload_n 0, 1) := by decide +kernel
theorem dX0_begin_56 : decode cX0_begin 56 = .ok (.getfield 24, 3) := by decide +kernel
theorem dX0_begin_59 : decode cX0_begin 59 = .ok (.iload_n 2, 1) := by decide +kernel
theorem dX0_begin_60 : decode cX0_begin 60 = .ok (.iconst 0, 1) := by decide +kernel
theorem dX0_begin_61 : decode cX0_begin 61 = .ok (.iastore, 1) := by decide +kernel
theorem dX0_begin_62 : decode cX0_begin 62 = .ok (.iinc 2 1, 3) := by decide +kernel
theorem dX0_begin_65 : decode cX0_begin 65 = .ok (.goto (-19), 3) := by decide +kernel
theorem dX0_begin_68 : decode cX0_begin 68 = .ok (.return_, 1) := by decide +kernel
set_option maxRecDepth 100000 in
set_option maxHeartbeats 4000000 in
theorem c_ebegin (l : Launch) (E : EV) (e0 : Nat) (n : Int32) (e0a : Nat) (e0b : Nat) (e0c : Nat) (e0d : Nat)  : CT l yX0_begin (Cond.code yX0_begin cX0_begin 3 none :: TB) ({ frames := 0, cells := 0, slots := 0, locals := 0 }) E [.ref e0, .int n] [(e0, .inr (0, [.int 0, .int 0, .ref e0a, .ref e0b, .ref e0c, .ref e0d])), (e0a, .inl (E.2.1 7, 4, .inr (.inr (.inr (.inr (fun _ => none)))))), (e0b, .inl (E.2.1 1, 4, .inl (fun _ => 0))), (e0c, .inl (E.2.1 1, 4, .inl (fun _ => 0))), (e0d, .inl (E.2.1 1, 16, .inl (fun _ => 0)))] (Qv E (fun u => (u = []))) 0 0 := by
  refine ct_of rfl rfl ?_
  intro X C hT hin
  show WW X 3 E 0 [(0, .ref e0), (1, .int n)] [] [(e0, .inr (0, [.int 0, .int 0, .ref e0a, .ref e0b, .ref e0c, .ref e0d])), (e0a, .inl (E.2.1 7, 4, .inr (.inr (.inr (.inr (fun _ => none)))))), (e0b, .inl (E.2.1 1, 4, .inl (fun _ => 0))), (e0c, .inl (E.2.1 1, 4, .inl (fun _ => 0))), (e0d, .inl (E.2.1 1, 16, .inl (fun _ => 0)))] 0 0
  refine ww_aload_n C dX0_begin_0 0 rfl rfl ?_
  refine ww_iload_n C dX0_begin_1 1 rfl rfl ?_
  refine ww_put (ws' := [(e0, .inr (0, [.int n, .int 0, .ref e0a, .ref e0b, .ref e0c, .ref e0d])), (e0a, .inl (E.2.1 7, 4, .inr (.inr (.inr (.inr (fun _ => none)))))), (e0b, .inl (E.2.1 1, 4, .inl (fun _ => 0))), (e0c, .inl (E.2.1 1, 4, .inl (fun _ => 0))), (e0d, .inl (E.2.1 1, 16, .inl (fun _ => 0)))]) C fp_X0_27 0 rfl rfl rfl rfl rfl dX0_begin_2 ?_
  refine ww_aload_n C dX0_begin_5 0 rfl rfl ?_
  refine ww_iconst (v := 0) C dX0_begin_6 rfl ?_
  refine ww_put (ws' := [(e0, .inr (0, [.int n, .int 0, .ref e0a, .ref e0b, .ref e0c, .ref e0d])), (e0a, .inl (E.2.1 7, 4, .inr (.inr (.inr (.inr (fun _ => none)))))), (e0b, .inl (E.2.1 1, 4, .inl (fun _ => 0))), (e0c, .inl (E.2.1 1, 4, .inl (fun _ => 0))), (e0d, .inl (E.2.1 1, 16, .inl (fun _ => 0)))]) C fp_X0_31 0 rfl rfl rfl rfl rfl dX0_begin_7 ?_
  refine ww_iconst (v := 0) C dX0_begin_10 rfl ?_
  refine ww_istore_n (lv' := [(2, .int 0), (0, .ref e0), (1, .int n)]) C dX0_begin_11 rfl rfl rfl ?_
  refine ww_iload_n C dX0_begin_12 0 rfl rfl ?_
  refine ww_iconst (v := 4) C dX0_begin_13 rfl ?_
  refine ww_icmp_ge_f (tgt := 44) C dX0_begin_14 (by decide) (by decide) ?_
  refine ww_aload_n C dX0_begin_17 1 rfl rfl ?_
  refine ww_get C fg_X0_11 0 rfl rfl dX0_begin_18 ?_
  refine ww_iload_n C dX0_begin_21 0 rfl rfl ?_
  refine ww_null C dX0_begin_22 ?_
  obtain ⟨f_1, ef_1⟩ : ∃ z : Nat → Option Nat, va_up (fun _ => none) 0 none = z := ⟨_, rfl⟩
  refine ww_astN (t0 := 7) (ws' := [(e0, .inr (0, [.int n, .int 0, .ref e0a, .ref e0b, .ref e0c, .ref e0d])), (e0a, .inl (E.2.1 7, 4, .inr (.inr (.inr (.inr f_1))))), (e0b, .inl (E.2.1 1, 4, .inl (fun _ => 0))), (e0c, .inl (E.2.1 1, 4, .inl (fun _ => 0))), (e0d, .inl (E.2.1 1, 16, .inl (fun _ => 0)))]) C 1 rfl rfl (vin rfl) ef_1 rfl dX0_begin_23 ?_
  refine ww_aload_n C dX0_begin_24 1 rfl rfl ?_
  refine ww_get C fg_X0_17 0 rfl rfl dX0_begin_25 ?_
  refine ww_iload_n C dX0_begin_28 0 rfl rfl ?_
  refine ww_iconst (v := 0) C dX0_begin_29 rfl ?_
  obtain ⟨f_2, ef_2⟩ : ∃ z : Nat → Int32, upd (fun _ => 0) 0 0 = z := ⟨_, rfl⟩
  refine ww_iast (ws' := [(e0, .inr (0, [.int n, .int 0, .ref e0a, .ref e0b, .ref e0c, .ref e0d])), (e0a, .inl (E.2.1 7, 4, .inr (.inr (.inr (.inr f_1))))), (e0b, .inl (E.2.1 1, 4, .inl f_2)), (e0c, .inl (E.2.1 1, 4, .inl (fun _ => 0))), (e0d, .inl (E.2.1 1, 16, .inl (fun _ => 0)))]) C 2 rfl (vin rfl) ef_2 rfl dX0_begin_30 ?_
  refine ww_aload_n C dX0_begin_31 1 rfl rfl ?_
  refine ww_get C fg_X0_21 0 rfl rfl dX0_begin_32 ?_
  refine ww_iload_n C dX0_begin_35 0 rfl rfl ?_
  refine ww_iconst (v := 0) C dX0_begin_36 rfl ?_
  obtain ⟨f_3, ef_3⟩ : ∃ z : Nat → Int32, upd (fun _ => 0) 0 0 = z := ⟨_, rfl⟩
  refine ww_iast (ws' := [(e0, .inr (0, [.int n, .int 0, .ref e0a, .ref e0b, .ref e0c, .ref e0d])), (e0a, .inl (E.2.1 7, 4, .inr (.inr (.inr (.inr f_1))))), (e0b, .inl (E.2.1 1, 4, .inl f_2)), (e0c, .inl (E.2.1 1, 4, .inl f_3)), (e0d, .inl (E.2.1 1, 16, .inl (fun _ => 0)))]) C 3 rfl (vin rfl) ef_3 rfl dX0_begin_37 ?_
  refine ww_iinc (j := 0) (v := 1) (lv' := [(2, .int 1), (0, .ref e0), (1, .int n)]) C dX0_begin_38 rfl rfl rfl rfl ?_
  refine ww_goto (tgt := 12) C dX0_begin_41 (by decide) ?_
  refine ww_iload_n C dX0_begin_12 0 rfl rfl ?_
  refine ww_iconst (v := 4) C dX0_begin_13 rfl ?_
  refine ww_icmp_ge_f (tgt := 44) C dX0_begin_14 (by decide) (by decide) ?_
  refine ww_aload_n C dX0_begin_17 1 rfl rfl ?_
  refine ww_get C fg_X0_11 0 rfl rfl dX0_begin_18 ?_
  refine ww_iload_n C dX0_begin_21 0 rfl rfl ?_
  refine ww_null C dX0_begin_22 ?_
  obtain ⟨f_4, ef_4⟩ : ∃ z : Nat → Option Nat, va_up f_1 1 none = z := ⟨_, rfl⟩
  refine ww_astN (t0 := 7) (ws' := [(e0, .inr (0, [.int n, .int 0, .ref e0a, .ref e0b, .ref e0c, .ref e0d])), (e0a, .inl (E.2.1 7, 4, .inr (.inr (.inr (.inr f_4))))), (e0b, .inl (E.2.1 1, 4, .inl f_2)), (e0c, .inl (E.2.1 1, 4, .inl f_3)), (e0d, .inl (E.2.1 1, 16, .inl (fun _ => 0)))]) C 1 rfl rfl (vin rfl) ef_4 rfl dX0_begin_23 ?_
  refine ww_aload_n C dX0_begin_24 1 rfl rfl ?_
  refine ww_get C fg_X0_17 0 rfl rfl dX0_begin_25 ?_
  refine ww_iload_n C dX0_begin_28 0 rfl rfl ?_
  refine ww_iconst (v := 0) C dX0_begin_29 rfl ?_
  obtain ⟨f_5, ef_5⟩ : ∃ z : Nat → Int32, upd f_2 1 0 = z := ⟨_, rfl⟩
  refine ww_iast (ws' := [(e0, .inr (0, [.int n, .int 0, .ref e0a, .ref e0b, .ref e0c, .ref e0d])), (e0a, .inl (E.2.1 7, 4, .inr (.inr (.inr (.inr f_4))))), (e0b, .inl (E.2.1 1, 4, .inl f_5)), (e0c, .inl (E.2.1 1, 4, .inl f_3)), (e0d, .inl (E.2.1 1, 16, .inl (fun _ => 0)))]) C 2 rfl (vin rfl) ef_5 rfl dX0_begin_30 ?_
  refine ww_aload_n C dX0_begin_31 1 rfl rfl ?_
  refine ww_get C fg_X0_21 0 rfl rfl dX0_begin_32 ?_
  refine ww_iload_n C dX0_begin_35 0 rfl rfl ?_
  refine ww_iconst (v := 0) C dX0_begin_36 rfl ?_
  obtain ⟨f_6, ef_6⟩ : ∃ z : Nat → Int32, upd f_3 1 0 = z := ⟨_, rfl⟩
  refine ww_iast (ws' := [(e0, .inr (0, [.int n, .int 0, .ref e0a, .ref e0b, .ref e0c, .ref e0d])), (e0a, .inl (E.2.1 7, 4, .inr (.inr (.inr (.inr f_4))))), (e0b, .inl (E.2.1 1, 4, .inl f_5)), (e0c, .inl (E.2.1 1, 4, .inl f_6)), (e0d, .inl (E.2.1 1, 16, .inl (fun _ => 0)))]) C 3 rfl (vin rfl) ef_6 rfl dX0_begin_37 ?_
  refine ww_iinc (j := 0) (v := 2) (lv' := [(2, .int 2), (0, .ref e0), (1, .int n)]) C dX0_begin_38 rfl rfl rfl rfl ?_
  refine ww_goto (tgt := 12) C dX0_begin_41 (by decide) ?_
  refine ww_iload_n C dX0_begin_12 0 rfl rfl ?_
  refine ww_iconst (v := 4) C dX0_begin_13 rfl ?_
  refine ww_icmp_ge_f (tgt := 44) C dX0_begin_14 (by decide) (by decide) ?_
  refine ww_aload_n C dX0_begin_17 1 rfl rfl ?_
  refine ww_get C fg_X0_11 0 rfl rfl dX0_begin_18 ?_
  refine ww_iload_n C dX0_begin_21 0 rfl rfl ?_
  refine ww_null C dX0_begin_22 ?_
  obtain ⟨f_7, ef_7⟩ : ∃ z : Nat → Option Nat, va_up f_4 2 none = z := ⟨_, rfl⟩
  refine ww_astN (t0 := 7) (ws' := [(e0, .inr (0, [.int n, .int 0, .ref e0a, .ref e0b, .ref e0c, .ref e0d])), (e0a, .inl (E.2.1 7, 4, .inr (.inr (.inr (.inr f_7))))), (e0b, .inl (E.2.1 1, 4, .inl f_5)), (e0c, .inl (E.2.1 1, 4, .inl f_6)), (e0d, .inl (E.2.1 1, 16, .inl (fun _ => 0)))]) C 1 rfl rfl (vin rfl) ef_7 rfl dX0_begin_23 ?_
  refine ww_aload_n C dX0_begin_24 1 rfl rfl ?_
  refine ww_get C fg_X0_17 0 rfl rfl dX0_begin_25 ?_
  refine ww_iload_n C dX0_begin_28 0 rfl rfl ?_
  refine ww_iconst (v := 0) C dX0_begin_29 rfl ?_
  obtain ⟨f_8, ef_8⟩ : ∃ z : Nat → Int32, upd f_5 2 0 = z := ⟨_, rfl⟩
  refine ww_iast (ws' := [(e0, .inr (0, [.int n, .int 0, .ref e0a, .ref e0b, .ref e0c, .ref e0d])), (e0a, .inl (E.2.1 7, 4, .inr (.inr (.inr (.inr f_7))))), (e0b, .inl (E.2.1 1, 4, .inl f_8)), (e0c, .inl (E.2.1 1, 4, .inl f_6)), (e0d, .inl (E.2.1 1, 16, .inl (fun _ => 0)))]) C 2 rfl (vin rfl) ef_8 rfl dX0_begin_30 ?_
  refine ww_aload_n C dX0_begin_31 1 rfl rfl ?_
  refine ww_get C fg_X0_21 0 rfl rfl dX0_begin_32 ?_
  refine ww_iload_n C dX0_begin_35 0 rfl rfl ?_
  refine ww_iconst (v := 0) C dX0_begin_36 rfl ?_
  obtain ⟨f_9, ef_9⟩ : ∃ z : Nat → Int32, upd f_6 2 0 = z := ⟨_, rfl⟩
  refine ww_iast (ws' := [(e0, .inr (0, [.int n, .int 0, .ref e0a, .ref e0b, .ref e0c, .ref e0d])), (e0a, .inl (E.2.1 7, 4, .inr (.inr (.inr (.inr f_7))))), (e0b, .inl (E.2.1 1, 4, .inl f_8)), (e0c, .inl (E.2.1 1, 4, .inl f_9)), (e0d, .inl (E.2.1 1, 16, .inl (fun _ => 0)))]) C 3 rfl (vin rfl) ef_9 rfl dX0_begin_37 ?_
  refine ww_iinc (j := 0) (v := 3) (lv' := [(2, .int 3), (0, .ref e0), (1, .int n)]) C dX0_begin_38 rfl rfl rfl rfl ?_
  refine ww_goto (tgt := 12) C dX0_begin_41 (by decide) ?_
  refine ww_iload_n C dX0_begin_12 0 rfl rfl ?_
  refine ww_iconst (v := 4) C dX0_begin_13 rfl ?_
  refine ww_icmp_ge_f (tgt := 44) C dX0_begin_14 (by decide) (by decide) ?_
  refine ww_aload_n C dX0_begin_17 1 rfl rfl ?_
  refine ww_get C fg_X0_11 0 rfl rfl dX0_begin_18 ?_
  refine ww_iload_n C dX0_begin_21 0 rfl rfl ?_
  refine ww_null C dX0_begin_22 ?_
  obtain ⟨f_10, ef_10⟩ : ∃ z : Nat → Option Nat, va_up f_7 3 none = z := ⟨_, rfl⟩
  refine ww_astN (t0 := 7) (ws' := [(e0, .inr (0, [.int n, .int 0, .ref e0a, .ref e0b, .ref e0c, .ref e0d])), (e0a, .inl (E.2.1 7, 4, .inr (.inr (.inr (.inr f_10))))), (e0b, .inl (E.2.1 1, 4, .inl f_8)), (e0c, .inl (E.2.1 1, 4, .inl f_9)), (e0d, .inl (E.2.1 1, 16, .inl (fun _ => 0)))]) C 1 rfl rfl (vin rfl) ef_10 rfl dX0_begin_23 ?_
  refine ww_aload_n C dX0_begin_24 1 rfl rfl ?_
  refine ww_get C fg_X0_17 0 rfl rfl dX0_begin_25 ?_
  refine ww_iload_n C dX0_begin_28 0 rfl rfl ?_
  refine ww_iconst (v := 0) C dX0_begin_29 rfl ?_
  obtain ⟨f_11, ef_11⟩ : ∃ z : Nat → Int32, upd f_8 3 0 = z := ⟨_, rfl⟩
  refine ww_iast (ws' := [(e0, .inr (0, [.int n, .int 0, .ref e0a, .ref e0b, .ref e0c, .ref e0d])), (e0a, .inl (E.2.1 7, 4, .inr (.inr (.inr (.inr f_10))))), (e0b, .inl (E.2.1 1, 4, .inl f_11)), (e0c, .inl (E.2.1 1, 4, .inl f_9)), (e0d, .inl (E.2.1 1, 16, .inl (fun _ => 0)))]) C 2 rfl (vin rfl) ef_11 rfl dX0_begin_30 ?_
  refine ww_aload_n C dX0_begin_31 1 rfl rfl ?_
  refine ww_get C fg_X0_21 0 rfl rfl dX0_begin_32 ?_
  refine ww_iload_n C dX0_begin_35 0 rfl rfl ?_
  refine ww_iconst (v := 0) C dX0_begin_36 rfl ?_
  obtain ⟨f_12, ef_12⟩ : ∃ z : Nat → Int32, upd f_9 3 0 = z := ⟨_, rfl⟩
  refine ww_iast (ws' := [(e0, .inr (0, [.int n, .int 0, .ref e0a, .ref e0b, .ref e0c, .ref e0d])), (e0a, .inl (E.2.1 7, 4, .inr (.inr (.inr (.inr f_10))))), (e0b, .inl (E.2.1 1, 4, .inl f_11)), (e0c, .inl (E.2.1 1, 4, .inl f_12)), (e0d, .inl (E.2.1 1, 16, .inl (fun _ => 0)))]) C 3 rfl (vin rfl) ef_12 rfl dX0_begin_37 ?_
  refine ww_iinc (j := 0) (v := 4) (lv' := [(2, .int 4), (0, .ref e0), (1, .int n)]) C dX0_begin_38 rfl rfl rfl rfl ?_
  refine ww_goto (tgt := 12) C dX0_begin_41 (by decide) ?_
  refine ww_iload_n C dX0_begin_12 0 rfl rfl ?_
  refine ww_iconst (v := 4) C dX0_begin_13 rfl ?_
  refine ww_icmp_ge_t (tgt := 44) C dX0_begin_14 (by decide) (by decide) ?_
  refine ww_iconst (v := 0) C dX0_begin_44 rfl ?_
  refine ww_istore_n (lv' := [(2, .int 0), (0, .ref e0), (1, .int n)]) C dX0_begin_45 rfl rfl rfl ?_
  refine ww_iload_n C dX0_begin_46 0 rfl rfl ?_
  refine ww_aload_n C dX0_begin_47 1 rfl rfl ?_
  refine ww_get C fg_X0_24 0 rfl rfl dX0_begin_48 ?_
  refine ww_alen (v := 16) (t0 := 1) C 4 rfl rfl rfl dX0_begin_51 ?_
  refine ww_icmp_ge_f (tgt := 68) C dX0_begin_52 (by decide) (by decide) ?_
  refine ww_aload_n C dX0_begin_55 1 rfl rfl ?_
  refine ww_get C fg_X0_24 0 rfl rfl dX0_begin_56 ?_
  refine ww_iload_n C dX0_begin_59 0 rfl rfl ?_
  refine ww_iconst (v := 0) C dX0_begin_60 rfl ?_
  obtain ⟨f_13, ef_13⟩ : ∃ z : Nat → Int32, upd (fun _ => 0) 0 0 = z := ⟨_, rfl⟩
  refine ww_iast (ws' := [(e0, .inr (0, [.int n, .int 0, .ref e0a, .ref e0b, .ref e0c, .ref e0d])), (e0a, .inl (E.2.1 7, 4, .inr (.inr (.inr (.inr f_10))))), (e0b, .inl (E.2.1 1, 4, .inl f_11)), (e0c, .inl (E.2.1 1, 4, .inl f_12)), (e0d, .inl (E.2.1 1, 16, .inl f_13))]) C 4 rfl (vin rfl) ef_13 rfl dX0_begin_61 ?_
  refine ww_iinc (j := 0) (v := 1) (lv' := [(2, .int 1), (0, .ref e0), (1, .int n)]) C dX0_begin_62 rfl rfl rfl rfl ?_
  refine ww_goto (tgt := 46) C dX0_begin_65 (by decide) ?_
  refine ww_iload_n C dX0_begin_46 0 rfl rfl ?_
  refine ww_aload_n C dX0_begin_47 1 rfl rfl ?_
  refine ww_get C fg_X0_24 0 rfl rfl dX0_begin_48 ?_
  refine ww_alen (v := 16) (t0 := 1) C 4 rfl rfl rfl dX0_begin_51 ?_
  refine ww_icmp_ge_f (tgt := 68) C dX0_begin_52 (by decide) (by decide) ?_
  refine ww_aload_n C dX0_begin_55 1 rfl rfl ?_
  refine ww_get C fg_X0_24 0 rfl rfl dX0_begin_56 ?_
  refine ww_iload_n C dX0_begin_59 0 rfl rfl ?_
  refine ww_iconst (v := 0) C dX0_begin_60 rfl ?_
  obtain ⟨f_14, ef_14⟩ : ∃ z : Nat → Int32, upd f_13 1 0 = z := ⟨_, rfl⟩
  refine ww_iast (ws' := [(e0, .inr (0, [.int n, .int 0, .ref e0a, .ref e0b, .ref e0c, .ref e0d])), (e0a, .inl (E.2.1 7, 4, .inr (.inr (.inr (.inr f_10))))), (e0b, .inl (E.2.1 1, 4, .inl f_11)), (e0c, .inl (E.2.1 1, 4, .inl f_12)), (e0d, .inl (E.2.1 1, 16, .inl f_14))]) C 4 rfl (vin rfl) ef_14 rfl dX0_begin_61 ?_
  refine ww_iinc (j := 0) (v := 2) (lv' := [(2, .int 2), (0, .ref e0), (1, .int n)]) C dX0_begin_62 rfl rfl rfl rfl ?_
  refine ww_goto (tgt := 46) C dX0_begin_65 (by decide) ?_
  refine ww_iload_n C dX0_begin_46 0 rfl rfl ?_
  refine ww_aload_n C dX0_begin_47 1 rfl rfl ?_
  refine ww_get C fg_X0_24 0 rfl rfl dX0_begin_48 ?_
  refine ww_alen (v := 16) (t0 := 1) C 4 rfl rfl rfl dX0_begin_51 ?_
  refine ww_icmp_ge_f (tgt := 68) C dX0_begin_52 (by decide) (by decide) ?_
  refine ww_aload_n C dX0_begin_55 1 rfl rfl ?_
  refine ww_get C fg_X0_24 0 rfl rfl dX0_begin_56 ?_
  refine ww_iload_n C dX0_begin_59 0 rfl rfl ?_
  refine ww_iconst (v := 0) C dX0_begin_60 rfl ?_
  obtain ⟨f_15, ef_15⟩ : ∃ z : Nat → Int32, upd f_14 2 0 = z := ⟨_, rfl⟩
  refine ww_iast (ws' := [(e0, .inr (0, [.int n, .int 0, .ref e0a, .ref e0b, .ref e0c, .ref e0d])), (e0a, .inl (E.2.1 7, 4, .inr (.inr (.inr (.inr f_10))))), (e0b, .inl (E.2.1 1, 4, .inl f_11)), (e0c, .inl (E.2.1 1, 4, .inl f_12)), (e0d, .inl (E.2.1 1, 16, .inl f_15))]) C 4 rfl (vin rfl) ef_15 rfl dX0_begin_61 ?_
  refine ww_iinc (j := 0) (v := 3) (lv' := [(2, .int 3), (0, .ref e0), (1, .int n)]) C dX0_begin_62 rfl rfl rfl rfl ?_
  refine ww_goto (tgt := 46) C dX0_begin_65 (by decide) ?_
  refine ww_iload_n C dX0_begin_46 0 rfl rfl ?_
  refine ww_aload_n C dX0_begin_47 1 rfl rfl ?_
  refine ww_get C fg_X0_24 0 rfl rfl dX0_begin_48 ?_
  refine ww_alen (v := 16) (t0 := 1) C 4 rfl rfl rfl dX0_begin_51 ?_
  refine ww_icmp_ge_f (tgt := 68) C dX0_begin_52 (by decide) (by decide) ?_
  refine ww_aload_n C dX0_begin_55 1 rfl rfl ?_
  refine ww_get C fg_X0_24 0 rfl rfl dX0_begin_56 ?_
  refine ww_iload_n C dX0_begin_59 0 rfl rfl ?_
  refine ww_iconst (v := 0) C dX0_begin_60 rfl ?_
  obtain ⟨f_16, ef_16⟩ : ∃ z : Nat → Int32, upd f_15 3 0 = z := ⟨_, rfl⟩
  refine ww_iast (ws' := [(e0, .inr (0, [.int n, .int 0, .ref e0a, .ref e0b, .ref e0c, .ref e0d])), (e0a, .inl (E.2.1 7, 4, .inr (.inr (.inr (.inr f_10))))), (e0b, .inl (E.2.1 1, 4, .inl f_11)), (e0c, .inl (E.2.1 1, 4, .inl f_12)), (e0d, .inl (E.2.1 1, 16, .inl f_16))]) C 4 rfl (vin rfl) ef_16 rfl dX0_begin_61 ?_
  refine ww_iinc (j := 0) (v := 4) (lv' := [(2, .int 4), (0, .ref e0), (1, .int n)]) C dX0_begin_62 rfl rfl rfl rfl ?_
  refine ww_goto (tgt := 46) C dX0_begin_65 (by decide) ?_
  refine ww_iload_n C dX0_begin_46 0 rfl rfl ?_
  refine ww_aload_n C dX0_begin_47 1 rfl rfl ?_
  refine ww_get C fg_X0_24 0 rfl rfl dX0_begin_48 ?_
  refine ww_alen (v := 16) (t0 := 1) C 4 rfl rfl rfl dX0_begin_51 ?_
  refine ww_icmp_ge_f (tgt := 68) C dX0_begin_52 (by decide) (by decide) ?_
  refine ww_aload_n C dX0_begin_55 1 rfl rfl ?_
  refine ww_get C fg_X0_24 0 rfl rfl dX0_begin_56 ?_
  refine ww_iload_n C dX0_begin_59 0 rfl rfl ?_
  refine ww_iconst (v := 0) C dX0_begin_60 rfl ?_
  obtain ⟨f_17, ef_17⟩ : ∃ z : Nat → Int32, upd f_16 4 0 = z := ⟨_, rfl⟩
  refine ww_iast (ws' := [(e0, .inr (0, [.int n, .int 0, .ref e0a, .ref e0b, .ref e0c, .ref e0d])), (e0a, .inl (E.2.1 7, 4, .inr (.inr (.inr (.inr f_10))))), (e0b, .inl (E.2.1 1, 4, .inl f_11)), (e0c, .inl (E.2.1 1, 4, .inl f_12)), (e0d, .inl (E.2.1 1, 16, .inl f_17))]) C 4 rfl (vin rfl) ef_17 rfl dX0_begin_61 ?_
  refine ww_iinc (j := 0) (v := 5) (lv' := [(2, .int 5), (0, .ref e0), (1, .int n)]) C dX0_begin_62 rfl rfl rfl rfl ?_
  refine ww_goto (tgt := 46) C dX0_begin_65 (by decide) ?_
  refine ww_iload_n C dX0_begin_46 0 rfl rfl ?_
  refine ww_aload_n C dX0_begin_47 1 rfl rfl ?_
  refine ww_get C fg_X0_24 0 rfl rfl dX0_begin_48 ?_
  refine ww_alen (v := 16) (t0 := 1) C 4 rfl rfl rfl dX0_begin_51 ?_
  refine ww_icmp_ge_f (tgt := 68) C dX0_begin_52 (by decide) (by decide) ?_
  refine ww_aload_n C dX0_begin_55 1 rfl rfl ?_
  refine ww_get C fg_X0_24 0 rfl rfl dX0_begin_56 ?_
  refine ww_iload_n C dX0_begin_59 0 rfl rfl ?_
  refine ww_iconst (v := 0) C dX0_begin_60 rfl ?_
  obtain ⟨f_18, ef_18⟩ : ∃ z : Nat → Int32, upd f_17 5 0 = z := ⟨_, rfl⟩
  refine ww_iast (ws' := [(e0, .inr (0, [.int n, .int 0, .ref e0a, .ref e0b, .ref e0c, .ref e0d])), (e0a, .inl (E.2.1 7, 4, .inr (.inr (.inr (.inr f_10))))), (e0b, .inl (E.2.1 1, 4, .inl f_11)), (e0c, .inl (E.2.1 1, 4, .inl f_12)), (e0d, .inl (E.2.1 1, 16, .inl f_18))]) C 4 rfl (vin rfl) ef_18 rfl dX0_begin_61 ?_
  refine ww_iinc (j := 0) (v := 6) (lv' := [(2, .int 6), (0, .ref e0), (1, .int n)]) C dX0_begin_62 rfl rfl rfl rfl ?_
  refine ww_goto (tgt := 46) C dX0_begin_65 (by decide) ?_
  refine ww_iload_n C dX0_begin_46 0 rfl rfl ?_
  refine ww_aload_n C dX0_begin_47 1 rfl rfl ?_
  refine ww_get C fg_X0_24 0 rfl rfl dX0_begin_48 ?_
  refine ww_alen (v := 16) (t0 := 1) C 4 rfl rfl rfl dX0_begin_51 ?_
  refine ww_icmp_ge_f (tgt := 68) C dX0_begin_52 (by decide) (by decide) ?_
  refine ww_aload_n C dX0_begin_55 1 rfl rfl ?_
  refine ww_get C fg_X0_24 0 rfl rfl dX0_begin_56 ?_
  refine ww_iload_n C dX0_begin_59 0 rfl rfl ?_
  refine ww_iconst (v := 0) C dX0_begin_60 rfl ?_
  obtain ⟨f_19, ef_19⟩ : ∃ z : Nat → Int32, upd f_18 6 0 = z := ⟨_, rfl⟩
  refine ww_iast (ws' := [(e0, .inr (0, [.int n, .int 0, .ref e0a, .ref e0b, .ref e0c, .ref e0d])), (e0a, .inl (E.2.1 7, 4, .inr (.inr (.inr (.inr f_10))))), (e0b, .inl (E.2.1 1, 4, .inl f_11)), (e0c, .inl (E.2.1 1, 4, .inl f_12)), (e0d, .inl (E.2.1 1, 16, .inl f_19))]) C 4 rfl (vin rfl) ef_19 rfl dX0_begin_61 ?_
  refine ww_iinc (j := 0) (v := 7) (lv' := [(2, .int 7), (0, .ref e0), (1, .int n)]) C dX0_begin_62 rfl rfl rfl rfl ?_
  refine ww_goto (tgt := 46) C dX0_begin_65 (by decide) ?_
  refine ww_iload_n C dX0_begin_46 0 rfl rfl ?_
  refine ww_aload_n C dX0_begin_47 1 rfl rfl ?_
  refine ww_get C fg_X0_24 0 rfl rfl dX0_begin_48 ?_
  refine ww_alen (v := 16) (t0 := 1) C 4 rfl rfl rfl dX0_begin_51 ?_
  refine ww_icmp_ge_f (tgt := 68) C dX0_begin_52 (by decide) (by decide) ?_
  refine ww_aload_n C dX0_begin_55 1 rfl rfl ?_
  refine ww_get C fg_X0_24 0 rfl rfl dX0_begin_56 ?_
  refine ww_iload_n C dX0_begin_59 0 rfl rfl ?_
  refine ww_iconst (v := 0) C dX0_begin_60 rfl ?_
  obtain ⟨f_20, ef_20⟩ : ∃ z : Nat → Int32, upd f_19 7 0 = z := ⟨_, rfl⟩
  refine ww_iast (ws' := [(e0, .inr (0, [.int n, .int 0, .ref e0a, .ref e0b, .ref e0c, .ref e0d])), (e0a, .inl (E.2.1 7, 4, .inr (.inr (.inr (.inr f_10))))), (e0b, .inl (E.2.1 1, 4, .inl f_11)), (e0c, .inl (E.2.1 1, 4, .inl f_12)), (e0d, .inl (E.2.1 1, 16, .inl f_20))]) C 4 rfl (vin rfl) ef_20 rfl dX0_begin_61 ?_
  refine ww_iinc (j := 0) (v := 8) (lv' := [(2, .int 8), (0, .ref e0), (1, .int n)]) C dX0_begin_62 rfl rfl rfl rfl ?_
  refine ww_goto (tgt := 46) C dX0_begin_65 (by decide) ?_
  refine ww_iload_n C dX0_begin_46 0 rfl rfl ?_
  refine ww_aload_n C dX0_begin_47 1 rfl rfl ?_
  refine ww_get C fg_X0_24 0 rfl rfl dX0_begin_48 ?_
  refine ww_alen (v := 16) (t0 := 1) C 4 rfl rfl rfl dX0_begin_51 ?_
  refine ww_icmp_ge_f (tgt := 68) C dX0_begin_52 (by decide) (by decide) ?_
  refine ww_aload_n C dX0_begin_55 1 rfl rfl ?_
  refine ww_get C fg_X0_24 0 rfl rfl dX0_begin_56 ?_
  refine ww_iload_n C dX0_begin_59 0 rfl rfl ?_
  refine ww_iconst (v := 0) C dX0_begin_60 rfl ?_
  obtain ⟨f_21, ef_21⟩ : ∃ z : Nat → Int32, upd f_20 8 0 = z := ⟨_, rfl⟩
  refine ww_iast (ws' := [(e0, .inr (0, [.int n, .int 0, .ref e0a, .ref e0b, .ref e0c, .ref e0d])), (e0a, .inl (E.2.1 7, 4, .inr (.inr (.inr (.inr f_10))))), (e0b, .inl (E.2.1 1, 4, .inl f_11)), (e0c, .inl (E.2.1 1, 4, .inl f_12)), (e0d, .inl (E.2.1 1, 16, .inl f_21))]) C 4 rfl (vin rfl) ef_21 rfl dX0_begin_61 ?_
  refine ww_iinc (j := 0) (v := 9) (lv' := [(2, .int 9), (0, .ref e0), (1, .int n)]) C dX0_begin_62 rfl rfl rfl rfl ?_
  refine ww_goto (tgt := 46) C dX0_begin_65 (by decide) ?_
  refine ww_iload_n C dX0_begin_46 0 rfl rfl ?_
  refine ww_aload_n C dX0_begin_47 1 rfl rfl ?_
  refine ww_get C fg_X0_24 0 rfl rfl dX0_begin_48 ?_
  refine ww_alen (v := 16) (t0 := 1) C 4 rfl rfl rfl dX0_begin_51 ?_
  refine ww_icmp_ge_f (tgt := 68) C dX0_begin_52 (by decide) (by decide) ?_
  refine ww_aload_n C dX0_begin_55 1 rfl rfl ?_
  refine ww_get C fg_X0_24 0 rfl rfl dX0_begin_56 ?_
  refine ww_iload_n C dX0_begin_59 0 rfl rfl ?_
  refine ww_iconst (v := 0) C dX0_begin_60 rfl ?_
  obtain ⟨f_22, ef_22⟩ : ∃ z : Nat → Int32, upd f_21 9 0 = z := ⟨_, rfl⟩
  refine ww_iast (ws' := [(e0, .inr (0, [.int n, .int 0, .ref e0a, .ref e0b, .ref e0c, .ref e0d])), (e0a, .inl (E.2.1 7, 4, .inr (.inr (.inr (.inr f_10))))), (e0b, .inl (E.2.1 1, 4, .inl f_11)), (e0c, .inl (E.2.1 1, 4, .inl f_12)), (e0d, .inl (E.2.1 1, 16, .inl f_22))]) C 4 rfl (vin rfl) ef_22 rfl dX0_begin_61 ?_
  refine ww_iinc (j := 0) (v := 10) (lv' := [(2, .int 10), (0, .ref e0), (1, .int n)]) C dX0_begin_62 rfl rfl rfl rfl ?_
  refine ww_goto (tgt := 46) C dX0_begin_65 (by decide) ?_
  refine ww_iload_n C dX0_begin_46 0 rfl rfl ?_
  refine ww_aload_n C dX0_begin_47 1 rfl rfl ?_
  refine ww_get C fg_X0_24 0 rfl rfl dX0_begin_48 ?_
  refine ww_alen (v := 16) (t0 := 1) C 4 rfl rfl rfl dX0_begin_51 ?_
  refine ww_icmp_ge_f (tgt := 68) C dX0_begin_52 (by decide) (by decide) ?_
  refine ww_aload_n C dX0_begin_55 1 rfl rfl ?_
  refine ww_get C fg_X0_24 0 rfl rfl dX0_begin_56 ?_
  refine ww_iload_n C dX0_begin_59 0 rfl rfl ?_
  refine ww_iconst (v := 0) C dX0_begin_60 rfl ?_
  obtain ⟨f_23, ef_23⟩ : ∃ z : Nat → Int32, upd f_22 10 0 = z := ⟨_, rfl⟩
  refine ww_iast (ws' := [(e0, .inr (0, [.int n, .int 0, .ref e0a, .ref e0b, .ref e0c, .ref e0d])), (e0a, .inl (E.2.1 7, 4, .inr (.inr (.inr (.inr f_10))))), (e0b, .inl (E.2.1 1, 4, .inl f_11)), (e0c, .inl (E.2.1 1, 4, .inl f_12)), (e0d, .inl (E.2.1 1, 16, .inl f_23))]) C 4 rfl (vin rfl) ef_23 rfl dX0_begin_61 ?_
  refine ww_iinc (j := 0) (v := 11) (lv' := [(2, .int 11), (0, .ref e0), (1, .int n)]) C dX0_begin_62 rfl rfl rfl rfl ?_
  refine ww_goto (tgt := 46) C dX0_begin_65 (by decide) ?_
  refine ww_iload_n C dX0_begin_46 0 rfl rfl ?_
  refine ww_aload_n C dX0_begin_47 1 rfl rfl ?_
  refine ww_get C fg_X0_24 0 rfl rfl dX0_begin_48 ?_
  refine ww_alen (v := 16) (t0 := 1) C 4 rfl rfl rfl dX0_begin_51 ?_
  refine ww_icmp_ge_f (tgt := 68) C dX0_begin_52 (by decide) (by decide) ?_
  refine ww_aload_n C dX0_begin_55 1 rfl rfl ?_
  refine ww_get C fg_X0_24 0 rfl rfl dX0_begin_56 ?_
  refine ww_iload_n C dX0_begin_59 0 rfl rfl ?_
  refine ww_iconst (v := 0) C dX0_begin_60 rfl ?_
  obtain ⟨f_24, ef_24⟩ : ∃ z : Nat → Int32, upd f_23 11 0 = z := ⟨_, rfl⟩
  refine ww_iast (ws' := [(e0, .inr (0, [.int n, .int 0, .ref e0a, .ref e0b, .ref e0c, .ref e0d])), (e0a, .inl (E.2.1 7, 4, .inr (.inr (.inr (.inr f_10))))), (e0b, .inl (E.2.1 1, 4, .inl f_11)), (e0c, .inl (E.2.1 1, 4, .inl f_12)), (e0d, .inl (E.2.1 1, 16, .inl f_24))]) C 4 rfl (vin rfl) ef_24 rfl dX0_begin_61 ?_
  refine ww_iinc (j := 0) (v := 12) (lv' := [(2, .int 12), (0, .ref e0), (1, .int n)]) C dX0_begin_62 rfl rfl rfl rfl ?_
  refine ww_goto (tgt := 46) C dX0_begin_65 (by decide) ?_
  refine ww_iload_n C dX0_begin_46 0 rfl rfl ?_
  refine ww_aload_n C dX0_begin_47 1 rfl rfl ?_
  refine ww_get C fg_X0_24 0 rfl rfl dX0_begin_48 ?_
  refine ww_alen (v := 16) (t0 := 1) C 4 rfl rfl rfl dX0_begin_51 ?_
  refine ww_icmp_ge_f (tgt := 68) C dX0_begin_52 (by decide) (by decide) ?_
  refine ww_aload_n C dX0_begin_55 1 rfl rfl ?_
  refine ww_get C fg_X0_24 0 rfl rfl dX0_begin_56 ?_
  refine ww_iload_n C dX0_begin_59 0 rfl rfl ?_
  refine ww_iconst (v := 0) C dX0_begin_60 rfl ?_
  obtain ⟨f_25, ef_25⟩ : ∃ z : Nat → Int32, upd f_24 12 0 = z := ⟨_, rfl⟩
  refine ww_iast (ws' := [(e0, .inr (0, [.int n, .int 0, .ref e0a, .ref e0b, .ref e0c, .ref e0d])), (e0a, .inl (E.2.1 7, 4, .inr (.inr (.inr (.inr f_10))))), (e0b, .inl (E.2.1 1, 4, .inl f_11)), (e0c, .inl (E.2.1 1, 4, .inl f_12)), (e0d, .inl (E.2.1 1, 16, .inl f_25))]) C 4 rfl (vin rfl) ef_25 rfl dX0_begin_61 ?_
  refine ww_iinc (j := 0) (v := 13) (lv' := [(2, .int 13), (0, .ref e0), (1, .int n)]) C dX0_begin_62 rfl rfl rfl rfl ?_
  refine ww_goto (tgt := 46) C dX0_begin_65 (by decide) ?_
  refine ww_iload_n C dX0_begin_46 0 rfl rfl ?_
  refine ww_aload_n C dX0_begin_47 1 rfl rfl ?_
  refine ww_get C fg_X0_24 0 rfl rfl dX0_begin_48 ?_
  refine ww_alen (v := 16) (t0 := 1) C 4 rfl rfl rfl dX0_begin_51 ?_
  refine ww_icmp_ge_f (tgt := 68) C dX0_begin_52 (by decide) (by decide) ?_
  refine ww_aload_n C dX0_begin_55 1 rfl rfl ?_
  refine ww_get C fg_X0_24 0 rfl rfl dX0_begin_56 ?_
  refine ww_iload_n C dX0_begin_59 0 rfl rfl ?_
  refine ww_iconst (v := 0) C dX0_begin_60 rfl ?_
  obtain ⟨f_26, ef_26⟩ : ∃ z : Nat → Int32, upd f_25 13 0 = z := ⟨_, rfl⟩
  refine ww_iast (ws' := [(e0, .inr (0, [.int n, .int 0, .ref e0a, .ref e0b, .ref e0c, .ref e0d])), (e0a, .inl (E.2.1 7, 4, .inr (.inr (.inr (.inr f_10))))), (e0b, .inl (E.2.1 1, 4, .inl f_11)), (e0c, .inl (E.2.1 1, 4, .inl f_12)), (e0d, .inl (E.2.1 1, 16, .inl f_26))]) C 4 rfl (vin rfl) ef_26 rfl dX0_begin_61 ?_
  refine ww_iinc (j := 0) (v := 14) (lv' := [(2, .int 14), (0, .ref e0), (1, .int n)]) C dX0_begin_62 rfl rfl rfl rfl ?_
  refine ww_goto (tgt := 46) C dX0_begin_65 (by decide) ?_
  refine ww_iload_n C dX0_begin_46 0 rfl rfl ?_
  refine ww_aload_n C dX0_begin_47 1 rfl rfl ?_
  refine ww_get C fg_X0_24 0 rfl rfl dX0_begin_48 ?_
  refine ww_alen (v := 16) (t0 := 1) C 4 rfl rfl rfl dX0_begin_51 ?_
  refine ww_icmp_ge_f (tgt := 68) C dX0_begin_52 (by decide) (by decide) ?_
  refine ww_aload_n C dX0_begin_55 1 rfl rfl ?_
  refine ww_get C fg_X0_24 0 rfl rfl dX0_begin_56 ?_
  refine ww_iload_n C dX0_begin_59 0 rfl rfl ?_
  refine ww_iconst (v := 0) C dX0_begin_60 rfl ?_
  obtain ⟨f_27, ef_27⟩ : ∃ z : Nat → Int32, upd f_26 14 0 = z := ⟨_, rfl⟩
  refine ww_iast (ws' := [(e0, .inr (0, [.int n, .int 0, .ref e0a, .ref e0b, .ref e0c, .ref e0d])), (e0a, .inl (E.2.1 7, 4, .inr (.inr (.inr (.inr f_10))))), (e0b, .inl (E.2.1 1, 4, .inl f_11)), (e0c, .inl (E.2.1 1, 4, .inl f_12)), (e0d, .inl (E.2.1 1, 16, .inl f_27))]) C 4 rfl (vin rfl) ef_27 rfl dX0_begin_61 ?_
  refine ww_iinc (j := 0) (v := 15) (lv' := [(2, .int 15), (0, .ref e0), (1, .int n)]) C dX0_begin_62 rfl rfl rfl rfl ?_
  refine ww_goto (tgt := 46) C dX0_begin_65 (by decide) ?_
  refine ww_iload_n C dX0_begin_46 0 rfl rfl ?_
  refine ww_aload_n C dX0_begin_47 1 rfl rfl ?_
  refine ww_get C fg_X0_24 0 rfl rfl dX0_begin_48 ?_
  refine ww_alen (v := 16) (t0 := 1) C 4 rfl rfl rfl dX0_begin_51 ?_
  refine ww_icmp_ge_f (tgt := 68) C dX0_begin_52 (by decide) (by decide) ?_
  refine ww_aload_n C dX0_begin_55 1 rfl rfl ?_
  refine ww_get C fg_X0_24 0 rfl rfl dX0_begin_56 ?_
  refine ww_iload_n C dX0_begin_59 0 rfl rfl ?_
  refine ww_iconst (v := 0) C dX0_begin_60 rfl ?_
  obtain ⟨f_28, ef_28⟩ : ∃ z : Nat → Int32, upd f_27 15 0 = z := ⟨_, rfl⟩
  refine ww_iast (ws' := [(e0, .inr (0, [.int n, .int 0, .ref e0a, .ref e0b, .ref e0c, .ref e0d])), (e0a, .inl (E.2.1 7, 4, .inr (.inr (.inr (.inr f_10))))), (e0b, .inl (E.2.1 1, 4, .inl f_11)), (e0c, .inl (E.2.1 1, 4, .inl f_12)), (e0d, .inl (E.2.1 1, 16, .inl f_28))]) C 4 rfl (vin rfl) ef_28 rfl dX0_begin_61 ?_
  refine ww_iinc (j := 0) (v := 16) (lv' := [(2, .int 16), (0, .ref e0), (1, .int n)]) C dX0_begin_62 rfl rfl rfl rfl ?_
  refine ww_goto (tgt := 46) C dX0_begin_65 (by decide) ?_
  refine ww_iload_n C dX0_begin_46 0 rfl rfl ?_
  refine ww_aload_n C dX0_begin_47 1 rfl rfl ?_
  refine ww_get C fg_X0_24 0 rfl rfl dX0_begin_48 ?_
  refine ww_alen (v := 16) (t0 := 1) C 4 rfl rfl rfl dX0_begin_51 ?_
  refine ww_icmp_ge_t (tgt := 68) C dX0_begin_52 (by decide) (by decide) ?_
  exact ww_vret (u := []) C hT [] rfl rfl rfl rfl dX0_begin_68 (rfl)
theorem dX11_event_0 : decode cX11_event 0 = .ok (.iload_n 1, 1) := by decide +kernel
theorem dX11_event_1 : decode cX11_event 1 = .ok (.iconst 0, 1) := by decide +kernel
theorem dX11_event_2 : decode cX11_event 2 = .ok (.iconst 3, 1) := by decide +kernel
theorem dX11_event_3 : decode cX11_event 3 = .ok (.invokestatic 76, 3) := by decide +kernel
theorem dX11_event_6 : decode cX11_event 6 = .ok (.ifCond .eq 12, 3) := by decide +kernel
theorem dX11_event_9 : decode cX11_event 9 = .ok (.iload_n 2, 1) := by decide +kernel
theorem dX11_event_10 : decode cX11_event 10 = .ok (.iconst 1, 1) := by decide +kernel
theorem dX11_event_11 : decode cX11_event 11 = .ok (.iconst 4, 1) := by decide +kernel
theorem dX11_event_12 : decode cX11_event 12 = .ok (.invokestatic 76, 3) := by decide +kernel
theorem dX11_event_15 : decode cX11_event 15 = .ok (.ifCond .ne 5, 3) := by decide +kernel
theorem dX11_event_20 : decode cX11_event 20 = .ok (.aload_n 0, 1) := by decide +kernel
theorem dX11_event_21 : decode cX11_event 21 = .ok (.getfield 34, 3) := by decide +kernel
theorem dX11_event_24 : decode cX11_event 24 = .ok (.getfield 84, 3) := by decide +kernel
theorem dX11_event_27 : decode cX11_event 27 = .ok (.iload_n 1, 1) := by decide +kernel
theorem dX11_event_28 : decode cX11_event 28 = .ok (.aaload, 1) := by decide +kernel
theorem dX11_event_29 : decode cX11_event 29 = .ok (.iload_n 2, 1) := by decide +kernel
theorem dX11_event_30 : decode cX11_event 30 = .ok (.invokevirtual 197, 3) := by decide +kernel
theorem wl_X11_197 : Cond.methodLink RX11 197 yX0_begin ∈ TB := tbm (tq4 (List.mem_of_getElem? (i := 55) (by decide +kernel))) (by decide +kernel)
theorem wc_X0_begin : Cond.code yX0_begin cX0_begin 3 none ∈ TB := tbm (tq4 (List.mem_of_getElem? (i := 58) (rfl))) (by decide +kernel)
theorem wi_X0_begin : Cond.instanceMethod yX0_begin ∈ TB := tbm (tq4 (List.mem_of_getElem? (i := 56) (by decide +kernel))) (by decide +kernel)
theorem ws_X0_begin : Cond.selects RX0 yX0_begin yX0_begin ∈ TB := tbm (tq4 (List.mem_of_getElem? (i := 57) (by decide +kernel))) (by decide +kernel)
theorem mi_X0_begin : MI yX0_begin cX0_begin 3 none 1 := ⟨wc_X0_begin, wn_X0, ⟨by decide +kernel, by decide +kernel, by decide +kernel⟩, wi_X0_begin, ws_X0_begin⟩
theorem dX11_event_33 : decode cX11_event 33 = .ok (.iconst 1, 1) := by decide +kernel
theorem dX11_event_34 : decode cX11_event 34 = .ok (.ireturn, 1) := by decide +kernel
theorem dX11_event_18 : decode cX11_event 18 = .ok (.iconst (-1), 1) := by decide +kernel
theorem dX11_event_19 : decode cX11_event 19 = .ok (.ireturn, 1) := by decide +kernel
set_option maxRecDepth 100000 in
set_option maxHeartbeats 4000000 in
theorem x_event (l : Launch) (E : EV) (hx : Nat) (p0 : Int32) (p1 : Int32) (qn : Nat) (qp : Nat) (qs : Nat) (qj : Nat) (ql : Nat) (qh : Nat) (qk : Nat) (qr : Nat) (qg : Nat) (qsh : Nat) (jt : Nat) (je : Nat) (ju : Nat) (ja : Nat) (fe : Nat → Option Nat) (e0 : Nat) (e1 : Nat) (e2 : Nat) (e3 : Nat) (e0a : Nat) (e0b : Nat) (e0c : Nat) (e0d : Nat) (e1a : Nat) (e1b : Nat) (e1c : Nat) (e1d : Nat) (e2a : Nat) (e2b : Nat) (e2c : Nat) (e2d : Nat) (e3a : Nat) (e3b : Nat) (e3c : Nat) (e3d : Nat) (k_fe_0 : fe 0 = some e0) (k_fe_1 : fe 1 = some e1) (k_fe_2 : fe 2 = some e2) (k_fe_3 : fe 3 = some e3) : CT l yX11_event (Cond.code yX11_event cX11_event 3 (some .int) :: TB) ({ frames := 1, cells := 0, slots := 0, locals := 22 }) E [.ref hx, .int p0, .int p1] [(hx, .inr (11, [.ref qn, .ref qp, .int 0, .int 0, .ref qs, .ref qj, .ref ql, .ref qh, .ref qk, .int 0, .ref qr, .ref qg, .int 0, .int 0, .ref qsh])), (qj, .inr (2, [.ref jt, .ref je, .ref ju, .ref ja])), (je, .inl (E.2.1 4, 4, .inr (.inr (.inr (.inr fe))))), (e0, .inr (0, [.int 0, .int 0, .ref e0a, .ref e0b, .ref e0c, .ref e0d])), (e0a, .inl (E.2.1 7, 4, .inr (.inr (.inr (.inr (fun _ => none)))))), (e0b, .inl (E.2.1 1, 4, .inl (fun _ => 0))), (e0c, .inl (E.2.1 1, 4, .inl (fun _ => 0))), (e0d, .inl (E.2.1 1, 16, .inl (fun _ => 0))), (e1, .inr (0, [.int 0, .int 0, .ref e1a, .ref e1b, .ref e1c, .ref e1d])), (e1a, .inl (E.2.1 7, 4, .inr (.inr (.inr (.inr (fun _ => none)))))), (e1b, .inl (E.2.1 1, 4, .inl (fun _ => 0))), (e1c, .inl (E.2.1 1, 4, .inl (fun _ => 0))), (e1d, .inl (E.2.1 1, 16, .inl (fun _ => 0))), (e2, .inr (0, [.int 0, .int 0, .ref e2a, .ref e2b, .ref e2c, .ref e2d])), (e2a, .inl (E.2.1 7, 4, .inr (.inr (.inr (.inr (fun _ => none)))))), (e2b, .inl (E.2.1 1, 4, .inl (fun _ => 0))), (e2c, .inl (E.2.1 1, 4, .inl (fun _ => 0))), (e2d, .inl (E.2.1 1, 16, .inl (fun _ => 0))), (e3, .inr (0, [.int 0, .int 0, .ref e3a, .ref e3b, .ref e3c, .ref e3d])), (e3a, .inl (E.2.1 7, 4, .inr (.inr (.inr (.inr (fun _ => none)))))), (e3b, .inl (E.2.1 1, 4, .inl (fun _ => 0))), (e3c, .inl (E.2.1 1, 4, .inl (fun _ => 0))), (e3d, .inl (E.2.1 1, 16, .inl (fun _ => 0)))] (Qi E (fun (r : Int32) u => (r = (-1) ∧ u = [] ∧ (p0.toInt < 0 ∨ 3 < p0.toInt ∨ p1.toInt < 1 ∨ 4 < p1.toInt)) ∨ (r = 1 ∧ u = [] ∧ (0 ≤ p0.toInt) ∧ (p0.toInt ≤ 3) ∧ (1 ≤ p1.toInt) ∧ (p1.toInt ≤ 4)))) 0 0 := by
  refine ct_of rfl rfl ?_
  intro X C hT hin
  show WW X 3 E 0 [(0, .ref hx), (1, .int p0), (2, .int p1)] [] [(hx, .inr (11, [.ref qn, .ref qp, .int 0, .int 0, .ref qs, .ref qj, .ref ql, .ref qh, .ref qk, .int 0, .ref qr, .ref qg, .int 0, .int 0, .ref qsh])), (qj, .inr (2, [.ref jt, .ref je, .ref ju, .ref ja])), (je, .inl (E.2.1 4, 4, .inr (.inr (.inr (.inr fe))))), (e0, .inr (0, [.int 0, .int 0, .ref e0a, .ref e0b, .ref e0c, .ref e0d])), (e0a, .inl (E.2.1 7, 4, .inr (.inr (.inr (.inr (fun _ => none)))))), (e0b, .inl (E.2.1 1, 4, .inl (fun _ => 0))), (e0c, .inl (E.2.1 1, 4, .inl (fun _ => 0))), (e0d, .inl (E.2.1 1, 16, .inl (fun _ => 0))), (e1, .inr (0, [.int 0, .int 0, .ref e1a, .ref e1b, .ref e1c, .ref e1d])), (e1a, .inl (E.2.1 7, 4, .inr (.inr (.inr (.inr (fun _ => none)))))), (e1b, .inl (E.2.1 1, 4, .inl (fun _ => 0))), (e1c, .inl (E.2.1 1, 4, .inl (fun _ => 0))), (e1d, .inl (E.2.1 1, 16, .inl (fun _ => 0))), (e2, .inr (0, [.int 0, .int 0, .ref e2a, .ref e2b, .ref e2c, .ref e2d])), (e2a, .inl (E.2.1 7, 4, .inr (.inr (.inr (.inr (fun _ => none)))))), (e2b, .inl (E.2.1 1, 4, .inl (fun _ => 0))), (e2c, .inl (E.2.1 1, 4, .inl (fun _ => 0))), (e2d, .inl (E.2.1 1, 16, .inl (fun _ => 0))), (e3, .inr (0, [.int 0, .int 0, .ref e3a, .ref e3b, .ref e3c, .ref e3d])), (e3a, .inl (E.2.1 7, 4, .inr (.inr (.inr (.inr (fun _ => none)))))), (e3b, .inl (E.2.1 1, 4, .inl (fun _ => 0))), (e3c, .inl (E.2.1 1, 4, .inl (fun _ => 0))), (e3d, .inl (E.2.1 1, 16, .inl (fun _ => 0)))] 0 0
  refine ww_iload_n C dX11_event_0 1 rfl rfl ?_
  refine ww_iconst (v := 0) C dX11_event_1 rfl ?_
  refine ww_iconst (v := 3) C dX11_event_2 rfl ?_
  refine ww_ci (wr := [(hx, .inr (11, [.ref qn, .ref qp, .int 0, .int 0, .ref qs, .ref qj, .ref ql, .ref qh, .ref qk, .int 0, .ref qr, .ref qg, .int 0, .int 0, .ref qsh])), (qj, .inr (2, [.ref jt, .ref je, .ref ju, .ref ja])), (je, .inl (E.2.1 4, 4, .inr (.inr (.inr (.inr fe))))), (e0, .inr (0, [.int 0, .int 0, .ref e0a, .ref e0b, .ref e0c, .ref e0d])), (e0a, .inl (E.2.1 7, 4, .inr (.inr (.inr (.inr (fun _ => none)))))), (e0b, .inl (E.2.1 1, 4, .inl (fun _ => 0))), (e0c, .inl (E.2.1 1, 4, .inl (fun _ => 0))), (e0d, .inl (E.2.1 1, 16, .inl (fun _ => 0))), (e1, .inr (0, [.int 0, .int 0, .ref e1a, .ref e1b, .ref e1c, .ref e1d])), (e1a, .inl (E.2.1 7, 4, .inr (.inr (.inr (.inr (fun _ => none)))))), (e1b, .inl (E.2.1 1, 4, .inl (fun _ => 0))), (e1c, .inl (E.2.1 1, 4, .inl (fun _ => 0))), (e1d, .inl (E.2.1 1, 16, .inl (fun _ => 0))), (e2, .inr (0, [.int 0, .int 0, .ref e2a, .ref e2b, .ref e2c, .ref e2d])), (e2a, .inl (E.2.1 7, 4, .inr (.inr (.inr (.inr (fun _ => none)))))), (e2b, .inl (E.2.1 1, 4, .inl (fun _ => 0))), (e2c, .inl (E.2.1 1, 4, .inl (fun _ => 0))), (e2d, .inl (E.2.1 1, 16, .inl (fun _ => 0))), (e3, .inr (0, [.int 0, .int 0, .ref e3a, .ref e3b, .ref e3c, .ref e3d])), (e3a, .inl (E.2.1 7, 4, .inr (.inr (.inr (.inr (fun _ => none)))))), (e3b, .inl (E.2.1 1, 4, .inl (fun _ => 0))), (e3c, .inl (E.2.1 1, 4, .inl (fun _ => 0))), (e3d, .inl (E.2.1 1, 16, .inl (fun _ => 0)))]) (k' := 0) (n' := 0) C (run_S (As := [.int p0, .int 0, .int 3]) (rest := []) C (c_within X.2.1 E p0 0 3 p0.toInt 0 3 rfl rfl rfl) ms_X11_within wl_X11_76 rfl rfl rfl rfl dX11_event_3) [] [0, 1, 2, 3, 4, 5, 6, 7, 8, 9, 10, 11, 12, 13, 14, 15, 16, 17, 18, 19, 20, 21, 22] rfl rfl rfl rfl (fun r u hw => ?_)
  rcases hw with ⟨rfl, rfl, h_1, h_2⟩ | ⟨rfl, rfl, h_3⟩
  · refine ww_eq (ws' := [(hx, .inr (11, [.ref qn, .ref qp, .int 0, .int 0, .ref qs, .ref qj, .ref ql, .ref qh, .ref qk, .int 0, .ref qr, .ref qg, .int 0, .int 0, .ref qsh])), (qj, .inr (2, [.ref jt, .ref je, .ref ju, .ref ja])), (je, .inl (E.2.1 4, 4, .inr (.inr (.inr (.inr fe))))), (e0, .inr (0, [.int 0, .int 0, .ref e0a, .ref e0b, .ref e0c, .ref e0d])), (e0a, .inl (E.2.1 7, 4, .inr (.inr (.inr (.inr (fun _ => none)))))), (e0b, .inl (E.2.1 1, 4, .inl (fun _ => 0))), (e0c, .inl (E.2.1 1, 4, .inl (fun _ => 0))), (e0d, .inl (E.2.1 1, 16, .inl (fun _ => 0))), (e1, .inr (0, [.int 0, .int 0, .ref e1a, .ref e1b, .ref e1c, .ref e1d])), (e1a, .inl (E.2.1 7, 4, .inr (.inr (.inr (.inr (fun _ => none)))))), (e1b, .inl (E.2.1 1, 4, .inl (fun _ => 0))), (e1c, .inl (E.2.1 1, 4, .inl (fun _ => 0))), (e1d, .inl (E.2.1 1, 16, .inl (fun _ => 0))), (e2, .inr (0, [.int 0, .int 0, .ref e2a, .ref e2b, .ref e2c, .ref e2d])), (e2a, .inl (E.2.1 7, 4, .inr (.inr (.inr (.inr (fun _ => none)))))), (e2b, .inl (E.2.1 1, 4, .inl (fun _ => 0))), (e2c, .inl (E.2.1 1, 4, .inl (fun _ => 0))), (e2d, .inl (E.2.1 1, 16, .inl (fun _ => 0))), (e3, .inr (0, [.int 0, .int 0, .ref e3a, .ref e3b, .ref e3c, .ref e3d])), (e3a, .inl (E.2.1 7, 4, .inr (.inr (.inr (.inr (fun _ => none)))))), (e3b, .inl (E.2.1 1, 4, .inl (fun _ => 0))), (e3c, .inl (E.2.1 1, 4, .inl (fun _ => 0))), (e3d, .inl (E.2.1 1, 16, .inl (fun _ => 0)))]) ?_ rfl rfl rfl
    refine ww_if_eq_f (tgt := 18) C dX11_event_6 (by decide) (by decide) ?_
    refine ww_iload_n C dX11_event_9 2 rfl rfl ?_
    refine ww_iconst (v := 1) C dX11_event_10 rfl ?_
    refine ww_iconst (v := 4) C dX11_event_11 rfl ?_
    refine ww_ci (wr := [(hx, .inr (11, [.ref qn, .ref qp, .int 0, .int 0, .ref qs, .ref qj, .ref ql, .ref qh, .ref qk, .int 0, .ref qr, .ref qg, .int 0, .int 0, .ref qsh])), (qj, .inr (2, [.ref jt, .ref je, .ref ju, .ref ja])), (je, .inl (E.2.1 4, 4, .inr (.inr (.inr (.inr fe))))), (e0, .inr (0, [.int 0, .int 0, .ref e0a, .ref e0b, .ref e0c, .ref e0d])), (e0a, .inl (E.2.1 7, 4, .inr (.inr (.inr (.inr (fun _ => none)))))), (e0b, .inl (E.2.1 1, 4, .inl (fun _ => 0))), (e0c, .inl (E.2.1 1, 4, .inl (fun _ => 0))), (e0d, .inl (E.2.1 1, 16, .inl (fun _ => 0))), (e1, .inr (0, [.int 0, .int 0, .ref e1a, .ref e1b, .ref e1c, .ref e1d])), (e1a, .inl (E.2.1 7, 4, .inr (.inr (.inr (.inr (fun _ => none)))))), (e1b, .inl (E.2.1 1, 4, .inl (fun _ => 0))), (e1c, .inl (E.2.1 1, 4, .inl (fun _ => 0))), (e1d, .inl (E.2.1 1, 16, .inl (fun _ => 0))), (e2, .inr (0, [.int 0, .int 0, .ref e2a, .ref e2b, .ref e2c, .ref e2d])), (e2a, .inl (E.2.1 7, 4, .inr (.inr (.inr (.inr (fun _ => none)))))), (e2b, .inl (E.2.1 1, 4, .inl (fun _ => 0))), (e2c, .inl (E.2.1 1, 4, .inl (fun _ => 0))), (e2d, .inl (E.2.1 1, 16, .inl (fun _ => 0))), (e3, .inr (0, [.int 0, .int 0, .ref e3a, .ref e3b, .ref e3c, .ref e3d])), (e3a, .inl (E.2.1 7, 4, .inr (.inr (.inr (.inr (fun _ => none)))))), (e3b, .inl (E.2.1 1, 4, .inl (fun _ => 0))), (e3c, .inl (E.2.1 1, 4, .inl (fun _ => 0))), (e3d, .inl (E.2.1 1, 16, .inl (fun _ => 0)))]) (k' := 0) (n' := 0) C (run_S (As := [.int p1, .int 1, .int 4]) (rest := []) C (c_within X.2.1 E p1 1 4 p1.toInt 1 4 rfl rfl rfl) ms_X11_within wl_X11_76 rfl rfl rfl rfl dX11_event_12) [] [0, 1, 2, 3, 4, 5, 6, 7, 8, 9, 10, 11, 12, 13, 14, 15, 16, 17, 18, 19, 20, 21, 22] rfl rfl rfl rfl (fun r u hw => ?_)
    rcases hw with ⟨rfl, rfl, h_4, h_5⟩ | ⟨rfl, rfl, h_6⟩
    · refine ww_eq (ws' := [(hx, .inr (11, [.ref qn, .ref qp, .int 0, .int 0, .ref qs, .ref qj, .ref ql, .ref qh, .ref qk, .int 0, .ref qr, .ref qg, .int 0, .int 0, .ref qsh])), (qj, .inr (2, [.ref jt, .ref je, .ref ju, .ref ja])), (je, .inl (E.2.1 4, 4, .inr (.inr (.inr (.inr fe))))), (e0, .inr (0, [.int 0, .int 0, .ref e0a, .ref e0b, .ref e0c, .ref e0d])), (e0a, .inl (E.2.1 7, 4, .inr (.inr (.inr (.inr (fun _ => none)))))), (e0b, .inl (E.2.1 1, 4, .inl (fun _ => 0))), (e0c, .inl (E.2.1 1, 4, .inl (fun _ => 0))), (e0d, .inl (E.2.1 1, 16, .inl (fun _ => 0))), (e1, .inr (0, [.int 0, .int 0, .ref e1a, .ref e1b, .ref e1c, .ref e1d])), (e1a, .inl (E.2.1 7, 4, .inr (.inr (.inr (.inr (fun _ => none)))))), (e1b, .inl (E.2.1 1, 4, .inl (fun _ => 0))), (e1c, .inl (E.2.1 1, 4, .inl (fun _ => 0))), (e1d, .inl (E.2.1 1, 16, .inl (fun _ => 0))), (e2, .inr (0, [.int 0, .int 0, .ref e2a, .ref e2b, .ref e2c, .ref e2d])), (e2a, .inl (E.2.1 7, 4, .inr (.inr (.inr (.inr (fun _ => none)))))), (e2b, .inl (E.2.1 1, 4, .inl (fun _ => 0))), (e2c, .inl (E.2.1 1, 4, .inl (fun _ => 0))), (e2d, .inl (E.2.1 1, 16, .inl (fun _ => 0))), (e3, .inr (0, [.int 0, .int 0, .ref e3a, .ref e3b, .ref e3c, .ref e3d])), (e3a, .inl (E.2.1 7, 4, .inr (.inr (.inr (.inr (fun _ => none)))))), (e3b, .inl (E.2.1 1, 4, .inl (fun _ => 0))), (e3c, .inl (E.2.1 1, 4, .inl (fun _ => 0))), (e3d, .inl (E.2.1 1, 16, .inl (fun _ => 0)))]) ?_ rfl rfl rfl
      refine ww_if_ne_t (tgt := 20) C dX11_event_15 (by decide) (by decide) ?_
      refine ww_aload_n C dX11_event_20 0 rfl rfl ?_
      refine ww_get C fg_X11_34 0 rfl rfl dX11_event_21 ?_
      refine ww_get C fg_X11_84 1 rfl rfl dX11_event_24 ?_
      rcases sp_0_3 (x := p0) (by omega) (by omega) with rfl | rfl | rfl | rfl
      · refine ww_iload_n C dX11_event_27 1 rfl rfl ?_
        refine ww_ald (v := (some e0)) (t0 := 4) C 2 rfl rfl (vin rfl) k_fe_0 dX11_event_28 ?_
        refine ww_eq (st' := [.ref e0]) ?_ rfl rfl rfl
        refine ww_iload_n C dX11_event_29 2 rfl rfl ?_
        refine ww_cv (wr := [(hx, .inr (11, [.ref qn, .ref qp, .int 0, .int 0, .ref qs, .ref qj, .ref ql, .ref qh, .ref qk, .int 0, .ref qr, .ref qg, .int 0, .int 0, .ref qsh])), (qj, .inr (2, [.ref jt, .ref je, .ref ju, .ref ja])), (je, .inl (E.2.1 4, 4, .inr (.inr (.inr (.inr fe))))), (e1, .inr (0, [.int 0, .int 0, .ref e1a, .ref e1b, .ref e1c, .ref e1d])), (e1a, .inl (E.2.1 7, 4, .inr (.inr (.inr (.inr (fun _ => none)))))), (e1b, .inl (E.2.1 1, 4, .inl (fun _ => 0))), (e1c, .inl (E.2.1 1, 4, .inl (fun _ => 0))), (e1d, .inl (E.2.1 1, 16, .inl (fun _ => 0))), (e2, .inr (0, [.int 0, .int 0, .ref e2a, .ref e2b, .ref e2c, .ref e2d])), (e2a, .inl (E.2.1 7, 4, .inr (.inr (.inr (.inr (fun _ => none)))))), (e2b, .inl (E.2.1 1, 4, .inl (fun _ => 0))), (e2c, .inl (E.2.1 1, 4, .inl (fun _ => 0))), (e2d, .inl (E.2.1 1, 16, .inl (fun _ => 0))), (e3, .inr (0, [.int 0, .int 0, .ref e3a, .ref e3b, .ref e3c, .ref e3d])), (e3a, .inl (E.2.1 7, 4, .inr (.inr (.inr (.inr (fun _ => none)))))), (e3b, .inl (E.2.1 1, 4, .inl (fun _ => 0))), (e3c, .inl (E.2.1 1, 4, .inl (fun _ => 0))), (e3d, .inl (E.2.1 1, 16, .inl (fun _ => 0)))]) (k' := 0) (n' := 0) C (run_V (As := [.int p1]) (rest := []) C (c_ebegin X.2.1 E e0 p1 e0a e0b e0c e0d) mi_X0_begin wl_X11_197 rfl 0 0 rfl rfl rfl rfl rfl dX11_event_30) [3, 4, 5, 6, 7] [0, 1, 2, 8, 9, 10, 11, 12, 13, 14, 15, 16, 17, 18, 19, 20, 21, 22] rfl rfl rfl rfl (fun u hw => ?_)
        obtain ⟨rfl⟩ := hw
        refine ww_eq (ws' := [(hx, .inr (11, [.ref qn, .ref qp, .int 0, .int 0, .ref qs, .ref qj, .ref ql, .ref qh, .ref qk, .int 0, .ref qr, .ref qg, .int 0, .int 0, .ref qsh])), (qj, .inr (2, [.ref jt, .ref je, .ref ju, .ref ja])), (je, .inl (E.2.1 4, 4, .inr (.inr (.inr (.inr fe))))), (e1, .inr (0, [.int 0, .int 0, .ref e1a, .ref e1b, .ref e1c, .ref e1d])), (e1a, .inl (E.2.1 7, 4, .inr (.inr (.inr (.inr (fun _ => none)))))), (e1b, .inl (E.2.1 1, 4, .inl (fun _ => 0))), (e1c, .inl (E.2.1 1, 4, .inl (fun _ => 0))), (e1d, .inl (E.2.1 1, 16, .inl (fun _ => 0))), (e2, .inr (0, [.int 0, .int 0, .ref e2a, .ref e2b, .ref e2c, .ref e2d])), (e2a, .inl (E.2.1 7, 4, .inr (.inr (.inr (.inr (fun _ => none)))))), (e2b, .inl (E.2.1 1, 4, .inl (fun _ => 0))), (e2c, .inl (E.2.1 1, 4, .inl (fun _ => 0))), (e2d, .inl (E.2.1 1, 16, .inl (fun _ => 0))), (e3, .inr (0, [.int 0, .int 0, .ref e3a, .ref e3b, .ref e3c, .ref e3d])), (e3a, .inl (E.2.1 7, 4, .inr (.inr (.inr (.inr (fun _ => none)))))), (e3b, .inl (E.2.1 1, 4, .inl (fun _ => 0))), (e3c, .inl (E.2.1 1, 4, .inl (fun _ => 0))), (e3d, .inl (E.2.1 1, 16, .inl (fun _ => 0)))]) ?_ rfl rfl rfl
        refine ww_iconst (v := 1) C dX11_event_33 rfl ?_
        exact ww_iret (u := []) C hT [] rfl rfl rfl rfl dX11_event_34 (Or.inr ⟨rfl, rfl, (by first | assumption | omega | decide), (by first | assumption | omega | decide), (by first | assumption | omega | decide), (by first | assumption | omega | decide)⟩)
      · refine ww_iload_n C dX11_event_27 1 rfl rfl ?_
        refine ww_ald (v := (some e1)) (t0 := 4) C 2 rfl rfl (vin rfl) k_fe_1 dX11_event_28 ?_
        refine ww_eq (st' := [.ref e1]) ?_ rfl rfl rfl
        refine ww_iload_n C dX11_event_29 2 rfl rfl ?_
        refine ww_cv (wr := [(hx, .inr (11, [.ref qn, .ref qp, .int 0, .int 0, .ref qs, .ref qj, .ref ql, .ref qh, .ref qk, .int 0, .ref qr, .ref qg, .int 0, .int 0, .ref qsh])), (qj, .inr (2, [.ref jt, .ref je, .ref ju, .ref ja])), (je, .inl (E.2.1 4, 4, .inr (.inr (.inr (.inr fe))))), (e0, .inr (0, [.int 0, .int 0, .ref e0a, .ref e0b, .ref e0c, .ref e0d])), (e0a, .inl (E.2.1 7, 4, .inr (.inr (.inr (.inr (fun _ => none)))))), (e0b, .inl (E.2.1 1, 4, .inl (fun _ => 0))), (e0c, .inl (E.2.1 1, 4, .inl (fun _ => 0))), (e0d, .inl (E.2.1 1, 16, .inl (fun _ => 0))), (e2, .inr (0, [.int 0, .int 0, .ref e2a, .ref e2b, .ref e2c, .ref e2d])), (e2a, .inl (E.2.1 7, 4, .inr (.inr (.inr (.inr (fun _ => none)))))), (e2b, .inl (E.2.1 1, 4, .inl (fun _ => 0))), (e2c, .inl (E.2.1 1, 4, .inl (fun _ => 0))), (e2d, .inl (E.2.1 1, 16, .inl (fun _ => 0))), (e3, .inr (0, [.int 0, .int 0, .ref e3a, .ref e3b, .ref e3c, .ref e3d])), (e3a, .inl (E.2.1 7, 4, .inr (.inr (.inr (.inr (fun _ => none)))))), (e3b, .inl (E.2.1 1, 4, .inl (fun _ => 0))), (e3c, .inl (E.2.1 1, 4, .inl (fun _ => 0))), (e3d, .inl (E.2.1 1, 16, .inl (fun _ => 0)))]) (k' := 0) (n' := 0) C (run_V (As := [.int p1]) (rest := []) C (c_ebegin X.2.1 E e1 p1 e1a e1b e1c e1d) mi_X0_begin wl_X11_197 rfl 0 0 rfl rfl rfl rfl rfl dX11_event_30) [8, 9, 10, 11, 12] [0, 1, 2, 3, 4, 5, 6, 7, 13, 14, 15, 16, 17, 18, 19, 20, 21, 22] rfl rfl rfl rfl (fun u hw => ?_)
        obtain ⟨rfl⟩ := hw
        refine ww_eq (ws' := [(hx, .inr (11, [.ref qn, .ref qp, .int 0, .int 0, .ref qs, .ref qj, .ref ql, .ref qh, .ref qk, .int 0, .ref qr, .ref qg, .int 0, .int 0, .ref qsh])), (qj, .inr (2, [.ref jt, .ref je, .ref ju, .ref ja])), (je, .inl (E.2.1 4, 4, .inr (.inr (.inr (.inr fe))))), (e0, .inr (0, [.int 0, .int 0, .ref e0a, .ref e0b, .ref e0c, .ref e0d])), (e0a, .inl (E.2.1 7, 4, .inr (.inr (.inr (.inr (fun _ => none)))))), (e0b, .inl (E.2.1 1, 4, .inl (fun _ => 0))), (e0c, .inl (E.2.1 1, 4, .inl (fun _ => 0))), (e0d, .inl (E.2.1 1, 16, .inl (fun _ => 0))), (e2, .inr (0, [.int 0, .int 0, .ref e2a, .ref e2b, .ref e2c, .ref e2d])), (e2a, .inl (E.2.1 7, 4, .inr (.inr (.inr (.inr (fun _ => none)))))), (e2b, .inl (E.2.1 1, 4, .inl (fun _ => 0))), (e2c, .inl (E.2.1 1, 4, .inl (fun _ => 0))), (e2d, .inl (E.2.1 1, 16, .inl (fun _ => 0))), (e3, .inr (0, [.int 0, .int 0, .ref e3a, .ref e3b, .ref e3c, .ref e3d])), (e3a, .inl (E.2.1 7, 4, .inr (.inr (.inr (.inr (fun _ => none)))))), (e3b, .inl (E.2.1 1, 4, .inl (fun _ => 0))), (e3c, .inl (E.2.1 1, 4, .inl (fun _ => 0))), (e3d, .inl (E.2.1 1, 16, .inl (fun _ => 0)))]) ?_ rfl rfl rfl
        refine ww_iconst (v := 1) C dX11_event_33 rfl ?_
        exact ww_iret (u := []) C hT [] rfl rfl rfl rfl dX11_event_34 (Or.inr ⟨rfl, rfl, (by first | assumption | omega | decide), (by first | assumption | omega | decide), (by first | assumption | omega | decide), (by first | assumption | omega | decide)⟩)
      · refine ww_iload_n C dX11_event_27 1 rfl rfl ?_
        refine ww_ald (v := (some e2)) (t0 := 4) C 2 rfl rfl (vin rfl) k_fe_2 dX11_event_28 ?_
        refine ww_eq (st' := [.ref e2]) ?_ rfl rfl rfl
        refine ww_iload_n C dX11_event_29 2 rfl rfl ?_
        refine ww_cv (wr := [(hx, .inr (11, [.ref qn, .ref qp, .int 0, .int 0, .ref qs, .ref qj, .ref ql, .ref qh, .ref qk, .int 0, .ref qr, .ref qg, .int 0, .int 0, .ref qsh])), (qj, .inr (2, [.ref jt, .ref je, .ref ju, .ref ja])), (je, .inl (E.2.1 4, 4, .inr (.inr (.inr (.inr fe))))), (e0, .inr (0, [.int 0, .int 0, .ref e0a, .ref e0b, .ref e0c, .ref e0d])), (e0a, .inl (E.2.1 7, 4, .inr (.inr (.inr (.inr (fun _ => none)))))), (e0b, .inl (E.2.1 1, 4, .inl (fun _ => 0))), (e0c, .inl (E.2.1 1, 4, .inl (fun _ => 0))), (e0d, .inl (E.2.1 1, 16, .inl (fun _ => 0))), (e1, .inr (0, [.int 0, .int 0, .ref e1a, .ref e1b, .ref e1c, .ref e1d])), (e1a, .inl (E.2.1 7, 4, .inr (.inr (.inr (.inr (fun _ => none)))))), (e1b, .inl (E.2.1 1, 4, .inl (fun _ => 0))), (e1c, .inl (E.2.1 1, 4, .inl (fun _ => 0))), (e1d, .inl (E.2.1 1, 16, .inl (fun _ => 0))), (e3, .inr (0, [.int 0, .int 0, .ref e3a, .ref e3b, .ref e3c, .ref e3d])), (e3a, .inl (E.2.1 7, 4, .inr (.inr (.inr (.inr (fun _ => none)))))), (e3b, .inl (E.2.1 1, 4, .inl (fun _ => 0))), (e3c, .inl (E.2.1 1, 4, .inl (fun _ => 0))), (e3d, .inl (E.2.1 1, 16, .inl (fun _ => 0)))]) (k' := 0) (n' := 0) C (run_V (As := [.int p1]) (rest := []) C (c_ebegin X.2.1 E e2 p1 e2a e2b e2c e2d) mi_X0_begin wl_X11_197 rfl 0 0 rfl rfl rfl rfl rfl dX11_event_30) [13, 14, 15, 16, 17] [0, 1, 2, 3, 4, 5, 6, 7, 8, 9, 10, 11, 12, 18, 19, 20, 21, 22] rfl rfl rfl rfl (fun u hw => ?_)
        obtain ⟨rfl⟩ := hw
        refine ww_eq (ws' := [(hx, .inr (11, [.ref qn, .ref qp, .int 0, .int 0, .ref qs, .ref qj, .ref ql, .ref qh, .ref qk, .int 0, .ref qr, .ref qg, .int 0, .int 0, .ref qsh])), (qj, .inr (2, [.ref jt, .ref je, .ref ju, .ref ja])), (je, .inl (E.2.1 4, 4, .inr (.inr (.inr (.inr fe))))), (e0, .inr (0, [.int 0, .int 0, .ref e0a, .ref e0b, .ref e0c, .ref e0d])), (e0a, .inl (E.2.1 7, 4, .inr (.inr (.inr (.inr (fun _ => none)))))), (e0b, .inl (E.2.1 1, 4, .inl (fun _ => 0))), (e0c, .inl (E.2.1 1, 4, .inl (fun _ => 0))), (e0d, .inl (E.2.1 1, 16, .inl (fun _ => 0))), (e1, .inr (0, [.int 0, .int 0, .ref e1a, .ref e1b, .ref e1c, .ref e1d])), (e1a, .inl (E.2.1 7, 4, .inr (.inr (.inr (.inr (fun _ => none)))))), (e1b, .inl (E.2.1 1, 4, .inl (fun _ => 0))), (e1c, .inl (E.2.1 1, 4, .inl (fun _ => 0))), (e1d, .inl (E.2.1 1, 16, .inl (fun _ => 0))), (e3, .inr (0, [.int 0, .int 0, .ref e3a, .ref e3b, .ref e3c, .ref e3d])), (e3a, .inl (E.2.1 7, 4, .inr (.inr (.inr (.inr (fun _ => none)))))), (e3b, .inl (E.2.1 1, 4, .inl (fun _ => 0))), (e3c, .inl (E.2.1 1, 4, .inl (fun _ => 0))), (e3d, .inl (E.2.1 1, 16, .inl (fun _ => 0)))]) ?_ rfl rfl rfl
        refine ww_iconst (v := 1) C dX11_event_33 rfl ?_
        exact ww_iret (u := []) C hT [] rfl rfl rfl rfl dX11_event_34 (Or.inr ⟨rfl, rfl, (by first | assumption | omega | decide), (by first | assumption | omega | decide), (by first | assumption | omega | decide), (by first | assumption | omega | decide)⟩)
      · refine ww_iload_n C dX11_event_27 1 rfl rfl ?_
        refine ww_ald (v := (some e3)) (t0 := 4) C 2 rfl rfl (vin rfl) k_fe_3 dX11_event_28 ?_
        refine ww_eq (st' := [.ref e3]) ?_ rfl rfl rfl
        refine ww_iload_n C dX11_event_29 2 rfl rfl ?_
        refine ww_cv (wr := [(hx, .inr (11, [.ref qn, .ref qp, .int 0, .int 0, .ref qs, .ref qj, .ref ql, .ref qh, .ref qk, .int 0, .ref qr, .ref qg, .int 0, .int 0, .ref qsh])), (qj, .inr (2, [.ref jt, .ref je, .ref ju, .ref ja])), (je, .inl (E.2.1 4, 4, .inr (.inr (.inr (.inr fe))))), (e0, .inr (0, [.int 0, .int 0, .ref e0a, .ref e0b, .ref e0c, .ref e0d])), (e0a, .inl (E.2.1 7, 4, .inr (.inr (.inr (.inr (fun _ => none)))))), (e0b, .inl (E.2.1 1, 4, .inl (fun _ => 0))), (e0c, .inl (E.2.1 1, 4, .inl (fun _ => 0))), (e0d, .inl (E.2.1 1, 16, .inl (fun _ => 0))), (e1, .inr (0, [.int 0, .int 0, .ref e1a, .ref e1b, .ref e1c, .ref e1d])), (e1a, .inl (E.2.1 7, 4, .inr (.inr (.inr (.inr (fun _ => none)))))), (e1b, .inl (E.2.1 1, 4, .inl (fun _ => 0))), (e1c, .inl (E.2.1 1, 4, .inl (fun _ => 0))), (e1d, .inl (E.2.1 1, 16, .inl (fun _ => 0))), (e2, .inr (0, [.int 0, .int 0, .ref e2a, .ref e2b, .ref e2c, .ref e2d])), (e2a, .inl (E.2.1 7, 4, .inr (.inr (.inr (.inr (fun _ => none)))))), (e2b, .inl (E.2.1 1, 4, .inl (fun _ => 0))), (e2c, .inl (E.2.1 1, 4, .inl (fun _ => 0))), (e2d, .inl (E.2.1 1, 16, .inl (fun _ => 0)))]) (k' := 0) (n' := 0) C (run_V (As := [.int p1]) (rest := []) C (c_ebegin X.2.1 E e3 p1 e3a e3b e3c e3d) mi_X0_begin wl_X11_197 rfl 0 0 rfl rfl rfl rfl rfl dX11_event_30) [18, 19, 20, 21, 22] [0, 1, 2, 3, 4, 5, 6, 7, 8, 9, 10, 11, 12, 13, 14, 15, 16, 17] rfl rfl rfl rfl (fun u hw => ?_)
        obtain ⟨rfl⟩ := hw
        refine ww_eq (ws' := [(hx, .inr (11, [.ref qn, .ref qp, .int 0, .int 0, .ref qs, .ref qj, .ref ql, .ref qh, .ref qk, .int 0, .ref qr, .ref qg, .int 0, .int 0, .ref qsh])), (qj, .inr (2, [.ref jt, .ref je, .ref ju, .ref ja])), (je, .inl (E.2.1 4, 4, .inr (.inr (.inr (.inr fe))))), (e0, .inr (0, [.int 0, .int 0, .ref e0a, .ref e0b, .ref e0c, .ref e0d])), (e0a, .inl (E.2.1 7, 4, .inr (.inr (.inr (.inr (fun _ => none)))))), (e0b, .inl (E.2.1 1, 4, .inl (fun _ => 0))), (e0c, .inl (E.2.1 1, 4, .inl (fun _ => 0))), (e0d, .inl (E.2.1 1, 16, .inl (fun _ => 0))), (e1, .inr (0, [.int 0, .int 0, .ref e1a, .ref e1b, .ref e1c, .ref e1d])), (e1a, .inl (E.2.1 7, 4, .inr (.inr (.inr (.inr (fun _ => none)))))), (e1b, .inl (E.2.1 1, 4, .inl (fun _ => 0))), (e1c, .inl (E.2.1 1, 4, .inl (fun _ => 0))), (e1d, .inl (E.2.1 1, 16, .inl (fun _ => 0))), (e2, .inr (0, [.int 0, .int 0, .ref e2a, .ref e2b, .ref e2c, .ref e2d])), (e2a, .inl (E.2.1 7, 4, .inr (.inr (.inr (.inr (fun _ => none)))))), (e2b, .inl (E.2.1 1, 4, .inl (fun _ => 0))), (e2c, .inl (E.2.1 1, 4, .inl (fun _ => 0))), (e2d, .inl (E.2.1 1, 16, .inl (fun _ => 0)))]) ?_ rfl rfl rfl
        refine ww_iconst (v := 1) C dX11_event_33 rfl ?_
        exact ww_iret (u := []) C hT [] rfl rfl rfl rfl dX11_event_34 (Or.inr ⟨rfl, rfl, (by first | assumption | omega | decide), (by first | assumption | omega | decide), (by first | assumption | omega | decide), (by first | assumption | omega | decide)⟩)
    · refine ww_eq (ws' := [(hx, .inr (11, [.ref qn, .ref qp, .int 0, .int 0, .ref qs, .ref qj, .ref ql, .ref qh, .ref qk, .int 0, .ref qr, .ref qg, .int 0, .int 0, .ref qsh])), (qj, .inr (2, [.ref jt, .ref je, .ref ju, .ref ja])), (je, .inl (E.2.1 4, 4, .inr (.inr (.inr (.inr fe))))), (e0, .inr (0, [.int 0, .int 0, .ref e0a, .ref e0b, .ref e0c, .ref e0d])), (e0a, .inl (E.2.1 7, 4, .inr (.inr (.inr (.inr (fun _ => none)))))), (e0b, .inl (E.2.1 1, 4, .inl (fun _ => 0))), (e0c, .inl (E.2.1 1, 4, .inl (fun _ => 0))), (e0d, .inl (E.2.1 1, 16, .inl (fun _ => 0))), (e1, .inr (0, [.int 0, .int 0, .ref e1a, .ref e1b, .ref e1c, .ref e1d])), (e1a, .inl (E.2.1 7, 4, .inr (.inr (.inr (.inr (fun _ => none)))))), (e1b, .inl (E.2.1 1, 4, .inl (fun _ => 0))), (e1c, .inl (E.2.1 1, 4, .inl (fun _ => 0))), (e1d, .inl (E.2.1 1, 16, .inl (fun _ => 0))), (e2, .inr (0, [.int 0, .int 0, .ref e2a, .ref e2b, .ref e2c, .ref e2d])), (e2a, .inl (E.2.1 7, 4, .inr (.inr (.inr (.inr (fun _ => none)))))), (e2b, .inl (E.2.1 1, 4, .inl (fun _ => 0))), (e2c, .inl (E.2.1 1, 4, .inl (fun _ => 0))), (e2d, .inl (E.2.1 1, 16, .inl (fun _ => 0))), (e3, .inr (0, [.int 0, .int 0, .ref e3a, .ref e3b, .ref e3c, .ref e3d])), (e3a, .inl (E.2.1 7, 4, .inr (.inr (.inr (.inr (fun _ => none)))))), (e3b, .inl (E.2.1 1, 4, .inl (fun _ => 0))), (e3c, .inl (E.2.1 1, 4, .inl (fun _ => 0))), (e3d, .inl (E.2.1 1, 16, .inl (fun _ => 0)))]) ?_ rfl rfl rfl
      refine ww_if_ne_f (tgt := 20) C dX11_event_15 (by decide) (rfl) ?_
      refine ww_iconst (v := (-1)) C dX11_event_18 rfl ?_
      exact ww_iret (u := []) C hT [] rfl rfl rfl rfl dX11_event_19 (Or.inl ⟨rfl, rfl, (by first | assumption | omega | decide)⟩)
  · refine ww_eq (ws' := [(hx, .inr (11, [.ref qn, .ref qp, .int 0, .int 0, .ref qs, .ref qj, .ref ql, .ref qh, .ref qk, .int 0, .ref qr, .ref qg, .int 0, .int 0, .ref qsh])), (qj, .inr (2, [.ref jt, .ref je, .ref ju, .ref ja])), (je, .inl (E.2.1 4, 4, .inr (.inr (.inr (.inr fe))))), (e0, .inr (0, [.int 0, .int 0, .ref e0a, .ref e0b, .ref e0c, .ref e0d])), (e0a, .inl (E.2.1 7, 4, .inr (.inr (.inr (.inr (fun _ => none)))))), (e0b, .inl (E.2.1 1, 4, .inl (fun _ => 0))), (e0c, .inl (E.2.1 1, 4, .inl (fun _ => 0))), (e0d, .inl (E.2.1 1, 16, .inl (fun _ => 0))), (e1, .inr (0, [.int 0, .int 0, .ref e1a, .ref e1b, .ref e1c, .ref e1d])), (e1a, .inl (E.2.1 7, 4, .inr (.inr (.inr (.inr (fun _ => none)))))), (e1b, .inl (E.2.1 1, 4, .inl (fun _ => 0))), (e1c, .inl (E.2.1 1, 4, .inl (fun _ => 0))), (e1d, .inl (E.2.1 1, 16, .inl (fun _ => 0))), (e2, .inr (0, [.int 0, .int 0, .ref e2a, .ref e2b, .ref e2c, .ref e2d])), (e2a, .inl (E.2.1 7, 4, .inr (.inr (.inr (.inr (fun _ => none)))))), (e2b, .inl (E.2.1 1, 4, .inl (fun _ => 0))), (e2c, .inl (E.2.1 1, 4, .inl (fun _ => 0))), (e2d, .inl (E.2.1 1, 16, .inl (fun _ => 0))), (e3, .inr (0, [.int 0, .int 0, .ref e3a, .ref e3b, .ref e3c, .ref e3d])), (e3a, .inl (E.2.1 7, 4, .inr (.inr (.inr (.inr (fun _ => none)))))), (e3b, .inl (E.2.1 1, 4, .inl (fun _ => 0))), (e3c, .inl (E.2.1 1, 4, .inl (fun _ => 0))), (e3d, .inl (E.2.1 1, 16, .inl (fun _ => 0)))]) ?_ rfl rfl rfl
    refine ww_if_eq_t (tgt := 18) C dX11_event_6 (by decide) (rfl) ?_
    refine ww_iconst (v := (-1)) C dX11_event_18 rfl ?_
    exact ww_iret (u := []) C hT [] rfl rfl rfl rfl dX11_event_19 (Or.inl ⟨rfl, rfl, (by first | assumption | omega | decide)⟩)
theorem dX11_when_0 : decode cX11_when 0 = .ok (.aload_n 0, 1) := by decide +kernel
theorem dX11_when_1 : decode cX11_when 1 = .ok (.iload_n 1, 1) := by decide +kernel
theorem dX11_when_2 : decode cX11_when 2 = .ok (.iload_n 2, 1) := by decide +kernel
theorem dX11_when_3 : decode cX11_when 3 = .ok (.invokevirtual 201, 3) := by decide +kernel
theorem wl_X11_201 : Cond.methodLink RX11 201 yX11_isCase ∈ TB := tbm (tq4 (List.mem_of_getElem? (i := 63) (by decide +kernel))) (by decide +kernel)
theorem wc_X11_isCase : Cond.code yX11_isCase cX11_isCase 3 (some .boolean) ∈ TB := tbm (tq4 (List.mem_of_getElem? (i := 66) (rfl))) (by decide +kernel)
theorem wi_X11_isCase : Cond.instanceMethod yX11_isCase ∈ TB := tbm (tq4 (List.mem_of_getElem? (i := 65) (by decide +kernel))) (by decide +kernel)
theorem ws_X11_isCase : Cond.selects RX11 yX11_isCase yX11_isCase ∈ TB := tbm (tq0 (List.mem_of_getElem? (i := 22) (by decide +kernel))) (by decide +kernel)
theorem mi_X11_isCase : MI yX11_isCase cX11_isCase 3 (some .boolean) 2 := ⟨wc_X11_isCase, wn_X11, ⟨by decide +kernel, by decide +kernel, by decide +kernel⟩, wi_X11_isCase, ws_X11_isCase⟩
theorem dX11_when_6 : decode cX11_when 6 = .ok (.ifCond .eq 17, 3) := by decide +kernel
theorem dX11_when_23 : decode cX11_when 23 = .ok (.iconst (-1), 1) := by decide +kernel
theorem dX11_when_24 : decode cX11_when 24 = .ok (.ireturn, 1) := by decide +kernel
set_option maxRecDepth 100000 in
set_option maxHeartbeats 4000000 in
theorem x_when (l : Launch) (E : EV) (hx : Nat) (p0 : Int32) (p1 : Int32) (p2 : Int32) (p3 : Int32) (p4 : Int32) (qn : Nat) (qp : Nat) (qs : Nat) (qj : Nat) (ql : Nat) (qh : Nat) (qk : Nat) (qr : Nat) (qg : Nat) (qsh : Nat) (jt : Nat) (je : Nat) (ju : Nat) (ja : Nat) (fe : Nat → Option Nat) (e0 : Nat) (e1 : Nat) (e2 : Nat) (e3 : Nat) (e0a : Nat) (e0b : Nat) (e0c : Nat) (e0d : Nat) (e1a : Nat) (e1b : Nat) (e1c : Nat) (e1d : Nat) (e2a : Nat) (e2b : Nat) (e2c : Nat) (e2d : Nat) (e3a : Nat) (e3b : Nat) (e3c : Nat) (e3d : Nat) (k_fe_0 : fe 0 = some e0) (k_fe_1 : fe 1 = some e1) (k_fe_2 : fe 2 = some e2) (k_fe_3 : fe 3 = some e3) : CT l yX11_when (Cond.code yX11_when cX11_when 6 (some .int) :: TB) ({ frames := 3, cells := 0, slots := 0, locals := 65 }) E [.ref hx, .int p0, .int p1, .int p2, .int p3, .int p4] [(hx, .inr (11, [.ref qn, .ref qp, .int 0, .int 0, .ref qs, .ref qj, .ref ql, .ref qh, .ref qk, .int 0, .ref qr, .ref qg, .int 0, .int 0, .ref qsh])), (qj, .inr (2, [.ref jt, .ref je, .ref ju, .ref ja])), (je, .inl (E.2.1 4, 4, .inr (.inr (.inr (.inr fe))))), (e0, .inr (0, [.int 0, .int 0, .ref e0a, .ref e0b, .ref e0c, .ref e0d])), (e1, .inr (0, [.int 0, .int 0, .ref e1a, .ref e1b, .ref e1c, .ref e1d])), (e2, .inr (0, [.int 0, .int 0, .ref e2a, .ref e2b, .ref e2c, .ref e2d])), (e3, .inr (0, [.int 0, .int 0, .ref e3a, .ref e3b, .ref e3c, .ref e3d]))] (Qi E (fun (r : Int32) u => (r = (-1) ∧ u = []))) 0 0 := by
  refine ct_of rfl rfl ?_
  intro X C hT hin
  show WW X 6 E 0 [(0, .ref hx), (1, .int p0), (2, .int p1), (3, .int p2), (4, .int p3), (5, .int p4)] [] [(hx, .inr (11, [.ref qn, .ref qp, .int 0, .int 0, .ref qs, .ref qj, .ref ql, .ref qh, .ref qk, .int 0, .ref qr, .ref qg, .int 0, .int 0, .ref qsh])), (qj, .inr (2, [.ref jt, .ref je, .ref ju, .ref ja])), (je, .inl (E.2.1 4, 4, .inr (.inr (.inr (.inr fe))))), (e0, .inr (0, [.int 0, .int 0, .ref e0a, .ref e0b, .ref e0c, .ref e0d])), (e1, .inr (0, [.int 0, .int 0, .ref e1a, .ref e1b, .ref e1c, .ref e1d])), (e2, .inr (0, [.int 0, .int 0, .ref e2a, .ref e2b, .ref e2c, .ref e2d])), (e3, .inr (0, [.int 0, .int 0, .ref e3a, .ref e3b, .ref e3c, .ref e3d]))] 0 0
  refine ww_aload_n C dX11_when_0 0 rfl rfl ?_
  refine ww_iload_n C dX11_when_1 1 rfl rfl ?_
  refine ww_iload_n C dX11_when_2 2 rfl rfl ?_
  refine ww_ci (wr := []) (k' := 0) (n' := 0) C (run_V (As := [.int p0, .int p1]) (rest := []) C (c_isCase X.2.1 E hx p0 p1 qn qp qs qj ql qh qk qr qg qsh jt je ju ja fe e0 e1 e2 e3 e0a e0b e0c e0d e1a e1b e1c e1d e2a e2b e2c e2d e3a e3b e3c e3d k_fe_0 k_fe_1 k_fe_2 k_fe_3) mi_X11_isCase wl_X11_201 rfl 0 11 rfl rfl rfl rfl rfl dX11_when_3) [0, 1, 2, 3, 4, 5, 6] [] rfl rfl rfl rfl (fun r u hw => ?_)
  obtain ⟨rfl, rfl⟩ := hw
  refine ww_eq (ws' := [(hx, .inr (11, [.ref qn, .ref qp, .int 0, .int 0, .ref qs, .ref qj, .ref ql, .ref qh, .ref qk, .int 0, .ref qr, .ref qg, .int 0, .int 0, .ref qsh])), (qj, .inr (2, [.ref jt, .ref je, .ref ju, .ref ja])), (je, .inl (E.2.1 4, 4, .inr (.inr (.inr (.inr fe))))), (e0, .inr (0, [.int 0, .int 0, .ref e0a, .ref e0b, .ref e0c, .ref e0d])), (e1, .inr (0, [.int 0, .int 0, .ref e1a, .ref e1b, .ref e1c, .ref e1d])), (e2, .inr (0, [.int 0, .int 0, .ref e2a, .ref e2b, .ref e2c, .ref e2d])), (e3, .inr (0, [.int 0, .int 0, .ref e3a, .ref e3b, .ref e3c, .ref e3d]))]) ?_ rfl rfl rfl
  refine ww_if_eq_t (tgt := 23) C dX11_when_6 (by decide) (rfl) ?_
  refine ww_iconst (v := (-1)) C dX11_when_23 rfl ?_
  exact ww_iret (u := []) C hT [] rfl rfl rfl rfl dX11_when_24 (⟨rfl, rfl⟩)
theorem dX11_hears_0 : decode cX11_hears 0 = .ok (.aload_n 0, 1) := by decide +kernel
theorem dX11_hears_1 : decode cX11_hears 1 = .ok (.iload_n 1, 1) := by decide +kernel
theorem dX11_hears_2 : decode cX11_hears 2 = .ok (.iload_n 3, 1) := by decide +kernel
theorem dX11_hears_3 : decode cX11_hears 3 = .ok (.invokevirtual 201, 3) := by decide +kernel
theorem dX11_hears_6 : decode cX11_hears 6 = .ok (.ifCond .eq 22, 3) := by decide +kernel
theorem dX11_hears_28 : decode cX11_hears 28 = .ok (.iconst (-1), 1) := by decide +kernel
theorem dX11_hears_29 : decode cX11_hears 29 = .ok (.ireturn, 1) := by decide +kernel
set_option maxRecDepth 100000 in
set_option maxHeartbeats 4000000 in
theorem x_hears (l : Launch) (E : EV) (hx : Nat) (p0 : Int32) (p1 : Int32) (p2 : Int32) (p3 : Int32) (p4 : Int32) (qn : Nat) (qp : Nat) (qs : Nat) (qj : Nat) (ql : Nat) (qh : Nat) (qk : Nat) (qr : Nat) (qg : Nat) (qsh : Nat) (jt : Nat) (je : Nat) (ju : Nat) (ja : Nat) (fe : Nat → Option Nat) (e0 : Nat) (e1 : Nat) (e2 : Nat) (e3 : Nat) (e0a : Nat) (e0b : Nat) (e0c : Nat) (e0d : Nat) (e1a : Nat) (e1b : Nat) (e1c : Nat) (e1d : Nat) (e2a : Nat) (e2b : Nat) (e2c : Nat) (e2d : Nat) (e3a : Nat) (e3b : Nat) (e3c : Nat) (e3d : Nat) (k_fe_0 : fe 0 = some e0) (k_fe_1 : fe 1 = some e1) (k_fe_2 : fe 2 = some e2) (k_fe_3 : fe 3 = some e3) : CT l yX11_hears (Cond.code yX11_hears cX11_hears 6 (some .int) :: TB) ({ frames := 3, cells := 0, slots := 0, locals := 65 }) E [.ref hx, .int p0, .int p1, .int p2, .int p3, .int p4] [(hx, .inr (11, [.ref qn, .ref qp, .int 0, .int 0, .ref qs, .ref qj, .ref ql, .ref qh, .ref qk, .int 0, .ref qr, .ref qg, .int 0, .int 0, .ref qsh])), (qj, .inr (2, [.ref jt, .ref je, .ref ju, .ref ja])), (je, .inl (E.2.1 4, 4, .inr (.inr (.inr (.inr fe))))), (e0, .inr (0, [.int 0, .int 0, .ref e0a, .ref e0b, .ref e0c, .ref e0d])), (e1, .inr (0, [.int 0, .int 0, .ref e1a, .ref e1b, .ref e1c, .ref e1d])), (e2, .inr (0, [.int 0, .int 0, .ref e2a, .ref e2b, .ref e2c, .ref e2d])), (e3, .inr (0, [.int 0, .int 0, .ref e3a, .ref e3b, .ref e3c, .ref e3d]))] (Qi E (fun (r : Int32) u => (r = (-1) ∧ u = []))) 0 0 := by
  refine ct_of rfl rfl ?_
  intro X C hT hin
  show WW X 6 E 0 [(0, .ref hx), (1, .int p0), (2, .int p1), (3, .int p2), (4, .int p3), (5, .int p4)] [] [(hx, .inr (11, [.ref qn, .ref qp, .int 0, .int 0, .ref qs, .ref qj, .ref ql, .ref qh, .ref qk, .int 0, .ref qr, .ref qg, .int 0, .int 0, .ref qsh])), (qj, .inr (2, [.ref jt, .ref je, .ref ju, .ref ja])), (je, .inl (E.2.1 4, 4, .inr (.inr (.inr (.inr fe))))), (e0, .inr (0, [.int 0, .int 0, .ref e0a, .ref e0b, .ref e0c, .ref e0d])), (e1, .inr (0, [.int 0, .int 0, .ref e1a, .ref e1b, .ref e1c, .ref e1d])), (e2, .inr (0, [.int 0, .int 0, .ref e2a, .ref e2b, .ref e2c, .ref e2d])), (e3, .inr (0, [.int 0, .int 0, .ref e3a, .ref e3b, .ref e3c, .ref e3d]))] 0 0
  refine ww_aload_n C dX11_hears_0 0 rfl rfl ?_
  refine ww_iload_n C dX11_hears_1 1 rfl rfl ?_
  refine ww_iload_n C dX11_hears_2 3 rfl rfl ?_
  refine ww_ci (wr := []) (k' := 0) (n' := 0) C (run_V (As := [.int p0, .int p2]) (rest := []) C (c_isCase X.2.1 E hx p0 p2 qn qp qs qj ql qh qk qr qg qsh jt je ju ja fe e0 e1 e2 e3 e0a e0b e0c e0d e1a e1b e1c e1d e2a e2b e2c e2d e3a e3b e3c e3d k_fe_0 k_fe_1 k_fe_2 k_fe_3) mi_X11_isCase wl_X11_201 rfl 0 11 rfl rfl rfl rfl rfl dX11_hears_3) [0, 1, 2, 3, 4, 5, 6] [] rfl rfl rfl rfl (fun r u hw => ?_)
  obtain ⟨rfl, rfl⟩ := hw
  refine ww_eq (ws' := [(hx, .inr (11, [.ref qn, .ref qp, .int 0, .int 0, .ref qs, .ref qj, .ref ql, .ref qh, .ref qk, .int 0, .ref qr, .ref qg, .int 0, .int 0, .ref qsh])), (qj, .inr (2, [.ref jt, .ref je, .ref ju, .ref ja])), (je, .inl (E.2.1 4, 4, .inr (.inr (.inr (.inr fe))))), (e0, .inr (0, [.int 0, .int 0, .ref e0a, .ref e0b, .ref e0c, .ref e0d])), (e1, .inr (0, [.int 0, .int 0, .ref e1a, .ref e1b, .ref e1c, .ref e1d])), (e2, .inr (0, [.int 0, .int 0, .ref e2a, .ref e2b, .ref e2c, .ref e2d])), (e3, .inr (0, [.int 0, .int 0, .ref e3a, .ref e3b, .ref e3c, .ref e3d]))]) ?_ rfl rfl rfl
  refine ww_if_eq_t (tgt := 28) C dX11_hears_6 (by decide) (rfl) ?_
  refine ww_iconst (v := (-1)) C dX11_hears_28 rfl ?_
  exact ww_iret (u := []) C hT [] rfl rfl rfl rfl dX11_hears_29 (⟨rfl, rfl⟩)
theorem dX11_happens_0 : decode cX11_happens 0 = .ok (.aload_n 0, 1) := by decide +kernel
theorem dX11_happens_1 : decode cX11_happens 1 = .ok (.iload_n 1, 1) := by decide +kernel
theorem dX11_happens_2 : decode cX11_happens 2 = .ok (.iload_n 2, 1) := by decide +kernel
theorem dX11_happens_3 : decode cX11_happens 3 = .ok (.invokevirtual 201, 3) := by decide +kernel
theorem dX11_happens_6 : decode cX11_happens 6 = .ok (.ifCond .ne 5, 3) := by decide +kernel
theorem dX11_happens_9 : decode cX11_happens 9 = .ok (.iconst (-1), 1) := by decide +kernel
theorem dX11_happens_10 : decode cX11_happens 10 = .ok (.ireturn, 1) := by decide +kernel
set_option maxRecDepth 100000 in
set_option maxHeartbeats 4000000 in
theorem x_happens (l : Launch) (E : EV) (hx : Nat) (p0 : Int32) (p1 : Int32) (qn : Nat) (qp : Nat) (qs : Nat) (qj : Nat) (ql : Nat) (qh : Nat) (qk : Nat) (qr : Nat) (qg : Nat) (qsh : Nat) (jt : Nat) (je : Nat) (ju : Nat) (ja : Nat) (fe : Nat → Option Nat) (e0 : Nat) (e1 : Nat) (e2 : Nat) (e3 : Nat) (e0a : Nat) (e0b : Nat) (e0c : Nat) (e0d : Nat) (e1a : Nat) (e1b : Nat) (e1c : Nat) (e1d : Nat) (e2a : Nat) (e2b : Nat) (e2c : Nat) (e2d : Nat) (e3a : Nat) (e3b : Nat) (e3c : Nat) (e3d : Nat) (k_fe_0 : fe 0 = some e0) (k_fe_1 : fe 1 = some e1) (k_fe_2 : fe 2 = some e2) (k_fe_3 : fe 3 = some e3) : CT l yX11_happens (Cond.code yX11_happens cX11_happens 4 (some .int) :: TB) ({ frames := 3, cells := 0, slots := 0, locals := 65 }) E [.ref hx, .int p0, .int p1] [(hx, .inr (11, [.ref qn, .ref qp, .int 0, .int 0, .ref qs, .ref qj, .ref ql, .ref qh, .ref qk, .int 0, .ref qr, .ref qg, .int 0, .int 0, .ref qsh])), (qj, .inr (2, [.ref jt, .ref je, .ref ju, .ref ja])), (je, .inl (E.2.1 4, 4, .inr (.inr (.inr (.inr fe))))), (e0, .inr (0, [.int 0, .int 0, .ref e0a, .ref e0b, .ref e0c, .ref e0d])), (e1, .inr (0, [.int 0, .int 0, .ref e1a, .ref e1b, .ref e1c, .ref e1d])), (e2, .inr (0, [.int 0, .int 0, .ref e2a, .ref e2b, .ref e2c, .ref e2d])), (e3, .inr (0, [.int 0, .int 0, .ref e3a, .ref e3b, .ref e3c, .ref e3d]))] (Qi E (fun (r : Int32) u => (r = (-1) ∧ u = []))) 0 0 := by
  refine ct_of rfl rfl ?_
  intro X C hT hin
  show WW X 4 E 0 [(0, .ref hx), (1, .int p0), (2, .int p1)] [] [(hx, .inr (11, [.ref qn, .ref qp, .int 0, .int 0, .ref qs, .ref qj, .ref ql, .ref qh, .ref qk, .int 0, .ref qr, .ref qg, .int 0, .int 0, .ref qsh])), (qj, .inr (2, [.ref jt, .ref je, .ref ju, .ref ja])), (je, .inl (E.2.1 4, 4, .inr (.inr (.inr (.inr fe))))), (e0, .inr (0, [.int 0, .int 0, .ref e0a, .ref e0b, .ref e0c, .ref e0d])), (e1, .inr (0, [.int 0, .int 0, .ref e1a, .ref e1b, .ref e1c, .ref e1d])), (e2, .inr (0, [.int 0, .int 0, .ref e2a, .ref e2b, .ref e2c, .ref e2d])), (e3, .inr (0, [.int 0, .int 0, .ref e3a, .ref e3b, .ref e3c, .ref e3d]))] 0 0
  refine ww_aload_n C dX11_happens_0 0 rfl rfl ?_
  refine ww_iload_n C dX11_happens_1 1 rfl rfl ?_
  refine ww_iload_n C dX11_happens_2 2 rfl rfl ?_
  refine ww_ci (wr := []) (k' := 0) (n' := 0) C (run_V (As := [.int p0, .int p1]) (rest := []) C (c_isCase X.2.1 E hx p0 p1 qn qp qs qj ql qh qk qr qg qsh jt je ju ja fe e0 e1 e2 e3 e0a e0b e0c e0d e1a e1b e1c e1d e2a e2b e2c e2d e3a e3b e3c e3d k_fe_0 k_fe_1 k_fe_2 k_fe_3) mi_X11_isCase wl_X11_201 rfl 0 11 rfl rfl rfl rfl rfl dX11_happens_3) [0, 1, 2, 3, 4, 5, 6] [] rfl rfl rfl rfl (fun r u hw => ?_)
  obtain ⟨rfl, rfl⟩ := hw
  refine ww_eq (ws' := [(hx, .inr (11, [.ref qn, .ref qp, .int 0, .int 0, .ref qs, .ref qj, .ref ql, .ref qh, .ref qk, .int 0, .ref qr, .ref qg, .int 0, .int 0, .ref qsh])), (qj, .inr (2, [.ref jt, .ref je, .ref ju, .ref ja])), (je, .inl (E.2.1 4, 4, .inr (.inr (.inr (.inr fe))))), (e0, .inr (0, [.int 0, .int 0, .ref e0a, .ref e0b, .ref e0c, .ref e0d])), (e1, .inr (0, [.int 0, .int 0, .ref e1a, .ref e1b, .ref e1c, .ref e1d])), (e2, .inr (0, [.int 0, .int 0, .ref e2a, .ref e2b, .ref e2c, .ref e2d])), (e3, .inr (0, [.int 0, .int 0, .ref e3a, .ref e3b, .ref e3c, .ref e3d]))]) ?_ rfl rfl rfl
  refine ww_if_ne_f (tgt := 11) C dX11_happens_6 (by decide) (rfl) ?_
  refine ww_iconst (v := (-1)) C dX11_happens_9 rfl ?_
  exact ww_iret (u := []) C hT [] rfl rfl rfl rfl dX11_happens_10 (⟨rfl, rfl⟩)
theorem dX11_word_0 : decode cX11_word 0 = .ok (.iload_n 1, 1) := by decide +kernel
theorem dX11_word_1 : decode cX11_word 1 = .ok (.iconst 0, 1) := by decide +kernel
theorem dX11_word_2 : decode cX11_word 2 = .ok (.iconst 3, 1) := by decide +kernel
theorem dX11_word_3 : decode cX11_word 3 = .ok (.invokestatic 76, 3) := by decide +kernel
theorem dX11_word_6 : decode cX11_word 6 = .ok (.ifCond .eq 12, 3) := by decide +kernel
theorem dX11_word_9 : decode cX11_word 9 = .ok (.iload_n 2, 1) := by decide +kernel
theorem dX11_word_10 : decode cX11_word 10 = .ok (.iconst 0, 1) := by decide +kernel
theorem dX11_word_11 : decode cX11_word 11 = .ok (.iconst 2, 1) := by decide +kernel
theorem dX11_word_12 : decode cX11_word 12 = .ok (.invokestatic 76, 3) := by decide +kernel
theorem dX11_word_15 : decode cX11_word 15 = .ok (.ifCond .ne 5, 3) := by decide +kernel
theorem dX11_word_20 : decode cX11_word 20 = .ok (.aload_n 0, 1) := by decide +kernel
theorem dX11_word_21 : decode cX11_word 21 = .ok (.iload_n 3, 1) := by decide +kernel
theorem dX11_word_22 : decode cX11_word 22 = .ok (.invokevirtual 205, 3) := by decide +kernel
theorem wl_X11_205 : Cond.methodLink RX11 205 yX11_canBeIf ∈ TB := tbm (tq4 (List.mem_of_getElem? (i := 71) (by decide +kernel))) (by decide +kernel)
theorem wc_X11_canBeIf : Cond.code yX11_canBeIf cX11_canBeIf 2 (some .boolean) ∈ TB := tbm (tq4 (List.mem_of_getElem? (i := 74) (rfl))) (by decide +kernel)
theorem wi_X11_canBeIf : Cond.instanceMethod yX11_canBeIf ∈ TB := tbm (tq4 (List.mem_of_getElem? (i := 73) (by decide +kernel))) (by decide +kernel)
theorem ws_X11_canBeIf : Cond.selects RX11 yX11_canBeIf yX11_canBeIf ∈ TB := tbm (tq0 (List.mem_of_getElem? (i := 24) (by decide +kernel))) (by decide +kernel)
theorem mi_X11_canBeIf : MI yX11_canBeIf cX11_canBeIf 2 (some .boolean) 1 := ⟨wc_X11_canBeIf, wn_X11, ⟨by decide +kernel, by decide +kernel, by decide +kernel⟩, wi_X11_canBeIf, ws_X11_canBeIf⟩
theorem dX11_word_25 : decode cX11_word 25 = .ok (.ifCond .eq 14, 3) := by decide +kernel
theorem dX11_word_39 : decode cX11_word 39 = .ok (.iconst (-1), 1) := by decide +kernel
theorem dX11_word_40 : decode cX11_word 40 = .ok (.ireturn, 1) := by decide +kernel
theorem dX11_word_18 : decode cX11_word 18 = .ok (.iconst (-1), 1) := by decide +kernel
theorem dX11_word_19 : decode cX11_word 19 = .ok (.ireturn, 1) := by decide +kernel
set_option maxRecDepth 100000 in
set_option maxHeartbeats 4000000 in
theorem x_word (l : Launch) (E : EV) (hx : Nat) (p0 : Int32) (p1 : Int32) (p2 : Int32) (p3 : Int32) (qn : Nat) (qp : Nat) (qs : Nat) (qj : Nat) (ql : Nat) (qh : Nat) (qk : Nat) (qr : Nat) (qg : Nat) (qsh : Nat) (jt : Nat) (je : Nat) (ju : Nat) (ja : Nat)  : CT l yX11_word (Cond.code yX11_word cX11_word 5 (some .int) :: TB) ({ frames := 3, cells := 0, slots := 0, locals := 64 }) E [.ref hx, .int p0, .int p1, .int p2, .int p3] [(hx, .inr (11, [.ref qn, .ref qp, .int 0, .int 0, .ref qs, .ref qj, .ref ql, .ref qh, .ref qk, .int 0, .ref qr, .ref qg, .int 0, .int 0, .ref qsh])), (qj, .inr (2, [.ref jt, .ref je, .ref ju, .ref ja])), (jt, .inl (E.2.1 7, 8, .inr (.inr (.inr (.inr (fun _ => none))))))] (Qi E (fun (r : Int32) u => (r = (-1) ∧ u = []))) 0 0 := by
  refine ct_of rfl rfl ?_
  intro X C hT hin
  show WW X 5 E 0 [(0, .ref hx), (1, .int p0), (2, .int p1), (3, .int p2), (4, .int p3)] [] [(hx, .inr (11, [.ref qn, .ref qp, .int 0, .int 0, .ref qs, .ref qj, .ref ql, .ref qh, .ref qk, .int 0, .ref qr, .ref qg, .int 0, .int 0, .ref qsh])), (qj, .inr (2, [.ref jt, .ref je, .ref ju, .ref ja])), (jt, .inl (E.2.1 7, 8, .inr (.inr (.inr (.inr (fun _ => none))))))] 0 0
  refine ww_iload_n C dX11_word_0 1 rfl rfl ?_
  refine ww_iconst (v := 0) C dX11_word_1 rfl ?_
  refine ww_iconst (v := 3) C dX11_word_2 rfl ?_
  refine ww_ci (wr := [(hx, .inr (11, [.ref qn, .ref qp, .int 0, .int 0, .ref qs, .ref qj, .ref ql, .ref qh, .ref qk, .int 0, .ref qr, .ref qg, .int 0, .int 0, .ref qsh])), (qj, .inr (2, [.ref jt, .ref je, .ref ju, .ref ja])), (jt, .inl (E.2.1 7, 8, .inr (.inr (.inr (.inr (fun _ => none))))))]) (k' := 0) (n' := 0) C (run_S (As := [.int p0, .int 0, .int 3]) (rest := []) C (c_within X.2.1 E p0 0 3 p0.toInt 0 3 rfl rfl rfl) ms_X11_within wl_X11_76 rfl rfl rfl rfl dX11_word_3) [] [0, 1, 2] rfl rfl rfl rfl (fun r u hw => ?_)
  rcases hw with ⟨rfl, rfl, h_1, h_2⟩ | ⟨rfl, rfl, h_3⟩
  · refine ww_eq (ws' := [(hx, .inr (11, [.ref qn, .ref qp, .int 0, .int 0, .ref qs, .ref qj, .ref ql, .ref qh, .ref qk, .int 0, .ref qr, .ref qg, .int 0, .int 0, .ref qsh])), (qj, .inr (2, [.ref jt, .ref je, .ref ju, .ref ja])), (jt, .inl (E.2.1 7, 8, .inr (.inr (.inr (.inr (fun _ => none))))))]) ?_ rfl rfl rfl
    refine ww_if_eq_f (tgt := 18) C dX11_word_6 (by decide) (by decide) ?_
    refine ww_iload_n C dX11_word_9 2 rfl rfl ?_
    refine ww_iconst (v := 0) C dX11_word_10 rfl ?_
    refine ww_iconst (v := 2) C dX11_word_11 rfl ?_
    refine ww_ci (wr := [(hx, .inr (11, [.ref qn, .ref qp, .int 0, .int 0, .ref qs, .ref qj, .ref ql, .ref qh, .ref qk, .int 0, .ref qr, .ref qg, .int 0, .int 0, .ref qsh])), (qj, .inr (2, [.ref jt, .ref je, .ref ju, .ref ja])), (jt, .inl (E.2.1 7, 8, .inr (.inr (.inr (.inr (fun _ => none))))))]) (k' := 0) (n' := 0) C (run_S (As := [.int p1, .int 0, .int 2]) (rest := []) C (c_within X.2.1 E p1 0 2 p1.toInt 0 2 rfl rfl rfl) ms_X11_within wl_X11_76 rfl rfl rfl rfl dX11_word_12) [] [0, 1, 2] rfl rfl rfl rfl (fun r u hw => ?_)
    rcases hw with ⟨rfl, rfl, h_4, h_5⟩ | ⟨rfl, rfl, h_6⟩
    · refine ww_eq (ws' := [(hx, .inr (11, [.ref qn, .ref qp, .int 0, .int 0, .ref qs, .ref qj, .ref ql, .ref qh, .ref qk, .int 0, .ref qr, .ref qg, .int 0, .int 0, .ref qsh])), (qj, .inr (2, [.ref jt, .ref je, .ref ju, .ref ja])), (jt, .inl (E.2.1 7, 8, .inr (.inr (.inr (.inr (fun _ => none))))))]) ?_ rfl rfl rfl
      refine ww_if_ne_t (tgt := 20) C dX11_word_15 (by decide) (by decide) ?_
      refine ww_aload_n C dX11_word_20 0 rfl rfl ?_
      refine ww_iload_n C dX11_word_21 3 rfl rfl ?_
      refine ww_ci (wr := []) (k' := 0) (n' := 0) C (run_V (As := [.int p2]) (rest := []) C (c_canBeIf X.2.1 E hx p2 qn qp qs qj ql qh qk qr qg qsh jt je ju ja) mi_X11_canBeIf wl_X11_205 rfl 0 11 rfl rfl rfl rfl rfl dX11_word_22) [0, 1, 2] [] rfl rfl rfl rfl (fun r u hw => ?_)
      obtain ⟨rfl, rfl⟩ := hw
      refine ww_eq (ws' := [(hx, .inr (11, [.ref qn, .ref qp, .int 0, .int 0, .ref qs, .ref qj, .ref ql, .ref qh, .ref qk, .int 0, .ref qr, .ref qg, .int 0, .int 0, .ref qsh])), (qj, .inr (2, [.ref jt, .ref je, .ref ju, .ref ja])), (jt, .inl (E.2.1 7, 8, .inr (.inr (.inr (.inr (fun _ => none))))))]) ?_ rfl rfl rfl
      refine ww_if_eq_t (tgt := 39) C dX11_word_25 (by decide) (rfl) ?_
      refine ww_iconst (v := (-1)) C dX11_word_39 rfl ?_
      exact ww_iret (u := []) C hT [] rfl rfl rfl rfl dX11_word_40 (⟨rfl, rfl⟩)
    · refine ww_eq (ws' := [(hx, .inr (11, [.ref qn, .ref qp, .int 0, .int 0, .ref qs, .ref qj, .ref ql, .ref qh, .ref qk, .int 0, .ref qr, .ref qg, .int 0, .int 0, .ref qsh])), (qj, .inr (2, [.ref jt, .ref je, .ref ju, .ref ja])), (jt, .inl (E.2.1 7, 8, .inr (.inr (.inr (.inr (fun _ => none))))))]) ?_ rfl rfl rfl
      refine ww_if_ne_f (tgt := 20) C dX11_word_15 (by decide) (rfl) ?_
      refine ww_iconst (v := (-1)) C dX11_word_18 rfl ?_
      exact ww_iret (u := []) C hT [] rfl rfl rfl rfl dX11_word_19 (⟨rfl, rfl⟩)
  · refine ww_eq (ws' := [(hx, .inr (11, [.ref qn, .ref qp, .int 0, .int 0, .ref qs, .ref qj, .ref ql, .ref qh, .ref qk, .int 0, .ref qr, .ref qg, .int 0, .int 0, .ref qsh])), (qj, .inr (2, [.ref jt, .ref je, .ref ju, .ref ja])), (jt, .inl (E.2.1 7, 8, .inr (.inr (.inr (.inr (fun _ => none))))))]) ?_ rfl rfl rfl
    refine ww_if_eq_t (tgt := 18) C dX11_word_6 (by decide) (rfl) ?_
    refine ww_iconst (v := (-1)) C dX11_word_18 rfl ?_
    exact ww_iret (u := []) C hT [] rfl rfl rfl rfl dX11_word_19 (⟨rfl, rfl⟩)
theorem dX11_lay_0 : decode cX11_lay 0 = .ok (.aload_n 0, 1) := by decide +kernel
theorem dX11_lay_1 : decode cX11_lay 1 = .ok (.iload_n 1, 1) := by decide +kernel
theorem dX11_lay_2 : decode cX11_lay 2 = .ok (.invokevirtual 94, 3) := by decide +kernel
theorem dX11_lay_5 : decode cX11_lay 5 = .ok (.ifCond .ne 5, 3) := by decide +kernel
theorem dX11_lay_8 : decode cX11_lay 8 = .ok (.iconst (-1), 1) := by decide +kernel
theorem dX11_lay_9 : decode cX11_lay 9 = .ok (.ireturn, 1) := by decide +kernel
set_option maxRecDepth 100000 in
set_option maxHeartbeats 4000000 in
theorem x_lay (l : Launch) (E : EV) (hx : Nat) (p0 : Int32) (qn : Nat) (qp : Nat) (qs : Nat) (qj : Nat) (ql : Nat) (qh : Nat) (qk : Nat) (qr : Nat) (qg : Nat) (qsh : Nat) (jt : Nat) (je : Nat) (ju : Nat) (ja : Nat) (fe : Nat → Option Nat) (e0 : Nat) (e1 : Nat) (e2 : Nat) (e3 : Nat) (e0a : Nat) (e0b : Nat) (e0c : Nat) (e0d : Nat) (e1a : Nat) (e1b : Nat) (e1c : Nat) (e1d : Nat) (e2a : Nat) (e2b : Nat) (e2c : Nat) (e2d : Nat) (e3a : Nat) (e3b : Nat) (e3c : Nat) (e3d : Nat) (k_fe_0 : fe 0 = some e0) (k_fe_1 : fe 1 = some e1) (k_fe_2 : fe 2 = some e2) (k_fe_3 : fe 3 = some e3) : CT l yX11_lay (Cond.code yX11_lay cX11_lay 2 (some .int) :: TB) ({ frames := 2, cells := 0, slots := 0, locals := 43 }) E [.ref hx, .int p0] [(hx, .inr (11, [.ref qn, .ref qp, .int 0, .int 0, .ref qs, .ref qj, .ref ql, .ref qh, .ref qk, .int 0, .ref qr, .ref qg, .int 0, .int 0, .ref qsh])), (qj, .inr (2, [.ref jt, .ref je, .ref ju, .ref ja])), (je, .inl (E.2.1 4, 4, .inr (.inr (.inr (.inr fe))))), (e0, .inr (0, [.int 0, .int 0, .ref e0a, .ref e0b, .ref e0c, .ref e0d])), (e1, .inr (0, [.int 0, .int 0, .ref e1a, .ref e1b, .ref e1c, .ref e1d])), (e2, .inr (0, [.int 0, .int 0, .ref e2a, .ref e2b, .ref e2c, .ref e2d])), (e3, .inr (0, [.int 0, .int 0, .ref e3a, .ref e3b, .ref e3c, .ref e3d]))] (Qi E (fun (r : Int32) u => (r = (-1) ∧ u = []))) 0 0 := by
  refine ct_of rfl rfl ?_
  intro X C hT hin
  show WW X 2 E 0 [(0, .ref hx), (1, .int p0)] [] [(hx, .inr (11, [.ref qn, .ref qp, .int 0, .int 0, .ref qs, .ref qj, .ref ql, .ref qh, .ref qk, .int 0, .ref qr, .ref qg, .int 0, .int 0, .ref qsh])), (qj, .inr (2, [.ref jt, .ref je, .ref ju, .ref ja])), (je, .inl (E.2.1 4, 4, .inr (.inr (.inr (.inr fe))))), (e0, .inr (0, [.int 0, .int 0, .ref e0a, .ref e0b, .ref e0c, .ref e0d])), (e1, .inr (0, [.int 0, .int 0, .ref e1a, .ref e1b, .ref e1c, .ref e1d])), (e2, .inr (0, [.int 0, .int 0, .ref e2a, .ref e2b, .ref e2c, .ref e2d])), (e3, .inr (0, [.int 0, .int 0, .ref e3a, .ref e3b, .ref e3c, .ref e3d]))] 0 0
  refine ww_aload_n C dX11_lay_0 0 rfl rfl ?_
  refine ww_iload_n C dX11_lay_1 1 rfl rfl ?_
  refine ww_ci (wr := []) (k' := 0) (n' := 0) C (run_V (As := [.int p0]) (rest := []) C (c_isEvent X.2.1 E hx p0 qn qp qs qj ql qh qk qr qg qsh jt je ju ja fe e0 e1 e2 e3 e0a e0b e0c e0d e1a e1b e1c e1d e2a e2b e2c e2d e3a e3b e3c e3d k_fe_0 k_fe_1 k_fe_2 k_fe_3) mi_X11_isEvent wl_X11_94 rfl 0 11 rfl rfl rfl rfl rfl dX11_lay_2) [0, 1, 2, 3, 4, 5, 6] [] rfl rfl rfl rfl (fun r u hw => ?_)
  obtain ⟨rfl, rfl⟩ := hw
  refine ww_eq (ws' := [(hx, .inr (11, [.ref qn, .ref qp, .int 0, .int 0, .ref qs, .ref qj, .ref ql, .ref qh, .ref qk, .int 0, .ref qr, .ref qg, .int 0, .int 0, .ref qsh])), (qj, .inr (2, [.ref jt, .ref je, .ref ju, .ref ja])), (je, .inl (E.2.1 4, 4, .inr (.inr (.inr (.inr fe))))), (e0, .inr (0, [.int 0, .int 0, .ref e0a, .ref e0b, .ref e0c, .ref e0d])), (e1, .inr (0, [.int 0, .int 0, .ref e1a, .ref e1b, .ref e1c, .ref e1d])), (e2, .inr (0, [.int 0, .int 0, .ref e2a, .ref e2b, .ref e2c, .ref e2d])), (e3, .inr (0, [.int 0, .int 0, .ref e3a, .ref e3b, .ref e3c, .ref e3d]))]) ?_ rfl rfl rfl
  refine ww_if_ne_f (tgt := 10) C dX11_lay_5 (by decide) (rfl) ?_
  refine ww_iconst (v := (-1)) C dX11_lay_8 rfl ?_
  exact ww_iret (u := []) C hT [] rfl rfl rfl rfl dX11_lay_9 (⟨rfl, rfl⟩)
end
section
theorem dX1_begin_0 : decode cX1_begin 0 = .ok (.aload_n 0, 1) := by decide +kernel
theorem dX1_begin_1 : decode cX1_begin 1 = .ok (.aload_n 1, 1) := by decide +kernel
theorem dX1_begin_2 : decode cX1_begin 2 = .ok (.putfield 22, 3) := by decide +kernel
theorem wf_X1_22 : Cond.fieldLink RX1 22 RX1 "left" "LWhoKnows$Model;" ∈ TB := tbm (tq1 (List.mem_of_getElem? (i := 237) (by decide +kernel))) (by decide +kernel)
theorem fp_X1_22 : FP RX1 22 1 0 (.object "WhoKnows$Model") false := ⟨RX1, TX1, 6, tyX1, uw_X1, wf_X1_22, rfl, by decide, rfl, tyX1_ok, nmX1, rfl, by decide +kernel⟩
theorem dX1_begin_5 : decode cX1_begin 5 = .ok (.aload_n 0, 1) := by decide +kernel
theorem dX1_begin_6 : decode cX1_begin 6 = .ok (.aload_n 2, 1) := by decide +kernel
theorem dX1_begin_7 : decode cX1_begin 7 = .ok (.putfield 26, 3) := by decide +kernel
theorem wf_X1_26 : Cond.fieldLink RX1 26 RX1 "right" "LWhoKnows$Model;" ∈ TB := tbm (tq1 (List.mem_of_getElem? (i := 238) (by decide +kernel))) (by decide +kernel)
theorem fp_X1_26 : FP RX1 26 1 1 (.object "WhoKnows$Model") false := ⟨RX1, TX1, 6, tyX1, uw_X1, wf_X1_26, rfl, by decide, rfl, tyX1_ok, nmX1, rfl, by decide +kernel⟩
theorem dX1_begin_10 : decode cX1_begin 10 = .ok (.aload_n 0, 1) := by decide +kernel
theorem dX1_begin_11 : decode cX1_begin 11 = .ok (.aload_n 1, 1) := by decide +kernel
theorem dX1_begin_12 : decode cX1_begin 12 = .ok (.getfield 29, 3) := by decide +kernel
theorem wf_X1_29 : Cond.fieldLink RX1 29 RX4 "size" "I" ∈ TB := tbm (tq1 (List.mem_of_getElem? (i := 37) (by decide +kernel))) (by decide +kernel)
theorem fg_X1_29 : FG RX1 29 4 0 := ⟨RX4, TX4, 4, uw_X4, wf_X1_29, rfl, by decide, rfl⟩
theorem dX1_begin_15 : decode cX1_begin 15 = .ok (.aload_n 2, 1) := by decide +kernel
theorem dX1_begin_16 : decode cX1_begin 16 = .ok (.ifnonnull 7, 3) := by decide +kernel
theorem dX1_begin_19 : decode cX1_begin 19 = .ok (.iconst 0, 1) := by decide +kernel
theorem dX1_begin_20 : decode cX1_begin 20 = .ok (.goto 7, 3) := by decide +kernel
theorem dX1_begin_27 : decode cX1_begin 27 = .ok (.iadd, 1) := by decide +kernel
theorem dX1_begin_28 : decode cX1_begin 28 = .ok (.putfield 35, 3) := by decide +kernel
theorem wf_X1_35 : Cond.fieldLink RX1 35 RX1 "size" "I" ∈ TB := tbm (tq1 (List.mem_of_getElem? (i := 239) (by decide +kernel))) (by decide +kernel)
theorem fp_X1_35 : FP RX1 35 1 2 .int false := ⟨RX1, TX1, 6, tyX1, uw_X1, wf_X1_35, rfl, by decide, rfl, tyX1_ok, nmX1, rfl, by decide +kernel⟩
theorem dX1_begin_31 : decode cX1_begin 31 = .ok (.iconst 0, 1) := by decide +kernel
theorem dX1_begin_32 : decode cX1_begin 32 = .ok (.istore_n 3, 1) := by decide +kernel
theorem dX1_begin_33 : decode cX1_begin 33 = .ok (.iload_n 3, 1) := by decide +kernel
theorem dX1_begin_34 : decode cX1_begin 34 = .ok (.aload_n 0, 1) := by decide +kernel
theorem dX1_begin_35 : decode cX1_begin 35 = .ok (.getfield 35, 3) := by decide +kernel
theorem fg_X1_35 : FG RX1 35 1 2 := ⟨RX1, TX1, 6, uw_X1, wf_X1_35, rfl, by decide, rfl⟩
theorem dX1_begin_38 : decode cX1_begin 38 = .ok (.if_icmp .ge 46, 3) := by decide +kernel
theorem dX1_begin_84 : decode cX1_begin 84 = .ok (.return_, 1) := by decide +kernel
set_option maxRecDepth 100000 in
set_option maxHeartbeats 4000000 in
theorem c_hbegin (l : Launch) (E : EV) (qh : Nat) (qn : Nat) (ha : Nat) (hb : Nat) (hc : Nat) (nf : Nat) (np : Nat)  : CT l yX1_begin (Cond.code yX1_begin cX1_begin 5 none :: TB) ({ frames := 0, cells := 0, slots := 0, locals := 0 }) E [.ref qh, .ref qn, .null] [(qh, .inr (1, [.null, .null, .int 0, .ref ha, .ref hb, .ref hc])), (qn, .inr (4, [.int 0, .int 0, .ref nf, .ref np])), (nf, .inl (E.2.1 1, 24, .inl (fun _ => 0))), (np, .inl (E.2.1 1, 96, .inl (fun _ => 0)))] (Qv E (fun u => (u = [(qh, .inr (1, [.ref qn, .null, .int 0, .ref ha, .ref hb, .ref hc])), (qn, .inr (4, [.int 0, .int 0, .ref nf, .ref np])), (nf, .inl (E.2.1 1, 24, .inl (fun _ => 0))), (np, .inl (E.2.1 1, 96, .inl (fun _ => 0)))]))) 0 0 := by
  refine ct_of rfl rfl ?_
  intro X C hT hin
  show WW X 5 E 0 [(0, .ref qh), (1, .ref qn), (2, .null)] [] [(qh, .inr (1, [.null, .null, .int 0, .ref ha, .ref hb, .ref hc])), (qn, .inr (4, [.int 0, .int 0, .ref nf, .ref np])), (nf, .inl (E.2.1 1, 24, .inl (fun _ => 0))), (np, .inl (E.2.1 1, 96, .inl (fun _ => 0)))] 0 0
  refine ww_aload_n C dX1_begin_0 0 rfl rfl ?_
  refine ww_aload_n C dX1_begin_1 1 rfl rfl ?_
  refine ww_put (ws' := [(qh, .inr (1, [.ref qn, .null, .int 0, .ref ha, .ref hb, .ref hc])), (qn, .inr (4, [.int 0, .int 0, .ref nf, .ref np])), (nf, .inl (E.2.1 1, 24, .inl (fun _ => 0))), (np, .inl (E.2.1 1, 96, .inl (fun _ => 0)))]) C fp_X1_22 0 rfl rfl rfl rfl rfl dX1_begin_2 ?_
  refine ww_aload_n C dX1_begin_5 0 rfl rfl ?_
  refine ww_aload_nN C dX1_begin_6 2 rfl rfl ?_
  refine ww_put (ws' := [(qh, .inr (1, [.ref qn, .null, .int 0, .ref ha, .ref hb, .ref hc])), (qn, .inr (4, [.int 0, .int 0, .ref nf, .ref np])), (nf, .inl (E.2.1 1, 24, .inl (fun _ => 0))), (np, .inl (E.2.1 1, 96, .inl (fun _ => 0)))]) C fp_X1_26 0 rfl rfl rfl rfl rfl dX1_begin_7 ?_
  refine ww_aload_n C dX1_begin_10 0 rfl rfl ?_
  refine ww_aload_n C dX1_begin_11 1 rfl rfl ?_
  refine ww_get C fg_X1_29 1 rfl rfl dX1_begin_12 ?_
  refine ww_aload_nN C dX1_begin_15 2 rfl rfl ?_
  refine ww_ifnonnullN C dX1_begin_16 ?_
  refine ww_iconst (v := 0) C dX1_begin_19 rfl ?_
  refine ww_goto (tgt := 27) C dX1_begin_20 (by decide) ?_
  refine ww_iadd (v := 0) C dX1_begin_27 (by decide) ?_
  refine ww_put (ws' := [(qh, .inr (1, [.ref qn, .null, .int 0, .ref ha, .ref hb, .ref hc])), (qn, .inr (4, [.int 0, .int 0, .ref nf, .ref np])), (nf, .inl (E.2.1 1, 24, .inl (fun _ => 0))), (np, .inl (E.2.1 1, 96, .inl (fun _ => 0)))]) C fp_X1_35 0 rfl rfl rfl rfl rfl dX1_begin_28 ?_
  refine ww_iconst (v := 0) C dX1_begin_31 rfl ?_
  refine ww_istore_n (lv' := [(3, .int 0), (0, .ref qh), (1, .ref qn), (2, .null)]) C dX1_begin_32 rfl rfl rfl ?_
  refine ww_iload_n C dX1_begin_33 0 rfl rfl ?_
  refine ww_aload_n C dX1_begin_34 1 rfl rfl ?_
  refine ww_get C fg_X1_35 0 rfl rfl dX1_begin_35 ?_
  refine ww_icmp_ge_t (tgt := 84) C dX1_begin_38 (by decide) (by decide) ?_
  exact ww_vret (u := [(qh, .inr (1, [.ref qn, .null, .int 0, .ref ha, .ref hb, .ref hc])), (qn, .inr (4, [.int 0, .int 0, .ref nf, .ref np])), (nf, .inl (E.2.1 1, 24, .inl (fun _ => 0))), (np, .inl (E.2.1 1, 96, .inl (fun _ => 0)))]) C hT [0, 1, 2, 3] rfl rfl rfl rfl dX1_begin_84 (rfl)
theorem dX1_settle_0 : decode cX1_settle 0 = .ok (.aload_n 0, 1) := by decide +kernel
theorem dX1_settle_1 : decode cX1_settle 1 = .ok (.aload_n 1, 1) := by decide +kernel
theorem dX1_settle_2 : decode cX1_settle 2 = .ok (.aload_n 2, 1) := by decide +kernel
theorem dX1_settle_3 : decode cX1_settle 3 = .ok (.invokevirtual 61, 3) := by decide +kernel
theorem wl_X1_61 : Cond.methodLink RX1 61 yX1_begin ∈ TB := tbm (tq4 (List.mem_of_getElem? (i := 117) (by decide +kernel))) (by decide +kernel)
theorem wc_X1_begin : Cond.code yX1_begin cX1_begin 5 none ∈ TB := tbm (tq4 (List.mem_of_getElem? (i := 120) (rfl))) (by decide +kernel)
theorem wi_X1_begin : Cond.instanceMethod yX1_begin ∈ TB := tbm (tq4 (List.mem_of_getElem? (i := 119) (by decide +kernel))) (by decide +kernel)
theorem ws_X1_begin : Cond.selects RX1 yX1_begin yX1_begin ∈ TB := tbm (tq0 (List.mem_of_getElem? (i := 25) (by decide +kernel))) (by decide +kernel)
theorem mi_X1_begin : MI yX1_begin cX1_begin 5 none 2 := ⟨wc_X1_begin, wn_X1, ⟨by decide +kernel, by decide +kernel, by decide +kernel⟩, wi_X1_begin, ws_X1_begin⟩
theorem dX1_settle_6 : decode cX1_settle 6 = .ok (.iconst 0, 1) := by decide +kernel
theorem dX1_settle_7 : decode cX1_settle 7 = .ok (.istore_n 3, 1) := by decide +kernel
theorem dX1_settle_8 : decode cX1_settle 8 = .ok (.iload_n 3, 1) := by decide +kernel
theorem dX1_settle_9 : decode cX1_settle 9 = .ok (.aload_n 0, 1) := by decide +kernel
theorem dX1_settle_10 : decode cX1_settle 10 = .ok (.getfield 35, 3) := by decide +kernel
theorem dX1_settle_13 : decode cX1_settle 13 = .ok (.if_icmp .ge 16, 3) := by decide +kernel
theorem dX1_settle_29 : decode cX1_settle 29 = .ok (.return_, 1) := by decide +kernel
set_option maxRecDepth 100000 in
set_option maxHeartbeats 4000000 in
theorem c_settle (l : Launch) (E : EV) (qh : Nat) (qn : Nat) (ha : Nat) (hb : Nat) (hc : Nat) (nf : Nat) (np : Nat)  : CT l yX1_settle (Cond.code yX1_settle cX1_settle 4 none :: TB) ({ frames := 1, cells := 0, slots := 0, locals := 24 }) E [.ref qh, .ref qn, .null] [(qh, .inr (1, [.null, .null, .int 0, .ref ha, .ref hb, .ref hc])), (qn, .inr (4, [.int 0, .int 0, .ref nf, .ref np])), (nf, .inl (E.2.1 1, 24, .inl (fun _ => 0))), (np, .inl (E.2.1 1, 96, .inl (fun _ => 0)))] (Qv E (fun u => (u = [(qh, .inr (1, [.ref qn, .null, .int 0, .ref ha, .ref hb, .ref hc])), (qn, .inr (4, [.int 0, .int 0, .ref nf, .ref np])), (nf, .inl (E.2.1 1, 24, .inl (fun _ => 0))), (np, .inl (E.2.1 1, 96, .inl (fun _ => 0)))]))) 0 0 := by
  refine ct_of rfl rfl ?_
  intro X C hT hin
  show WW X 4 E 0 [(0, .ref qh), (1, .ref qn), (2, .null)] [] [(qh, .inr (1, [.null, .null, .int 0, .ref ha, .ref hb, .ref hc])), (qn, .inr (4, [.int 0, .int 0, .ref nf, .ref np])), (nf, .inl (E.2.1 1, 24, .inl (fun _ => 0))), (np, .inl (E.2.1 1, 96, .inl (fun _ => 0)))] 0 0
  refine ww_aload_n C dX1_settle_0 0 rfl rfl ?_
  refine ww_aload_n C dX1_settle_1 1 rfl rfl ?_
  refine ww_aload_nN C dX1_settle_2 2 rfl rfl ?_
  refine ww_cv (wr := []) (k' := 0) (n' := 0) C (run_V (As := [.ref qn, .null]) (rest := []) C (c_hbegin X.2.1 E qh qn ha hb hc nf np) mi_X1_begin wl_X1_61 rfl 0 1 rfl rfl rfl rfl rfl dX1_settle_3) [0, 1, 2, 3] [] rfl rfl rfl rfl (fun u hw => ?_)
  obtain ⟨rfl⟩ := hw
  refine ww_eq (ws' := [(qh, .inr (1, [.ref qn, .null, .int 0, .ref ha, .ref hb, .ref hc])), (qn, .inr (4, [.int 0, .int 0, .ref nf, .ref np])), (nf, .inl (E.2.1 1, 24, .inl (fun _ => 0))), (np, .inl (E.2.1 1, 96, .inl (fun _ => 0)))]) ?_ rfl rfl rfl
  refine ww_iconst (v := 0) C dX1_settle_6 rfl ?_
  refine ww_istore_n (lv' := [(3, .int 0), (0, .ref qh), (1, .ref qn), (2, .null)]) C dX1_settle_7 rfl rfl rfl ?_
  refine ww_iload_n C dX1_settle_8 0 rfl rfl ?_
  refine ww_aload_n C dX1_settle_9 1 rfl rfl ?_
  refine ww_get C fg_X1_35 0 rfl rfl dX1_settle_10 ?_
  refine ww_icmp_ge_t (tgt := 29) C dX1_settle_13 (by decide) (by decide) ?_
  exact ww_vret (u := [(qh, .inr (1, [.ref qn, .null, .int 0, .ref ha, .ref hb, .ref hc])), (qn, .inr (4, [.int 0, .int 0, .ref nf, .ref np])), (nf, .inl (E.2.1 1, 24, .inl (fun _ => 0))), (np, .inl (E.2.1 1, 96, .inl (fun _ => 0)))]) C hT [0, 1, 2, 3] rfl rfl rfl rfl dX1_settle_29 (rfl)
theorem dX1_howMany_0 : decode cX1_howMany 0 = .ok (.iconst 0, 1) := by decide +kernel
theorem dX1_howMany_1 : decode cX1_howMany 1 = .ok (.istore_n 1, 1) := by decide +kernel
theorem dX1_howMany_2 : decode cX1_howMany 2 = .ok (.iconst 0, 1) := by decide +kernel
theorem dX1_howMany_3 : decode cX1_howMany 3 = .ok (.istore_n 2, 1) := by decide +kernel
theorem dX1_howMany_4 : decode cX1_howMany 4 = .ok (.iload_n 2, 1) := by decide +kernel
theorem dX1_howMany_5 : decode cX1_howMany 5 = .ok (.aload_n 0, 1) := by decide +kernel
theorem dX1_howMany_6 : decode cX1_howMany 6 = .ok (.getfield 35, 3) := by decide +kernel
theorem dX1_howMany_9 : decode cX1_howMany 9 = .ok (.if_icmp .ge 22, 3) := by decide +kernel
theorem dX1_howMany_31 : decode cX1_howMany 31 = .ok (.iload_n 1, 1) := by decide +kernel
theorem dX1_howMany_32 : decode cX1_howMany 32 = .ok (.ireturn, 1) := by decide +kernel
set_option maxRecDepth 100000 in
set_option maxHeartbeats 4000000 in
theorem c_howMany (l : Launch) (E : EV) (qh : Nat) (qn : Nat) (ha : Nat) (hb : Nat) (hc : Nat)  : CT l yX1_howMany (Cond.code yX1_howMany cX1_howMany 3 (some .int) :: TB) ({ frames := 0, cells := 0, slots := 0, locals := 0 }) E [.ref qh] [(qh, .inr (1, [.ref qn, .null, .int 0, .ref ha, .ref hb, .ref hc]))] (Qi E (fun (r : Int32) u => (r = 0 ∧ u = []))) 0 0 := by
  refine ct_of rfl rfl ?_
  intro X C hT hin
  show WW X 3 E 0 [(0, .ref qh)] [] [(qh, .inr (1, [.ref qn, .null, .int 0, .ref ha, .ref hb, .ref hc]))] 0 0
  refine ww_iconst (v := 0) C dX1_howMany_0 rfl ?_
  refine ww_istore_n (lv' := [(1, .int 0), (0, .ref qh)]) C dX1_howMany_1 rfl rfl rfl ?_
  refine ww_iconst (v := 0) C dX1_howMany_2 rfl ?_
  refine ww_istore_n (lv' := [(2, .int 0), (1, .int 0), (0, .ref qh)]) C dX1_howMany_3 rfl rfl rfl ?_
  refine ww_iload_n C dX1_howMany_4 0 rfl rfl ?_
  refine ww_aload_n C dX1_howMany_5 2 rfl rfl ?_
  refine ww_get C fg_X1_35 0 rfl rfl dX1_howMany_6 ?_
  refine ww_icmp_ge_t (tgt := 31) C dX1_howMany_9 (by decide) (by decide) ?_
  refine ww_iload_n C dX1_howMany_31 1 rfl rfl ?_
  exact ww_iret (u := []) C hT [] rfl rfl rfl rfl dX1_howMany_32 (⟨rfl, rfl⟩)
theorem dX11_classes_0 : decode cX11_classes 0 = .ok (.aload_n 0, 1) := by decide +kernel
theorem dX11_classes_1 : decode cX11_classes 1 = .ok (.getfield 48, 3) := by decide +kernel
theorem fg_X11_48 : FG RX11 48 11 7 := ⟨RX11, TX11, 15, uw_X11, wf_X11_48, rfl, by decide, rfl⟩
theorem dX11_classes_4 : decode cX11_classes 4 = .ok (.aload_n 0, 1) := by decide +kernel
theorem dX11_classes_5 : decode cX11_classes 5 = .ok (.getfield 10, 3) := by decide +kernel
theorem dX11_classes_8 : decode cX11_classes 8 = .ok (.aconst_null, 1) := by decide +kernel
theorem dX11_classes_9 : decode cX11_classes 9 = .ok (.invokevirtual 248, 3) := by decide +kernel
theorem wl_X11_248 : Cond.methodLink RX11 248 yX1_settle ∈ TB := tbm (tq4 (List.mem_of_getElem? (i := 113) (by decide +kernel))) (by decide +kernel)
theorem wc_X1_settle : Cond.code yX1_settle cX1_settle 4 none ∈ TB := tbm (tq4 (List.mem_of_getElem? (i := 116) (rfl))) (by decide +kernel)
theorem wi_X1_settle : Cond.instanceMethod yX1_settle ∈ TB := tbm (tq4 (List.mem_of_getElem? (i := 114) (by decide +kernel))) (by decide +kernel)
theorem ws_X1_settle : Cond.selects RX1 yX1_settle yX1_settle ∈ TB := tbm (tq4 (List.mem_of_getElem? (i := 115) (by decide +kernel))) (by decide +kernel)
theorem mi_X1_settle : MI yX1_settle cX1_settle 4 none 2 := ⟨wc_X1_settle, wn_X1, ⟨by decide +kernel, by decide +kernel, by decide +kernel⟩, wi_X1_settle, ws_X1_settle⟩
theorem dX11_classes_12 : decode cX11_classes 12 = .ok (.aload_n 0, 1) := by decide +kernel
theorem dX11_classes_13 : decode cX11_classes 13 = .ok (.getfield 48, 3) := by decide +kernel
theorem dX11_classes_16 : decode cX11_classes 16 = .ok (.invokevirtual 252, 3) := by decide +kernel
theorem wl_X11_252 : Cond.methodLink RX11 252 yX1_howMany ∈ TB := tbm (tq4 (List.mem_of_getElem? (i := 143) (by decide +kernel))) (by decide +kernel)
theorem wc_X1_howMany : Cond.code yX1_howMany cX1_howMany 3 (some .int) ∈ TB := tbm (tq4 (List.mem_of_getElem? (i := 146) (rfl))) (by decide +kernel)
theorem wi_X1_howMany : Cond.instanceMethod yX1_howMany ∈ TB := tbm (tq4 (List.mem_of_getElem? (i := 144) (by decide +kernel))) (by decide +kernel)
theorem ws_X1_howMany : Cond.selects RX1 yX1_howMany yX1_howMany ∈ TB := tbm (tq4 (List.mem_of_getElem? (i := 145) (by decide +kernel))) (by decide +kernel)
theorem mi_X1_howMany : MI yX1_howMany cX1_howMany 3 (some .int) 0 := ⟨wc_X1_howMany, wn_X1, ⟨by decide +kernel, by decide +kernel, by decide +kernel⟩, wi_X1_howMany, ws_X1_howMany⟩
theorem dX11_classes_19 : decode cX11_classes 19 = .ok (.ireturn, 1) := by decide +kernel
set_option maxRecDepth 100000 in
set_option maxHeartbeats 4000000 in
theorem x_classes (l : Launch) (E : EV) (hx : Nat) (qn : Nat) (qp : Nat) (qs : Nat) (qj : Nat) (ql : Nat) (qh : Nat) (qk : Nat) (qr : Nat) (qg : Nat) (qsh : Nat) (nf : Nat) (np : Nat) (ha : Nat) (hb : Nat) (hc : Nat)  : CT l yX11_classes (Cond.code yX11_classes cX11_classes 1 (some .int) :: TB) ({ frames := 2, cells := 0, slots := 0, locals := 47 }) E [.ref hx] [(hx, .inr (11, [.ref qn, .ref qp, .int 0, .int 0, .ref qs, .ref qj, .ref ql, .ref qh, .ref qk, .int 0, .ref qr, .ref qg, .int 0, .int 0, .ref qsh])), (qn, .inr (4, [.int 0, .int 0, .ref nf, .ref np])), (nf, .inl (E.2.1 1, 24, .inl (fun _ => 0))), (np, .inl (E.2.1 1, 96, .inl (fun _ => 0))), (qh, .inr (1, [.null, .null, .int 0, .ref ha, .ref hb, .ref hc]))] (Qi E (fun (r : Int32) u => (r = 0 ∧ u = []))) 0 0 := by
  refine ct_of rfl rfl ?_
  intro X C hT hin
  show WW X 1 E 0 [(0, .ref hx)] [] [(hx, .inr (11, [.ref qn, .ref qp, .int 0, .int 0, .ref qs, .ref qj, .ref ql, .ref qh, .ref qk, .int 0, .ref qr, .ref qg, .int 0, .int 0, .ref qsh])), (qn, .inr (4, [.int 0, .int 0, .ref nf, .ref np])), (nf, .inl (E.2.1 1, 24, .inl (fun _ => 0))), (np, .inl (E.2.1 1, 96, .inl (fun _ => 0))), (qh, .inr (1, [.null, .null, .int 0, .ref ha, .ref hb, .ref hc]))] 0 0
  refine ww_aload_n C dX11_classes_0 0 rfl rfl ?_
  refine ww_get C fg_X11_48 0 rfl rfl dX11_classes_1 ?_
  refine ww_aload_n C dX11_classes_4 0 rfl rfl ?_
  refine ww_get C fg_X11_10 0 rfl rfl dX11_classes_5 ?_
  refine ww_null C dX11_classes_8 ?_
  refine ww_cv (wr := [(hx, .inr (11, [.ref qn, .ref qp, .int 0, .int 0, .ref qs, .ref qj, .ref ql, .ref qh, .ref qk, .int 0, .ref qr, .ref qg, .int 0, .int 0, .ref qsh]))]) (k' := 0) (n' := 0) C (run_V (As := [.ref qn, .null]) (rest := []) C (c_settle X.2.1 E qh qn ha hb hc nf np) mi_X1_settle wl_X11_248 rfl 0 1 rfl rfl rfl rfl rfl dX11_classes_9) [4, 1, 2, 3] [0] rfl rfl rfl rfl (fun u hw => ?_)
  obtain ⟨rfl⟩ := hw
  refine ww_eq (ws' := [(hx, .inr (11, [.ref qn, .ref qp, .int 0, .int 0, .ref qs, .ref qj, .ref ql, .ref qh, .ref qk, .int 0, .ref qr, .ref qg, .int 0, .int 0, .ref qsh])), (qh, .inr (1, [.ref qn, .null, .int 0, .ref ha, .ref hb, .ref hc])), (qn, .inr (4, [.int 0, .int 0, .ref nf, .ref np])), (nf, .inl (E.2.1 1, 24, .inl (fun _ => 0))), (np, .inl (E.2.1 1, 96, .inl (fun _ => 0)))]) ?_ rfl rfl rfl
  refine ww_aload_n C dX11_classes_12 0 rfl rfl ?_
  refine ww_get C fg_X11_48 0 rfl rfl dX11_classes_13 ?_
  refine ww_ci (wr := [(hx, .inr (11, [.ref qn, .ref qp, .int 0, .int 0, .ref qs, .ref qj, .ref ql, .ref qh, .ref qk, .int 0, .ref qr, .ref qg, .int 0, .int 0, .ref qsh])), (qn, .inr (4, [.int 0, .int 0, .ref nf, .ref np])), (nf, .inl (E.2.1 1, 24, .inl (fun _ => 0))), (np, .inl (E.2.1 1, 96, .inl (fun _ => 0)))]) (k' := 0) (n' := 0) C (run_V (As := []) (rest := []) C (c_howMany X.2.1 E qh qn ha hb hc) mi_X1_howMany wl_X11_252 rfl 0 1 rfl rfl rfl rfl rfl dX11_classes_16) [1] [0, 2, 3, 4] rfl rfl rfl rfl (fun r u hw => ?_)
  obtain ⟨rfl, rfl⟩ := hw
  refine ww_eq (ws' := [(hx, .inr (11, [.ref qn, .ref qp, .int 0, .int 0, .ref qs, .ref qj, .ref ql, .ref qh, .ref qk, .int 0, .ref qr, .ref qg, .int 0, .int 0, .ref qsh])), (qn, .inr (4, [.int 0, .int 0, .ref nf, .ref np])), (nf, .inl (E.2.1 1, 24, .inl (fun _ => 0))), (np, .inl (E.2.1 1, 96, .inl (fun _ => 0)))]) ?_ rfl rfl rfl
  exact ww_iret (u := []) C hT [] rfl rfl rfl rfl dX11_classes_19 (⟨rfl, rfl⟩)
theorem dX11_classOf_0 : decode cX11_classOf 0 = .ok (.aload_n 0, 1) := by decide +kernel
theorem dX11_classOf_1 : decode cX11_classOf 1 = .ok (.getfield 10, 3) := by decide +kernel
theorem dX11_classOf_4 : decode cX11_classOf 4 = .ok (.iload_n 1, 1) := by decide +kernel
theorem dX11_classOf_5 : decode cX11_classOf 5 = .ok (.invokevirtual 135, 3) := by decide +kernel
theorem dX11_classOf_8 : decode cX11_classOf 8 = .ok (.ifCond .ne 5, 3) := by decide +kernel
theorem dX11_classOf_11 : decode cX11_classOf 11 = .ok (.iconst (-1), 1) := by decide +kernel
theorem dX11_classOf_12 : decode cX11_classOf 12 = .ok (.ireturn, 1) := by decide +kernel
set_option maxRecDepth 100000 in
set_option maxHeartbeats 4000000 in
theorem x_classOf (l : Launch) (E : EV) (hx : Nat) (p0 : Int32) (qn : Nat) (qp : Nat) (qs : Nat) (qj : Nat) (ql : Nat) (qh : Nat) (qk : Nat) (qr : Nat) (qg : Nat) (qsh : Nat) (nf : Nat) (np : Nat)  : CT l yX11_classOf (Cond.code yX11_classOf cX11_classOf 2 (some .int) :: TB) ({ frames := 1, cells := 0, slots := 0, locals := 21 }) E [.ref hx, .int p0] [(hx, .inr (11, [.ref qn, .ref qp, .int 0, .int 0, .ref qs, .ref qj, .ref ql, .ref qh, .ref qk, .int 0, .ref qr, .ref qg, .int 0, .int 0, .ref qsh])), (qn, .inr (4, [.int 0, .int 0, .ref nf, .ref np])), (nf, .inl (E.2.1 1, 24, .inl (fun _ => 0))), (np, .inl (E.2.1 1, 96, .inl (fun _ => 0)))] (Qi E (fun (r : Int32) u => (r = (-1) ∧ u = []))) 0 0 := by
  refine ct_of rfl rfl ?_
  intro X C hT hin
  show WW X 2 E 0 [(0, .ref hx), (1, .int p0)] [] [(hx, .inr (11, [.ref qn, .ref qp, .int 0, .int 0, .ref qs, .ref qj, .ref ql, .ref qh, .ref qk, .int 0, .ref qr, .ref qg, .int 0, .int 0, .ref qsh])), (qn, .inr (4, [.int 0, .int 0, .ref nf, .ref np])), (nf, .inl (E.2.1 1, 24, .inl (fun _ => 0))), (np, .inl (E.2.1 1, 96, .inl (fun _ => 0)))] 0 0
  refine ww_aload_n C dX11_classOf_0 0 rfl rfl ?_
  refine ww_get C fg_X11_10 0 rfl rfl dX11_classOf_1 ?_
  refine ww_iload_n C dX11_classOf_4 1 rfl rfl ?_
  refine ww_ci (wr := [(hx, .inr (11, [.ref qn, .ref qp, .int 0, .int 0, .ref qs, .ref qj, .ref ql, .ref qh, .ref qk, .int 0, .ref qr, .ref qg, .int 0, .int 0, .ref qsh])), (nf, .inl (E.2.1 1, 24, .inl (fun _ => 0))), (np, .inl (E.2.1 1, 96, .inl (fun _ => 0)))]) (k' := 0) (n' := 0) C (run_V (As := [.int p0]) (rest := []) C (c_contains0 X.2.1 E qn nf np p0) mi_X4_contains wl_X11_135 rfl 0 4 rfl rfl rfl rfl rfl dX11_classOf_5) [1] [0, 2, 3] rfl rfl rfl rfl (fun r u hw => ?_)
  obtain ⟨rfl, rfl⟩ := hw
  refine ww_eq (ws' := [(hx, .inr (11, [.ref qn, .ref qp, .int 0, .int 0, .ref qs, .ref qj, .ref ql, .ref qh, .ref qk, .int 0, .ref qr, .ref qg, .int 0, .int 0, .ref qsh])), (nf, .inl (E.2.1 1, 24, .inl (fun _ => 0))), (np, .inl (E.2.1 1, 96, .inl (fun _ => 0))), (qn, .inr (4, [.int 0, .int 0, .ref nf, .ref np]))]) ?_ rfl rfl rfl
  refine ww_if_ne_f (tgt := 13) C dX11_classOf_8 (by decide) (rfl) ?_
  refine ww_iconst (v := (-1)) C dX11_classOf_11 rfl ?_
  exact ww_iret (u := []) C hT [] rfl rfl rfl rfl dX11_classOf_12 (⟨rfl, rfl⟩)
theorem dX11_depth_0 : decode cX11_depth 0 = .ok (.aload_n 0, 1) := by decide +kernel
theorem dX11_depth_1 : decode cX11_depth 1 = .ok (.getfield 10, 3) := by decide +kernel
theorem dX11_depth_4 : decode cX11_depth 4 = .ok (.iload_n 1, 1) := by decide +kernel
theorem dX11_depth_5 : decode cX11_depth 5 = .ok (.invokevirtual 135, 3) := by decide +kernel
theorem dX11_depth_8 : decode cX11_depth 8 = .ok (.ifCond .eq 14, 3) := by decide +kernel
theorem dX11_depth_22 : decode cX11_depth 22 = .ok (.iconst (-1), 1) := by decide +kernel
theorem dX11_depth_23 : decode cX11_depth 23 = .ok (.ireturn, 1) := by decide +kernel
set_option maxRecDepth 100000 in
set_option maxHeartbeats 4000000 in
theorem x_depth (l : Launch) (E : EV) (hx : Nat) (p0 : Int32) (p1 : Int32) (qn : Nat) (qp : Nat) (qs : Nat) (qj : Nat) (ql : Nat) (qh : Nat) (qk : Nat) (qr : Nat) (qg : Nat) (qsh : Nat) (nf : Nat) (np : Nat)  : CT l yX11_depth (Cond.code yX11_depth cX11_depth 3 (some .int) :: TB) ({ frames := 1, cells := 0, slots := 0, locals := 21 }) E [.ref hx, .int p0, .int p1] [(hx, .inr (11, [.ref qn, .ref qp, .int 0, .int 0, .ref qs, .ref qj, .ref ql, .ref qh, .ref qk, .int 0, .ref qr, .ref qg, .int 0, .int 0, .ref qsh])), (qn, .inr (4, [.int 0, .int 0, .ref nf, .ref np])), (nf, .inl (E.2.1 1, 24, .inl (fun _ => 0))), (np, .inl (E.2.1 1, 96, .inl (fun _ => 0)))] (Qi E (fun (r : Int32) u => (r = (-1) ∧ u = []))) 0 0 := by
  refine ct_of rfl rfl ?_
  intro X C hT hin
  show WW X 3 E 0 [(0, .ref hx), (1, .int p0), (2, .int p1)] [] [(hx, .inr (11, [.ref qn, .ref qp, .int 0, .int 0, .ref qs, .ref qj, .ref ql, .ref qh, .ref qk, .int 0, .ref qr, .ref qg, .int 0, .int 0, .ref qsh])), (qn, .inr (4, [.int 0, .int 0, .ref nf, .ref np])), (nf, .inl (E.2.1 1, 24, .inl (fun _ => 0))), (np, .inl (E.2.1 1, 96, .inl (fun _ => 0)))] 0 0
  refine ww_aload_n C dX11_depth_0 0 rfl rfl ?_
  refine ww_get C fg_X11_10 0 rfl rfl dX11_depth_1 ?_
  refine ww_iload_n C dX11_depth_4 1 rfl rfl ?_
  refine ww_ci (wr := [(hx, .inr (11, [.ref qn, .ref qp, .int 0, .int 0, .ref qs, .ref qj, .ref ql, .ref qh, .ref qk, .int 0, .ref qr, .ref qg, .int 0, .int 0, .ref qsh])), (nf, .inl (E.2.1 1, 24, .inl (fun _ => 0))), (np, .inl (E.2.1 1, 96, .inl (fun _ => 0)))]) (k' := 0) (n' := 0) C (run_V (As := [.int p0]) (rest := []) C (c_contains0 X.2.1 E qn nf np p0) mi_X4_contains wl_X11_135 rfl 0 4 rfl rfl rfl rfl rfl dX11_depth_5) [1] [0, 2, 3] rfl rfl rfl rfl (fun r u hw => ?_)
  obtain ⟨rfl, rfl⟩ := hw
  refine ww_eq (ws' := [(hx, .inr (11, [.ref qn, .ref qp, .int 0, .int 0, .ref qs, .ref qj, .ref ql, .ref qh, .ref qk, .int 0, .ref qr, .ref qg, .int 0, .int 0, .ref qsh])), (nf, .inl (E.2.1 1, 24, .inl (fun _ => 0))), (np, .inl (E.2.1 1, 96, .inl (fun _ => 0))), (qn, .inr (4, [.int 0, .int 0, .ref nf, .ref np]))]) ?_ rfl rfl rfl
  refine ww_if_eq_t (tgt := 22) C dX11_depth_8 (by decide) (rfl) ?_
  refine ww_iconst (v := (-1)) C dX11_depth_22 rfl ?_
  exact ww_iret (u := []) C hT [] rfl rfl rfl rfl dX11_depth_23 (⟨rfl, rfl⟩)
theorem dX11_melt_0 : decode cX11_melt 0 = .ok (.aload_n 0, 1) := by decide +kernel
theorem dX11_melt_1 : decode cX11_melt 1 = .ok (.getfield 10, 3) := by decide +kernel
theorem dX11_melt_4 : decode cX11_melt 4 = .ok (.getfield 125, 3) := by decide +kernel
theorem dX11_melt_7 : decode cX11_melt 7 = .ok (.ifCond .ne 6, 3) := by decide +kernel
theorem dX11_melt_10 : decode cX11_melt 10 = .ok (.bipush (-2), 2) := by decide +kernel
theorem dX11_melt_12 : decode cX11_melt 12 = .ok (.ireturn, 1) := by decide +kernel
set_option maxRecDepth 100000 in
set_option maxHeartbeats 4000000 in
theorem x_melt (l : Launch) (E : EV) (hx : Nat) (qn : Nat) (qp : Nat) (qs : Nat) (qj : Nat) (ql : Nat) (qh : Nat) (qk : Nat) (qr : Nat) (qg : Nat) (qsh : Nat) (nf : Nat) (np : Nat)  : CT l yX11_melt (Cond.code yX11_melt cX11_melt 1 (some .int) :: TB) ({ frames := 0, cells := 0, slots := 0, locals := 0 }) E [.ref hx] [(hx, .inr (11, [.ref qn, .ref qp, .int 0, .int 0, .ref qs, .ref qj, .ref ql, .ref qh, .ref qk, .int 0, .ref qr, .ref qg, .int 0, .int 0, .ref qsh])), (qn, .inr (4, [.int 0, .int 0, .ref nf, .ref np])), (nf, .inl (E.2.1 1, 24, .inl (fun _ => 0))), (np, .inl (E.2.1 1, 96, .inl (fun _ => 0)))] (Qi E (fun (r : Int32) u => (r = (-2) ∧ u = []))) 0 0 := by
  refine ct_of rfl rfl ?_
  intro X C hT hin
  show WW X 1 E 0 [(0, .ref hx)] [] [(hx, .inr (11, [.ref qn, .ref qp, .int 0, .int 0, .ref qs, .ref qj, .ref ql, .ref qh, .ref qk, .int 0, .ref qr, .ref qg, .int 0, .int 0, .ref qsh])), (qn, .inr (4, [.int 0, .int 0, .ref nf, .ref np])), (nf, .inl (E.2.1 1, 24, .inl (fun _ => 0))), (np, .inl (E.2.1 1, 96, .inl (fun _ => 0)))] 0 0
  refine ww_aload_n C dX11_melt_0 0 rfl rfl ?_
  refine ww_get C fg_X11_10 0 rfl rfl dX11_melt_1 ?_
  refine ww_get C fg_X11_125 1 rfl rfl dX11_melt_4 ?_
  refine ww_if_ne_f (tgt := 13) C dX11_melt_7 (by decide) (rfl) ?_
  refine ww_bipush (v := (-2)) C dX11_melt_10 rfl ?_
  exact ww_iret (u := []) C hT [] rfl rfl rfl rfl dX11_melt_12 (⟨rfl, rfl⟩)
theorem dX11_keep_0 : decode cX11_keep 0 = .ok (.aload_n 0, 1) := by decide +kernel
theorem dX11_keep_1 : decode cX11_keep 1 = .ok (.getfield 10, 3) := by decide +kernel
theorem dX11_keep_4 : decode cX11_keep 4 = .ok (.getfield 125, 3) := by decide +kernel
theorem dX11_keep_7 : decode cX11_keep 7 = .ok (.ifCond .ne 6, 3) := by decide +kernel
theorem dX11_keep_10 : decode cX11_keep 10 = .ok (.bipush (-2), 2) := by decide +kernel
theorem dX11_keep_12 : decode cX11_keep 12 = .ok (.ireturn, 1) := by decide +kernel
set_option maxRecDepth 100000 in
set_option maxHeartbeats 4000000 in
theorem x_keep (l : Launch) (E : EV) (hx : Nat) (qn : Nat) (qp : Nat) (qs : Nat) (qj : Nat) (ql : Nat) (qh : Nat) (qk : Nat) (qr : Nat) (qg : Nat) (qsh : Nat) (nf : Nat) (np : Nat)  : CT l yX11_keep (Cond.code yX11_keep cX11_keep 1 (some .int) :: TB) ({ frames := 0, cells := 0, slots := 0, locals := 0 }) E [.ref hx] [(hx, .inr (11, [.ref qn, .ref qp, .int 0, .int 0, .ref qs, .ref qj, .ref ql, .ref qh, .ref qk, .int 0, .ref qr, .ref qg, .int 0, .int 0, .ref qsh])), (qn, .inr (4, [.int 0, .int 0, .ref nf, .ref np])), (nf, .inl (E.2.1 1, 24, .inl (fun _ => 0))), (np, .inl (E.2.1 1, 96, .inl (fun _ => 0)))] (Qi E (fun (r : Int32) u => (r = (-2) ∧ u = []))) 0 0 := by
  refine ct_of rfl rfl ?_
  intro X C hT hin
  show WW X 1 E 0 [(0, .ref hx)] [] [(hx, .inr (11, [.ref qn, .ref qp, .int 0, .int 0, .ref qs, .ref qj, .ref ql, .ref qh, .ref qk, .int 0, .ref qr, .ref qg, .int 0, .int 0, .ref qsh])), (qn, .inr (4, [.int 0, .int 0, .ref nf, .ref np])), (nf, .inl (E.2.1 1, 24, .inl (fun _ => 0))), (np, .inl (E.2.1 1, 96, .inl (fun _ => 0)))] 0 0
  refine ww_aload_n C dX11_keep_0 0 rfl rfl ?_
  refine ww_get C fg_X11_10 0 rfl rfl dX11_keep_1 ?_
  refine ww_get C fg_X11_125 1 rfl rfl dX11_keep_4 ?_
  refine ww_if_ne_f (tgt := 13) C dX11_keep_7 (by decide) (rfl) ?_
  refine ww_bipush (v := (-2)) C dX11_keep_10 rfl ?_
  exact ww_iret (u := []) C hT [] rfl rfl rfl rfl dX11_keep_12 (⟨rfl, rfl⟩)
theorem dX11_stand_0 : decode cX11_stand 0 = .ok (.iload_n 1, 1) := by decide +kernel
theorem dX11_stand_1 : decode cX11_stand 1 = .ok (.iconst 0, 1) := by decide +kernel
theorem dX11_stand_2 : decode cX11_stand 2 = .ok (.aload_n 0, 1) := by decide +kernel
theorem dX11_stand_3 : decode cX11_stand 3 = .ok (.getfield 266, 3) := by decide +kernel
theorem wf_X11_266 : Cond.fieldLink RX11 266 RX11 "keptCount" "I" ∈ TB := tbm (tq2 (List.mem_of_getElem? (i := 105) (by decide +kernel))) (by decide +kernel)
theorem fg_X11_266 : FG RX11 266 11 9 := ⟨RX11, TX11, 15, uw_X11, wf_X11_266, rfl, by decide, rfl⟩
theorem dX11_stand_6 : decode cX11_stand 6 = .ok (.iconst 1, 1) := by decide +kernel
theorem dX11_stand_7 : decode cX11_stand 7 = .ok (.isub, 1) := by decide +kernel
theorem dX11_stand_8 : decode cX11_stand 8 = .ok (.invokestatic 76, 3) := by decide +kernel
theorem dX11_stand_11 : decode cX11_stand 11 = .ok (.ifCond .ne 5, 3) := by decide +kernel
theorem dX11_stand_14 : decode cX11_stand 14 = .ok (.iconst (-1), 1) := by decide +kernel
theorem dX11_stand_15 : decode cX11_stand 15 = .ok (.ireturn, 1) := by decide +kernel
set_option maxRecDepth 100000 in
set_option maxHeartbeats 4000000 in
theorem x_stand (l : Launch) (E : EV) (hx : Nat) (p0 : Int32) (qn : Nat) (qp : Nat) (qs : Nat) (qj : Nat) (ql : Nat) (qh : Nat) (qk : Nat) (qr : Nat) (qg : Nat) (qsh : Nat)  : CT l yX11_stand (Cond.code yX11_stand cX11_stand 2 (some .int) :: TB) ({ frames := 1, cells := 0, slots := 0, locals := 22 }) E [.ref hx, .int p0] [(hx, .inr (11, [.ref qn, .ref qp, .int 0, .int 0, .ref qs, .ref qj, .ref ql, .ref qh, .ref qk, .int 0, .ref qr, .ref qg, .int 0, .int 0, .ref qsh]))] (Qi E (fun (r : Int32) u => (r = (-1) ∧ u = []))) 0 0 := by
  refine ct_of rfl rfl ?_
  intro X C hT hin
  show WW X 2 E 0 [(0, .ref hx), (1, .int p0)] [] [(hx, .inr (11, [.ref qn, .ref qp, .int 0, .int 0, .ref qs, .ref qj, .ref ql, .ref qh, .ref qk, .int 0, .ref qr, .ref qg, .int 0, .int 0, .ref qsh]))] 0 0
  refine ww_iload_n C dX11_stand_0 1 rfl rfl ?_
  refine ww_iconst (v := 0) C dX11_stand_1 rfl ?_
  refine ww_aload_n C dX11_stand_2 0 rfl rfl ?_
  refine ww_get C fg_X11_266 0 rfl rfl dX11_stand_3 ?_
  refine ww_iconst (v := 1) C dX11_stand_6 rfl ?_
  refine ww_isub (v := (-1)) C dX11_stand_7 (by decide) ?_
  refine ww_ci (wr := [(hx, .inr (11, [.ref qn, .ref qp, .int 0, .int 0, .ref qs, .ref qj, .ref ql, .ref qh, .ref qk, .int 0, .ref qr, .ref qg, .int 0, .int 0, .ref qsh]))]) (k' := 0) (n' := 0) C (run_S (As := [.int p0, .int 0, .int (-1)]) (rest := []) C (c_within X.2.1 E p0 0 (-1) p0.toInt 0 (-1) rfl rfl rfl) ms_X11_within wl_X11_76 rfl rfl rfl rfl dX11_stand_8) [] [0] rfl rfl rfl rfl (fun r u hw => ?_)
  rcases hw with ⟨rfl, rfl, h_1, h_2⟩ | ⟨rfl, rfl, h_3⟩
  · omega
  · refine ww_eq (ws' := [(hx, .inr (11, [.ref qn, .ref qp, .int 0, .int 0, .ref qs, .ref qj, .ref ql, .ref qh, .ref qk, .int 0, .ref qr, .ref qg, .int 0, .int 0, .ref qsh]))]) ?_ rfl rfl rfl
    refine ww_if_ne_f (tgt := 16) C dX11_stand_11 (by decide) (rfl) ?_
    refine ww_iconst (v := (-1)) C dX11_stand_14 rfl ?_
    exact ww_iret (u := []) C hT [] rfl rfl rfl rfl dX11_stand_15 (⟨rfl, rfl⟩)
theorem dX11_same_0 : decode cX11_same 0 = .ok (.iload_n 1, 1) := by decide +kernel
theorem dX11_same_1 : decode cX11_same 1 = .ok (.iconst 0, 1) := by decide +kernel
theorem dX11_same_2 : decode cX11_same 2 = .ok (.aload_n 0, 1) := by decide +kernel
theorem dX11_same_3 : decode cX11_same 3 = .ok (.getfield 266, 3) := by decide +kernel
theorem dX11_same_6 : decode cX11_same 6 = .ok (.iconst 1, 1) := by decide +kernel
theorem dX11_same_7 : decode cX11_same 7 = .ok (.isub, 1) := by decide +kernel
theorem dX11_same_8 : decode cX11_same 8 = .ok (.invokestatic 76, 3) := by decide +kernel
theorem dX11_same_11 : decode cX11_same 11 = .ok (.ifCond .ne 5, 3) := by decide +kernel
theorem dX11_same_14 : decode cX11_same 14 = .ok (.iconst (-1), 1) := by decide +kernel
theorem dX11_same_15 : decode cX11_same 15 = .ok (.ireturn, 1) := by decide +kernel
set_option maxRecDepth 100000 in
set_option maxHeartbeats 4000000 in
theorem x_same (l : Launch) (E : EV) (hx : Nat) (p0 : Int32) (qn : Nat) (qp : Nat) (qs : Nat) (qj : Nat) (ql : Nat) (qh : Nat) (qk : Nat) (qr : Nat) (qg : Nat) (qsh : Nat)  : CT l yX11_same (Cond.code yX11_same cX11_same 3 (some .int) :: TB) ({ frames := 1, cells := 0, slots := 0, locals := 22 }) E [.ref hx, .int p0] [(hx, .inr (11, [.ref qn, .ref qp, .int 0, .int 0, .ref qs, .ref qj, .ref ql, .ref qh, .ref qk, .int 0, .ref qr, .ref qg, .int 0, .int 0, .ref qsh]))] (Qi E (fun (r : Int32) u => (r = (-1) ∧ u = []))) 0 0 := by
  refine ct_of rfl rfl ?_
  intro X C hT hin
  show WW X 3 E 0 [(0, .ref hx), (1, .int p0)] [] [(hx, .inr (11, [.ref qn, .ref qp, .int 0, .int 0, .ref qs, .ref qj, .ref ql, .ref qh, .ref qk, .int 0, .ref qr, .ref qg, .int 0, .int 0, .ref qsh]))] 0 0
  refine ww_iload_n C dX11_same_0 1 rfl rfl ?_
  refine ww_iconst (v := 0) C dX11_same_1 rfl ?_
  refine ww_aload_n C dX11_same_2 0 rfl rfl ?_
  refine ww_get C fg_X11_266 0 rfl rfl dX11_same_3 ?_
  refine ww_iconst (v := 1) C dX11_same_6 rfl ?_
  refine ww_isub (v := (-1)) C dX11_same_7 (by decide) ?_
  refine ww_ci (wr := [(hx, .inr (11, [.ref qn, .ref qp, .int 0, .int 0, .ref qs, .ref qj, .ref ql, .ref qh, .ref qk, .int 0, .ref qr, .ref qg, .int 0, .int 0, .ref qsh]))]) (k' := 0) (n' := 0) C (run_S (As := [.int p0, .int 0, .int (-1)]) (rest := []) C (c_within X.2.1 E p0 0 (-1) p0.toInt 0 (-1) rfl rfl rfl) ms_X11_within wl_X11_76 rfl rfl rfl rfl dX11_same_8) [] [0] rfl rfl rfl rfl (fun r u hw => ?_)
  rcases hw with ⟨rfl, rfl, h_1, h_2⟩ | ⟨rfl, rfl, h_3⟩
  · omega
  · refine ww_eq (ws' := [(hx, .inr (11, [.ref qn, .ref qp, .int 0, .int 0, .ref qs, .ref qj, .ref ql, .ref qh, .ref qk, .int 0, .ref qr, .ref qg, .int 0, .int 0, .ref qsh]))]) ?_ rfl rfl rfl
    refine ww_if_ne_f (tgt := 16) C dX11_same_11 (by decide) (rfl) ?_
    refine ww_iconst (v := (-1)) C dX11_same_14 rfl ?_
    exact ww_iret (u := []) C hT [] rfl rfl rfl rfl dX11_same_15 (⟨rfl, rfl⟩)
theorem dX11_canTakeTurns_0 : decode cX11_canTakeTurns 0 = .ok (.iload_n 1, 1) := by decide +kernel
theorem dX11_canTakeTurns_1 : decode cX11_canTakeTurns 1 = .ok (.iconst 1, 1) := by decide +kernel
theorem dX11_canTakeTurns_2 : decode cX11_canTakeTurns 2 = .ok (.bipush 15, 2) := by decide +kernel
theorem dX11_canTakeTurns_4 : decode cX11_canTakeTurns 4 = .ok (.invokestatic 76, 3) := by decide +kernel
theorem dX11_canTakeTurns_7 : decode cX11_canTakeTurns 7 = .ok (.ifCond .eq 14, 3) := by decide +kernel
theorem dX11_canTakeTurns_10 : decode cX11_canTakeTurns 10 = .ok (.iload_n 2, 1) := by decide +kernel
theorem dX11_canTakeTurns_11 : decode cX11_canTakeTurns 11 = .ok (.iconst 0, 1) := by decide +kernel
theorem dX11_canTakeTurns_12 : decode cX11_canTakeTurns 12 = .ok (.sipush 4095, 3) := by decide +kernel
theorem dX11_canTakeTurns_15 : decode cX11_canTakeTurns 15 = .ok (.invokestatic 76, 3) := by decide +kernel
theorem dX11_canTakeTurns_18 : decode cX11_canTakeTurns 18 = .ok (.ifCond .ne 5, 3) := by decide +kernel
theorem dX11_canTakeTurns_23 : decode cX11_canTakeTurns 23 = .ok (.iconst 0, 1) := by decide +kernel
theorem dX11_canTakeTurns_24 : decode cX11_canTakeTurns 24 = .ok (.istore_n 3, 1) := by decide +kernel
theorem dX11_canTakeTurns_25 : decode cX11_canTakeTurns 25 = .ok (.iload_n 3, 1) := by decide +kernel
theorem dX11_canTakeTurns_26 : decode cX11_canTakeTurns 26 = .ok (.iconst 4, 1) := by decide +kernel
theorem dX11_canTakeTurns_27 : decode cX11_canTakeTurns 27 = .ok (.if_icmp .ge 34, 3) := by decide +kernel
theorem dX11_canTakeTurns_30 : decode cX11_canTakeTurns 30 = .ok (.iload_n 1, 1) := by decide +kernel
theorem dX11_canTakeTurns_31 : decode cX11_canTakeTurns 31 = .ok (.iload_n 3, 1) := by decide +kernel
theorem dX11_canTakeTurns_32 : decode cX11_canTakeTurns 32 = .ok (.invokestatic 269, 3) := by decide +kernel
theorem wl_X11_269 : Cond.methodLink RX11 269 yX11_has ∈ TB := tbm (tq4 (List.mem_of_getElem? (i := 191) (by decide +kernel))) (by decide +kernel)
theorem wc_X11_has : Cond.code yX11_has cX11_has 2 (some .boolean) ∈ TB := tbm (tq2 (List.mem_of_getElem? (i := 229) (rfl))) (by decide +kernel)
theorem wt_X11_has : Cond.static yX11_has ∈ TB := tbm (tq2 (List.mem_of_getElem? (i := 228) (by decide +kernel))) (by decide +kernel)
theorem ms_X11_has : MS yX11_has cX11_has 2 (some .boolean) 2 := ⟨wc_X11_has, wn_X11, ⟨by decide +kernel, by decide +kernel, by decide +kernel⟩, wt_X11_has⟩
theorem dX11_canTakeTurns_35 : decode cX11_canTakeTurns 35 = .ok (.ifCond .eq 20, 3) := by decide +kernel
theorem dX11_canTakeTurns_38 : decode cX11_canTakeTurns 38 = .ok (.aload_n 0, 1) := by decide +kernel
theorem dX11_canTakeTurns_39 : decode cX11_canTakeTurns 39 = .ok (.iload_n 2, 1) := by decide +kernel
theorem dX11_canTakeTurns_40 : decode cX11_canTakeTurns 40 = .ok (.iconst 3, 1) := by decide +kernel
theorem dX11_canTakeTurns_41 : decode cX11_canTakeTurns 41 = .ok (.iload_n 3, 1) := by decide +kernel
theorem dX11_canTakeTurns_42 : decode cX11_canTakeTurns 42 = .ok (.imul, 1) := by decide +kernel
theorem dX11_canTakeTurns_43 : decode cX11_canTakeTurns 43 = .ok (.ishr, 1) := by decide +kernel
theorem dX11_canTakeTurns_44 : decode cX11_canTakeTurns 44 = .ok (.bipush 7, 2) := by decide +kernel
theorem dX11_canTakeTurns_46 : decode cX11_canTakeTurns 46 = .ok (.iand, 1) := by decide +kernel
theorem dX11_canTakeTurns_47 : decode cX11_canTakeTurns 47 = .ok (.invokevirtual 98, 3) := by decide +kernel
theorem dX11_canTakeTurns_50 : decode cX11_canTakeTurns 50 = .ok (.ifCond .ne 5, 3) := by decide +kernel
theorem dX11_canTakeTurns_53 : decode cX11_canTakeTurns 53 = .ok (.iconst 0, 1) := by decide +kernel
theorem dX11_canTakeTurns_54 : decode cX11_canTakeTurns 54 = .ok (.ireturn, 1) := by decide +kernel
theorem dX11_canTakeTurns_55 : decode cX11_canTakeTurns 55 = .ok (.iinc 3 1, 3) := by decide +kernel
theorem dX11_canTakeTurns_58 : decode cX11_canTakeTurns 58 = .ok (.goto (-33), 3) := by decide +kernel
theorem dX11_canTakeTurns_21 : decode cX11_canTakeTurns 21 = .ok (.iconst 0, 1) := by decide +kernel
theorem dX11_canTakeTurns_22 : decode cX11_canTakeTurns 22 = .ok (.ireturn, 1) := by decide +kernel
set_option maxRecDepth 100000 in
set_option maxHeartbeats 4000000 in
theorem c_canTakeTurns (l : Launch) (E : EV) (hx : Nat) (p0 : Int32) (p1 : Int32) (qn : Nat) (qp : Nat) (qs : Nat) (qj : Nat) (ql : Nat) (qh : Nat) (qk : Nat) (qr : Nat) (qg : Nat) (qsh : Nat) (jt : Nat) (je : Nat) (ju : Nat) (ja : Nat)  : CT l yX11_canTakeTurns (Cond.code yX11_canTakeTurns cX11_canTakeTurns 4 (some .boolean) :: TB) ({ frames := 2, cells := 0, slots := 0, locals := 43 }) E [.ref hx, .int p0, .int p1] [(hx, .inr (11, [.ref qn, .ref qp, .int 0, .int 0, .ref qs, .ref qj, .ref ql, .ref qh, .ref qk, .int 0, .ref qr, .ref qg, .int 0, .int 0, .ref qsh])), (qj, .inr (2, [.ref jt, .ref je, .ref ju, .ref ja])), (jt, .inl (E.2.1 7, 8, .inr (.inr (.inr (.inr (fun _ => none))))))] (Qi E (fun (r : Int32) u => (r = 0 ∧ u = [(hx, .inr (11, [.ref qn, .ref qp, .int 0, .int 0, .ref qs, .ref qj, .ref ql, .ref qh, .ref qk, .int 0, .ref qr, .ref qg, .int 0, .int 0, .ref qsh])), (qj, .inr (2, [.ref jt, .ref je, .ref ju, .ref ja])), (jt, .inl (E.2.1 7, 8, .inr (.inr (.inr (.inr (fun _ => none))))))]))) 0 0 := by
  refine ct_of rfl rfl ?_
  intro X C hT hin
  show WW X 4 E 0 [(0, .ref hx), (1, .int p0), (2, .int p1)] [] [(hx, .inr (11, [.ref qn, .ref qp, .int 0, .int 0, .ref qs, .ref qj, .ref ql, .ref qh, .ref qk, .int 0, .ref qr, .ref qg, .int 0, .int 0, .ref qsh])), (qj, .inr (2, [.ref jt, .ref je, .ref ju, .ref ja])), (jt, .inl (E.2.1 7, 8, .inr (.inr (.inr (.inr (fun _ => none))))))] 0 0
  refine ww_iload_n C dX11_canTakeTurns_0 1 rfl rfl ?_
  refine ww_iconst (v := 1) C dX11_canTakeTurns_1 rfl ?_
  refine ww_bipush (v := 15) C dX11_canTakeTurns_2 rfl ?_
  refine ww_ci (wr := [(hx, .inr (11, [.ref qn, .ref qp, .int 0, .int 0, .ref qs, .ref qj, .ref ql, .ref qh, .ref qk, .int 0, .ref qr, .ref qg, .int 0, .int 0, .ref qsh])), (qj, .inr (2, [.ref jt, .ref je, .ref ju, .ref ja])), (jt, .inl (E.2.1 7, 8, .inr (.inr (.inr (.inr (fun _ => none))))))]) (k' := 0) (n' := 0) C (run_S (As := [.int p0, .int 1, .int 15]) (rest := []) C (c_within X.2.1 E p0 1 15 p0.toInt 1 15 rfl rfl rfl) ms_X11_within wl_X11_76 rfl rfl rfl rfl dX11_canTakeTurns_4) [] [0, 1, 2] rfl rfl rfl rfl (fun r u hw => ?_)
  rcases hw with ⟨rfl, rfl, h_1, h_2⟩ | ⟨rfl, rfl, h_3⟩
  · refine ww_eq (ws' := [(hx, .inr (11, [.ref qn, .ref qp, .int 0, .int 0, .ref qs, .ref qj, .ref ql, .ref qh, .ref qk, .int 0, .ref qr, .ref qg, .int 0, .int 0, .ref qsh])), (qj, .inr (2, [.ref jt, .ref je, .ref ju, .ref ja])), (jt, .inl (E.2.1 7, 8, .inr (.inr (.inr (.inr (fun _ => none))))))]) ?_ rfl rfl rfl
    refine ww_if_eq_f (tgt := 21) C dX11_canTakeTurns_7 (by decide) (by decide) ?_
    refine ww_iload_n C dX11_canTakeTurns_10 2 rfl rfl ?_
    refine ww_iconst (v := 0) C dX11_canTakeTurns_11 rfl ?_
    refine ww_sipush (v := 4095) C dX11_canTakeTurns_12 rfl ?_
    refine ww_ci (wr := [(hx, .inr (11, [.ref qn, .ref qp, .int 0, .int 0, .ref qs, .ref qj, .ref ql, .ref qh, .ref qk, .int 0, .ref qr, .ref qg, .int 0, .int 0, .ref qsh])), (qj, .inr (2, [.ref jt, .ref je, .ref ju, .ref ja])), (jt, .inl (E.2.1 7, 8, .inr (.inr (.inr (.inr (fun _ => none))))))]) (k' := 0) (n' := 0) C (run_S (As := [.int p1, .int 0, .int 4095]) (rest := []) C (c_within X.2.1 E p1 0 4095 p1.toInt 0 4095 rfl rfl rfl) ms_X11_within wl_X11_76 rfl rfl rfl rfl dX11_canTakeTurns_15) [] [0, 1, 2] rfl rfl rfl rfl (fun r u hw => ?_)
    rcases hw with ⟨rfl, rfl, h_4, h_5⟩ | ⟨rfl, rfl, h_6⟩
    · refine ww_eq (ws' := [(hx, .inr (11, [.ref qn, .ref qp, .int 0, .int 0, .ref qs, .ref qj, .ref ql, .ref qh, .ref qk, .int 0, .ref qr, .ref qg, .int 0, .int 0, .ref qsh])), (qj, .inr (2, [.ref jt, .ref je, .ref ju, .ref ja])), (jt, .inl (E.2.1 7, 8, .inr (.inr (.inr (.inr (fun _ => none))))))]) ?_ rfl rfl rfl
      refine ww_if_ne_t (tgt := 23) C dX11_canTakeTurns_18 (by decide) (by decide) ?_
      refine ww_iconst (v := 0) C dX11_canTakeTurns_23 rfl ?_
      refine ww_istore_n (lv' := [(3, .int 0), (0, .ref hx), (1, .int p0), (2, .int p1)]) C dX11_canTakeTurns_24 rfl rfl rfl ?_
      refine ww_iload_n C dX11_canTakeTurns_25 0 rfl rfl ?_
      refine ww_iconst (v := 4) C dX11_canTakeTurns_26 rfl ?_
      refine ww_icmp_ge_f (tgt := 61) C dX11_canTakeTurns_27 (by decide) (by decide) ?_
      refine ww_iload_n C dX11_canTakeTurns_30 2 rfl rfl ?_
      refine ww_iload_n C dX11_canTakeTurns_31 0 rfl rfl ?_
      refine ww_ci (wr := [(hx, .inr (11, [.ref qn, .ref qp, .int 0, .int 0, .ref qs, .ref qj, .ref ql, .ref qh, .ref qk, .int 0, .ref qr, .ref qg, .int 0, .int 0, .ref qsh])), (qj, .inr (2, [.ref jt, .ref je, .ref ju, .ref ja])), (jt, .inl (E.2.1 7, 8, .inr (.inr (.inr (.inr (fun _ => none))))))]) (k' := 0) (n' := 0) C (run_S (As := [.int p0, .int 0]) (rest := []) C (c_has X.2.1 E p0 0) ms_X11_has wl_X11_269 rfl rfl rfl rfl dX11_canTakeTurns_32) [] [0, 1, 2] rfl rfl rfl rfl (fun r u hw => ?_)
      rcases hw with ⟨rfl, rfl, h_7⟩ | ⟨rfl, rfl, h_8⟩
      · refine ww_eq (ws' := [(hx, .inr (11, [.ref qn, .ref qp, .int 0, .int 0, .ref qs, .ref qj, .ref ql, .ref qh, .ref qk, .int 0, .ref qr, .ref qg, .int 0, .int 0, .ref qsh])), (qj, .inr (2, [.ref jt, .ref je, .ref ju, .ref ja])), (jt, .inl (E.2.1 7, 8, .inr (.inr (.inr (.inr (fun _ => none))))))]) ?_ rfl rfl rfl
        refine ww_if_eq_f (tgt := 55) C dX11_canTakeTurns_35 (by decide) (by decide) ?_
        refine ww_aload_n C dX11_canTakeTurns_38 1 rfl rfl ?_
        refine ww_iload_n C dX11_canTakeTurns_39 3 rfl rfl ?_
        refine ww_iconst (v := 3) C dX11_canTakeTurns_40 rfl ?_
        refine ww_iload_n C dX11_canTakeTurns_41 0 rfl rfl ?_
        refine ww_imul (v := 0) C dX11_canTakeTurns_42 (by decide) ?_
        obtain ⟨x_9, ex_9⟩ : ∃ z : Int32, p1 >>> ((0 : Int32) &&& 31) = z := ⟨_, rfl⟩
        refine ww_ishr (v := x_9) C dX11_canTakeTurns_43 ex_9 ?_
        refine ww_bipush (v := 7) C dX11_canTakeTurns_44 rfl ?_
        obtain ⟨x_10, ex_10⟩ : ∃ z : Int32, x_9 &&& (7 : Int32) = z := ⟨_, rfl⟩
        refine ww_iand (v := x_10) C dX11_canTakeTurns_46 ex_10 ?_
        refine ww_ci (wr := []) (k' := 0) (n' := 0) C (run_V (As := [.int x_10]) (rest := []) C (c_isTold X.2.1 E hx x_10 qn qp qs qj ql qh qk qr qg qsh jt je ju ja) mi_X11_isTold wl_X11_98 rfl 0 11 rfl rfl rfl rfl rfl dX11_canTakeTurns_47) [0, 1, 2] [] rfl rfl rfl rfl (fun r u hw => ?_)
        obtain ⟨rfl, rfl⟩ := hw
        refine ww_eq (ws' := [(hx, .inr (11, [.ref qn, .ref qp, .int 0, .int 0, .ref qs, .ref qj, .ref ql, .ref qh, .ref qk, .int 0, .ref qr, .ref qg, .int 0, .int 0, .ref qsh])), (qj, .inr (2, [.ref jt, .ref je, .ref ju, .ref ja])), (jt, .inl (E.2.1 7, 8, .inr (.inr (.inr (.inr (fun _ => none))))))]) ?_ rfl rfl rfl
        refine ww_if_ne_f (tgt := 55) C dX11_canTakeTurns_50 (by decide) (rfl) ?_
        refine ww_iconst (v := 0) C dX11_canTakeTurns_53 rfl ?_
        exact ww_zret (u := [(hx, .inr (11, [.ref qn, .ref qp, .int 0, .int 0, .ref qs, .ref qj, .ref ql, .ref qh, .ref qk, .int 0, .ref qr, .ref qg, .int 0, .int 0, .ref qsh])), (qj, .inr (2, [.ref jt, .ref je, .ref ju, .ref ja])), (jt, .inl (E.2.1 7, 8, .inr (.inr (.inr (.inr (fun _ => none))))))]) C hT [0, 1, 2] rfl rfl rfl rfl rfl dX11_canTakeTurns_54 (⟨rfl, rfl⟩)
      · refine ww_eq (ws' := [(hx, .inr (11, [.ref qn, .ref qp, .int 0, .int 0, .ref qs, .ref qj, .ref ql, .ref qh, .ref qk, .int 0, .ref qr, .ref qg, .int 0, .int 0, .ref qsh])), (qj, .inr (2, [.ref jt, .ref je, .ref ju, .ref ja])), (jt, .inl (E.2.1 7, 8, .inr (.inr (.inr (.inr (fun _ => none))))))]) ?_ rfl rfl rfl
        refine ww_if_eq_t (tgt := 55) C dX11_canTakeTurns_35 (by decide) (rfl) ?_
        refine ww_iinc (j := 0) (v := 1) (lv' := [(3, .int 1), (0, .ref hx), (1, .int p0), (2, .int p1)]) C dX11_canTakeTurns_55 rfl rfl rfl rfl ?_
        refine ww_goto (tgt := 25) C dX11_canTakeTurns_58 (by decide) ?_
        refine ww_iload_n C dX11_canTakeTurns_25 0 rfl rfl ?_
        refine ww_iconst (v := 4) C dX11_canTakeTurns_26 rfl ?_
        refine ww_icmp_ge_f (tgt := 61) C dX11_canTakeTurns_27 (by decide) (by decide) ?_
        refine ww_iload_n C dX11_canTakeTurns_30 2 rfl rfl ?_
        refine ww_iload_n C dX11_canTakeTurns_31 0 rfl rfl ?_
        refine ww_ci (wr := [(hx, .inr (11, [.ref qn, .ref qp, .int 0, .int 0, .ref qs, .ref qj, .ref ql, .ref qh, .ref qk, .int 0, .ref qr, .ref qg, .int 0, .int 0, .ref qsh])), (qj, .inr (2, [.ref jt, .ref je, .ref ju, .ref ja])), (jt, .inl (E.2.1 7, 8, .inr (.inr (.inr (.inr (fun _ => none))))))]) (k' := 0) (n' := 0) C (run_S (As := [.int p0, .int 1]) (rest := []) C (c_has X.2.1 E p0 1) ms_X11_has wl_X11_269 rfl rfl rfl rfl dX11_canTakeTurns_32) [] [0, 1, 2] rfl rfl rfl rfl (fun r u hw => ?_)
        rcases hw with ⟨rfl, rfl, h_11⟩ | ⟨rfl, rfl, h_12⟩
        · refine ww_eq (ws' := [(hx, .inr (11, [.ref qn, .ref qp, .int 0, .int 0, .ref qs, .ref qj, .ref ql, .ref qh, .ref qk, .int 0, .ref qr, .ref qg, .int 0, .int 0, .ref qsh])), (qj, .inr (2, [.ref jt, .ref je, .ref ju, .ref ja])), (jt, .inl (E.2.1 7, 8, .inr (.inr (.inr (.inr (fun _ => none))))))]) ?_ rfl rfl rfl
          refine ww_if_eq_f (tgt := 55) C dX11_canTakeTurns_35 (by decide) (by decide) ?_
          refine ww_aload_n C dX11_canTakeTurns_38 1 rfl rfl ?_
          refine ww_iload_n C dX11_canTakeTurns_39 3 rfl rfl ?_
          refine ww_iconst (v := 3) C dX11_canTakeTurns_40 rfl ?_
          refine ww_iload_n C dX11_canTakeTurns_41 0 rfl rfl ?_
          refine ww_imul (v := 3) C dX11_canTakeTurns_42 (by decide) ?_
          obtain ⟨x_13, ex_13⟩ : ∃ z : Int32, p1 >>> ((3 : Int32) &&& 31) = z := ⟨_, rfl⟩
          refine ww_ishr (v := x_13) C dX11_canTakeTurns_43 ex_13 ?_
          refine ww_bipush (v := 7) C dX11_canTakeTurns_44 rfl ?_
          obtain ⟨x_14, ex_14⟩ : ∃ z : Int32, x_13 &&& (7 : Int32) = z := ⟨_, rfl⟩
          refine ww_iand (v := x_14) C dX11_canTakeTurns_46 ex_14 ?_
          refine ww_ci (wr := []) (k' := 0) (n' := 0) C (run_V (As := [.int x_14]) (rest := []) C (c_isTold X.2.1 E hx x_14 qn qp qs qj ql qh qk qr qg qsh jt je ju ja) mi_X11_isTold wl_X11_98 rfl 0 11 rfl rfl rfl rfl rfl dX11_canTakeTurns_47) [0, 1, 2] [] rfl rfl rfl rfl (fun r u hw => ?_)
          obtain ⟨rfl, rfl⟩ := hw
          refine ww_eq (ws' := [(hx, .inr (11, [.ref qn, .ref qp, .int 0, .int 0, .ref qs, .ref qj, .ref ql, .ref qh, .ref qk, .int 0, .ref qr, .ref qg, .int 0, .int 0, .ref qsh])), (qj, .inr (2, [.ref jt, .ref je, .ref ju, .ref ja])), (jt, .inl (E.2.1 7, 8, .inr (.inr (.inr (.inr (fun _ => none))))))]) ?_ rfl rfl rfl
          refine ww_if_ne_f (tgt := 55) C dX11_canTakeTurns_50 (by decide) (rfl) ?_
          refine ww_iconst (v := 0) C dX11_canTakeTurns_53 rfl ?_
          exact ww_zret (u := [(hx, .inr (11, [.ref qn, .ref qp, .int 0, .int 0, .ref qs, .ref qj, .ref ql, .ref qh, .ref qk, .int 0, .ref qr, .ref qg, .int 0, .int 0, .ref qsh])), (qj, .inr (2, [.ref jt, .ref je, .ref ju, .ref ja])), (jt, .inl (E.2.1 7, 8, .inr (.inr (.inr (.inr (fun _ => none))))))]) C hT [0, 1, 2] rfl rfl rfl rfl rfl dX11_canTakeTurns_54 (⟨rfl, rfl⟩)
        · refine ww_eq (ws' := [(hx, .inr (11, [.ref qn, .ref qp, .int 0, .int 0, .ref qs, .ref qj, .ref ql, .ref qh, .ref qk, .int 0, .ref qr, .ref qg, .int 0, .int 0, .ref qsh])), (qj, .inr (2, [.ref jt, .ref je, .ref ju, .ref ja])), (jt, .inl (E.2.1 7, 8, .inr (.inr (.inr (.inr (fun _ => none))))))]) ?_ rfl rfl rfl
          refine ww_if_eq_t (tgt := 55) C dX11_canTakeTurns_35 (by decide) (rfl) ?_
          refine ww_iinc (j := 0) (v := 2) (lv' := [(3, .int 2), (0, .ref hx), (1, .int p0), (2, .int p1)]) C dX11_canTakeTurns_55 rfl rfl rfl rfl ?_
          refine ww_goto (tgt := 25) C dX11_canTakeTurns_58 (by decide) ?_
          refine ww_iload_n C dX11_canTakeTurns_25 0 rfl rfl ?_
          refine ww_iconst (v := 4) C dX11_canTakeTurns_26 rfl ?_
          refine ww_icmp_ge_f (tgt := 61) C dX11_canTakeTurns_27 (by decide) (by decide) ?_
          refine ww_iload_n C dX11_canTakeTurns_30 2 rfl rfl ?_
          refine ww_iload_n C dX11_canTakeTurns_31 0 rfl rfl ?_
          refine ww_ci (wr := [(hx, .inr (11, [.ref qn, .ref qp, .int 0, .int 0, .ref qs, .ref qj, .ref ql, .ref qh, .ref qk, .int 0, .ref qr, .ref qg, .int 0, .int 0, .ref qsh])), (qj, .inr (2, [.ref jt, .ref je, .ref ju, .ref ja])), (jt, .inl (E.2.1 7, 8, .inr (.inr (.inr (.inr (fun _ => none))))))]) (k' := 0) (n' := 0) C (run_S (As := [.int p0, .int 2]) (rest := []) C (c_has X.2.1 E p0 2) ms_X11_has wl_X11_269 rfl rfl rfl rfl dX11_canTakeTurns_32) [] [0, 1, 2] rfl rfl rfl rfl (fun r u hw => ?_)
          rcases hw with ⟨rfl, rfl, h_15⟩ | ⟨rfl, rfl, h_16⟩
          · refine ww_eq (ws' := [(hx, .inr (11, [.ref qn, .ref qp, .int 0, .int 0, .ref qs, .ref qj, .ref ql, .ref qh, .ref qk, .int 0, .ref qr, .ref qg, .int 0, .int 0, .ref qsh])), (qj, .inr (2, [.ref jt, .ref je, .ref ju, .ref ja])), (jt, .inl (E.2.1 7, 8, .inr (.inr (.inr (.inr (fun _ => none))))))]) ?_ rfl rfl rfl
            refine ww_if_eq_f (tgt := 55) C dX11_canTakeTurns_35 (by decide) (by decide) ?_
            refine ww_aload_n C dX11_canTakeTurns_38 1 rfl rfl ?_
            refine ww_iload_n C dX11_canTakeTurns_39 3 rfl rfl ?_
            refine ww_iconst (v := 3) C dX11_canTakeTurns_40 rfl ?_
            refine ww_iload_n C dX11_canTakeTurns_41 0 rfl rfl ?_
            refine ww_imul (v := 6) C dX11_canTakeTurns_42 (by decide) ?_
            obtain ⟨x_17, ex_17⟩ : ∃ z : Int32, p1 >>> ((6 : Int32) &&& 31) = z := ⟨_, rfl⟩
            refine ww_ishr (v := x_17) C dX11_canTakeTurns_43 ex_17 ?_
            refine ww_bipush (v := 7) C dX11_canTakeTurns_44 rfl ?_
            obtain ⟨x_18, ex_18⟩ : ∃ z : Int32, x_17 &&& (7 : Int32) = z := ⟨_, rfl⟩
            refine ww_iand (v := x_18) C dX11_canTakeTurns_46 ex_18 ?_
            refine ww_ci (wr := []) (k' := 0) (n' := 0) C (run_V (As := [.int x_18]) (rest := []) C (c_isTold X.2.1 E hx x_18 qn qp qs qj ql qh qk qr qg qsh jt je ju ja) mi_X11_isTold wl_X11_98 rfl 0 11 rfl rfl rfl rfl rfl dX11_canTakeTurns_47) [0, 1, 2] [] rfl rfl rfl rfl (fun r u hw => ?_)
            obtain ⟨rfl, rfl⟩ := hw
            refine ww_eq (ws' := [(hx, .inr (11, [.ref qn, .ref qp, .int 0, .int 0, .ref qs, .ref qj, .ref ql, .ref qh, .ref qk, .int 0, .ref qr, .ref qg, .int 0, .int 0, .ref qsh])), (qj, .inr (2, [.ref jt, .ref je, .ref ju, .ref ja])), (jt, .inl (E.2.1 7, 8, .inr (.inr (.inr (.inr (fun _ => none))))))]) ?_ rfl rfl rfl
            refine ww_if_ne_f (tgt := 55) C dX11_canTakeTurns_50 (by decide) (rfl) ?_
            refine ww_iconst (v := 0) C dX11_canTakeTurns_53 rfl ?_
            exact ww_zret (u := [(hx, .inr (11, [.ref qn, .ref qp, .int 0, .int 0, .ref qs, .ref qj, .ref ql, .ref qh, .ref qk, .int 0, .ref qr, .ref qg, .int 0, .int 0, .ref qsh])), (qj, .inr (2, [.ref jt, .ref je, .ref ju, .ref ja])), (jt, .inl (E.2.1 7, 8, .inr (.inr (.inr (.inr (fun _ => none))))))]) C hT [0, 1, 2] rfl rfl rfl rfl rfl dX11_canTakeTurns_54 (⟨rfl, rfl⟩)
          · refine ww_eq (ws' := [(hx, .inr (11, [.ref qn, .ref qp, .int 0, .int 0, .ref qs, .ref qj, .ref ql, .ref qh, .ref qk, .int 0, .ref qr, .ref qg, .int 0, .int 0, .ref qsh])), (qj, .inr (2, [.ref jt, .ref je, .ref ju, .ref ja])), (jt, .inl (E.2.1 7, 8, .inr (.inr (.inr (.inr (fun _ => none))))))]) ?_ rfl rfl rfl
            refine ww_if_eq_t (tgt := 55) C dX11_canTakeTurns_35 (by decide) (rfl) ?_
            refine ww_iinc (j := 0) (v := 3) (lv' := [(3, .int 3), (0, .ref hx), (1, .int p0), (2, .int p1)]) C dX11_canTakeTurns_55 rfl rfl rfl rfl ?_
            refine ww_goto (tgt := 25) C dX11_canTakeTurns_58 (by decide) ?_
            refine ww_iload_n C dX11_canTakeTurns_25 0 rfl rfl ?_
            refine ww_iconst (v := 4) C dX11_canTakeTurns_26 rfl ?_
            refine ww_icmp_ge_f (tgt := 61) C dX11_canTakeTurns_27 (by decide) (by decide) ?_
            refine ww_iload_n C dX11_canTakeTurns_30 2 rfl rfl ?_
            refine ww_iload_n C dX11_canTakeTurns_31 0 rfl rfl ?_
            refine ww_ci (wr := [(hx, .inr (11, [.ref qn, .ref qp, .int 0, .int 0, .ref qs, .ref qj, .ref ql, .ref qh, .ref qk, .int 0, .ref qr, .ref qg, .int 0, .int 0, .ref qsh])), (qj, .inr (2, [.ref jt, .ref je, .ref ju, .ref ja])), (jt, .inl (E.2.1 7, 8, .inr (.inr (.inr (.inr (fun _ => none))))))]) (k' := 0) (n' := 0) C (run_S (As := [.int p0, .int 3]) (rest := []) C (c_has X.2.1 E p0 3) ms_X11_has wl_X11_269 rfl rfl rfl rfl dX11_canTakeTurns_32) [] [0, 1, 2] rfl rfl rfl rfl (fun r u hw => ?_)
            rcases hw with ⟨rfl, rfl, h_19⟩ | ⟨rfl, rfl, h_20⟩
            · refine ww_eq (ws' := [(hx, .inr (11, [.ref qn, .ref qp, .int 0, .int 0, .ref qs, .ref qj, .ref ql, .ref qh, .ref qk, .int 0, .ref qr, .ref qg, .int 0, .int 0, .ref qsh])), (qj, .inr (2, [.ref jt, .ref je, .ref ju, .ref ja])), (jt, .inl (E.2.1 7, 8, .inr (.inr (.inr (.inr (fun _ => none))))))]) ?_ rfl rfl rfl
              refine ww_if_eq_f (tgt := 55) C dX11_canTakeTurns_35 (by decide) (by decide) ?_
              refine ww_aload_n C dX11_canTakeTurns_38 1 rfl rfl ?_
              refine ww_iload_n C dX11_canTakeTurns_39 3 rfl rfl ?_
              refine ww_iconst (v := 3) C dX11_canTakeTurns_40 rfl ?_
              refine ww_iload_n C dX11_canTakeTurns_41 0 rfl rfl ?_
              refine ww_imul (v := 9) C dX11_canTakeTurns_42 (by decide) ?_
              obtain ⟨x_21, ex_21⟩ : ∃ z : Int32, p1 >>> ((9 : Int32) &&& 31) = z := ⟨_, rfl⟩
              refine ww_ishr (v := x_21) C dX11_canTakeTurns_43 ex_21 ?_
              refine ww_bipush (v := 7) C dX11_canTakeTurns_44 rfl ?_
              obtain ⟨x_22, ex_22⟩ : ∃ z : Int32, x_21 &&& (7 : Int32) = z := ⟨_, rfl⟩
              refine ww_iand (v := x_22) C dX11_canTakeTurns_46 ex_22 ?_
              refine ww_ci (wr := []) (k' := 0) (n' := 0) C (run_V (As := [.int x_22]) (rest := []) C (c_isTold X.2.1 E hx x_22 qn qp qs qj ql qh qk qr qg qsh jt je ju ja) mi_X11_isTold wl_X11_98 rfl 0 11 rfl rfl rfl rfl rfl dX11_canTakeTurns_47) [0, 1, 2] [] rfl rfl rfl rfl (fun r u hw => ?_)
              obtain ⟨rfl, rfl⟩ := hw
              refine ww_eq (ws' := [(hx, .inr (11, [.ref qn, .ref qp, .int 0, .int 0, .ref qs, .ref qj, .ref ql, .ref qh, .ref qk, .int 0, .ref qr, .ref qg, .int 0, .int 0, .ref qsh])), (qj, .inr (2, [.ref jt, .ref je, .ref ju, .ref ja])), (jt, .inl (E.2.1 7, 8, .inr (.inr (.inr (.inr (fun _ => none))))))]) ?_ rfl rfl rfl
              refine ww_if_ne_f (tgt := 55) C dX11_canTakeTurns_50 (by decide) (rfl) ?_
              refine ww_iconst (v := 0) C dX11_canTakeTurns_53 rfl ?_
              exact ww_zret (u := [(hx, .inr (11, [.ref qn, .ref qp, .int 0, .int 0, .ref qs, .ref qj, .ref ql, .ref qh, .ref qk, .int 0, .ref qr, .ref qg, .int 0, .int 0, .ref qsh])), (qj, .inr (2, [.ref jt, .ref je, .ref ju, .ref ja])), (jt, .inl (E.2.1 7, 8, .inr (.inr (.inr (.inr (fun _ => none))))))]) C hT [0, 1, 2] rfl rfl rfl rfl rfl dX11_canTakeTurns_54 (⟨rfl, rfl⟩)
            · refine ww_eq (ws' := [(hx, .inr (11, [.ref qn, .ref qp, .int 0, .int 0, .ref qs, .ref qj, .ref ql, .ref qh, .ref qk, .int 0, .ref qr, .ref qg, .int 0, .int 0, .ref qsh])), (qj, .inr (2, [.ref jt, .ref je, .ref ju, .ref ja])), (jt, .inl (E.2.1 7, 8, .inr (.inr (.inr (.inr (fun _ => none))))))]) ?_ rfl rfl rfl
              refine ww_if_eq_t (tgt := 55) C dX11_canTakeTurns_35 (by decide) (rfl) ?_
              refine ww_iinc (j := 0) (v := 4) (lv' := [(3, .int 4), (0, .ref hx), (1, .int p0), (2, .int p1)]) C dX11_canTakeTurns_55 rfl rfl rfl rfl ?_
              refine ww_goto (tgt := 25) C dX11_canTakeTurns_58 (by decide) ?_
              refine ww_iload_n C dX11_canTakeTurns_25 0 rfl rfl ?_
              refine ww_iconst (v := 4) C dX11_canTakeTurns_26 rfl ?_
              refine ww_icmp_ge_t (tgt := 61) C dX11_canTakeTurns_27 (by decide) (by decide) ?_
              exact (nb4 (x := p0) (by omega) (by omega) (by assumption) (by assumption) (by assumption) (by assumption)).elim
    · refine ww_eq (ws' := [(hx, .inr (11, [.ref qn, .ref qp, .int 0, .int 0, .ref qs, .ref qj, .ref ql, .ref qh, .ref qk, .int 0, .ref qr, .ref qg, .int 0, .int 0, .ref qsh])), (qj, .inr (2, [.ref jt, .ref je, .ref ju, .ref ja])), (jt, .inl (E.2.1 7, 8, .inr (.inr (.inr (.inr (fun _ => none))))))]) ?_ rfl rfl rfl
      refine ww_if_ne_f (tgt := 23) C dX11_canTakeTurns_18 (by decide) (rfl) ?_
      refine ww_iconst (v := 0) C dX11_canTakeTurns_21 rfl ?_
      exact ww_zret (u := [(hx, .inr (11, [.ref qn, .ref qp, .int 0, .int 0, .ref qs, .ref qj, .ref ql, .ref qh, .ref qk, .int 0, .ref qr, .ref qg, .int 0, .int 0, .ref qsh])), (qj, .inr (2, [.ref jt, .ref je, .ref ju, .ref ja])), (jt, .inl (E.2.1 7, 8, .inr (.inr (.inr (.inr (fun _ => none))))))]) C hT [0, 1, 2] rfl rfl rfl rfl rfl dX11_canTakeTurns_22 (⟨rfl, rfl⟩)
  · refine ww_eq (ws' := [(hx, .inr (11, [.ref qn, .ref qp, .int 0, .int 0, .ref qs, .ref qj, .ref ql, .ref qh, .ref qk, .int 0, .ref qr, .ref qg, .int 0, .int 0, .ref qsh])), (qj, .inr (2, [.ref jt, .ref je, .ref ju, .ref ja])), (jt, .inl (E.2.1 7, 8, .inr (.inr (.inr (.inr (fun _ => none))))))]) ?_ rfl rfl rfl
    refine ww_if_eq_t (tgt := 21) C dX11_canTakeTurns_7 (by decide) (rfl) ?_
    refine ww_iconst (v := 0) C dX11_canTakeTurns_21 rfl ?_
    exact ww_zret (u := [(hx, .inr (11, [.ref qn, .ref qp, .int 0, .int 0, .ref qs, .ref qj, .ref ql, .ref qh, .ref qk, .int 0, .ref qr, .ref qg, .int 0, .int 0, .ref qsh])), (qj, .inr (2, [.ref jt, .ref je, .ref ju, .ref ja])), (jt, .inl (E.2.1 7, 8, .inr (.inr (.inr (.inr (fun _ => none))))))]) C hT [0, 1, 2] rfl rfl rfl rfl rfl dX11_canTakeTurns_22 (⟨rfl, rfl⟩)
theorem dX11_turn_0 : decode cX11_turn 0 = .ok (.aload_n 0, 1) := by decide +kernel
theorem dX11_turn_1 : decode cX11_turn 1 = .ok (.iload_n 1, 1) := by decide +kernel
theorem dX11_turn_2 : decode cX11_turn 2 = .ok (.iload_n 2, 1) := by decide +kernel
theorem dX11_turn_3 : decode cX11_turn 3 = .ok (.invokevirtual 272, 3) := by decide +kernel
theorem wl_X11_272 : Cond.methodLink RX11 272 yX11_canTakeTurns ∈ TB := tbm (tq4 (List.mem_of_getElem? (i := 187) (by decide +kernel))) (by decide +kernel)
theorem wc_X11_canTakeTurns : Cond.code yX11_canTakeTurns cX11_canTakeTurns 4 (some .boolean) ∈ TB := tbm (tq4 (List.mem_of_getElem? (i := 190) (rfl))) (by decide +kernel)
theorem wi_X11_canTakeTurns : Cond.instanceMethod yX11_canTakeTurns ∈ TB := tbm (tq4 (List.mem_of_getElem? (i := 189) (by decide +kernel))) (by decide +kernel)
theorem ws_X11_canTakeTurns : Cond.selects RX11 yX11_canTakeTurns yX11_canTakeTurns ∈ TB := tbm (tq0 (List.mem_of_getElem? (i := 32) (by decide +kernel))) (by decide +kernel)
theorem mi_X11_canTakeTurns : MI yX11_canTakeTurns cX11_canTakeTurns 4 (some .boolean) 2 := ⟨wc_X11_canTakeTurns, wn_X11, ⟨by decide +kernel, by decide +kernel, by decide +kernel⟩, wi_X11_canTakeTurns, ws_X11_canTakeTurns⟩
theorem dX11_turn_6 : decode cX11_turn 6 = .ok (.ifCond .ne 5, 3) := by decide +kernel
theorem dX11_turn_9 : decode cX11_turn 9 = .ok (.iconst (-1), 1) := by decide +kernel
theorem dX11_turn_10 : decode cX11_turn 10 = .ok (.ireturn, 1) := by decide +kernel
set_option maxRecDepth 100000 in
set_option maxHeartbeats 4000000 in
theorem x_turn (l : Launch) (E : EV) (hx : Nat) (p0 : Int32) (p1 : Int32) (qn : Nat) (qp : Nat) (qs : Nat) (qj : Nat) (ql : Nat) (qh : Nat) (qk : Nat) (qr : Nat) (qg : Nat) (qsh : Nat) (jt : Nat) (je : Nat) (ju : Nat) (ja : Nat)  : CT l yX11_turn (Cond.code yX11_turn cX11_turn 3 (some .int) :: TB) ({ frames := 3, cells := 0, slots := 0, locals := 66 }) E [.ref hx, .int p0, .int p1] [(hx, .inr (11, [.ref qn, .ref qp, .int 0, .int 0, .ref qs, .ref qj, .ref ql, .ref qh, .ref qk, .int 0, .ref qr, .ref qg, .int 0, .int 0, .ref qsh])), (qj, .inr (2, [.ref jt, .ref je, .ref ju, .ref ja])), (jt, .inl (E.2.1 7, 8, .inr (.inr (.inr (.inr (fun _ => none))))))] (Qi E (fun (r : Int32) u => (r = (-1) ∧ u = []))) 0 0 := by
  refine ct_of rfl rfl ?_
  intro X C hT hin
  show WW X 3 E 0 [(0, .ref hx), (1, .int p0), (2, .int p1)] [] [(hx, .inr (11, [.ref qn, .ref qp, .int 0, .int 0, .ref qs, .ref qj, .ref ql, .ref qh, .ref qk, .int 0, .ref qr, .ref qg, .int 0, .int 0, .ref qsh])), (qj, .inr (2, [.ref jt, .ref je, .ref ju, .ref ja])), (jt, .inl (E.2.1 7, 8, .inr (.inr (.inr (.inr (fun _ => none))))))] 0 0
  refine ww_aload_n C dX11_turn_0 0 rfl rfl ?_
  refine ww_iload_n C dX11_turn_1 1 rfl rfl ?_
  refine ww_iload_n C dX11_turn_2 2 rfl rfl ?_
  refine ww_ci (wr := []) (k' := 0) (n' := 0) C (run_V (As := [.int p0, .int p1]) (rest := []) C (c_canTakeTurns X.2.1 E hx p0 p1 qn qp qs qj ql qh qk qr qg qsh jt je ju ja) mi_X11_canTakeTurns wl_X11_272 rfl 0 11 rfl rfl rfl rfl rfl dX11_turn_3) [0, 1, 2] [] rfl rfl rfl rfl (fun r u hw => ?_)
  obtain ⟨rfl, rfl⟩ := hw
  refine ww_eq (ws' := [(hx, .inr (11, [.ref qn, .ref qp, .int 0, .int 0, .ref qs, .ref qj, .ref ql, .ref qh, .ref qk, .int 0, .ref qr, .ref qg, .int 0, .int 0, .ref qsh])), (qj, .inr (2, [.ref jt, .ref je, .ref ju, .ref ja])), (jt, .inl (E.2.1 7, 8, .inr (.inr (.inr (.inr (fun _ => none))))))]) ?_ rfl rfl rfl
  refine ww_if_ne_f (tgt := 11) C dX11_turn_6 (by decide) (rfl) ?_
  refine ww_iconst (v := (-1)) C dX11_turn_9 rfl ?_
  exact ww_iret (u := []) C hT [] rfl rfl rfl rfl dX11_turn_10 (⟨rfl, rfl⟩)
theorem dX11_turns_0 : decode cX11_turns 0 = .ok (.iload_n 3, 1) := by decide +kernel
theorem dX11_turns_1 : decode cX11_turns 1 = .ok (.iconst 0, 1) := by decide +kernel
theorem dX11_turns_2 : decode cX11_turns 2 = .ok (.iconst 2, 1) := by decide +kernel
theorem dX11_turns_3 : decode cX11_turns 3 = .ok (.invokestatic 76, 3) := by decide +kernel
theorem dX11_turns_6 : decode cX11_turns 6 = .ok (.ifCond .ne 16, 3) := by decide +kernel
theorem dX11_turns_22 : decode cX11_turns 22 = .ok (.aload_n 0, 1) := by decide +kernel
theorem dX11_turns_23 : decode cX11_turns 23 = .ok (.iload_n 1, 1) := by decide +kernel
theorem dX11_turns_24 : decode cX11_turns 24 = .ok (.iload_n 2, 1) := by decide +kernel
theorem dX11_turns_25 : decode cX11_turns 25 = .ok (.invokevirtual 272, 3) := by decide +kernel
theorem dX11_turns_28 : decode cX11_turns 28 = .ok (.ifCond .ne 5, 3) := by decide +kernel
theorem dX11_turns_31 : decode cX11_turns 31 = .ok (.iconst (-1), 1) := by decide +kernel
theorem dX11_turns_32 : decode cX11_turns 32 = .ok (.ireturn, 1) := by decide +kernel
theorem dX11_turns_9 : decode cX11_turns 9 = .ok (.iload_n 3, 1) := by decide +kernel
theorem dX11_turns_10 : decode cX11_turns 10 = .ok (.bipush 10, 2) := by decide +kernel
theorem dX11_turns_12 : decode cX11_turns 12 = .ok (.bipush 13, 2) := by decide +kernel
theorem dX11_turns_14 : decode cX11_turns 14 = .ok (.invokestatic 76, 3) := by decide +kernel
theorem dX11_turns_17 : decode cX11_turns 17 = .ok (.ifCond .ne 5, 3) := by decide +kernel
theorem dX11_turns_20 : decode cX11_turns 20 = .ok (.iconst (-1), 1) := by decide +kernel
theorem dX11_turns_21 : decode cX11_turns 21 = .ok (.ireturn, 1) := by decide +kernel
set_option maxRecDepth 100000 in
set_option maxHeartbeats 4000000 in
theorem x_turns (l : Launch) (E : EV) (hx : Nat) (p0 : Int32) (p1 : Int32) (p2 : Int32) (qn : Nat) (qp : Nat) (qs : Nat) (qj : Nat) (ql : Nat) (qh : Nat) (qk : Nat) (qr : Nat) (qg : Nat) (qsh : Nat) (jt : Nat) (je : Nat) (ju : Nat) (ja : Nat)  : CT l yX11_turns (Cond.code yX11_turns cX11_turns 4 (some .int) :: TB) ({ frames := 3, cells := 0, slots := 0, locals := 66 }) E [.ref hx, .int p0, .int p1, .int p2] [(hx, .inr (11, [.ref qn, .ref qp, .int 0, .int 0, .ref qs, .ref qj, .ref ql, .ref qh, .ref qk, .int 0, .ref qr, .ref qg, .int 0, .int 0, .ref qsh])), (qj, .inr (2, [.ref jt, .ref je, .ref ju, .ref ja])), (jt, .inl (E.2.1 7, 8, .inr (.inr (.inr (.inr (fun _ => none))))))] (Qi E (fun (r : Int32) u => (r = (-1) ∧ u = []))) 0 0 := by
  refine ct_of rfl rfl ?_
  intro X C hT hin
  show WW X 4 E 0 [(0, .ref hx), (1, .int p0), (2, .int p1), (3, .int p2)] [] [(hx, .inr (11, [.ref qn, .ref qp, .int 0, .int 0, .ref qs, .ref qj, .ref ql, .ref qh, .ref qk, .int 0, .ref qr, .ref qg, .int 0, .int 0, .ref qsh])), (qj, .inr (2, [.ref jt, .ref je, .ref ju, .ref ja])), (jt, .inl (E.2.1 7, 8, .inr (.inr (.inr (.inr (fun _ => none))))))] 0 0
  refine ww_iload_n C dX11_turns_0 3 rfl rfl ?_
  refine ww_iconst (v := 0) C dX11_turns_1 rfl ?_
  refine ww_iconst (v := 2) C dX11_turns_2 rfl ?_
  refine ww_ci (wr := [(hx, .inr (11, [.ref qn, .ref qp, .int 0, .int 0, .ref qs, .ref qj, .ref ql, .ref qh, .ref qk, .int 0, .ref qr, .ref qg, .int 0, .int 0, .ref qsh])), (qj, .inr (2, [.ref jt, .ref je, .ref ju, .ref ja])), (jt, .inl (E.2.1 7, 8, .inr (.inr (.inr (.inr (fun _ => none))))))]) (k' := 0) (n' := 0) C (run_S (As := [.int p2, .int 0, .int 2]) (rest := []) C (c_within X.2.1 E p2 0 2 p2.toInt 0 2 rfl rfl rfl) ms_X11_within wl_X11_76 rfl rfl rfl rfl dX11_turns_3) [] [0, 1, 2] rfl rfl rfl rfl (fun r u hw => ?_)
  rcases hw with ⟨rfl, rfl, h_1, h_2⟩ | ⟨rfl, rfl, h_3⟩
  · refine ww_eq (ws' := [(hx, .inr (11, [.ref qn, .ref qp, .int 0, .int 0, .ref qs, .ref qj, .ref ql, .ref qh, .ref qk, .int 0, .ref qr, .ref qg, .int 0, .int 0, .ref qsh])), (qj, .inr (2, [.ref jt, .ref je, .ref ju, .ref ja])), (jt, .inl (E.2.1 7, 8, .inr (.inr (.inr (.inr (fun _ => none))))))]) ?_ rfl rfl rfl
    refine ww_if_ne_t (tgt := 22) C dX11_turns_6 (by decide) (by decide) ?_
    refine ww_aload_n C dX11_turns_22 0 rfl rfl ?_
    refine ww_iload_n C dX11_turns_23 1 rfl rfl ?_
    refine ww_iload_n C dX11_turns_24 2 rfl rfl ?_
    refine ww_ci (wr := []) (k' := 0) (n' := 0) C (run_V (As := [.int p0, .int p1]) (rest := []) C (c_canTakeTurns X.2.1 E hx p0 p1 qn qp qs qj ql qh qk qr qg qsh jt je ju ja) mi_X11_canTakeTurns wl_X11_272 rfl 0 11 rfl rfl rfl rfl rfl dX11_turns_25) [0, 1, 2] [] rfl rfl rfl rfl (fun r u hw => ?_)
    obtain ⟨rfl, rfl⟩ := hw
    refine ww_eq (ws' := [(hx, .inr (11, [.ref qn, .ref qp, .int 0, .int 0, .ref qs, .ref qj, .ref ql, .ref qh, .ref qk, .int 0, .ref qr, .ref qg, .int 0, .int 0, .ref qsh])), (qj, .inr (2, [.ref jt, .ref je, .ref ju, .ref ja])), (jt, .inl (E.2.1 7, 8, .inr (.inr (.inr (.inr (fun _ => none))))))]) ?_ rfl rfl rfl
    refine ww_if_ne_f (tgt := 33) C dX11_turns_28 (by decide) (rfl) ?_
    refine ww_iconst (v := (-1)) C dX11_turns_31 rfl ?_
    exact ww_iret (u := []) C hT [] rfl rfl rfl rfl dX11_turns_32 (⟨rfl, rfl⟩)
  · refine ww_eq (ws' := [(hx, .inr (11, [.ref qn, .ref qp, .int 0, .int 0, .ref qs, .ref qj, .ref ql, .ref qh, .ref qk, .int 0, .ref qr, .ref qg, .int 0, .int 0, .ref qsh])), (qj, .inr (2, [.ref jt, .ref je, .ref ju, .ref ja])), (jt, .inl (E.2.1 7, 8, .inr (.inr (.inr (.inr (fun _ => none))))))]) ?_ rfl rfl rfl
    refine ww_if_ne_f (tgt := 22) C dX11_turns_6 (by decide) (rfl) ?_
    refine ww_iload_n C dX11_turns_9 3 rfl rfl ?_
    refine ww_bipush (v := 10) C dX11_turns_10 rfl ?_
    refine ww_bipush (v := 13) C dX11_turns_12 rfl ?_
    refine ww_ci (wr := [(hx, .inr (11, [.ref qn, .ref qp, .int 0, .int 0, .ref qs, .ref qj, .ref ql, .ref qh, .ref qk, .int 0, .ref qr, .ref qg, .int 0, .int 0, .ref qsh])), (qj, .inr (2, [.ref jt, .ref je, .ref ju, .ref ja])), (jt, .inl (E.2.1 7, 8, .inr (.inr (.inr (.inr (fun _ => none))))))]) (k' := 0) (n' := 0) C (run_S (As := [.int p2, .int 10, .int 13]) (rest := []) C (c_within X.2.1 E p2 10 13 p2.toInt 10 13 rfl rfl rfl) ms_X11_within wl_X11_76 rfl rfl rfl rfl dX11_turns_14) [] [0, 1, 2] rfl rfl rfl rfl (fun r u hw => ?_)
    rcases hw with ⟨rfl, rfl, h_4, h_5⟩ | ⟨rfl, rfl, h_6⟩
    · refine ww_eq (ws' := [(hx, .inr (11, [.ref qn, .ref qp, .int 0, .int 0, .ref qs, .ref qj, .ref ql, .ref qh, .ref qk, .int 0, .ref qr, .ref qg, .int 0, .int 0, .ref qsh])), (qj, .inr (2, [.ref jt, .ref je, .ref ju, .ref ja])), (jt, .inl (E.2.1 7, 8, .inr (.inr (.inr (.inr (fun _ => none))))))]) ?_ rfl rfl rfl
      refine ww_if_ne_t (tgt := 22) C dX11_turns_17 (by decide) (by decide) ?_
      refine ww_aload_n C dX11_turns_22 0 rfl rfl ?_
      refine ww_iload_n C dX11_turns_23 1 rfl rfl ?_
      refine ww_iload_n C dX11_turns_24 2 rfl rfl ?_
      refine ww_ci (wr := []) (k' := 0) (n' := 0) C (run_V (As := [.int p0, .int p1]) (rest := []) C (c_canTakeTurns X.2.1 E hx p0 p1 qn qp qs qj ql qh qk qr qg qsh jt je ju ja) mi_X11_canTakeTurns wl_X11_272 rfl 0 11 rfl rfl rfl rfl rfl dX11_turns_25) [0, 1, 2] [] rfl rfl rfl rfl (fun r u hw => ?_)
      obtain ⟨rfl, rfl⟩ := hw
      refine ww_eq (ws' := [(hx, .inr (11, [.ref qn, .ref qp, .int 0, .int 0, .ref qs, .ref qj, .ref ql, .ref qh, .ref qk, .int 0, .ref qr, .ref qg, .int 0, .int 0, .ref qsh])), (qj, .inr (2, [.ref jt, .ref je, .ref ju, .ref ja])), (jt, .inl (E.2.1 7, 8, .inr (.inr (.inr (.inr (fun _ => none))))))]) ?_ rfl rfl rfl
      refine ww_if_ne_f (tgt := 33) C dX11_turns_28 (by decide) (rfl) ?_
      refine ww_iconst (v := (-1)) C dX11_turns_31 rfl ?_
      exact ww_iret (u := []) C hT [] rfl rfl rfl rfl dX11_turns_32 (⟨rfl, rfl⟩)
    · refine ww_eq (ws' := [(hx, .inr (11, [.ref qn, .ref qp, .int 0, .int 0, .ref qs, .ref qj, .ref ql, .ref qh, .ref qk, .int 0, .ref qr, .ref qg, .int 0, .int 0, .ref qsh])), (qj, .inr (2, [.ref jt, .ref je, .ref ju, .ref ja])), (jt, .inl (E.2.1 7, 8, .inr (.inr (.inr (.inr (fun _ => none))))))]) ?_ rfl rfl rfl
      refine ww_if_ne_f (tgt := 22) C dX11_turns_17 (by decide) (rfl) ?_
      refine ww_iconst (v := (-1)) C dX11_turns_20 rfl ?_
      exact ww_iret (u := []) C hT [] rfl rfl rfl rfl dX11_turns_21 (⟨rfl, rfl⟩)
theorem dX11_plan_0 : decode cX11_plan 0 = .ok (.aload_n 0, 1) := by decide +kernel
theorem dX11_plan_1 : decode cX11_plan 1 = .ok (.iload_n 1, 1) := by decide +kernel
theorem dX11_plan_2 : decode cX11_plan 2 = .ok (.invokevirtual 98, 3) := by decide +kernel
theorem dX11_plan_5 : decode cX11_plan 5 = .ok (.ifCond .eq 17, 3) := by decide +kernel
theorem dX11_plan_22 : decode cX11_plan 22 = .ok (.iconst (-1), 1) := by decide +kernel
theorem dX11_plan_23 : decode cX11_plan 23 = .ok (.ireturn, 1) := by decide +kernel
set_option maxRecDepth 100000 in
set_option maxHeartbeats 4000000 in
theorem x_plan (l : Launch) (E : EV) (hx : Nat) (p0 : Int32) (p1 : Int32) (p2 : Int32) (p3 : Int32) (qn : Nat) (qp : Nat) (qs : Nat) (qj : Nat) (ql : Nat) (qh : Nat) (qk : Nat) (qr : Nat) (qg : Nat) (qsh : Nat) (jt : Nat) (je : Nat) (ju : Nat) (ja : Nat)  : CT l yX11_plan (Cond.code yX11_plan cX11_plan 6 (some .int) :: TB) ({ frames := 2, cells := 0, slots := 0, locals := 43 }) E [.ref hx, .int p0, .int p1, .int p2, .int p3] [(hx, .inr (11, [.ref qn, .ref qp, .int 0, .int 0, .ref qs, .ref qj, .ref ql, .ref qh, .ref qk, .int 0, .ref qr, .ref qg, .int 0, .int 0, .ref qsh])), (qj, .inr (2, [.ref jt, .ref je, .ref ju, .ref ja])), (jt, .inl (E.2.1 7, 8, .inr (.inr (.inr (.inr (fun _ => none))))))] (Qi E (fun (r : Int32) u => (r = (-1) ∧ u = []))) 0 0 := by
  refine ct_of rfl rfl ?_
  intro X C hT hin
  show WW X 6 E 0 [(0, .ref hx), (1, .int p0), (2, .int p1), (3, .int p2), (4, .int p3)] [] [(hx, .inr (11, [.ref qn, .ref qp, .int 0, .int 0, .ref qs, .ref qj, .ref ql, .ref qh, .ref qk, .int 0, .ref qr, .ref qg, .int 0, .int 0, .ref qsh])), (qj, .inr (2, [.ref jt, .ref je, .ref ju, .ref ja])), (jt, .inl (E.2.1 7, 8, .inr (.inr (.inr (.inr (fun _ => none))))))] 0 0
  refine ww_aload_n C dX11_plan_0 0 rfl rfl ?_
  refine ww_iload_n C dX11_plan_1 1 rfl rfl ?_
  refine ww_ci (wr := []) (k' := 0) (n' := 0) C (run_V (As := [.int p0]) (rest := []) C (c_isTold X.2.1 E hx p0 qn qp qs qj ql qh qk qr qg qsh jt je ju ja) mi_X11_isTold wl_X11_98 rfl 0 11 rfl rfl rfl rfl rfl dX11_plan_2) [0, 1, 2] [] rfl rfl rfl rfl (fun r u hw => ?_)
  obtain ⟨rfl, rfl⟩ := hw
  refine ww_eq (ws' := [(hx, .inr (11, [.ref qn, .ref qp, .int 0, .int 0, .ref qs, .ref qj, .ref ql, .ref qh, .ref qk, .int 0, .ref qr, .ref qg, .int 0, .int 0, .ref qsh])), (qj, .inr (2, [.ref jt, .ref je, .ref ju, .ref ja])), (jt, .inl (E.2.1 7, 8, .inr (.inr (.inr (.inr (fun _ => none))))))]) ?_ rfl rfl rfl
  refine ww_if_eq_t (tgt := 22) C dX11_plan_5 (by decide) (rfl) ?_
  refine ww_iconst (v := (-1)) C dX11_plan_22 rfl ?_
  exact ww_iret (u := []) C hT [] rfl rfl rfl rfl dX11_plan_23 (⟨rfl, rfl⟩)
end
section
theorem dX11_isPerson_0 : decode cX11_isPerson 0 = .ok (.iload_n 1, 1) := by decide +kernel
theorem dX11_isPerson_1 : decode cX11_isPerson 1 = .ok (.iconst 0, 1) := by decide +kernel
theorem dX11_isPerson_2 : decode cX11_isPerson 2 = .ok (.aload_n 0, 1) := by decide +kernel
theorem dX11_isPerson_3 : decode cX11_isPerson 3 = .ok (.getfield 106, 3) := by decide +kernel
theorem wf_X11_106 : Cond.fieldLink RX11 106 RX11 "persons" "I" ∈ TB := tbm (tq2 (List.mem_of_getElem? (i := 108) (by decide +kernel))) (by decide +kernel)
theorem fg_X11_106 : FG RX11 106 11 12 := ⟨RX11, TX11, 15, uw_X11, wf_X11_106, rfl, by decide, rfl⟩
theorem dX11_isPerson_6 : decode cX11_isPerson 6 = .ok (.iconst 1, 1) := by decide +kernel
theorem dX11_isPerson_7 : decode cX11_isPerson 7 = .ok (.isub, 1) := by decide +kernel
theorem dX11_isPerson_8 : decode cX11_isPerson 8 = .ok (.invokestatic 76, 3) := by decide +kernel
theorem dX11_isPerson_11 : decode cX11_isPerson 11 = .ok (.ireturn, 1) := by decide +kernel
set_option maxRecDepth 100000 in
set_option maxHeartbeats 4000000 in
theorem c_isPerson (l : Launch) (E : EV) (hx : Nat) (p0 : Int32) (qn : Nat) (qp : Nat) (qs : Nat) (qj : Nat) (ql : Nat) (qh : Nat) (qk : Nat) (qr : Nat) (qg : Nat) (qsh : Nat)  : CT l yX11_isPerson (Cond.code yX11_isPerson cX11_isPerson 2 (some .boolean) :: TB) ({ frames := 1, cells := 0, slots := 0, locals := 22 }) E [.ref hx, .int p0] [(hx, .inr (11, [.ref qn, .ref qp, .int 0, .int 0, .ref qs, .ref qj, .ref ql, .ref qh, .ref qk, .int 0, .ref qr, .ref qg, .int 0, .int 0, .ref qsh]))] (Qi E (fun (r : Int32) u => (r = 0 ∧ u = [(hx, .inr (11, [.ref qn, .ref qp, .int 0, .int 0, .ref qs, .ref qj, .ref ql, .ref qh, .ref qk, .int 0, .ref qr, .ref qg, .int 0, .int 0, .ref qsh]))]))) 0 0 := by
  refine ct_of rfl rfl ?_
  intro X C hT hin
  show WW X 2 E 0 [(0, .ref hx), (1, .int p0)] [] [(hx, .inr (11, [.ref qn, .ref qp, .int 0, .int 0, .ref qs, .ref qj, .ref ql, .ref qh, .ref qk, .int 0, .ref qr, .ref qg, .int 0, .int 0, .ref qsh]))] 0 0
  refine ww_iload_n C dX11_isPerson_0 1 rfl rfl ?_
  refine ww_iconst (v := 0) C dX11_isPerson_1 rfl ?_
  refine ww_aload_n C dX11_isPerson_2 0 rfl rfl ?_
  refine ww_get C fg_X11_106 0 rfl rfl dX11_isPerson_3 ?_
  refine ww_iconst (v := 1) C dX11_isPerson_6 rfl ?_
  refine ww_isub (v := (-1)) C dX11_isPerson_7 (by decide) ?_
  refine ww_ci (wr := [(hx, .inr (11, [.ref qn, .ref qp, .int 0, .int 0, .ref qs, .ref qj, .ref ql, .ref qh, .ref qk, .int 0, .ref qr, .ref qg, .int 0, .int 0, .ref qsh]))]) (k' := 0) (n' := 0) C (run_S (As := [.int p0, .int 0, .int (-1)]) (rest := []) C (c_within X.2.1 E p0 0 (-1) p0.toInt 0 (-1) rfl rfl rfl) ms_X11_within wl_X11_76 rfl rfl rfl rfl dX11_isPerson_8) [] [0] rfl rfl rfl rfl (fun r u hw => ?_)
  rcases hw with ⟨rfl, rfl, h_1, h_2⟩ | ⟨rfl, rfl, h_3⟩
  · omega
  · refine ww_eq (ws' := [(hx, .inr (11, [.ref qn, .ref qp, .int 0, .int 0, .ref qs, .ref qj, .ref ql, .ref qh, .ref qk, .int 0, .ref qr, .ref qg, .int 0, .int 0, .ref qsh]))]) ?_ rfl rfl rfl
    exact ww_zret (u := [(hx, .inr (11, [.ref qn, .ref qp, .int 0, .int 0, .ref qs, .ref qj, .ref ql, .ref qh, .ref qk, .int 0, .ref qr, .ref qg, .int 0, .int 0, .ref qsh]))]) C hT [0] rfl rfl rfl rfl rfl dX11_isPerson_11 (⟨rfl, rfl⟩)
theorem dX11_people_0 : decode cX11_people 0 = .ok (.iload_n 1, 1) := by decide +kernel
theorem dX11_people_1 : decode cX11_people 1 = .ok (.iconst 2, 1) := by decide +kernel
theorem dX11_people_2 : decode cX11_people 2 = .ok (.iconst 4, 1) := by decide +kernel
theorem dX11_people_3 : decode cX11_people 3 = .ok (.invokestatic 76, 3) := by decide +kernel
theorem dX11_people_6 : decode cX11_people 6 = .ok (.ifCond .ne 5, 3) := by decide +kernel
theorem dX11_people_11 : decode cX11_people 11 = .ok (.aload_n 0, 1) := by decide +kernel
theorem dX11_people_12 : decode cX11_people 12 = .ok (.iload_n 1, 1) := by decide +kernel
theorem dX11_people_13 : decode cX11_people 13 = .ok (.putfield 106, 3) := by decide +kernel
theorem fp_X11_106 : FP RX11 106 11 12 .int false := ⟨RX11, TX11, 15, tyX11, uw_X11, wf_X11_106, rfl, by decide, rfl, tyX11_ok, nmX11, rfl, by decide +kernel⟩
theorem dX11_people_16 : decode cX11_people 16 = .ok (.aload_n 0, 1) := by decide +kernel
theorem dX11_people_17 : decode cX11_people 17 = .ok (.iconst 0, 1) := by decide +kernel
theorem dX11_people_18 : decode cX11_people 18 = .ok (.putfield 324, 3) := by decide +kernel
theorem wf_X11_324 : Cond.fieldLink RX11 324 RX11 "known" "I" ∈ TB := tbm (tq2 (List.mem_of_getElem? (i := 109) (by decide +kernel))) (by decide +kernel)
theorem fp_X11_324 : FP RX11 324 11 13 .int false := ⟨RX11, TX11, 15, tyX11, uw_X11, wf_X11_324, rfl, by decide, rfl, tyX11_ok, nmX11, rfl, by decide +kernel⟩
theorem dX11_people_21 : decode cX11_people 21 = .ok (.iconst 0, 1) := by decide +kernel
theorem dX11_people_22 : decode cX11_people 22 = .ok (.istore_n 2, 1) := by decide +kernel
theorem dX11_people_23 : decode cX11_people 23 = .ok (.iload_n 2, 1) := by decide +kernel
theorem dX11_people_24 : decode cX11_people 24 = .ok (.iload_n 1, 1) := by decide +kernel
theorem dX11_people_25 : decode cX11_people 25 = .ok (.if_icmp .ge 25, 3) := by decide +kernel
theorem dX11_people_28 : decode cX11_people 28 = .ok (.aload_n 0, 1) := by decide +kernel
theorem dX11_people_29 : decode cX11_people 29 = .ok (.dup, 1) := by decide +kernel
theorem dX11_people_30 : decode cX11_people 30 = .ok (.getfield 324, 3) := by decide +kernel
theorem fg_X11_324 : FG RX11 324 11 13 := ⟨RX11, TX11, 15, uw_X11, wf_X11_324, rfl, by decide, rfl⟩
theorem dX11_people_33 : decode cX11_people 33 = .ok (.iconst 1, 1) := by decide +kernel
theorem dX11_people_34 : decode cX11_people 34 = .ok (.iload_n 2, 1) := by decide +kernel
theorem dX11_people_35 : decode cX11_people 35 = .ok (.ishl, 1) := by decide +kernel
theorem dX11_people_36 : decode cX11_people 36 = .ok (.iconst 4, 1) := by decide +kernel
theorem dX11_people_37 : decode cX11_people 37 = .ok (.iload_n 2, 1) := by decide +kernel
theorem dX11_people_38 : decode cX11_people 38 = .ok (.imul, 1) := by decide +kernel
theorem dX11_people_39 : decode cX11_people 39 = .ok (.ishl, 1) := by decide +kernel
theorem dX11_people_40 : decode cX11_people 40 = .ok (.ior, 1) := by decide +kernel
theorem dX11_people_41 : decode cX11_people 41 = .ok (.putfield 324, 3) := by decide +kernel
theorem dX11_people_44 : decode cX11_people 44 = .ok (.iinc 2 1, 3) := by decide +kernel
theorem dX11_people_47 : decode cX11_people 47 = .ok (.goto (-24), 3) := by decide +kernel
theorem dX11_people_50 : decode cX11_people 50 = .ok (.iload_n 1, 1) := by decide +kernel
theorem dX11_people_51 : decode cX11_people 51 = .ok (.ireturn, 1) := by decide +kernel
theorem dX11_people_9 : decode cX11_people 9 = .ok (.iconst (-1), 1) := by decide +kernel
theorem dX11_people_10 : decode cX11_people 10 = .ok (.ireturn, 1) := by decide +kernel
set_option maxRecDepth 100000 in
set_option maxHeartbeats 4000000 in
theorem x_people (l : Launch) (E : EV) (hx : Nat) (p0 : Int32) (qn : Nat) (qp : Nat) (qs : Nat) (qj : Nat) (ql : Nat) (qh : Nat) (qk : Nat) (qr : Nat) (qg : Nat) (qsh : Nat)  : CT l yX11_people (Cond.code yX11_people cX11_people 3 (some .int) :: TB) ({ frames := 1, cells := 0, slots := 0, locals := 22 }) E [.ref hx, .int p0] [(hx, .inr (11, [.ref qn, .ref qp, .int 0, .int 0, .ref qs, .ref qj, .ref ql, .ref qh, .ref qk, .int 0, .ref qr, .ref qg, .int 0, .int 0, .ref qsh]))] (Qi E (fun (r : Int32) u => (r = (-1) ∧ u = [] ∧ (p0.toInt < 2 ∨ 4 < p0.toInt)) ∨ (r = 2 ∧ u = [] ∧ (p0.toInt = 2)) ∨ (r = 3 ∧ u = [] ∧ (p0.toInt = 3)) ∨ (r = 4 ∧ u = [] ∧ (p0.toInt = 4)))) 0 0 := by
  refine ct_of rfl rfl ?_
  intro X C hT hin
  show WW X 3 E 0 [(0, .ref hx), (1, .int p0)] [] [(hx, .inr (11, [.ref qn, .ref qp, .int 0, .int 0, .ref qs, .ref qj, .ref ql, .ref qh, .ref qk, .int 0, .ref qr, .ref qg, .int 0, .int 0, .ref qsh]))] 0 0
  refine ww_iload_n C dX11_people_0 1 rfl rfl ?_
  refine ww_iconst (v := 2) C dX11_people_1 rfl ?_
  refine ww_iconst (v := 4) C dX11_people_2 rfl ?_
  refine ww_ci (wr := [(hx, .inr (11, [.ref qn, .ref qp, .int 0, .int 0, .ref qs, .ref qj, .ref ql, .ref qh, .ref qk, .int 0, .ref qr, .ref qg, .int 0, .int 0, .ref qsh]))]) (k' := 0) (n' := 0) C (run_S (As := [.int p0, .int 2, .int 4]) (rest := []) C (c_within X.2.1 E p0 2 4 p0.toInt 2 4 rfl rfl rfl) ms_X11_within wl_X11_76 rfl rfl rfl rfl dX11_people_3) [] [0] rfl rfl rfl rfl (fun r u hw => ?_)
  rcases hw with ⟨rfl, rfl, h_1, h_2⟩ | ⟨rfl, rfl, h_3⟩
  · refine ww_eq (ws' := [(hx, .inr (11, [.ref qn, .ref qp, .int 0, .int 0, .ref qs, .ref qj, .ref ql, .ref qh, .ref qk, .int 0, .ref qr, .ref qg, .int 0, .int 0, .ref qsh]))]) ?_ rfl rfl rfl
    refine ww_if_ne_t (tgt := 11) C dX11_people_6 (by decide) (by decide) ?_
    rcases sp_2_4 (x := p0) (by omega) (by omega) with rfl | rfl | rfl
    · refine ww_aload_n C dX11_people_11 0 rfl rfl ?_
      refine ww_iload_n C dX11_people_12 1 rfl rfl ?_
      refine ww_put (ws' := [(hx, .inr (11, [.ref qn, .ref qp, .int 0, .int 0, .ref qs, .ref qj, .ref ql, .ref qh, .ref qk, .int 0, .ref qr, .ref qg, .int 2, .int 0, .ref qsh]))]) C fp_X11_106 0 rfl rfl rfl rfl rfl dX11_people_13 ?_
      refine ww_aload_n C dX11_people_16 0 rfl rfl ?_
      refine ww_iconst (v := 0) C dX11_people_17 rfl ?_
      refine ww_put (ws' := [(hx, .inr (11, [.ref qn, .ref qp, .int 0, .int 0, .ref qs, .ref qj, .ref ql, .ref qh, .ref qk, .int 0, .ref qr, .ref qg, .int 2, .int 0, .ref qsh]))]) C fp_X11_324 0 rfl rfl rfl rfl rfl dX11_people_18 ?_
      refine ww_iconst (v := 0) C dX11_people_21 rfl ?_
      refine ww_istore_n (lv' := [(2, .int 0), (0, .ref hx), (1, .int 2)]) C dX11_people_22 rfl rfl rfl ?_
      refine ww_iload_n C dX11_people_23 0 rfl rfl ?_
      refine ww_iload_n C dX11_people_24 2 rfl rfl ?_
      refine ww_icmp_ge_f (tgt := 50) C dX11_people_25 (by decide) (by decide) ?_
      refine ww_aload_n C dX11_people_28 1 rfl rfl ?_
      refine ww_dup C dX11_people_29 rfl ?_
      refine ww_get C fg_X11_324 0 rfl rfl dX11_people_30 ?_
      refine ww_iconst (v := 1) C dX11_people_33 rfl ?_
      refine ww_iload_n C dX11_people_34 0 rfl rfl ?_
      refine ww_ishl (v := 1) C dX11_people_35 (by decide) ?_
      refine ww_iconst (v := 4) C dX11_people_36 rfl ?_
      refine ww_iload_n C dX11_people_37 0 rfl rfl ?_
      refine ww_imul (v := 0) C dX11_people_38 (by decide) ?_
      refine ww_ishl (v := 1) C dX11_people_39 (by decide) ?_
      refine ww_ior (v := 1) C dX11_people_40 (by decide) ?_
      refine ww_put (ws' := [(hx, .inr (11, [.ref qn, .ref qp, .int 0, .int 0, .ref qs, .ref qj, .ref ql, .ref qh, .ref qk, .int 0, .ref qr, .ref qg, .int 2, .int 1, .ref qsh]))]) C fp_X11_324 0 rfl rfl rfl rfl rfl dX11_people_41 ?_
      refine ww_iinc (j := 0) (v := 1) (lv' := [(2, .int 1), (0, .ref hx), (1, .int 2)]) C dX11_people_44 rfl rfl rfl rfl ?_
      refine ww_goto (tgt := 23) C dX11_people_47 (by decide) ?_
      refine ww_iload_n C dX11_people_23 0 rfl rfl ?_
      refine ww_iload_n C dX11_people_24 2 rfl rfl ?_
      refine ww_icmp_ge_f (tgt := 50) C dX11_people_25 (by decide) (by decide) ?_
      refine ww_aload_n C dX11_people_28 1 rfl rfl ?_
      refine ww_dup C dX11_people_29 rfl ?_
      refine ww_get C fg_X11_324 0 rfl rfl dX11_people_30 ?_
      refine ww_iconst (v := 1) C dX11_people_33 rfl ?_
      refine ww_iload_n C dX11_people_34 0 rfl rfl ?_
      refine ww_ishl (v := 2) C dX11_people_35 (by decide) ?_
      refine ww_iconst (v := 4) C dX11_people_36 rfl ?_
      refine ww_iload_n C dX11_people_37 0 rfl rfl ?_
      refine ww_imul (v := 4) C dX11_people_38 (by decide) ?_
      refine ww_ishl (v := 32) C dX11_people_39 (by decide) ?_
      refine ww_ior (v := 33) C dX11_people_40 (by decide) ?_
      refine ww_put (ws' := [(hx, .inr (11, [.ref qn, .ref qp, .int 0, .int 0, .ref qs, .ref qj, .ref ql, .ref qh, .ref qk, .int 0, .ref qr, .ref qg, .int 2, .int 33, .ref qsh]))]) C fp_X11_324 0 rfl rfl rfl rfl rfl dX11_people_41 ?_
      refine ww_iinc (j := 0) (v := 2) (lv' := [(2, .int 2), (0, .ref hx), (1, .int 2)]) C dX11_people_44 rfl rfl rfl rfl ?_
      refine ww_goto (tgt := 23) C dX11_people_47 (by decide) ?_
      refine ww_iload_n C dX11_people_23 0 rfl rfl ?_
      refine ww_iload_n C dX11_people_24 2 rfl rfl ?_
      refine ww_icmp_ge_t (tgt := 50) C dX11_people_25 (by decide) (by decide) ?_
      refine ww_iload_n C dX11_people_50 2 rfl rfl ?_
      exact ww_iret (u := []) C hT [] rfl rfl rfl rfl dX11_people_51 (Or.inr (Or.inl ⟨rfl, rfl, (by first | assumption | omega | decide)⟩))
    · refine ww_aload_n C dX11_people_11 0 rfl rfl ?_
      refine ww_iload_n C dX11_people_12 1 rfl rfl ?_
      refine ww_put (ws' := [(hx, .inr (11, [.ref qn, .ref qp, .int 0, .int 0, .ref qs, .ref qj, .ref ql, .ref qh, .ref qk, .int 0, .ref qr, .ref qg, .int 3, .int 0, .ref qsh]))]) C fp_X11_106 0 rfl rfl rfl rfl rfl dX11_people_13 ?_
      refine ww_aload_n C dX11_people_16 0 rfl rfl ?_
      refine ww_iconst (v := 0) C dX11_people_17 rfl ?_
      refine ww_put (ws' := [(hx, .inr (11, [.ref qn, .ref qp, .int 0, .int 0, .ref qs, .ref qj, .ref ql, .ref qh, .ref qk, .int 0, .ref qr, .ref qg, .int 3, .int 0, .ref qsh]))]) C fp_X11_324 0 rfl rfl rfl rfl rfl dX11_people_18 ?_
      refine ww_iconst (v := 0) C dX11_people_21 rfl ?_
      refine ww_istore_n (lv' := [(2, .int 0), (0, .ref hx), (1, .int 3)]) C dX11_people_22 rfl rfl rfl ?_
      refine ww_iload_n C dX11_people_23 0 rfl rfl ?_
      refine ww_iload_n C dX11_people_24 2 rfl rfl ?_
      refine ww_icmp_ge_f (tgt := 50) C dX11_people_25 (by decide) (by decide) ?_
      refine ww_aload_n C dX11_people_28 1 rfl rfl ?_
      refine ww_dup C dX11_people_29 rfl ?_
      refine ww_get C fg_X11_324 0 rfl rfl dX11_people_30 ?_
      refine ww_iconst (v := 1) C dX11_people_33 rfl ?_
      refine ww_iload_n C dX11_people_34 0 rfl rfl ?_
      refine ww_ishl (v := 1) C dX11_people_35 (by decide) ?_
      refine ww_iconst (v := 4) C dX11_people_36 rfl ?_
      refine ww_iload_n C dX11_people_37 0 rfl rfl ?_
      refine ww_imul (v := 0) C dX11_people_38 (by decide) ?_
      refine ww_ishl (v := 1) C dX11_people_39 (by decide) ?_
      refine ww_ior (v := 1) C dX11_people_40 (by decide) ?_
      refine ww_put (ws' := [(hx, .inr (11, [.ref qn, .ref qp, .int 0, .int 0, .ref qs, .ref qj, .ref ql, .ref qh, .ref qk, .int 0, .ref qr, .ref qg, .int 3, .int 1, .ref qsh]))]) C fp_X11_324 0 rfl rfl rfl rfl rfl dX11_people_41 ?_
      refine ww_iinc (j := 0) (v := 1) (lv' := [(2, .int 1), (0, .ref hx), (1, .int 3)]) C dX11_people_44 rfl rfl rfl rfl ?_
      refine ww_goto (tgt := 23) C dX11_people_47 (by decide) ?_
      refine ww_iload_n C dX11_people_23 0 rfl rfl ?_
      refine ww_iload_n C dX11_people_24 2 rfl rfl ?_
      refine ww_icmp_ge_f (tgt := 50) C dX11_people_25 (by decide) (by decide) ?_
      refine ww_aload_n C dX11_people_28 1 rfl rfl ?_
      refine ww_dup C dX11_people_29 rfl ?_
      refine ww_get C fg_X11_324 0 rfl rfl dX11_people_30 ?_
      refine ww_iconst (v := 1) C dX11_people_33 rfl ?_
      refine ww_iload_n C dX11_people_34 0 rfl rfl ?_
      refine ww_ishl (v := 2) C dX11_people_35 (by decide) ?_
      refine ww_iconst (v := 4) C dX11_people_36 rfl ?_
      refine ww_iload_n C dX11_people_37 0 rfl rfl ?_
      refine ww_imul (v := 4) C dX11_people_38 (by decide) ?_
      refine ww_ishl (v := 32) C dX11_people_39 (by decide) ?_
      refine ww_ior (v := 33) C dX11_people_40 (by decide) ?_
      refine ww_put (ws' := [(hx, .inr (11, [.ref qn, .ref qp, .int 0, .int 0, .ref qs, .ref qj, .ref ql, .ref qh, .ref qk, .int 0, .ref qr, .ref qg, .int 3, .int 33, .ref qsh]))]) C fp_X11_324 0 rfl rfl rfl rfl rfl dX11_people_41 ?_
      refine ww_iinc (j := 0) (v := 2) (lv' := [(2, .int 2), (0, .ref hx), (1, .int 3)]) C dX11_people_44 rfl rfl rfl rfl ?_
      refine ww_goto (tgt := 23) C dX11_people_47 (by decide) ?_
      refine ww_iload_n C dX11_people_23 0 rfl rfl ?_
      refine ww_iload_n C dX11_people_24 2 rfl rfl ?_
      refine ww_icmp_ge_f (tgt := 50) C dX11_people_25 (by decide) (by decide) ?_
      refine ww_aload_n C dX11_people_28 1 rfl rfl ?_
      refine ww_dup C dX11_people_29 rfl ?_
      refine ww_get C fg_X11_324 0 rfl rfl dX11_people_30 ?_
      refine ww_iconst (v := 1) C dX11_people_33 rfl ?_
      refine ww_iload_n C dX11_people_34 0 rfl rfl ?_
      refine ww_ishl (v := 4) C dX11_people_35 (by decide) ?_
      refine ww_iconst (v := 4) C dX11_people_36 rfl ?_
      refine ww_iload_n C dX11_people_37 0 rfl rfl ?_
      refine ww_imul (v := 8) C dX11_people_38 (by decide) ?_
      refine ww_ishl (v := 1024) C dX11_people_39 (by decide) ?_
      refine ww_ior (v := 1057) C dX11_people_40 (by decide) ?_
      refine ww_put (ws' := [(hx, .inr (11, [.ref qn, .ref qp, .int 0, .int 0, .ref qs, .ref qj, .ref ql, .ref qh, .ref qk, .int 0, .ref qr, .ref qg, .int 3, .int 1057, .ref qsh]))]) C fp_X11_324 0 rfl rfl rfl rfl rfl dX11_people_41 ?_
      refine ww_iinc (j := 0) (v := 3) (lv' := [(2, .int 3), (0, .ref hx), (1, .int 3)]) C dX11_people_44 rfl rfl rfl rfl ?_
      refine ww_goto (tgt := 23) C dX11_people_47 (by decide) ?_
      refine ww_iload_n C dX11_people_23 0 rfl rfl ?_
      refine ww_iload_n C dX11_people_24 2 rfl rfl ?_
      refine ww_icmp_ge_t (tgt := 50) C dX11_people_25 (by decide) (by decide) ?_
      refine ww_iload_n C dX11_people_50 2 rfl rfl ?_
      exact ww_iret (u := []) C hT [] rfl rfl rfl rfl dX11_people_51 (Or.inr (Or.inr (Or.inl ⟨rfl, rfl, (by first | assumption | omega | decide)⟩)))
    · refine ww_aload_n C dX11_people_11 0 rfl rfl ?_
      refine ww_iload_n C dX11_people_12 1 rfl rfl ?_
      refine ww_put (ws' := [(hx, .inr (11, [.ref qn, .ref qp, .int 0, .int 0, .ref qs, .ref qj, .ref ql, .ref qh, .ref qk, .int 0, .ref qr, .ref qg, .int 4, .int 0, .ref qsh]))]) C fp_X11_106 0 rfl rfl rfl rfl rfl dX11_people_13 ?_
      refine ww_aload_n C dX11_people_16 0 rfl rfl ?_
      refine ww_iconst (v := 0) C dX11_people_17 rfl ?_
      refine ww_put (ws' := [(hx, .inr (11, [.ref qn, .ref qp, .int 0, .int 0, .ref qs, .ref qj, .ref ql, .ref qh, .ref qk, .int 0, .ref qr, .ref qg, .int 4, .int 0, .ref qsh]))]) C fp_X11_324 0 rfl rfl rfl rfl rfl dX11_people_18 ?_
      refine ww_iconst (v := 0) C dX11_people_21 rfl ?_
      refine ww_istore_n (lv' := [(2, .int 0), (0, .ref hx), (1, .int 4)]) C dX11_people_22 rfl rfl rfl ?_
      refine ww_iload_n C dX11_people_23 0 rfl rfl ?_
      refine ww_iload_n C dX11_people_24 2 rfl rfl ?_
      refine ww_icmp_ge_f (tgt := 50) C dX11_people_25 (by decide) (by decide) ?_
      refine ww_aload_n C dX11_people_28 1 rfl rfl ?_
      refine ww_dup C dX11_people_29 rfl ?_
      refine ww_get C fg_X11_324 0 rfl rfl dX11_people_30 ?_
      refine ww_iconst (v := 1) C dX11_people_33 rfl ?_
      refine ww_iload_n C dX11_people_34 0 rfl rfl ?_
      refine ww_ishl (v := 1) C dX11_people_35 (by decide) ?_
      refine ww_iconst (v := 4) C dX11_people_36 rfl ?_
      refine ww_iload_n C dX11_people_37 0 rfl rfl ?_
      refine ww_imul (v := 0) C dX11_people_38 (by decide) ?_
      refine ww_ishl (v := 1) C dX11_people_39 (by decide) ?_
      refine ww_ior (v := 1) C dX11_people_40 (by decide) ?_
      refine ww_put (ws' := [(hx, .inr (11, [.ref qn, .ref qp, .int 0, .int 0, .ref qs, .ref qj, .ref ql, .ref qh, .ref qk, .int 0, .ref qr, .ref qg, .int 4, .int 1, .ref qsh]))]) C fp_X11_324 0 rfl rfl rfl rfl rfl dX11_people_41 ?_
      refine ww_iinc (j := 0) (v := 1) (lv' := [(2, .int 1), (0, .ref hx), (1, .int 4)]) C dX11_people_44 rfl rfl rfl rfl ?_
      refine ww_goto (tgt := 23) C dX11_people_47 (by decide) ?_
      refine ww_iload_n C dX11_people_23 0 rfl rfl ?_
      refine ww_iload_n C dX11_people_24 2 rfl rfl ?_
      refine ww_icmp_ge_f (tgt := 50) C dX11_people_25 (by decide) (by decide) ?_
      refine ww_aload_n C dX11_people_28 1 rfl rfl ?_
      refine ww_dup C dX11_people_29 rfl ?_
      refine ww_get C fg_X11_324 0 rfl rfl dX11_people_30 ?_
      refine ww_iconst (v := 1) C dX11_people_33 rfl ?_
      refine ww_iload_n C dX11_people_34 0 rfl rfl ?_
      refine ww_ishl (v := 2) C dX11_people_35 (by decide) ?_
      refine ww_iconst (v := 4) C dX11_people_36 rfl ?_
      refine ww_iload_n C dX11_people_37 0 rfl rfl ?_
      refine ww_imul (v := 4) C dX11_people_38 (by decide) ?_
      refine ww_ishl (v := 32) C dX11_people_39 (by decide) ?_
      refine ww_ior (v := 33) C dX11_people_40 (by decide) ?_
      refine ww_put (ws' := [(hx, .inr (11, [.ref qn, .ref qp, .int 0, .int 0, .ref qs, .ref qj, .ref ql, .ref qh, .ref qk, .int 0, .ref qr, .ref qg, .int 4, .int 33, .ref qsh]))]) C fp_X11_324 0 rfl rfl rfl rfl rfl dX11_people_41 ?_
      refine ww_iinc (j := 0) (v := 2) (lv' := [(2, .int 2), (0, .ref hx), (1, .int 4)]) C dX11_people_44 rfl rfl rfl rfl ?_
      refine ww_goto (tgt := 23) C dX11_people_47 (by decide) ?_
      refine ww_iload_n C dX11_people_23 0 rfl rfl ?_
      refine ww_iload_n C dX11_people_24 2 rfl rfl ?_
      refine ww_icmp_ge_f (tgt := 50) C dX11_people_25 (by decide) (by decide) ?_
      refine ww_aload_n C dX11_people_28 1 rfl rfl ?_
      refine ww_dup C dX11_people_29 rfl ?_
      refine ww_get C fg_X11_324 0 rfl rfl dX11_people_30 ?_
      refine ww_iconst (v := 1) C dX11_people_33 rfl ?_
      refine ww_iload_n C dX11_people_34 0 rfl rfl ?_
      refine ww_ishl (v := 4) C dX11_people_35 (by decide) ?_
      refine ww_iconst (v := 4) C dX11_people_36 rfl ?_
      refine ww_iload_n C dX11_people_37 0 rfl rfl ?_
      refine ww_imul (v := 8) C dX11_people_38 (by decide) ?_
      refine ww_ishl (v := 1024) C dX11_people_39 (by decide) ?_
      refine ww_ior (v := 1057) C dX11_people_40 (by decide) ?_
      refine ww_put (ws' := [(hx, .inr (11, [.ref qn, .ref qp, .int 0, .int 0, .ref qs, .ref qj, .ref ql, .ref qh, .ref qk, .int 0, .ref qr, .ref qg, .int 4, .int 1057, .ref qsh]))]) C fp_X11_324 0 rfl rfl rfl rfl rfl dX11_people_41 ?_
      refine ww_iinc (j := 0) (v := 3) (lv' := [(2, .int 3), (0, .ref hx), (1, .int 4)]) C dX11_people_44 rfl rfl rfl rfl ?_
      refine ww_goto (tgt := 23) C dX11_people_47 (by decide) ?_
      refine ww_iload_n C dX11_people_23 0 rfl rfl ?_
      refine ww_iload_n C dX11_people_24 2 rfl rfl ?_
      refine ww_icmp_ge_f (tgt := 50) C dX11_people_25 (by decide) (by decide) ?_
      refine ww_aload_n C dX11_people_28 1 rfl rfl ?_
      refine ww_dup C dX11_people_29 rfl ?_
      refine ww_get C fg_X11_324 0 rfl rfl dX11_people_30 ?_
      refine ww_iconst (v := 1) C dX11_people_33 rfl ?_
      refine ww_iload_n C dX11_people_34 0 rfl rfl ?_
      refine ww_ishl (v := 8) C dX11_people_35 (by decide) ?_
      refine ww_iconst (v := 4) C dX11_people_36 rfl ?_
      refine ww_iload_n C dX11_people_37 0 rfl rfl ?_
      refine ww_imul (v := 12) C dX11_people_38 (by decide) ?_
      refine ww_ishl (v := 32768) C dX11_people_39 (by decide) ?_
      refine ww_ior (v := 33825) C dX11_people_40 (by decide) ?_
      refine ww_put (ws' := [(hx, .inr (11, [.ref qn, .ref qp, .int 0, .int 0, .ref qs, .ref qj, .ref ql, .ref qh, .ref qk, .int 0, .ref qr, .ref qg, .int 4, .int 33825, .ref qsh]))]) C fp_X11_324 0 rfl rfl rfl rfl rfl dX11_people_41 ?_
      refine ww_iinc (j := 0) (v := 4) (lv' := [(2, .int 4), (0, .ref hx), (1, .int 4)]) C dX11_people_44 rfl rfl rfl rfl ?_
      refine ww_goto (tgt := 23) C dX11_people_47 (by decide) ?_
      refine ww_iload_n C dX11_people_23 0 rfl rfl ?_
      refine ww_iload_n C dX11_people_24 2 rfl rfl ?_
      refine ww_icmp_ge_t (tgt := 50) C dX11_people_25 (by decide) (by decide) ?_
      refine ww_iload_n C dX11_people_50 2 rfl rfl ?_
      exact ww_iret (u := []) C hT [] rfl rfl rfl rfl dX11_people_51 (Or.inr (Or.inr (Or.inr ⟨rfl, rfl, (by first | assumption | omega | decide)⟩)))
  · refine ww_eq (ws' := [(hx, .inr (11, [.ref qn, .ref qp, .int 0, .int 0, .ref qs, .ref qj, .ref ql, .ref qh, .ref qk, .int 0, .ref qr, .ref qg, .int 0, .int 0, .ref qsh]))]) ?_ rfl rfl rfl
    refine ww_if_ne_f (tgt := 11) C dX11_people_6 (by decide) (rfl) ?_
    refine ww_iconst (v := (-1)) C dX11_people_9 rfl ?_
    exact ww_iret (u := []) C hT [] rfl rfl rfl rfl dX11_people_10 (Or.inl ⟨rfl, rfl, (by first | assumption | omega | decide)⟩)
theorem dX11_call_0 : decode cX11_call 0 = .ok (.aload_n 0, 1) := by decide +kernel
theorem dX11_call_1 : decode cX11_call 1 = .ok (.iload_n 1, 1) := by decide +kernel
theorem dX11_call_2 : decode cX11_call 2 = .ok (.invokevirtual 327, 3) := by decide +kernel
theorem wl_X11_327 : Cond.methodLink RX11 327 yX11_isPerson ∈ TB := tbm (tq5 (List.mem_of_getElem? (i := 2) (by decide +kernel))) (by decide +kernel)
theorem wc_X11_isPerson : Cond.code yX11_isPerson cX11_isPerson 2 (some .boolean) ∈ TB := tbm (tq5 (List.mem_of_getElem? (i := 5) (rfl))) (by decide +kernel)
theorem wi_X11_isPerson : Cond.instanceMethod yX11_isPerson ∈ TB := tbm (tq5 (List.mem_of_getElem? (i := 4) (by decide +kernel))) (by decide +kernel)
theorem ws_X11_isPerson : Cond.selects RX11 yX11_isPerson yX11_isPerson ∈ TB := tbm (tq0 (List.mem_of_getElem? (i := 33) (by decide +kernel))) (by decide +kernel)
theorem mi_X11_isPerson : MI yX11_isPerson cX11_isPerson 2 (some .boolean) 1 := ⟨wc_X11_isPerson, wn_X11, ⟨by decide +kernel, by decide +kernel, by decide +kernel⟩, wi_X11_isPerson, ws_X11_isPerson⟩
theorem dX11_call_5 : decode cX11_call 5 = .ok (.ifCond .eq 16, 3) := by decide +kernel
theorem dX11_call_21 : decode cX11_call 21 = .ok (.iconst (-1), 1) := by decide +kernel
theorem dX11_call_22 : decode cX11_call 22 = .ok (.ireturn, 1) := by decide +kernel
set_option maxRecDepth 100000 in
set_option maxHeartbeats 4000000 in
theorem x_call (l : Launch) (E : EV) (hx : Nat) (p0 : Int32) (p1 : Int32) (qn : Nat) (qp : Nat) (qs : Nat) (qj : Nat) (ql : Nat) (qh : Nat) (qk : Nat) (qr : Nat) (qg : Nat) (qsh : Nat)  : CT l yX11_call (Cond.code yX11_call cX11_call 3 (some .int) :: TB) ({ frames := 2, cells := 0, slots := 0, locals := 43 }) E [.ref hx, .int p0, .int p1] [(hx, .inr (11, [.ref qn, .ref qp, .int 0, .int 0, .ref qs, .ref qj, .ref ql, .ref qh, .ref qk, .int 0, .ref qr, .ref qg, .int 0, .int 0, .ref qsh]))] (Qi E (fun (r : Int32) u => (r = (-1) ∧ u = []))) 0 0 := by
  refine ct_of rfl rfl ?_
  intro X C hT hin
  show WW X 3 E 0 [(0, .ref hx), (1, .int p0), (2, .int p1)] [] [(hx, .inr (11, [.ref qn, .ref qp, .int 0, .int 0, .ref qs, .ref qj, .ref ql, .ref qh, .ref qk, .int 0, .ref qr, .ref qg, .int 0, .int 0, .ref qsh]))] 0 0
  refine ww_aload_n C dX11_call_0 0 rfl rfl ?_
  refine ww_iload_n C dX11_call_1 1 rfl rfl ?_
  refine ww_ci (wr := []) (k' := 0) (n' := 0) C (run_V (As := [.int p0]) (rest := []) C (c_isPerson X.2.1 E hx p0 qn qp qs qj ql qh qk qr qg qsh) mi_X11_isPerson wl_X11_327 rfl 0 11 rfl rfl rfl rfl rfl dX11_call_2) [0] [] rfl rfl rfl rfl (fun r u hw => ?_)
  obtain ⟨rfl, rfl⟩ := hw
  refine ww_eq (ws' := [(hx, .inr (11, [.ref qn, .ref qp, .int 0, .int 0, .ref qs, .ref qj, .ref ql, .ref qh, .ref qk, .int 0, .ref qr, .ref qg, .int 0, .int 0, .ref qsh]))]) ?_ rfl rfl rfl
  refine ww_if_eq_t (tgt := 21) C dX11_call_5 (by decide) (rfl) ?_
  refine ww_iconst (v := (-1)) C dX11_call_21 rfl ?_
  exact ww_iret (u := []) C hT [] rfl rfl rfl rfl dX11_call_22 (⟨rfl, rfl⟩)
theorem dX11_secrets_0 : decode cX11_secrets 0 = .ok (.aload_n 0, 1) := by decide +kernel
theorem dX11_secrets_1 : decode cX11_secrets 1 = .ok (.iload_n 1, 1) := by decide +kernel
theorem dX11_secrets_2 : decode cX11_secrets 2 = .ok (.invokevirtual 327, 3) := by decide +kernel
theorem dX11_secrets_5 : decode cX11_secrets 5 = .ok (.ifCond .eq 14, 3) := by decide +kernel
theorem dX11_secrets_19 : decode cX11_secrets 19 = .ok (.iconst (-1), 1) := by decide +kernel
theorem dX11_secrets_20 : decode cX11_secrets 20 = .ok (.ireturn, 1) := by decide +kernel
set_option maxRecDepth 100000 in
set_option maxHeartbeats 4000000 in
theorem x_secrets (l : Launch) (E : EV) (hx : Nat) (p0 : Int32) (qn : Nat) (qp : Nat) (qs : Nat) (qj : Nat) (ql : Nat) (qh : Nat) (qk : Nat) (qr : Nat) (qg : Nat) (qsh : Nat)  : CT l yX11_secrets (Cond.code yX11_secrets cX11_secrets 2 (some .int) :: TB) ({ frames := 2, cells := 0, slots := 0, locals := 43 }) E [.ref hx, .int p0] [(hx, .inr (11, [.ref qn, .ref qp, .int 0, .int 0, .ref qs, .ref qj, .ref ql, .ref qh, .ref qk, .int 0, .ref qr, .ref qg, .int 0, .int 0, .ref qsh]))] (Qi E (fun (r : Int32) u => (r = (-1) ∧ u = []))) 0 0 := by
  refine ct_of rfl rfl ?_
  intro X C hT hin
  show WW X 2 E 0 [(0, .ref hx), (1, .int p0)] [] [(hx, .inr (11, [.ref qn, .ref qp, .int 0, .int 0, .ref qs, .ref qj, .ref ql, .ref qh, .ref qk, .int 0, .ref qr, .ref qg, .int 0, .int 0, .ref qsh]))] 0 0
  refine ww_aload_n C dX11_secrets_0 0 rfl rfl ?_
  refine ww_iload_n C dX11_secrets_1 1 rfl rfl ?_
  refine ww_ci (wr := []) (k' := 0) (n' := 0) C (run_V (As := [.int p0]) (rest := []) C (c_isPerson X.2.1 E hx p0 qn qp qs qj ql qh qk qr qg qsh) mi_X11_isPerson wl_X11_327 rfl 0 11 rfl rfl rfl rfl rfl dX11_secrets_2) [0] [] rfl rfl rfl rfl (fun r u hw => ?_)
  obtain ⟨rfl, rfl⟩ := hw
  refine ww_eq (ws' := [(hx, .inr (11, [.ref qn, .ref qp, .int 0, .int 0, .ref qs, .ref qj, .ref ql, .ref qh, .ref qk, .int 0, .ref qr, .ref qg, .int 0, .int 0, .ref qsh]))]) ?_ rfl rfl rfl
  refine ww_if_eq_t (tgt := 19) C dX11_secrets_5 (by decide) (rfl) ?_
  refine ww_iconst (v := (-1)) C dX11_secrets_19 rfl ?_
  exact ww_iret (u := []) C hT [] rfl rfl rfl rfl dX11_secrets_20 (⟨rfl, rfl⟩)
theorem dX11_fewest_0 : decode cX11_fewest 0 = .ok (.iload_n 1, 1) := by decide +kernel
theorem dX11_fewest_1 : decode cX11_fewest 1 = .ok (.iconst 0, 1) := by decide +kernel
theorem dX11_fewest_2 : decode cX11_fewest 2 = .ok (.iconst 1, 1) := by decide +kernel
theorem dX11_fewest_3 : decode cX11_fewest 3 = .ok (.invokestatic 76, 3) := by decide +kernel
theorem dX11_fewest_6 : decode cX11_fewest 6 = .ok (.ifCond .ne 5, 3) := by decide +kernel
theorem dX11_fewest_11 : decode cX11_fewest 11 = .ok (.aload_n 0, 1) := by decide +kernel
theorem dX11_fewest_12 : decode cX11_fewest 12 = .ok (.getfield 106, 3) := by decide +kernel
theorem dX11_fewest_15 : decode cX11_fewest 15 = .ok (.ifCond .ne 6, 3) := by decide +kernel
theorem dX11_fewest_18 : decode cX11_fewest 18 = .ok (.bipush (-2), 2) := by decide +kernel
theorem dX11_fewest_20 : decode cX11_fewest 20 = .ok (.ireturn, 1) := by decide +kernel
theorem dX11_fewest_9 : decode cX11_fewest 9 = .ok (.iconst (-1), 1) := by decide +kernel
theorem dX11_fewest_10 : decode cX11_fewest 10 = .ok (.ireturn, 1) := by decide +kernel
set_option maxRecDepth 100000 in
set_option maxHeartbeats 4000000 in
theorem x_fewest (l : Launch) (E : EV) (hx : Nat) (p0 : Int32) (qn : Nat) (qp : Nat) (qs : Nat) (qj : Nat) (ql : Nat) (qh : Nat) (qk : Nat) (qr : Nat) (qg : Nat) (qsh : Nat)  : CT l yX11_fewest (Cond.code yX11_fewest cX11_fewest 3 (some .int) :: TB) ({ frames := 1, cells := 0, slots := 0, locals := 22 }) E [.ref hx, .int p0] [(hx, .inr (11, [.ref qn, .ref qp, .int 0, .int 0, .ref qs, .ref qj, .ref ql, .ref qh, .ref qk, .int 0, .ref qr, .ref qg, .int 0, .int 0, .ref qsh]))] (Qi E (fun (r : Int32) u => (r = (-1) ∧ u = [] ∧ (p0.toInt < 0 ∨ 1 < p0.toInt)) ∨ (r = (-2) ∧ u = [] ∧ (0 ≤ p0.toInt) ∧ (p0.toInt ≤ 1)))) 0 0 := by
  refine ct_of rfl rfl ?_
  intro X C hT hin
  show WW X 3 E 0 [(0, .ref hx), (1, .int p0)] [] [(hx, .inr (11, [.ref qn, .ref qp, .int 0, .int 0, .ref qs, .ref qj, .ref ql, .ref qh, .ref qk, .int 0, .ref qr, .ref qg, .int 0, .int 0, .ref qsh]))] 0 0
  refine ww_iload_n C dX11_fewest_0 1 rfl rfl ?_
  refine ww_iconst (v := 0) C dX11_fewest_1 rfl ?_
  refine ww_iconst (v := 1) C dX11_fewest_2 rfl ?_
  refine ww_ci (wr := [(hx, .inr (11, [.ref qn, .ref qp, .int 0, .int 0, .ref qs, .ref qj, .ref ql, .ref qh, .ref qk, .int 0, .ref qr, .ref qg, .int 0, .int 0, .ref qsh]))]) (k' := 0) (n' := 0) C (run_S (As := [.int p0, .int 0, .int 1]) (rest := []) C (c_within X.2.1 E p0 0 1 p0.toInt 0 1 rfl rfl rfl) ms_X11_within wl_X11_76 rfl rfl rfl rfl dX11_fewest_3) [] [0] rfl rfl rfl rfl (fun r u hw => ?_)
  rcases hw with ⟨rfl, rfl, h_1, h_2⟩ | ⟨rfl, rfl, h_3⟩
  · refine ww_eq (ws' := [(hx, .inr (11, [.ref qn, .ref qp, .int 0, .int 0, .ref qs, .ref qj, .ref ql, .ref qh, .ref qk, .int 0, .ref qr, .ref qg, .int 0, .int 0, .ref qsh]))]) ?_ rfl rfl rfl
    refine ww_if_ne_t (tgt := 11) C dX11_fewest_6 (by decide) (by decide) ?_
    refine ww_aload_n C dX11_fewest_11 0 rfl rfl ?_
    refine ww_get C fg_X11_106 0 rfl rfl dX11_fewest_12 ?_
    refine ww_if_ne_f (tgt := 21) C dX11_fewest_15 (by decide) (rfl) ?_
    refine ww_bipush (v := (-2)) C dX11_fewest_18 rfl ?_
    exact ww_iret (u := []) C hT [] rfl rfl rfl rfl dX11_fewest_20 (Or.inr ⟨rfl, rfl, (by first | assumption | omega | decide), (by first | assumption | omega | decide)⟩)
  · refine ww_eq (ws' := [(hx, .inr (11, [.ref qn, .ref qp, .int 0, .int 0, .ref qs, .ref qj, .ref ql, .ref qh, .ref qk, .int 0, .ref qr, .ref qg, .int 0, .int 0, .ref qsh]))]) ?_ rfl rfl rfl
    refine ww_if_ne_f (tgt := 11) C dX11_fewest_6 (by decide) (rfl) ?_
    refine ww_iconst (v := (-1)) C dX11_fewest_9 rfl ?_
    exact ww_iret (u := []) C hT [] rfl rfl rfl rfl dX11_fewest_10 (Or.inl ⟨rfl, rfl, (by first | assumption | omega | decide)⟩)
theorem dX9_begin_0 : decode cX9_begin 0 = .ok (.aload_n 0, 1) := by decide +kernel
theorem dX9_begin_1 : decode cX9_begin 1 = .ok (.iconst 1, 1) := by decide +kernel
theorem dX9_begin_2 : decode cX9_begin 2 = .ok (.putfield 15, 3) := by decide +kernel
theorem wf_X9_15 : Cond.fieldLink RX9 15 RX9 "isThere" "Z" ∈ TB := tbm (tq2 (List.mem_of_getElem? (i := 80) (by decide +kernel))) (by decide +kernel)
theorem fp_X9_15 : FP RX9 15 9 0 .boolean false := ⟨RX9, TX9, 4, tyX9, uw_X9, wf_X9_15, rfl, by decide, rfl, tyX9_ok, nmX9, rfl, by decide +kernel⟩
theorem dX9_begin_5 : decode cX9_begin 5 = .ok (.aload_n 0, 1) := by decide +kernel
theorem dX9_begin_6 : decode cX9_begin 6 = .ok (.iload_n 1, 1) := by decide +kernel
theorem dX9_begin_7 : decode cX9_begin 7 = .ok (.putfield 19, 3) := by decide +kernel
theorem wf_X9_19 : Cond.fieldLink RX9 19 RX9 "lane" "I" ∈ TB := tbm (tq2 (List.mem_of_getElem? (i := 84) (by decide +kernel))) (by decide +kernel)
theorem fp_X9_19 : FP RX9 19 9 2 .int false := ⟨RX9, TX9, 4, tyX9, uw_X9, wf_X9_19, rfl, by decide, rfl, tyX9_ok, nmX9, rfl, by decide +kernel⟩
theorem dX9_begin_10 : decode cX9_begin 10 = .ok (.aload_n 0, 1) := by decide +kernel
theorem dX9_begin_11 : decode cX9_begin 11 = .ok (.iload_n 2, 1) := by decide +kernel
theorem dX9_begin_12 : decode cX9_begin 12 = .ok (.putfield 23, 3) := by decide +kernel
theorem wf_X9_23 : Cond.fieldLink RX9 23 RX9 "size" "I" ∈ TB := tbm (tq2 (List.mem_of_getElem? (i := 82) (by decide +kernel))) (by decide +kernel)
theorem fp_X9_23 : FP RX9 23 9 1 .int false := ⟨RX9, TX9, 4, tyX9, uw_X9, wf_X9_23, rfl, by decide, rfl, tyX9_ok, nmX9, rfl, by decide +kernel⟩
theorem dX9_begin_15 : decode cX9_begin 15 = .ok (.iconst 0, 1) := by decide +kernel
theorem dX9_begin_16 : decode cX9_begin 16 = .ok (.istore_n 3, 1) := by decide +kernel
theorem dX9_begin_17 : decode cX9_begin 17 = .ok (.iload_n 3, 1) := by decide +kernel
theorem dX9_begin_18 : decode cX9_begin 18 = .ok (.iload_n 2, 1) := by decide +kernel
theorem dX9_begin_19 : decode cX9_begin 19 = .ok (.if_icmp .ge 16, 3) := by decide +kernel
theorem dX9_begin_35 : decode cX9_begin 35 = .ok (.return_, 1) := by decide +kernel
theorem dX9_begin_22 : decode cX9_begin 22 = .ok (.aload_n 0, 1) := by decide +kernel
theorem dX9_begin_23 : decode cX9_begin 23 = .ok (.getfield 9, 3) := by decide +kernel
theorem fg_X9_9 : FG RX9 9 9 3 := ⟨RX9, TX9, 4, uw_X9, wf_X9_9, rfl, by decide, rfl⟩
theorem dX9_begin_26 : decode cX9_begin 26 = .ok (.iload_n 3, 1) := by decide +kernel
theorem dX9_begin_27 : decode cX9_begin 27 = .ok (.iconst 0, 1) := by decide +kernel
theorem dX9_begin_28 : decode cX9_begin 28 = .ok (.iastore, 1) := by decide +kernel
theorem dX9_begin_29 : decode cX9_begin 29 = .ok (.iinc 3 1, 3) := by decide +kernel
theorem dX9_begin_32 : decode cX9_begin 32 = .ok (.goto (-15), 3) := by decide +kernel
set_option maxRecDepth 100000 in
set_option maxHeartbeats 4000000 in
theorem c_sbegin (l : Launch) (E : EV) (h : Nat) (la : Int32) (n : Int32) (a : Nat) (h0 : 0 ≤ n.toInt) (h1 : n.toInt ≤ 48) : CT l yX9_begin (Cond.code yX9_begin cX9_begin 4 none :: TB) ({ frames := 0, cells := 0, slots := 0, locals := 0 }) E [.ref h, .int la, .int n] [(h, .inr (9, [.int 0, .int 0, .int 0, .ref a])), (a, .inl (E.2.1 1, 48, .inl (fun _ => 0)))] (Qv E (fun u => (u = []))) 0 0 := by
  refine ct_of rfl rfl ?_
  intro X C hT hin
  show WW X 4 E 0 [(0, .ref h), (1, .int la), (2, .int n)] [] [(h, .inr (9, [.int 0, .int 0, .int 0, .ref a])), (a, .inl (E.2.1 1, 48, .inl (fun _ => 0)))] 0 0
  refine ww_aload_n C dX9_begin_0 0 rfl rfl ?_
  refine ww_iconst (v := 1) C dX9_begin_1 rfl ?_
  refine ww_put (ws' := [(h, .inr (9, [.int 1, .int 0, .int 0, .ref a])), (a, .inl (E.2.1 1, 48, .inl (fun _ => 0)))]) C fp_X9_15 0 rfl rfl rfl rfl rfl dX9_begin_2 ?_
  refine ww_aload_n C dX9_begin_5 0 rfl rfl ?_
  refine ww_iload_n C dX9_begin_6 1 rfl rfl ?_
  refine ww_put (ws' := [(h, .inr (9, [.int 1, .int 0, .int la, .ref a])), (a, .inl (E.2.1 1, 48, .inl (fun _ => 0)))]) C fp_X9_19 0 rfl rfl rfl rfl rfl dX9_begin_7 ?_
  refine ww_aload_n C dX9_begin_10 0 rfl rfl ?_
  refine ww_iload_n C dX9_begin_11 2 rfl rfl ?_
  refine ww_put (ws' := [(h, .inr (9, [.int 1, .int n, .int la, .ref a])), (a, .inl (E.2.1 1, 48, .inl (fun _ => 0)))]) C fp_X9_23 0 rfl rfl rfl rfl rfl dX9_begin_12 ?_
  refine ww_iconst (v := 0) C dX9_begin_15 rfl ?_
  refine ww_istore_n (lv' := [(3, .int 0), (0, .ref h), (1, .int la), (2, .int n)]) C dX9_begin_16 rfl rfl rfl ?_
  have loop_17 : ∀ (nn : Nat) (ii : Nat) (ff : Nat → Int32), ((ii : Int) ≤ n.toInt) → (n.toInt - (ii : Int)).toNat < nn → WW X 4 E 17 [(0, .ref h), (1, .int la), (2, .int n), (3, .int (nI ii))] [] [(h, .inr (9, [.int 1, .int n, .int la, .ref a])), (a, .inl (E.2.1 1, 48, .inl ff))] 0 0 := by
    intro nn
    induction nn with
    | zero => intro ii ff hi hm; exact absurd hm (Nat.not_lt_zero _)
    | succ nn ih_17 =>
      intro ii ff hi hm
      refine ww_iload_n C dX9_begin_17 3 rfl rfl ?_
      refine ww_iload_n C dX9_begin_18 2 rfl rfl ?_
      refine ww_icmp_ge (tgt := 35) C dX9_begin_19 (by decide) (fun c_1 => ?_) (fun c_1 => ?_)
      · have zc_1 : ((ii : Nat) : Int) ≥ n.toInt := i_le rfl (nI_toInt (by omega)) c_1
        exact ww_vret (u := []) C hT [] rfl rfl rfl rfl dX9_begin_35 (rfl)
      · have zc_1 : ((ii : Nat) : Int) < n.toInt := i_nle rfl (nI_toInt (by omega)) c_1
        refine ww_aload_n C dX9_begin_22 0 rfl rfl ?_
        refine ww_get C fg_X9_9 0 rfl rfl dX9_begin_23 ?_
        refine ww_iload_n C dX9_begin_26 3 rfl rfl ?_
        refine ww_iconst (v := 0) C dX9_begin_27 rfl ?_
        obtain ⟨f_2, ef_2⟩ : ∃ z : Nat → Int32, upd ff (nI ii).toNatClampNeg 0 = z := ⟨_, rfl⟩
        refine ww_iast (ws' := [(h, .inr (9, [.int 1, .int n, .int la, .ref a])), (a, .inl (E.2.1 1, 48, .inl f_2))]) C 1 rfl (vp_in_nI (by omega) (by omega)) ef_2 rfl dX9_begin_28 ?_
        refine ww_iinc (j := 3) (v := (nI (ii + 1))) (lv' := [(3, .int (nI (ii + 1))), (0, .ref h), (1, .int la), (2, .int n)]) C dX9_begin_29 rfl (nI_add ii 1) rfl rfl ?_
        refine ww_goto (tgt := 17) C dX9_begin_32 (by decide) ?_
        exact ww_lv [1, 2, 3, 0] rfl (ww_sub [0, 1] rfl rfl (ih_17 (ii + 1) f_2 (by omega) (by omega)))
  exact ww_lv [1, 2, 3, 0] rfl (ww_sub [0, 1] rfl rfl (loop_17 _ 0 (fun _ => 0) (by omega) (Nat.lt_succ_self _)))
theorem dX11_sheet_0 : decode cX11_sheet 0 = .ok (.iload_n 1, 1) := by decide +kernel
theorem dX11_sheet_1 : decode cX11_sheet 1 = .ok (.iconst 0, 1) := by decide +kernel
theorem dX11_sheet_2 : decode cX11_sheet 2 = .ok (.iconst 3, 1) := by decide +kernel
theorem dX11_sheet_3 : decode cX11_sheet 3 = .ok (.invokestatic 76, 3) := by decide +kernel
theorem dX11_sheet_6 : decode cX11_sheet 6 = .ok (.ifCond .eq 18, 3) := by decide +kernel
theorem dX11_sheet_9 : decode cX11_sheet 9 = .ok (.iload_n 2, 1) := by decide +kernel
theorem dX11_sheet_10 : decode cX11_sheet 10 = .ok (.iconst 0, 1) := by decide +kernel
theorem dX11_sheet_11 : decode cX11_sheet 11 = .ok (.iconst 2, 1) := by decide +kernel
theorem dX11_sheet_12 : decode cX11_sheet 12 = .ok (.invokestatic 76, 3) := by decide +kernel
theorem dX11_sheet_15 : decode cX11_sheet 15 = .ok (.ifCond .eq 9, 3) := by decide +kernel
theorem dX11_sheet_18 : decode cX11_sheet 18 = .ok (.iload_n 3, 1) := by decide +kernel
theorem dX11_sheet_19 : decode cX11_sheet 19 = .ok (.bipush 48, 2) := by decide +kernel
theorem dX11_sheet_21 : decode cX11_sheet 21 = .ok (.if_icmp .le 5, 3) := by decide +kernel
theorem dX11_sheet_26 : decode cX11_sheet 26 = .ok (.iload_n 3, 1) := by decide +kernel
theorem dX11_sheet_27 : decode cX11_sheet 27 = .ok (.ifCond .ge 6, 3) := by decide +kernel
theorem dX11_sheet_33 : decode cX11_sheet 33 = .ok (.aload_n 0, 1) := by decide +kernel
theorem dX11_sheet_34 : decode cX11_sheet 34 = .ok (.getfield 71, 3) := by decide +kernel
theorem dX11_sheet_37 : decode cX11_sheet 37 = .ok (.iload_n 1, 1) := by decide +kernel
theorem dX11_sheet_38 : decode cX11_sheet 38 = .ok (.aaload, 1) := by decide +kernel
theorem dX11_sheet_39 : decode cX11_sheet 39 = .ok (.iload_n 2, 1) := by decide +kernel
theorem dX11_sheet_40 : decode cX11_sheet 40 = .ok (.iload_n 3, 1) := by decide +kernel
theorem dX11_sheet_41 : decode cX11_sheet 41 = .ok (.invokevirtual 335, 3) := by decide +kernel
theorem wl_X11_335 : Cond.methodLink RX11 335 yX9_begin ∈ TB := tbm (tq5 (List.mem_of_getElem? (i := 34) (by decide +kernel))) (by decide +kernel)
theorem wc_X9_begin : Cond.code yX9_begin cX9_begin 4 none ∈ TB := tbm (tq5 (List.mem_of_getElem? (i := 37) (rfl))) (by decide +kernel)
theorem wi_X9_begin : Cond.instanceMethod yX9_begin ∈ TB := tbm (tq5 (List.mem_of_getElem? (i := 35) (by decide +kernel))) (by decide +kernel)
theorem ws_X9_begin : Cond.selects RX9 yX9_begin yX9_begin ∈ TB := tbm (tq5 (List.mem_of_getElem? (i := 36) (by decide +kernel))) (by decide +kernel)
theorem mi_X9_begin : MI yX9_begin cX9_begin 4 none 2 := ⟨wc_X9_begin, wn_X9, ⟨by decide +kernel, by decide +kernel, by decide +kernel⟩, wi_X9_begin, ws_X9_begin⟩
theorem dX11_sheet_44 : decode cX11_sheet 44 = .ok (.iconst 1, 1) := by decide +kernel
theorem dX11_sheet_45 : decode cX11_sheet 45 = .ok (.ireturn, 1) := by decide +kernel
theorem dX11_sheet_30 : decode cX11_sheet 30 = .ok (.bipush (-14), 2) := by decide +kernel
theorem dX11_sheet_32 : decode cX11_sheet 32 = .ok (.ireturn, 1) := by decide +kernel
theorem dX11_sheet_24 : decode cX11_sheet 24 = .ok (.iconst (-1), 1) := by decide +kernel
theorem dX11_sheet_25 : decode cX11_sheet 25 = .ok (.ireturn, 1) := by decide +kernel
set_option maxRecDepth 100000 in
set_option maxHeartbeats 4000000 in
theorem x_sheet (l : Launch) (E : EV) (hx : Nat) (p0 : Int32) (p1 : Int32) (p2 : Int32) (qn : Nat) (qp : Nat) (qs : Nat) (qj : Nat) (ql : Nat) (qh : Nat) (qk : Nat) (qr : Nat) (qg : Nat) (qsh : Nat) (fs : Nat → Option Nat) (s0 : Nat) (s1 : Nat) (s2 : Nat) (s3 : Nat) (s0c : Nat) (s1c : Nat) (s2c : Nat) (s3c : Nat) (k_fs_0 : fs 0 = some s0) (k_fs_1 : fs 1 = some s1) (k_fs_2 : fs 2 = some s2) (k_fs_3 : fs 3 = some s3) : CT l yX11_sheet (Cond.code yX11_sheet cX11_sheet 4 (some .int) :: TB) ({ frames := 1, cells := 0, slots := 0, locals := 23 }) E [.ref hx, .int p0, .int p1, .int p2] [(hx, .inr (11, [.ref qn, .ref qp, .int 0, .int 0, .ref qs, .ref qj, .ref ql, .ref qh, .ref qk, .int 0, .ref qr, .ref qg, .int 0, .int 0, .ref qsh])), (qsh, .inl (E.2.1 8, 4, .inr (.inr (.inr (.inr fs))))), (s0, .inr (9, [.int 0, .int 0, .int 0, .ref s0c])), (s0c, .inl (E.2.1 1, 48, .inl (fun _ => 0))), (s1, .inr (9, [.int 0, .int 0, .int 0, .ref s1c])), (s1c, .inl (E.2.1 1, 48, .inl (fun _ => 0))), (s2, .inr (9, [.int 0, .int 0, .int 0, .ref s2c])), (s2c, .inl (E.2.1 1, 48, .inl (fun _ => 0))), (s3, .inr (9, [.int 0, .int 0, .int 0, .ref s3c])), (s3c, .inl (E.2.1 1, 48, .inl (fun _ => 0)))] (Qi E (fun (r : Int32) u => (r = (-1) ∧ u = [] ∧ (p0.toInt < 0 ∨ 3 < p0.toInt ∨ p1.toInt < 0 ∨ 2 < p1.toInt ∨ 48 < p2.toInt)) ∨ (r = (-14) ∧ u = [] ∧ (0 ≤ p0.toInt) ∧ (p0.toInt ≤ 3) ∧ (0 ≤ p1.toInt) ∧ (p1.toInt ≤ 2) ∧ (p2.toInt < 0)) ∨ (r = 1 ∧ u = [] ∧ (0 ≤ p0.toInt) ∧ (p0.toInt ≤ 3) ∧ (0 ≤ p1.toInt) ∧ (p1.toInt ≤ 2) ∧ (0 ≤ p2.toInt) ∧ (p2.toInt ≤ 48)))) 0 0 := by
  refine ct_of rfl rfl ?_
  intro X C hT hin
  show WW X 4 E 0 [(0, .ref hx), (1, .int p0), (2, .int p1), (3, .int p2)] [] [(hx, .inr (11, [.ref qn, .ref qp, .int 0, .int 0, .ref qs, .ref qj, .ref ql, .ref qh, .ref qk, .int 0, .ref qr, .ref qg, .int 0, .int 0, .ref qsh])), (qsh, .inl (E.2.1 8, 4, .inr (.inr (.inr (.inr fs))))), (s0, .inr (9, [.int 0, .int 0, .int 0, .ref s0c])), (s0c, .inl (E.2.1 1, 48, .inl (fun _ => 0))), (s1, .inr (9, [.int 0, .int 0, .int 0, .ref s1c])), (s1c, .inl (E.2.1 1, 48, .inl (fun _ => 0))), (s2, .inr (9, [.int 0, .int 0, .int 0, .ref s2c])), (s2c, .inl (E.2.1 1, 48, .inl (fun _ => 0))), (s3, .inr (9, [.int 0, .int 0, .int 0, .ref s3c])), (s3c, .inl (E.2.1 1, 48, .inl (fun _ => 0)))] 0 0
  refine ww_iload_n C dX11_sheet_0 1 rfl rfl ?_
  refine ww_iconst (v := 0) C dX11_sheet_1 rfl ?_
  refine ww_iconst (v := 3) C dX11_sheet_2 rfl ?_
  refine ww_ci (wr := [(hx, .inr (11, [.ref qn, .ref qp, .int 0, .int 0, .ref qs, .ref qj, .ref ql, .ref qh, .ref qk, .int 0, .ref qr, .ref qg, .int 0, .int 0, .ref qsh])), (qsh, .inl (E.2.1 8, 4, .inr (.inr (.inr (.inr fs))))), (s0, .inr (9, [.int 0, .int 0, .int 0, .ref s0c])), (s0c, .inl (E.2.1 1, 48, .inl (fun _ => 0))), (s1, .inr (9, [.int 0, .int 0, .int 0, .ref s1c])), (s1c, .inl (E.2.1 1, 48, .inl (fun _ => 0))), (s2, .inr (9, [.int 0, .int 0, .int 0, .ref s2c])), (s2c, .inl (E.2.1 1, 48, .inl (fun _ => 0))), (s3, .inr (9, [.int 0, .int 0, .int 0, .ref s3c])), (s3c, .inl (E.2.1 1, 48, .inl (fun _ => 0)))]) (k' := 0) (n' := 0) C (run_S (As := [.int p0, .int 0, .int 3]) (rest := []) C (c_within X.2.1 E p0 0 3 p0.toInt 0 3 rfl rfl rfl) ms_X11_within wl_X11_76 rfl rfl rfl rfl dX11_sheet_3) [] [0, 1, 2, 3, 4, 5, 6, 7, 8, 9] rfl rfl rfl rfl (fun r u hw => ?_)
  rcases hw with ⟨rfl, rfl, h_1, h_2⟩ | ⟨rfl, rfl, h_3⟩
  · refine ww_eq (ws' := [(hx, .inr (11, [.ref qn, .ref qp, .int 0, .int 0, .ref qs, .ref qj, .ref ql, .ref qh, .ref qk, .int 0, .ref qr, .ref qg, .int 0, .int 0, .ref qsh])), (qsh, .inl (E.2.1 8, 4, .inr (.inr (.inr (.inr fs))))), (s0, .inr (9, [.int 0, .int 0, .int 0, .ref s0c])), (s0c, .inl (E.2.1 1, 48, .inl (fun _ => 0))), (s1, .inr (9, [.int 0, .int 0, .int 0, .ref s1c])), (s1c, .inl (E.2.1 1, 48, .inl (fun _ => 0))), (s2, .inr (9, [.int 0, .int 0, .int 0, .ref s2c])), (s2c, .inl (E.2.1 1, 48, .inl (fun _ => 0))), (s3, .inr (9, [.int 0, .int 0, .int 0, .ref s3c])), (s3c, .inl (E.2.1 1, 48, .inl (fun _ => 0)))]) ?_ rfl rfl rfl
    refine ww_if_eq_f (tgt := 24) C dX11_sheet_6 (by decide) (by decide) ?_
    refine ww_iload_n C dX11_sheet_9 2 rfl rfl ?_
    refine ww_iconst (v := 0) C dX11_sheet_10 rfl ?_
    refine ww_iconst (v := 2) C dX11_sheet_11 rfl ?_
    refine ww_ci (wr := [(hx, .inr (11, [.ref qn, .ref qp, .int 0, .int 0, .ref qs, .ref qj, .ref ql, .ref qh, .ref qk, .int 0, .ref qr, .ref qg, .int 0, .int 0, .ref qsh])), (qsh, .inl (E.2.1 8, 4, .inr (.inr (.inr (.inr fs))))), (s0, .inr (9, [.int 0, .int 0, .int 0, .ref s0c])), (s0c, .inl (E.2.1 1, 48, .inl (fun _ => 0))), (s1, .inr (9, [.int 0, .int 0, .int 0, .ref s1c])), (s1c, .inl (E.2.1 1, 48, .inl (fun _ => 0))), (s2, .inr (9, [.int 0, .int 0, .int 0, .ref s2c])), (s2c, .inl (E.2.1 1, 48, .inl (fun _ => 0))), (s3, .inr (9, [.int 0, .int 0, .int 0, .ref s3c])), (s3c, .inl (E.2.1 1, 48, .inl (fun _ => 0)))]) (k' := 0) (n' := 0) C (run_S (As := [.int p1, .int 0, .int 2]) (rest := []) C (c_within X.2.1 E p1 0 2 p1.toInt 0 2 rfl rfl rfl) ms_X11_within wl_X11_76 rfl rfl rfl rfl dX11_sheet_12) [] [0, 1, 2, 3, 4, 5, 6, 7, 8, 9] rfl rfl rfl rfl (fun r u hw => ?_)
    rcases hw with ⟨rfl, rfl, h_4, h_5⟩ | ⟨rfl, rfl, h_6⟩
    · refine ww_eq (ws' := [(hx, .inr (11, [.ref qn, .ref qp, .int 0, .int 0, .ref qs, .ref qj, .ref ql, .ref qh, .ref qk, .int 0, .ref qr, .ref qg, .int 0, .int 0, .ref qsh])), (qsh, .inl (E.2.1 8, 4, .inr (.inr (.inr (.inr fs))))), (s0, .inr (9, [.int 0, .int 0, .int 0, .ref s0c])), (s0c, .inl (E.2.1 1, 48, .inl (fun _ => 0))), (s1, .inr (9, [.int 0, .int 0, .int 0, .ref s1c])), (s1c, .inl (E.2.1 1, 48, .inl (fun _ => 0))), (s2, .inr (9, [.int 0, .int 0, .int 0, .ref s2c])), (s2c, .inl (E.2.1 1, 48, .inl (fun _ => 0))), (s3, .inr (9, [.int 0, .int 0, .int 0, .ref s3c])), (s3c, .inl (E.2.1 1, 48, .inl (fun _ => 0)))]) ?_ rfl rfl rfl
      refine ww_if_eq_f (tgt := 24) C dX11_sheet_15 (by decide) (by decide) ?_
      refine ww_iload_n C dX11_sheet_18 3 rfl rfl ?_
      refine ww_bipush (v := 48) C dX11_sheet_19 rfl ?_
      refine ww_icmp_le (tgt := 26) C dX11_sheet_21 (by decide) (fun c_7 => ?_) (fun c_7 => ?_)
      · have zc_7 : p2.toInt ≤ 48 := i_le rfl rfl c_7
        refine ww_iload_n C dX11_sheet_26 3 rfl rfl ?_
        refine ww_if_ge (tgt := 33) C dX11_sheet_27 (by decide) (fun c_8 => ?_) (fun c_8 => ?_)
        · have zc_8 : p2.toInt ≥ 0 := i_le rfl rfl c_8
          refine ww_aload_n C dX11_sheet_33 0 rfl rfl ?_
          refine ww_get C fg_X11_71 0 rfl rfl dX11_sheet_34 ?_
          rcases sp_0_3 (x := p0) (by omega) (by omega) with rfl | rfl | rfl | rfl
          · refine ww_iload_n C dX11_sheet_37 1 rfl rfl ?_
            refine ww_ald (v := (some s0)) (t0 := 8) C 1 rfl rfl (vin rfl) k_fs_0 dX11_sheet_38 ?_
            refine ww_eq (st' := [.ref s0]) ?_ rfl rfl rfl
            refine ww_iload_n C dX11_sheet_39 2 rfl rfl ?_
            refine ww_iload_n C dX11_sheet_40 3 rfl rfl ?_
            refine ww_cv (wr := [(hx, .inr (11, [.ref qn, .ref qp, .int 0, .int 0, .ref qs, .ref qj, .ref ql, .ref qh, .ref qk, .int 0, .ref qr, .ref qg, .int 0, .int 0, .ref qsh])), (qsh, .inl (E.2.1 8, 4, .inr (.inr (.inr (.inr fs))))), (s1, .inr (9, [.int 0, .int 0, .int 0, .ref s1c])), (s1c, .inl (E.2.1 1, 48, .inl (fun _ => 0))), (s2, .inr (9, [.int 0, .int 0, .int 0, .ref s2c])), (s2c, .inl (E.2.1 1, 48, .inl (fun _ => 0))), (s3, .inr (9, [.int 0, .int 0, .int 0, .ref s3c])), (s3c, .inl (E.2.1 1, 48, .inl (fun _ => 0)))]) (k' := 0) (n' := 0) C (run_V (As := [.int p1, .int p2]) (rest := []) C (c_sbegin X.2.1 E s0 p1 p2 s0c (by omega) (by omega)) mi_X9_begin wl_X11_335 rfl 0 9 rfl rfl rfl rfl rfl dX11_sheet_41) [2, 3] [0, 1, 4, 5, 6, 7, 8, 9] rfl rfl rfl rfl (fun u hw => ?_)
            obtain ⟨rfl⟩ := hw
            refine ww_eq (ws' := [(hx, .inr (11, [.ref qn, .ref qp, .int 0, .int 0, .ref qs, .ref qj, .ref ql, .ref qh, .ref qk, .int 0, .ref qr, .ref qg, .int 0, .int 0, .ref qsh])), (qsh, .inl (E.2.1 8, 4, .inr (.inr (.inr (.inr fs))))), (s1, .inr (9, [.int 0, .int 0, .int 0, .ref s1c])), (s1c, .inl (E.2.1 1, 48, .inl (fun _ => 0))), (s2, .inr (9, [.int 0, .int 0, .int 0, .ref s2c])), (s2c, .inl (E.2.1 1, 48, .inl (fun _ => 0))), (s3, .inr (9, [.int 0, .int 0, .int 0, .ref s3c])), (s3c, .inl (E.2.1 1, 48, .inl (fun _ => 0)))]) ?_ rfl rfl rfl
            refine ww_iconst (v := 1) C dX11_sheet_44 rfl ?_
            exact ww_iret (u := []) C hT [] rfl rfl rfl rfl dX11_sheet_45 (Or.inr (Or.inr ⟨rfl, rfl, (by first | assumption | omega | decide), (by first | assumption | omega | decide), (by first | assumption | omega | decide), (by first | assumption | omega | decide), (by first | assumption | omega | decide), (by first | assumption | omega | decide)⟩))
          · refine ww_iload_n C dX11_sheet_37 1 rfl rfl ?_
            refine ww_ald (v := (some s1)) (t0 := 8) C 1 rfl rfl (vin rfl) k_fs_1 dX11_sheet_38 ?_
            refine ww_eq (st' := [.ref s1]) ?_ rfl rfl rfl
            refine ww_iload_n C dX11_sheet_39 2 rfl rfl ?_
            refine ww_iload_n C dX11_sheet_40 3 rfl rfl ?_
            refine ww_cv (wr := [(hx, .inr (11, [.ref qn, .ref qp, .int 0, .int 0, .ref qs, .ref qj, .ref ql, .ref qh, .ref qk, .int 0, .ref qr, .ref qg, .int 0, .int 0, .ref qsh])), (qsh, .inl (E.2.1 8, 4, .inr (.inr (.inr (.inr fs))))), (s0, .inr (9, [.int 0, .int 0, .int 0, .ref s0c])), (s0c, .inl (E.2.1 1, 48, .inl (fun _ => 0))), (s2, .inr (9, [.int 0, .int 0, .int 0, .ref s2c])), (s2c, .inl (E.2.1 1, 48, .inl (fun _ => 0))), (s3, .inr (9, [.int 0, .int 0, .int 0, .ref s3c])), (s3c, .inl (E.2.1 1, 48, .inl (fun _ => 0)))]) (k' := 0) (n' := 0) C (run_V (As := [.int p1, .int p2]) (rest := []) C (c_sbegin X.2.1 E s1 p1 p2 s1c (by omega) (by omega)) mi_X9_begin wl_X11_335 rfl 0 9 rfl rfl rfl rfl rfl dX11_sheet_41) [4, 5] [0, 1, 2, 3, 6, 7, 8, 9] rfl rfl rfl rfl (fun u hw => ?_)
            obtain ⟨rfl⟩ := hw
            refine ww_eq (ws' := [(hx, .inr (11, [.ref qn, .ref qp, .int 0, .int 0, .ref qs, .ref qj, .ref ql, .ref qh, .ref qk, .int 0, .ref qr, .ref qg, .int 0, .int 0, .ref qsh])), (qsh, .inl (E.2.1 8, 4, .inr (.inr (.inr (.inr fs))))), (s0, .inr (9, [.int 0, .int 0, .int 0, .ref s0c])), (s0c, .inl (E.2.1 1, 48, .inl (fun _ => 0))), (s2, .inr (9, [.int 0, .int 0, .int 0, .ref s2c])), (s2c, .inl (E.2.1 1, 48, .inl (fun _ => 0))), (s3, .inr (9, [.int 0, .int 0, .int 0, .ref s3c])), (s3c, .inl (E.2.1 1, 48, .inl (fun _ => 0)))]) ?_ rfl rfl rfl
            refine ww_iconst (v := 1) C dX11_sheet_44 rfl ?_
            exact ww_iret (u := []) C hT [] rfl rfl rfl rfl dX11_sheet_45 (Or.inr (Or.inr ⟨rfl, rfl, (by first | assumption | omega | decide), (by first | assumption | omega | decide), (by first | assumption | omega | decide), (by first | assumption | omega | decide), (by first | assumption | omega | decide), (by first | assumption | omega | decide)⟩))
          · refine ww_iload_n C dX11_sheet_37 1 rfl rfl ?_
            refine ww_ald (v := (some s2)) (t0 := 8) C 1 rfl rfl (vin rfl) k_fs_2 dX11_sheet_38 ?_
            refine ww_eq (st' := [.ref s2]) ?_ rfl rfl rfl
            refine ww_iload_n C dX11_sheet_39 2 rfl rfl ?_
            refine ww_iload_n C dX11_sheet_40 3 rfl rfl ?_
            refine ww_cv (wr := [(hx, .inr (11, [.ref qn, .ref qp, .int 0, .int 0, .ref qs, .ref qj, .ref ql, .ref qh, .ref qk, .int 0, .ref qr, .ref qg, .int 0, .int 0, .ref qsh])), (qsh, .inl (E.2.1 8, 4, .inr (.inr (.inr (.inr fs))))), (s0, .inr (9, [.int 0, .int 0, .int 0, .ref s0c])), (s0c, .inl (E.2.1 1, 48, .inl (fun _ => 0))), (s1, .inr (9, [.int 0, .int 0, .int 0, .ref s1c])), (s1c, .inl (E.2.1 1, 48, .inl (fun _ => 0))), (s3, .inr (9, [.int 0, .int 0, .int 0, .ref s3c])), (s3c, .inl (E.2.1 1, 48, .inl (fun _ => 0)))]) (k' := 0) (n' := 0) C (run_V (As := [.int p1, .int p2]) (rest := []) C (c_sbegin X.2.1 E s2 p1 p2 s2c (by omega) (by omega)) mi_X9_begin wl_X11_335 rfl 0 9 rfl rfl rfl rfl rfl dX11_sheet_41) [6, 7] [0, 1, 2, 3, 4, 5, 8, 9] rfl rfl rfl rfl (fun u hw => ?_)
            obtain ⟨rfl⟩ := hw
            refine ww_eq (ws' := [(hx, .inr (11, [.ref qn, .ref qp, .int 0, .int 0, .ref qs, .ref qj, .ref ql, .ref qh, .ref qk, .int 0, .ref qr, .ref qg, .int 0, .int 0, .ref qsh])), (qsh, .inl (E.2.1 8, 4, .inr (.inr (.inr (.inr fs))))), (s0, .inr (9, [.int 0, .int 0, .int 0, .ref s0c])), (s0c, .inl (E.2.1 1, 48, .inl (fun _ => 0))), (s1, .inr (9, [.int 0, .int 0, .int 0, .ref s1c])), (s1c, .inl (E.2.1 1, 48, .inl (fun _ => 0))), (s3, .inr (9, [.int 0, .int 0, .int 0, .ref s3c])), (s3c, .inl (E.2.1 1, 48, .inl (fun _ => 0)))]) ?_ rfl rfl rfl
            refine ww_iconst (v := 1) C dX11_sheet_44 rfl ?_
            exact ww_iret (u := []) C hT [] rfl rfl rfl rfl dX11_sheet_45 (Or.inr (Or.inr ⟨rfl, rfl, (by first | assumption | omega | decide), (by first | assumption | omega | decide), (by first | assumption | omega | decide), (by first | assumption | omega | decide), (by first | assumption | omega | decide), (by first | assumption | omega | decide)⟩))
          · refine ww_iload_n C dX11_sheet_37 1 rfl rfl ?_
            refine ww_ald (v := (some s3)) (t0 := 8) C 1 rfl rfl (vin rfl) k_fs_3 dX11_sheet_38 ?_
            refine ww_eq (st' := [.ref s3]) ?_ rfl rfl rfl
            refine ww_iload_n C dX11_sheet_39 2 rfl rfl ?_
            refine ww_iload_n C dX11_sheet_40 3 rfl rfl ?_
            refine ww_cv (wr := [(hx, .inr (11, [.ref qn, .ref qp, .int 0, .int 0, .ref qs, .ref qj, .ref ql, .ref qh, .ref qk, .int 0, .ref qr, .ref qg, .int 0, .int 0, .ref qsh])), (qsh, .inl (E.2.1 8, 4, .inr (.inr (.inr (.inr fs))))), (s0, .inr (9, [.int 0, .int 0, .int 0, .ref s0c])), (s0c, .inl (E.2.1 1, 48, .inl (fun _ => 0))), (s1, .inr (9, [.int 0, .int 0, .int 0, .ref s1c])), (s1c, .inl (E.2.1 1, 48, .inl (fun _ => 0))), (s2, .inr (9, [.int 0, .int 0, .int 0, .ref s2c])), (s2c, .inl (E.2.1 1, 48, .inl (fun _ => 0)))]) (k' := 0) (n' := 0) C (run_V (As := [.int p1, .int p2]) (rest := []) C (c_sbegin X.2.1 E s3 p1 p2 s3c (by omega) (by omega)) mi_X9_begin wl_X11_335 rfl 0 9 rfl rfl rfl rfl rfl dX11_sheet_41) [8, 9] [0, 1, 2, 3, 4, 5, 6, 7] rfl rfl rfl rfl (fun u hw => ?_)
            obtain ⟨rfl⟩ := hw
            refine ww_eq (ws' := [(hx, .inr (11, [.ref qn, .ref qp, .int 0, .int 0, .ref qs, .ref qj, .ref ql, .ref qh, .ref qk, .int 0, .ref qr, .ref qg, .int 0, .int 0, .ref qsh])), (qsh, .inl (E.2.1 8, 4, .inr (.inr (.inr (.inr fs))))), (s0, .inr (9, [.int 0, .int 0, .int 0, .ref s0c])), (s0c, .inl (E.2.1 1, 48, .inl (fun _ => 0))), (s1, .inr (9, [.int 0, .int 0, .int 0, .ref s1c])), (s1c, .inl (E.2.1 1, 48, .inl (fun _ => 0))), (s2, .inr (9, [.int 0, .int 0, .int 0, .ref s2c])), (s2c, .inl (E.2.1 1, 48, .inl (fun _ => 0)))]) ?_ rfl rfl rfl
            refine ww_iconst (v := 1) C dX11_sheet_44 rfl ?_
            exact ww_iret (u := []) C hT [] rfl rfl rfl rfl dX11_sheet_45 (Or.inr (Or.inr ⟨rfl, rfl, (by first | assumption | omega | decide), (by first | assumption | omega | decide), (by first | assumption | omega | decide), (by first | assumption | omega | decide), (by first | assumption | omega | decide), (by first | assumption | omega | decide)⟩))
        · have zc_8 : p2.toInt < 0 := i_nle rfl rfl c_8
          refine ww_bipush (v := (-14)) C dX11_sheet_30 rfl ?_
          exact ww_iret (u := []) C hT [] rfl rfl rfl rfl dX11_sheet_32 (Or.inr (Or.inl ⟨rfl, rfl, (by first | assumption | omega | decide), (by first | assumption | omega | decide), (by first | assumption | omega | decide), (by first | assumption | omega | decide), (by first | assumption | omega | decide)⟩))
      · have zc_7 : p2.toInt > 48 := i_nle rfl rfl c_7
        refine ww_iconst (v := (-1)) C dX11_sheet_24 rfl ?_
        exact ww_iret (u := []) C hT [] rfl rfl rfl rfl dX11_sheet_25 (Or.inl ⟨rfl, rfl, (by first | assumption | omega | decide)⟩)
    · refine ww_eq (ws' := [(hx, .inr (11, [.ref qn, .ref qp, .int 0, .int 0, .ref qs, .ref qj, .ref ql, .ref qh, .ref qk, .int 0, .ref qr, .ref qg, .int 0, .int 0, .ref qsh])), (qsh, .inl (E.2.1 8, 4, .inr (.inr (.inr (.inr fs))))), (s0, .inr (9, [.int 0, .int 0, .int 0, .ref s0c])), (s0c, .inl (E.2.1 1, 48, .inl (fun _ => 0))), (s1, .inr (9, [.int 0, .int 0, .int 0, .ref s1c])), (s1c, .inl (E.2.1 1, 48, .inl (fun _ => 0))), (s2, .inr (9, [.int 0, .int 0, .int 0, .ref s2c])), (s2c, .inl (E.2.1 1, 48, .inl (fun _ => 0))), (s3, .inr (9, [.int 0, .int 0, .int 0, .ref s3c])), (s3c, .inl (E.2.1 1, 48, .inl (fun _ => 0)))]) ?_ rfl rfl rfl
      refine ww_if_eq_t (tgt := 24) C dX11_sheet_15 (by decide) (rfl) ?_
      refine ww_iconst (v := (-1)) C dX11_sheet_24 rfl ?_
      exact ww_iret (u := []) C hT [] rfl rfl rfl rfl dX11_sheet_25 (Or.inl ⟨rfl, rfl, (by first | assumption | omega | decide)⟩)
  · refine ww_eq (ws' := [(hx, .inr (11, [.ref qn, .ref qp, .int 0, .int 0, .ref qs, .ref qj, .ref ql, .ref qh, .ref qk, .int 0, .ref qr, .ref qg, .int 0, .int 0, .ref qsh])), (qsh, .inl (E.2.1 8, 4, .inr (.inr (.inr (.inr fs))))), (s0, .inr (9, [.int 0, .int 0, .int 0, .ref s0c])), (s0c, .inl (E.2.1 1, 48, .inl (fun _ => 0))), (s1, .inr (9, [.int 0, .int 0, .int 0, .ref s1c])), (s1c, .inl (E.2.1 1, 48, .inl (fun _ => 0))), (s2, .inr (9, [.int 0, .int 0, .int 0, .ref s2c])), (s2c, .inl (E.2.1 1, 48, .inl (fun _ => 0))), (s3, .inr (9, [.int 0, .int 0, .int 0, .ref s3c])), (s3c, .inl (E.2.1 1, 48, .inl (fun _ => 0)))]) ?_ rfl rfl rfl
    refine ww_if_eq_t (tgt := 24) C dX11_sheet_6 (by decide) (rfl) ?_
    refine ww_iconst (v := (-1)) C dX11_sheet_24 rfl ?_
    exact ww_iret (u := []) C hT [] rfl rfl rfl rfl dX11_sheet_25 (Or.inl ⟨rfl, rfl, (by first | assumption | omega | decide)⟩)
theorem dX11_write_0 : decode cX11_write 0 = .ok (.iload_n 1, 1) := by decide +kernel
theorem dX11_write_1 : decode cX11_write 1 = .ok (.iconst 0, 1) := by decide +kernel
theorem dX11_write_2 : decode cX11_write 2 = .ok (.iconst 3, 1) := by decide +kernel
theorem dX11_write_3 : decode cX11_write 3 = .ok (.invokestatic 76, 3) := by decide +kernel
theorem dX11_write_6 : decode cX11_write 6 = .ok (.ifCond .ne 5, 3) := by decide +kernel
theorem dX11_write_11 : decode cX11_write 11 = .ok (.aload_n 0, 1) := by decide +kernel
theorem dX11_write_12 : decode cX11_write 12 = .ok (.getfield 71, 3) := by decide +kernel
theorem dX11_write_15 : decode cX11_write 15 = .ok (.iload_n 1, 1) := by decide +kernel
theorem dX11_write_16 : decode cX11_write 16 = .ok (.aaload, 1) := by decide +kernel
theorem dX11_write_17 : decode cX11_write 17 = .ok (.getfield 338, 3) := by decide +kernel
theorem wf_X11_338 : Cond.fieldLink RX11 338 RX9 "isThere" "Z" ∈ TB := tbm (tq2 (List.mem_of_getElem? (i := 81) (by decide +kernel))) (by decide +kernel)
theorem fg_X11_338 : FG RX11 338 9 0 := ⟨RX9, TX9, 4, uw_X9, wf_X11_338, rfl, by decide, rfl⟩
theorem dX11_write_20 : decode cX11_write 20 = .ok (.ifCond .ne 6, 3) := by decide +kernel
theorem dX11_write_23 : decode cX11_write 23 = .ok (.bipush (-11), 2) := by decide +kernel
theorem dX11_write_25 : decode cX11_write 25 = .ok (.ireturn, 1) := by decide +kernel
theorem dX11_write_9 : decode cX11_write 9 = .ok (.iconst (-1), 1) := by decide +kernel
theorem dX11_write_10 : decode cX11_write 10 = .ok (.ireturn, 1) := by decide +kernel
set_option maxRecDepth 100000 in
set_option maxHeartbeats 4000000 in
theorem x_write (l : Launch) (E : EV) (hx : Nat) (p0 : Int32) (p1 : Int32) (p2 : Int32) (qn : Nat) (qp : Nat) (qs : Nat) (qj : Nat) (ql : Nat) (qh : Nat) (qk : Nat) (qr : Nat) (qg : Nat) (qsh : Nat) (fs : Nat → Option Nat) (s0 : Nat) (s1 : Nat) (s2 : Nat) (s3 : Nat) (s0c : Nat) (s1c : Nat) (s2c : Nat) (s3c : Nat) (k_fs_0 : fs 0 = some s0) (k_fs_1 : fs 1 = some s1) (k_fs_2 : fs 2 = some s2) (k_fs_3 : fs 3 = some s3) : CT l yX11_write (Cond.code yX11_write cX11_write 4 (some .int) :: TB) ({ frames := 1, cells := 0, slots := 0, locals := 22 }) E [.ref hx, .int p0, .int p1, .int p2] [(hx, .inr (11, [.ref qn, .ref qp, .int 0, .int 0, .ref qs, .ref qj, .ref ql, .ref qh, .ref qk, .int 0, .ref qr, .ref qg, .int 0, .int 0, .ref qsh])), (qsh, .inl (E.2.1 8, 4, .inr (.inr (.inr (.inr fs))))), (s0, .inr (9, [.int 0, .int 0, .int 0, .ref s0c])), (s1, .inr (9, [.int 0, .int 0, .int 0, .ref s1c])), (s2, .inr (9, [.int 0, .int 0, .int 0, .ref s2c])), (s3, .inr (9, [.int 0, .int 0, .int 0, .ref s3c]))] (Qi E (fun (r : Int32) u => (r = (-1) ∧ u = [] ∧ (p0.toInt < 0 ∨ 3 < p0.toInt)) ∨ (r = (-11) ∧ u = [] ∧ (0 ≤ p0.toInt) ∧ (p0.toInt ≤ 3)))) 0 0 := by
  refine ct_of rfl rfl ?_
  intro X C hT hin
  show WW X 4 E 0 [(0, .ref hx), (1, .int p0), (2, .int p1), (3, .int p2)] [] [(hx, .inr (11, [.ref qn, .ref qp, .int 0, .int 0, .ref qs, .ref qj, .ref ql, .ref qh, .ref qk, .int 0, .ref qr, .ref qg, .int 0, .int 0, .ref qsh])), (qsh, .inl (E.2.1 8, 4, .inr (.inr (.inr (.inr fs))))), (s0, .inr (9, [.int 0, .int 0, .int 0, .ref s0c])), (s1, .inr (9, [.int 0, .int 0, .int 0, .ref s1c])), (s2, .inr (9, [.int 0, .int 0, .int 0, .ref s2c])), (s3, .inr (9, [.int 0, .int 0, .int 0, .ref s3c]))] 0 0
  refine ww_iload_n C dX11_write_0 1 rfl rfl ?_
  refine ww_iconst (v := 0) C dX11_write_1 rfl ?_
  refine ww_iconst (v := 3) C dX11_write_2 rfl ?_
  refine ww_ci (wr := [(hx, .inr (11, [.ref qn, .ref qp, .int 0, .int 0, .ref qs, .ref qj, .ref ql, .ref qh, .ref qk, .int 0, .ref qr, .ref qg, .int 0, .int 0, .ref qsh])), (qsh, .inl (E.2.1 8, 4, .inr (.inr (.inr (.inr fs))))), (s0, .inr (9, [.int 0, .int 0, .int 0, .ref s0c])), (s1, .inr (9, [.int 0, .int 0, .int 0, .ref s1c])), (s2, .inr (9, [.int 0, .int 0, .int 0, .ref s2c])), (s3, .inr (9, [.int 0, .int 0, .int 0, .ref s3c]))]) (k' := 0) (n' := 0) C (run_S (As := [.int p0, .int 0, .int 3]) (rest := []) C (c_within X.2.1 E p0 0 3 p0.toInt 0 3 rfl rfl rfl) ms_X11_within wl_X11_76 rfl rfl rfl rfl dX11_write_3) [] [0, 1, 2, 3, 4, 5] rfl rfl rfl rfl (fun r u hw => ?_)
  rcases hw with ⟨rfl, rfl, h_1, h_2⟩ | ⟨rfl, rfl, h_3⟩
  · refine ww_eq (ws' := [(hx, .inr (11, [.ref qn, .ref qp, .int 0, .int 0, .ref qs, .ref qj, .ref ql, .ref qh, .ref qk, .int 0, .ref qr, .ref qg, .int 0, .int 0, .ref qsh])), (qsh, .inl (E.2.1 8, 4, .inr (.inr (.inr (.inr fs))))), (s0, .inr (9, [.int 0, .int 0, .int 0, .ref s0c])), (s1, .inr (9, [.int 0, .int 0, .int 0, .ref s1c])), (s2, .inr (9, [.int 0, .int 0, .int 0, .ref s2c])), (s3, .inr (9, [.int 0, .int 0, .int 0, .ref s3c]))]) ?_ rfl rfl rfl
    refine ww_if_ne_t (tgt := 11) C dX11_write_6 (by decide) (by decide) ?_
    refine ww_aload_n C dX11_write_11 0 rfl rfl ?_
    refine ww_get C fg_X11_71 0 rfl rfl dX11_write_12 ?_
    rcases sp_0_3 (x := p0) (by omega) (by omega) with rfl | rfl | rfl | rfl
    · refine ww_iload_n C dX11_write_15 1 rfl rfl ?_
      refine ww_ald (v := (some s0)) (t0 := 8) C 1 rfl rfl (vin rfl) k_fs_0 dX11_write_16 ?_
      refine ww_eq (st' := [.ref s0]) ?_ rfl rfl rfl
      refine ww_get C fg_X11_338 2 rfl rfl dX11_write_17 ?_
      refine ww_if_ne_f (tgt := 26) C dX11_write_20 (by decide) (rfl) ?_
      refine ww_bipush (v := (-11)) C dX11_write_23 rfl ?_
      exact ww_iret (u := []) C hT [] rfl rfl rfl rfl dX11_write_25 (Or.inr ⟨rfl, rfl, (by first | assumption | omega | decide), (by first | assumption | omega | decide)⟩)
    · refine ww_iload_n C dX11_write_15 1 rfl rfl ?_
      refine ww_ald (v := (some s1)) (t0 := 8) C 1 rfl rfl (vin rfl) k_fs_1 dX11_write_16 ?_
      refine ww_eq (st' := [.ref s1]) ?_ rfl rfl rfl
      refine ww_get C fg_X11_338 3 rfl rfl dX11_write_17 ?_
      refine ww_if_ne_f (tgt := 26) C dX11_write_20 (by decide) (rfl) ?_
      refine ww_bipush (v := (-11)) C dX11_write_23 rfl ?_
      exact ww_iret (u := []) C hT [] rfl rfl rfl rfl dX11_write_25 (Or.inr ⟨rfl, rfl, (by first | assumption | omega | decide), (by first | assumption | omega | decide)⟩)
    · refine ww_iload_n C dX11_write_15 1 rfl rfl ?_
      refine ww_ald (v := (some s2)) (t0 := 8) C 1 rfl rfl (vin rfl) k_fs_2 dX11_write_16 ?_
      refine ww_eq (st' := [.ref s2]) ?_ rfl rfl rfl
      refine ww_get C fg_X11_338 4 rfl rfl dX11_write_17 ?_
      refine ww_if_ne_f (tgt := 26) C dX11_write_20 (by decide) (rfl) ?_
      refine ww_bipush (v := (-11)) C dX11_write_23 rfl ?_
      exact ww_iret (u := []) C hT [] rfl rfl rfl rfl dX11_write_25 (Or.inr ⟨rfl, rfl, (by first | assumption | omega | decide), (by first | assumption | omega | decide)⟩)
    · refine ww_iload_n C dX11_write_15 1 rfl rfl ?_
      refine ww_ald (v := (some s3)) (t0 := 8) C 1 rfl rfl (vin rfl) k_fs_3 dX11_write_16 ?_
      refine ww_eq (st' := [.ref s3]) ?_ rfl rfl rfl
      refine ww_get C fg_X11_338 5 rfl rfl dX11_write_17 ?_
      refine ww_if_ne_f (tgt := 26) C dX11_write_20 (by decide) (rfl) ?_
      refine ww_bipush (v := (-11)) C dX11_write_23 rfl ?_
      exact ww_iret (u := []) C hT [] rfl rfl rfl rfl dX11_write_25 (Or.inr ⟨rfl, rfl, (by first | assumption | omega | decide), (by first | assumption | omega | decide)⟩)
  · refine ww_eq (ws' := [(hx, .inr (11, [.ref qn, .ref qp, .int 0, .int 0, .ref qs, .ref qj, .ref ql, .ref qh, .ref qk, .int 0, .ref qr, .ref qg, .int 0, .int 0, .ref qsh])), (qsh, .inl (E.2.1 8, 4, .inr (.inr (.inr (.inr fs))))), (s0, .inr (9, [.int 0, .int 0, .int 0, .ref s0c])), (s1, .inr (9, [.int 0, .int 0, .int 0, .ref s1c])), (s2, .inr (9, [.int 0, .int 0, .int 0, .ref s2c])), (s3, .inr (9, [.int 0, .int 0, .int 0, .ref s3c]))]) ?_ rfl rfl rfl
    refine ww_if_ne_f (tgt := 11) C dX11_write_6 (by decide) (rfl) ?_
    refine ww_iconst (v := (-1)) C dX11_write_9 rfl ?_
    exact ww_iret (u := []) C hT [] rfl rfl rfl rfl dX11_write_10 (Or.inl ⟨rfl, rfl, (by first | assumption | omega | decide)⟩)
theorem dX9_check_0 : decode cX9_check 0 = .ok (.aload_n 0, 1) := by decide +kernel
theorem dX9_check_1 : decode cX9_check 1 = .ok (.getfield 15, 3) := by decide +kernel
theorem fg_X9_15 : FG RX9 15 9 0 := ⟨RX9, TX9, 4, uw_X9, wf_X9_15, rfl, by decide, rfl⟩
theorem dX9_check_4 : decode cX9_check 4 = .ok (.ifCond .ne 6, 3) := by decide +kernel
theorem dX9_check_7 : decode cX9_check 7 = .ok (.bipush (-11), 2) := by decide +kernel
theorem dX9_check_9 : decode cX9_check 9 = .ok (.ireturn, 1) := by decide +kernel
set_option maxRecDepth 100000 in
set_option maxHeartbeats 4000000 in
theorem c_check (l : Launch) (E : EV) (h : Nat) (u : Int32) (v : Int32) (n : Int32) (a : Nat)  : CT l yX9_check (Cond.code yX9_check cX9_check 5 (some .int) :: TB) ({ frames := 0, cells := 0, slots := 0, locals := 0 }) E [.ref h, .int u, .int v, .int n] [(h, .inr (9, [.int 0, .int 0, .int 0, .ref a]))] (Qi E (fun (r : Int32) u => (r = (-11) ∧ u = []))) 0 0 := by
  refine ct_of rfl rfl ?_
  intro X C hT hin
  show WW X 5 E 0 [(0, .ref h), (1, .int u), (2, .int v), (3, .int n)] [] [(h, .inr (9, [.int 0, .int 0, .int 0, .ref a]))] 0 0
  refine ww_aload_n C dX9_check_0 0 rfl rfl ?_
  refine ww_get C fg_X9_15 0 rfl rfl dX9_check_1 ?_
  refine ww_if_ne_f (tgt := 10) C dX9_check_4 (by decide) (rfl) ?_
  refine ww_bipush (v := (-11)) C dX9_check_7 rfl ?_
  exact ww_iret (u := []) C hT [] rfl rfl rfl rfl dX9_check_9 (⟨rfl, rfl⟩)
theorem dX11_read_0 : decode cX11_read 0 = .ok (.iload_n 1, 1) := by decide +kernel
theorem dX11_read_1 : decode cX11_read 1 = .ok (.iconst 0, 1) := by decide +kernel
theorem dX11_read_2 : decode cX11_read 2 = .ok (.iconst 3, 1) := by decide +kernel
theorem dX11_read_3 : decode cX11_read 3 = .ok (.invokestatic 76, 3) := by decide +kernel
theorem dX11_read_6 : decode cX11_read 6 = .ok (.ifCond .eq 23, 3) := by decide +kernel
theorem dX11_read_9 : decode cX11_read 9 = .ok (.iload_n 2, 1) := by decide +kernel
theorem dX11_read_10 : decode cX11_read 10 = .ok (.iconst 0, 1) := by decide +kernel
theorem dX11_read_11 : decode cX11_read 11 = .ok (.iconst 2, 1) := by decide +kernel
theorem dX11_read_12 : decode cX11_read 12 = .ok (.invokestatic 76, 3) := by decide +kernel
theorem dX11_read_15 : decode cX11_read 15 = .ok (.ifCond .eq 14, 3) := by decide +kernel
theorem dX11_read_18 : decode cX11_read 18 = .ok (.iload 4, 2) := by decide +kernel
theorem dX11_read_20 : decode cX11_read 20 = .ok (.iconst 0, 1) := by decide +kernel
theorem dX11_read_21 : decode cX11_read 21 = .ok (.bipush 24, 2) := by decide +kernel
theorem dX11_read_23 : decode cX11_read 23 = .ok (.invokestatic 76, 3) := by decide +kernel
theorem dX11_read_26 : decode cX11_read 26 = .ok (.ifCond .ne 5, 3) := by decide +kernel
theorem dX11_read_31 : decode cX11_read 31 = .ok (.aload_n 0, 1) := by decide +kernel
theorem dX11_read_32 : decode cX11_read 32 = .ok (.getfield 71, 3) := by decide +kernel
theorem dX11_read_35 : decode cX11_read 35 = .ok (.iload_n 1, 1) := by decide +kernel
theorem dX11_read_36 : decode cX11_read 36 = .ok (.aaload, 1) := by decide +kernel
theorem dX11_read_37 : decode cX11_read 37 = .ok (.iload_n 2, 1) := by decide +kernel
theorem dX11_read_38 : decode cX11_read 38 = .ok (.iload_n 3, 1) := by decide +kernel
theorem dX11_read_39 : decode cX11_read 39 = .ok (.iload 4, 2) := by decide +kernel
theorem dX11_read_41 : decode cX11_read 41 = .ok (.invokevirtual 346, 3) := by decide +kernel
theorem wl_X11_346 : Cond.methodLink RX11 346 yX9_check ∈ TB := tbm (tq5 (List.mem_of_getElem? (i := 50) (by decide +kernel))) (by decide +kernel)
theorem wc_X9_check : Cond.code yX9_check cX9_check 5 (some .int) ∈ TB := tbm (tq5 (List.mem_of_getElem? (i := 53) (rfl))) (by decide +kernel)
theorem wi_X9_check : Cond.instanceMethod yX9_check ∈ TB := tbm (tq5 (List.mem_of_getElem? (i := 51) (by decide +kernel))) (by decide +kernel)
theorem ws_X9_check : Cond.selects RX9 yX9_check yX9_check ∈ TB := tbm (tq5 (List.mem_of_getElem? (i := 52) (by decide +kernel))) (by decide +kernel)
theorem mi_X9_check : MI yX9_check cX9_check 5 (some .int) 3 := ⟨wc_X9_check, wn_X9, ⟨by decide +kernel, by decide +kernel, by decide +kernel⟩, wi_X9_check, ws_X9_check⟩
theorem dX11_read_44 : decode cX11_read 44 = .ok (.istore 5, 2) := by decide +kernel
theorem dX11_read_46 : decode cX11_read 46 = .ok (.iload 5, 2) := by decide +kernel
theorem dX11_read_48 : decode cX11_read 48 = .ok (.ifCond .ge 6, 3) := by decide +kernel
theorem dX11_read_51 : decode cX11_read 51 = .ok (.iload 5, 2) := by decide +kernel
theorem dX11_read_53 : decode cX11_read 53 = .ok (.ireturn, 1) := by decide +kernel
theorem dX11_read_29 : decode cX11_read 29 = .ok (.iconst (-1), 1) := by decide +kernel
theorem dX11_read_30 : decode cX11_read 30 = .ok (.ireturn, 1) := by decide +kernel
set_option maxRecDepth 100000 in
set_option maxHeartbeats 4000000 in
theorem x_read (l : Launch) (E : EV) (hx : Nat) (p0 : Int32) (p1 : Int32) (p2 : Int32) (p3 : Int32) (qn : Nat) (qp : Nat) (qs : Nat) (qj : Nat) (ql : Nat) (qh : Nat) (qk : Nat) (qr : Nat) (qg : Nat) (qsh : Nat) (fs : Nat → Option Nat) (s0 : Nat) (s1 : Nat) (s2 : Nat) (s3 : Nat) (s0c : Nat) (s1c : Nat) (s2c : Nat) (s3c : Nat) (k_fs_0 : fs 0 = some s0) (k_fs_1 : fs 1 = some s1) (k_fs_2 : fs 2 = some s2) (k_fs_3 : fs 3 = some s3) : CT l yX11_read (Cond.code yX11_read cX11_read 7 (some .int) :: TB) ({ frames := 1, cells := 0, slots := 0, locals := 24 }) E [.ref hx, .int p0, .int p1, .int p2, .int p3] [(hx, .inr (11, [.ref qn, .ref qp, .int 0, .int 0, .ref qs, .ref qj, .ref ql, .ref qh, .ref qk, .int 0, .ref qr, .ref qg, .int 0, .int 0, .ref qsh])), (qsh, .inl (E.2.1 8, 4, .inr (.inr (.inr (.inr fs))))), (s0, .inr (9, [.int 0, .int 0, .int 0, .ref s0c])), (s1, .inr (9, [.int 0, .int 0, .int 0, .ref s1c])), (s2, .inr (9, [.int 0, .int 0, .int 0, .ref s2c])), (s3, .inr (9, [.int 0, .int 0, .int 0, .ref s3c]))] (Qi E (fun (r : Int32) u => (r = (-1) ∧ u = [] ∧ (p0.toInt < 0 ∨ 3 < p0.toInt ∨ p1.toInt < 0 ∨ 2 < p1.toInt ∨ p3.toInt < 0 ∨ 24 < p3.toInt)) ∨ (r = (-11) ∧ u = [] ∧ (0 ≤ p0.toInt) ∧ (p0.toInt ≤ 3) ∧ (0 ≤ p1.toInt) ∧ (p1.toInt ≤ 2) ∧ (0 ≤ p3.toInt) ∧ (p3.toInt ≤ 24)))) 0 0 := by
  refine ct_of rfl rfl ?_
  intro X C hT hin
  show WW X 7 E 0 [(0, .ref hx), (1, .int p0), (2, .int p1), (3, .int p2), (4, .int p3)] [] [(hx, .inr (11, [.ref qn, .ref qp, .int 0, .int 0, .ref qs, .ref qj, .ref ql, .ref qh, .ref qk, .int 0, .ref qr, .ref qg, .int 0, .int 0, .ref qsh])), (qsh, .inl (E.2.1 8, 4, .inr (.inr (.inr (.inr fs))))), (s0, .inr (9, [.int 0, .int 0, .int 0, .ref s0c])), (s1, .inr (9, [.int 0, .int 0, .int 0, .ref s1c])), (s2, .inr (9, [.int 0, .int 0, .int 0, .ref s2c])), (s3, .inr (9, [.int 0, .int 0, .int 0, .ref s3c]))] 0 0
  refine ww_iload_n C dX11_read_0 1 rfl rfl ?_
  refine ww_iconst (v := 0) C dX11_read_1 rfl ?_
  refine ww_iconst (v := 3) C dX11_read_2 rfl ?_
  refine ww_ci (wr := [(hx, .inr (11, [.ref qn, .ref qp, .int 0, .int 0, .ref qs, .ref qj, .ref ql, .ref qh, .ref qk, .int 0, .ref qr, .ref qg, .int 0, .int 0, .ref qsh])), (qsh, .inl (E.2.1 8, 4, .inr (.inr (.inr (.inr fs))))), (s0, .inr (9, [.int 0, .int 0, .int 0, .ref s0c])), (s1, .inr (9, [.int 0, .int 0, .int 0, .ref s1c])), (s2, .inr (9, [.int 0, .int 0, .int 0, .ref s2c])), (s3, .inr (9, [.int 0, .int 0, .int 0, .ref s3c]))]) (k' := 0) (n' := 0) C (run_S (As := [.int p0, .int 0, .int 3]) (rest := []) C (c_within X.2.1 E p0 0 3 p0.toInt 0 3 rfl rfl rfl) ms_X11_within wl_X11_76 rfl rfl rfl rfl dX11_read_3) [] [0, 1, 2, 3, 4, 5] rfl rfl rfl rfl (fun r u hw => ?_)
  rcases hw with ⟨rfl, rfl, h_1, h_2⟩ | ⟨rfl, rfl, h_3⟩
  · refine ww_eq (ws' := [(hx, .inr (11, [.ref qn, .ref qp, .int 0, .int 0, .ref qs, .ref qj, .ref ql, .ref qh, .ref qk, .int 0, .ref qr, .ref qg, .int 0, .int 0, .ref qsh])), (qsh, .inl (E.2.1 8, 4, .inr (.inr (.inr (.inr fs))))), (s0, .inr (9, [.int 0, .int 0, .int 0, .ref s0c])), (s1, .inr (9, [.int 0, .int 0, .int 0, .ref s1c])), (s2, .inr (9, [.int 0, .int 0, .int 0, .ref s2c])), (s3, .inr (9, [.int 0, .int 0, .int 0, .ref s3c]))]) ?_ rfl rfl rfl
    refine ww_if_eq_f (tgt := 29) C dX11_read_6 (by decide) (by decide) ?_
    refine ww_iload_n C dX11_read_9 2 rfl rfl ?_
    refine ww_iconst (v := 0) C dX11_read_10 rfl ?_
    refine ww_iconst (v := 2) C dX11_read_11 rfl ?_
    refine ww_ci (wr := [(hx, .inr (11, [.ref qn, .ref qp, .int 0, .int 0, .ref qs, .ref qj, .ref ql, .ref qh, .ref qk, .int 0, .ref qr, .ref qg, .int 0, .int 0, .ref qsh])), (qsh, .inl (E.2.1 8, 4, .inr (.inr (.inr (.inr fs))))), (s0, .inr (9, [.int 0, .int 0, .int 0, .ref s0c])), (s1, .inr (9, [.int 0, .int 0, .int 0, .ref s1c])), (s2, .inr (9, [.int 0, .int 0, .int 0, .ref s2c])), (s3, .inr (9, [.int 0, .int 0, .int 0, .ref s3c]))]) (k' := 0) (n' := 0) C (run_S (As := [.int p1, .int 0, .int 2]) (rest := []) C (c_within X.2.1 E p1 0 2 p1.toInt 0 2 rfl rfl rfl) ms_X11_within wl_X11_76 rfl rfl rfl rfl dX11_read_12) [] [0, 1, 2, 3, 4, 5] rfl rfl rfl rfl (fun r u hw => ?_)
    rcases hw with ⟨rfl, rfl, h_4, h_5⟩ | ⟨rfl, rfl, h_6⟩
    · refine ww_eq (ws' := [(hx, .inr (11, [.ref qn, .ref qp, .int 0, .int 0, .ref qs, .ref qj, .ref ql, .ref qh, .ref qk, .int 0, .ref qr, .ref qg, .int 0, .int 0, .ref qsh])), (qsh, .inl (E.2.1 8, 4, .inr (.inr (.inr (.inr fs))))), (s0, .inr (9, [.int 0, .int 0, .int 0, .ref s0c])), (s1, .inr (9, [.int 0, .int 0, .int 0, .ref s1c])), (s2, .inr (9, [.int 0, .int 0, .int 0, .ref s2c])), (s3, .inr (9, [.int 0, .int 0, .int 0, .ref s3c]))]) ?_ rfl rfl rfl
      refine ww_if_eq_f (tgt := 29) C dX11_read_15 (by decide) (by decide) ?_
      refine ww_iload C dX11_read_18 4 rfl ?_
      refine ww_iconst (v := 0) C dX11_read_20 rfl ?_
      refine ww_bipush (v := 24) C dX11_read_21 rfl ?_
      refine ww_ci (wr := [(hx, .inr (11, [.ref qn, .ref qp, .int 0, .int 0, .ref qs, .ref qj, .ref ql, .ref qh, .ref qk, .int 0, .ref qr, .ref qg, .int 0, .int 0, .ref qsh])), (qsh, .inl (E.2.1 8, 4, .inr (.inr (.inr (.inr fs))))), (s0, .inr (9, [.int 0, .int 0, .int 0, .ref s0c])), (s1, .inr (9, [.int 0, .int 0, .int 0, .ref s1c])), (s2, .inr (9, [.int 0, .int 0, .int 0, .ref s2c])), (s3, .inr (9, [.int 0, .int 0, .int 0, .ref s3c]))]) (k' := 0) (n' := 0) C (run_S (As := [.int p3, .int 0, .int 24]) (rest := []) C (c_within X.2.1 E p3 0 24 p3.toInt 0 24 rfl rfl rfl) ms_X11_within wl_X11_76 rfl rfl rfl rfl dX11_read_23) [] [0, 1, 2, 3, 4, 5] rfl rfl rfl rfl (fun r u hw => ?_)
      rcases hw with ⟨rfl, rfl, h_7, h_8⟩ | ⟨rfl, rfl, h_9⟩
      · refine ww_eq (ws' := [(hx, .inr (11, [.ref qn, .ref qp, .int 0, .int 0, .ref qs, .ref qj, .ref ql, .ref qh, .ref qk, .int 0, .ref qr, .ref qg, .int 0, .int 0, .ref qsh])), (qsh, .inl (E.2.1 8, 4, .inr (.inr (.inr (.inr fs))))), (s0, .inr (9, [.int 0, .int 0, .int 0, .ref s0c])), (s1, .inr (9, [.int 0, .int 0, .int 0, .ref s1c])), (s2, .inr (9, [.int 0, .int 0, .int 0, .ref s2c])), (s3, .inr (9, [.int 0, .int 0, .int 0, .ref s3c]))]) ?_ rfl rfl rfl
        refine ww_if_ne_t (tgt := 31) C dX11_read_26 (by decide) (by decide) ?_
        refine ww_aload_n C dX11_read_31 0 rfl rfl ?_
        refine ww_get C fg_X11_71 0 rfl rfl dX11_read_32 ?_
        refine ww_iload_n C dX11_read_35 1 rfl rfl ?_
        rcases sp_0_3 (x := p0) (by omega) (by omega) with rfl | rfl | rfl | rfl
        · refine ww_ald (v := (some s0)) (t0 := 8) C 1 rfl rfl (vin rfl) k_fs_0 dX11_read_36 ?_
          refine ww_eq (st' := [.ref s0]) ?_ rfl rfl rfl
          refine ww_iload_n C dX11_read_37 2 rfl rfl ?_
          refine ww_iload_n C dX11_read_38 3 rfl rfl ?_
          refine ww_iload C dX11_read_39 4 rfl ?_
          refine ww_ci (wr := [(hx, .inr (11, [.ref qn, .ref qp, .int 0, .int 0, .ref qs, .ref qj, .ref ql, .ref qh, .ref qk, .int 0, .ref qr, .ref qg, .int 0, .int 0, .ref qsh])), (qsh, .inl (E.2.1 8, 4, .inr (.inr (.inr (.inr fs))))), (s1, .inr (9, [.int 0, .int 0, .int 0, .ref s1c])), (s2, .inr (9, [.int 0, .int 0, .int 0, .ref s2c])), (s3, .inr (9, [.int 0, .int 0, .int 0, .ref s3c]))]) (k' := 0) (n' := 0) C (run_V (As := [.int p1, .int p2, .int p3]) (rest := []) C (c_check X.2.1 E s0 p1 p2 p3 s0c) mi_X9_check wl_X11_346 rfl 0 9 rfl rfl rfl rfl rfl dX11_read_41) [2] [0, 1, 3, 4, 5] rfl rfl rfl rfl (fun r u hw => ?_)
          obtain ⟨rfl, rfl⟩ := hw
          refine ww_eq (ws' := [(hx, .inr (11, [.ref qn, .ref qp, .int 0, .int 0, .ref qs, .ref qj, .ref ql, .ref qh, .ref qk, .int 0, .ref qr, .ref qg, .int 0, .int 0, .ref qsh])), (qsh, .inl (E.2.1 8, 4, .inr (.inr (.inr (.inr fs))))), (s1, .inr (9, [.int 0, .int 0, .int 0, .ref s1c])), (s2, .inr (9, [.int 0, .int 0, .int 0, .ref s2c])), (s3, .inr (9, [.int 0, .int 0, .int 0, .ref s3c]))]) ?_ rfl rfl rfl
          refine ww_istore (lv' := [(5, .int (-11)), (0, .ref hx), (1, .int 0), (2, .int p1), (3, .int p2), (4, .int p3)]) C dX11_read_44 rfl rfl ?_
          refine ww_iload C dX11_read_46 0 rfl ?_
          refine ww_if_ge_f (tgt := 54) C dX11_read_48 (by decide) (by decide) ?_
          refine ww_iload C dX11_read_51 0 rfl ?_
          exact ww_iret (u := []) C hT [] rfl rfl rfl rfl dX11_read_53 (Or.inr ⟨rfl, rfl, (by first | assumption | omega | decide), (by first | assumption | omega | decide), (by first | assumption | omega | decide), (by first | assumption | omega | decide), (by first | assumption | omega | decide), (by first | assumption | omega | decide)⟩)
        · refine ww_ald (v := (some s1)) (t0 := 8) C 1 rfl rfl (vin rfl) k_fs_1 dX11_read_36 ?_
          refine ww_eq (st' := [.ref s1]) ?_ rfl rfl rfl
          refine ww_iload_n C dX11_read_37 2 rfl rfl ?_
          refine ww_iload_n C dX11_read_38 3 rfl rfl ?_
          refine ww_iload C dX11_read_39 4 rfl ?_
          refine ww_ci (wr := [(hx, .inr (11, [.ref qn, .ref qp, .int 0, .int 0, .ref qs, .ref qj, .ref ql, .ref qh, .ref qk, .int 0, .ref qr, .ref qg, .int 0, .int 0, .ref qsh])), (qsh, .inl (E.2.1 8, 4, .inr (.inr (.inr (.inr fs))))), (s0, .inr (9, [.int 0, .int 0, .int 0, .ref s0c])), (s2, .inr (9, [.int 0, .int 0, .int 0, .ref s2c])), (s3, .inr (9, [.int 0, .int 0, .int 0, .ref s3c]))]) (k' := 0) (n' := 0) C (run_V (As := [.int p1, .int p2, .int p3]) (rest := []) C (c_check X.2.1 E s1 p1 p2 p3 s1c) mi_X9_check wl_X11_346 rfl 0 9 rfl rfl rfl rfl rfl dX11_read_41) [3] [0, 1, 2, 4, 5] rfl rfl rfl rfl (fun r u hw => ?_)
          obtain ⟨rfl, rfl⟩ := hw
          refine ww_eq (ws' := [(hx, .inr (11, [.ref qn, .ref qp, .int 0, .int 0, .ref qs, .ref qj, .ref ql, .ref qh, .ref qk, .int 0, .ref qr, .ref qg, .int 0, .int 0, .ref qsh])), (qsh, .inl (E.2.1 8, 4, .inr (.inr (.inr (.inr fs))))), (s0, .inr (9, [.int 0, .int 0, .int 0, .ref s0c])), (s2, .inr (9, [.int 0, .int 0, .int 0, .ref s2c])), (s3, .inr (9, [.int 0, .int 0, .int 0, .ref s3c]))]) ?_ rfl rfl rfl
          refine ww_istore (lv' := [(5, .int (-11)), (0, .ref hx), (1, .int 1), (2, .int p1), (3, .int p2), (4, .int p3)]) C dX11_read_44 rfl rfl ?_
          refine ww_iload C dX11_read_46 0 rfl ?_
          refine ww_if_ge_f (tgt := 54) C dX11_read_48 (by decide) (by decide) ?_
          refine ww_iload C dX11_read_51 0 rfl ?_
          exact ww_iret (u := []) C hT [] rfl rfl rfl rfl dX11_read_53 (Or.inr ⟨rfl, rfl, (by first | assumption | omega | decide), (by first | assumption | omega | decide), (by first | assumption | omega | decide), (by first | assumption | omega | decide), (by first | assumption | omega | decide), (by first | assumption | omega | decide)⟩)
        · refine ww_ald (v := (some s2)) (t0 := 8) C 1 rfl rfl (vin rfl) k_fs_2 dX11_read_36 ?_
          refine ww_eq (st' := [.ref s2]) ?_ rfl rfl rfl
          refine ww_iload_n C dX11_read_37 2 rfl rfl ?_
          refine ww_iload_n C dX11_read_38 3 rfl rfl ?_
          refine ww_iload C dX11_read_39 4 rfl ?_
          refine ww_ci (wr := [(hx, .inr (11, [.ref qn, .ref qp, .int 0, .int 0, .ref qs, .ref qj, .ref ql, .ref qh, .ref qk, .int 0, .ref qr, .ref qg, .int 0, .int 0, .ref qsh])), (qsh, .inl (E.2.1 8, 4, .inr (.inr (.inr (.inr fs))))), (s0, .inr (9, [.int 0, .int 0, .int 0, .ref s0c])), (s1, .inr (9, [.int 0, .int 0, .int 0, .ref s1c])), (s3, .inr (9, [.int 0, .int 0, .int 0, .ref s3c]))]) (k' := 0) (n' := 0) C (run_V (As := [.int p1, .int p2, .int p3]) (rest := []) C (c_check X.2.1 E s2 p1 p2 p3 s2c) mi_X9_check wl_X11_346 rfl 0 9 rfl rfl rfl rfl rfl dX11_read_41) [4] [0, 1, 2, 3, 5] rfl rfl rfl rfl (fun r u hw => ?_)
          obtain ⟨rfl, rfl⟩ := hw
          refine ww_eq (ws' := [(hx, .inr (11, [.ref qn, .ref qp, .int 0, .int 0, .ref qs, .ref qj, .ref ql, .ref qh, .ref qk, .int 0, .ref qr, .ref qg, .int 0, .int 0, .ref qsh])), (qsh, .inl (E.2.1 8, 4, .inr (.inr (.inr (.inr fs))))), (s0, .inr (9, [.int 0, .int 0, .int 0, .ref s0c])), (s1, .inr (9, [.int 0, .int 0, .int 0, .ref s1c])), (s3, .inr (9, [.int 0, .int 0, .int 0, .ref s3c]))]) ?_ rfl rfl rfl
          refine ww_istore (lv' := [(5, .int (-11)), (0, .ref hx), (1, .int 2), (2, .int p1), (3, .int p2), (4, .int p3)]) C dX11_read_44 rfl rfl ?_
          refine ww_iload C dX11_read_46 0 rfl ?_
          refine ww_if_ge_f (tgt := 54) C dX11_read_48 (by decide) (by decide) ?_
          refine ww_iload C dX11_read_51 0 rfl ?_
          exact ww_iret (u := []) C hT [] rfl rfl rfl rfl dX11_read_53 (Or.inr ⟨rfl, rfl, (by first | assumption | omega | decide), (by first | assumption | omega | decide), (by first | assumption | omega | decide), (by first | assumption | omega | decide), (by first | assumption | omega | decide), (by first | assumption | omega | decide)⟩)
        · refine ww_ald (v := (some s3)) (t0 := 8) C 1 rfl rfl (vin rfl) k_fs_3 dX11_read_36 ?_
          refine ww_eq (st' := [.ref s3]) ?_ rfl rfl rfl
          refine ww_iload_n C dX11_read_37 2 rfl rfl ?_
          refine ww_iload_n C dX11_read_38 3 rfl rfl ?_
          refine ww_iload C dX11_read_39 4 rfl ?_
          refine ww_ci (wr := [(hx, .inr (11, [.ref qn, .ref qp, .int 0, .int 0, .ref qs, .ref qj, .ref ql, .ref qh, .ref qk, .int 0, .ref qr, .ref qg, .int 0, .int 0, .ref qsh])), (qsh, .inl (E.2.1 8, 4, .inr (.inr (.inr (.inr fs))))), (s0, .inr (9, [.int 0, .int 0, .int 0, .ref s0c])), (s1, .inr (9, [.int 0, .int 0, .int 0, .ref s1c])), (s2, .inr (9, [.int 0, .int 0, .int 0, .ref s2c]))]) (k' := 0) (n' := 0) C (run_V (As := [.int p1, .int p2, .int p3]) (rest := []) C (c_check X.2.1 E s3 p1 p2 p3 s3c) mi_X9_check wl_X11_346 rfl 0 9 rfl rfl rfl rfl rfl dX11_read_41) [5] [0, 1, 2, 3, 4] rfl rfl rfl rfl (fun r u hw => ?_)
          obtain ⟨rfl, rfl⟩ := hw
          refine ww_eq (ws' := [(hx, .inr (11, [.ref qn, .ref qp, .int 0, .int 0, .ref qs, .ref qj, .ref ql, .ref qh, .ref qk, .int 0, .ref qr, .ref qg, .int 0, .int 0, .ref qsh])), (qsh, .inl (E.2.1 8, 4, .inr (.inr (.inr (.inr fs))))), (s0, .inr (9, [.int 0, .int 0, .int 0, .ref s0c])), (s1, .inr (9, [.int 0, .int 0, .int 0, .ref s1c])), (s2, .inr (9, [.int 0, .int 0, .int 0, .ref s2c]))]) ?_ rfl rfl rfl
          refine ww_istore (lv' := [(5, .int (-11)), (0, .ref hx), (1, .int 3), (2, .int p1), (3, .int p2), (4, .int p3)]) C dX11_read_44 rfl rfl ?_
          refine ww_iload C dX11_read_46 0 rfl ?_
          refine ww_if_ge_f (tgt := 54) C dX11_read_48 (by decide) (by decide) ?_
          refine ww_iload C dX11_read_51 0 rfl ?_
          exact ww_iret (u := []) C hT [] rfl rfl rfl rfl dX11_read_53 (Or.inr ⟨rfl, rfl, (by first | assumption | omega | decide), (by first | assumption | omega | decide), (by first | assumption | omega | decide), (by first | assumption | omega | decide), (by first | assumption | omega | decide), (by first | assumption | omega | decide)⟩)
      · refine ww_eq (ws' := [(hx, .inr (11, [.ref qn, .ref qp, .int 0, .int 0, .ref qs, .ref qj, .ref ql, .ref qh, .ref qk, .int 0, .ref qr, .ref qg, .int 0, .int 0, .ref qsh])), (qsh, .inl (E.2.1 8, 4, .inr (.inr (.inr (.inr fs))))), (s0, .inr (9, [.int 0, .int 0, .int 0, .ref s0c])), (s1, .inr (9, [.int 0, .int 0, .int 0, .ref s1c])), (s2, .inr (9, [.int 0, .int 0, .int 0, .ref s2c])), (s3, .inr (9, [.int 0, .int 0, .int 0, .ref s3c]))]) ?_ rfl rfl rfl
        refine ww_if_ne_f (tgt := 31) C dX11_read_26 (by decide) (rfl) ?_
        refine ww_iconst (v := (-1)) C dX11_read_29 rfl ?_
        exact ww_iret (u := []) C hT [] rfl rfl rfl rfl dX11_read_30 (Or.inl ⟨rfl, rfl, (by first | assumption | omega | decide)⟩)
    · refine ww_eq (ws' := [(hx, .inr (11, [.ref qn, .ref qp, .int 0, .int 0, .ref qs, .ref qj, .ref ql, .ref qh, .ref qk, .int 0, .ref qr, .ref qg, .int 0, .int 0, .ref qsh])), (qsh, .inl (E.2.1 8, 4, .inr (.inr (.inr (.inr fs))))), (s0, .inr (9, [.int 0, .int 0, .int 0, .ref s0c])), (s1, .inr (9, [.int 0, .int 0, .int 0, .ref s1c])), (s2, .inr (9, [.int 0, .int 0, .int 0, .ref s2c])), (s3, .inr (9, [.int 0, .int 0, .int 0, .ref s3c]))]) ?_ rfl rfl rfl
      refine ww_if_eq_t (tgt := 29) C dX11_read_15 (by decide) (rfl) ?_
      refine ww_iconst (v := (-1)) C dX11_read_29 rfl ?_
      exact ww_iret (u := []) C hT [] rfl rfl rfl rfl dX11_read_30 (Or.inl ⟨rfl, rfl, (by first | assumption | omega | decide)⟩)
  · refine ww_eq (ws' := [(hx, .inr (11, [.ref qn, .ref qp, .int 0, .int 0, .ref qs, .ref qj, .ref ql, .ref qh, .ref qk, .int 0, .ref qr, .ref qg, .int 0, .int 0, .ref qsh])), (qsh, .inl (E.2.1 8, 4, .inr (.inr (.inr (.inr fs))))), (s0, .inr (9, [.int 0, .int 0, .int 0, .ref s0c])), (s1, .inr (9, [.int 0, .int 0, .int 0, .ref s1c])), (s2, .inr (9, [.int 0, .int 0, .int 0, .ref s2c])), (s3, .inr (9, [.int 0, .int 0, .int 0, .ref s3c]))]) ?_ rfl rfl rfl
    refine ww_if_eq_t (tgt := 29) C dX11_read_6 (by decide) (rfl) ?_
    refine ww_iconst (v := (-1)) C dX11_read_29 rfl ?_
    exact ww_iret (u := []) C hT [] rfl rfl rfl rfl dX11_read_30 (Or.inl ⟨rfl, rfl, (by first | assumption | omega | decide)⟩)
theorem dX11_undo_0 : decode cX11_undo 0 = .ok (.aload_n 0, 1) := by decide +kernel
theorem dX11_undo_1 : decode cX11_undo 1 = .ok (.getfield 116, 3) := by decide +kernel
theorem dX11_undo_4 : decode cX11_undo 4 = .ok (.ifCond .ne 6, 3) := by decide +kernel
theorem dX11_undo_7 : decode cX11_undo 7 = .ok (.bipush (-4), 2) := by decide +kernel
theorem dX11_undo_9 : decode cX11_undo 9 = .ok (.ireturn, 1) := by decide +kernel
set_option maxRecDepth 100000 in
set_option maxHeartbeats 4000000 in
theorem x_undo (l : Launch) (E : EV) (hx : Nat) (qn : Nat) (qp : Nat) (qs : Nat) (qj : Nat) (ql : Nat) (qh : Nat) (qk : Nat) (qr : Nat) (qg : Nat) (qsh : Nat)  : CT l yX11_undo (Cond.code yX11_undo cX11_undo 1 (some .int) :: TB) ({ frames := 0, cells := 0, slots := 0, locals := 0 }) E [.ref hx] [(hx, .inr (11, [.ref qn, .ref qp, .int 0, .int 0, .ref qs, .ref qj, .ref ql, .ref qh, .ref qk, .int 0, .ref qr, .ref qg, .int 0, .int 0, .ref qsh]))] (Qi E (fun (r : Int32) u => (r = (-4) ∧ u = []))) 0 0 := by
  refine ct_of rfl rfl ?_
  intro X C hT hin
  show WW X 1 E 0 [(0, .ref hx)] [] [(hx, .inr (11, [.ref qn, .ref qp, .int 0, .int 0, .ref qs, .ref qj, .ref ql, .ref qh, .ref qk, .int 0, .ref qr, .ref qg, .int 0, .int 0, .ref qsh]))] 0 0
  refine ww_aload_n C dX11_undo_0 0 rfl rfl ?_
  refine ww_get C fg_X11_116 0 rfl rfl dX11_undo_1 ?_
  refine ww_if_ne_f (tgt := 10) C dX11_undo_4 (by decide) (rfl) ?_
  refine ww_bipush (v := (-4)) C dX11_undo_7 rfl ?_
  exact ww_iret (u := []) C hT [] rfl rfl rfl rfl dX11_undo_9 (⟨rfl, rfl⟩)
theorem dX11_toldSayings_0 : decode cX11_toldSayings 0 = .ok (.iconst 0, 1) := by decide +kernel
theorem dX11_toldSayings_1 : decode cX11_toldSayings 1 = .ok (.istore_n 1, 1) := by decide +kernel
theorem dX11_toldSayings_2 : decode cX11_toldSayings 2 = .ok (.iconst 0, 1) := by decide +kernel
theorem dX11_toldSayings_3 : decode cX11_toldSayings 3 = .ok (.istore_n 2, 1) := by decide +kernel
theorem dX11_toldSayings_4 : decode cX11_toldSayings 4 = .ok (.iload_n 2, 1) := by decide +kernel
theorem dX11_toldSayings_5 : decode cX11_toldSayings 5 = .ok (.bipush 8, 2) := by decide +kernel
theorem dX11_toldSayings_7 : decode cX11_toldSayings 7 = .ok (.if_icmp .ge 20, 3) := by decide +kernel
theorem dX11_toldSayings_10 : decode cX11_toldSayings 10 = .ok (.aload_n 0, 1) := by decide +kernel
theorem dX11_toldSayings_11 : decode cX11_toldSayings 11 = .ok (.iload_n 2, 1) := by decide +kernel
theorem dX11_toldSayings_12 : decode cX11_toldSayings 12 = .ok (.invokevirtual 98, 3) := by decide +kernel
theorem dX11_toldSayings_15 : decode cX11_toldSayings 15 = .ok (.ifCond .eq 6, 3) := by decide +kernel
theorem dX11_toldSayings_21 : decode cX11_toldSayings 21 = .ok (.iinc 2 1, 3) := by decide +kernel
theorem dX11_toldSayings_24 : decode cX11_toldSayings 24 = .ok (.goto (-20), 3) := by decide +kernel
theorem dX11_toldSayings_27 : decode cX11_toldSayings 27 = .ok (.iload_n 1, 1) := by decide +kernel
theorem dX11_toldSayings_28 : decode cX11_toldSayings 28 = .ok (.ireturn, 1) := by decide +kernel
set_option maxRecDepth 100000 in
set_option maxHeartbeats 4000000 in
theorem c_toldSayings (l : Launch) (E : EV) (hx : Nat) (qn : Nat) (qp : Nat) (qs : Nat) (qj : Nat) (ql : Nat) (qh : Nat) (qk : Nat) (qr : Nat) (qg : Nat) (qsh : Nat) (jt : Nat) (je : Nat) (ju : Nat) (ja : Nat)  : CT l yX11_toldSayings (Cond.code yX11_toldSayings cX11_toldSayings 3 (some .int) :: TB) ({ frames := 2, cells := 0, slots := 0, locals := 43 }) E [.ref hx] [(hx, .inr (11, [.ref qn, .ref qp, .int 0, .int 0, .ref qs, .ref qj, .ref ql, .ref qh, .ref qk, .int 0, .ref qr, .ref qg, .int 0, .int 0, .ref qsh])), (qj, .inr (2, [.ref jt, .ref je, .ref ju, .ref ja])), (jt, .inl (E.2.1 7, 8, .inr (.inr (.inr (.inr (fun _ => none))))))] (Qi E (fun (r : Int32) u => (r = 0 ∧ u = []))) 0 0 := by
  refine ct_of rfl rfl ?_
  intro X C hT hin
  show WW X 3 E 0 [(0, .ref hx)] [] [(hx, .inr (11, [.ref qn, .ref qp, .int 0, .int 0, .ref qs, .ref qj, .ref ql, .ref qh, .ref qk, .int 0, .ref qr, .ref qg, .int 0, .int 0, .ref qsh])), (qj, .inr (2, [.ref jt, .ref je, .ref ju, .ref ja])), (jt, .inl (E.2.1 7, 8, .inr (.inr (.inr (.inr (fun _ => none))))))] 0 0
  refine ww_iconst (v := 0) C dX11_toldSayings_0 rfl ?_
  refine ww_istore_n (lv' := [(1, .int 0), (0, .ref hx)]) C dX11_toldSayings_1 rfl rfl rfl ?_
  refine ww_iconst (v := 0) C dX11_toldSayings_2 rfl ?_
  refine ww_istore_n (lv' := [(2, .int 0), (1, .int 0), (0, .ref hx)]) C dX11_toldSayings_3 rfl rfl rfl ?_
  refine ww_iload_n C dX11_toldSayings_4 0 rfl rfl ?_
  refine ww_bipush (v := 8) C dX11_toldSayings_5 rfl ?_
  refine ww_icmp_ge_f (tgt := 27) C dX11_toldSayings_7 (by decide) (by decide) ?_
  refine ww_aload_n C dX11_toldSayings_10 2 rfl rfl ?_
  refine ww_iload_n C dX11_toldSayings_11 0 rfl rfl ?_
  refine ww_ci (wr := []) (k' := 0) (n' := 0) C (run_V (As := [.int 0]) (rest := []) C (c_isTold X.2.1 E hx 0 qn qp qs qj ql qh qk qr qg qsh jt je ju ja) mi_X11_isTold wl_X11_98 rfl 0 11 rfl rfl rfl rfl rfl dX11_toldSayings_12) [0, 1, 2] [] rfl rfl rfl rfl (fun r u hw => ?_)
  obtain ⟨rfl, rfl⟩ := hw
  refine ww_eq (ws' := [(hx, .inr (11, [.ref qn, .ref qp, .int 0, .int 0, .ref qs, .ref qj, .ref ql, .ref qh, .ref qk, .int 0, .ref qr, .ref qg, .int 0, .int 0, .ref qsh])), (qj, .inr (2, [.ref jt, .ref je, .ref ju, .ref ja])), (jt, .inl (E.2.1 7, 8, .inr (.inr (.inr (.inr (fun _ => none))))))]) ?_ rfl rfl rfl
  refine ww_if_eq_t (tgt := 21) C dX11_toldSayings_15 (by decide) (rfl) ?_
  refine ww_iinc (j := 0) (v := 1) (lv' := [(2, .int 1), (1, .int 0), (0, .ref hx)]) C dX11_toldSayings_21 rfl rfl rfl rfl ?_
  refine ww_goto (tgt := 4) C dX11_toldSayings_24 (by decide) ?_
  refine ww_iload_n C dX11_toldSayings_4 0 rfl rfl ?_
  refine ww_bipush (v := 8) C dX11_toldSayings_5 rfl ?_
  refine ww_icmp_ge_f (tgt := 27) C dX11_toldSayings_7 (by decide) (by decide) ?_
  refine ww_aload_n C dX11_toldSayings_10 2 rfl rfl ?_
  refine ww_iload_n C dX11_toldSayings_11 0 rfl rfl ?_
  refine ww_ci (wr := []) (k' := 0) (n' := 0) C (run_V (As := [.int 1]) (rest := []) C (c_isTold X.2.1 E hx 1 qn qp qs qj ql qh qk qr qg qsh jt je ju ja) mi_X11_isTold wl_X11_98 rfl 0 11 rfl rfl rfl rfl rfl dX11_toldSayings_12) [0, 1, 2] [] rfl rfl rfl rfl (fun r u hw => ?_)
  obtain ⟨rfl, rfl⟩ := hw
  refine ww_eq (ws' := [(hx, .inr (11, [.ref qn, .ref qp, .int 0, .int 0, .ref qs, .ref qj, .ref ql, .ref qh, .ref qk, .int 0, .ref qr, .ref qg, .int 0, .int 0, .ref qsh])), (qj, .inr (2, [.ref jt, .ref je, .ref ju, .ref ja])), (jt, .inl (E.2.1 7, 8, .inr (.inr (.inr (.inr (fun _ => none))))))]) ?_ rfl rfl rfl
  refine ww_if_eq_t (tgt := 21) C dX11_toldSayings_15 (by decide) (rfl) ?_
  refine ww_iinc (j := 0) (v := 2) (lv' := [(2, .int 2), (1, .int 0), (0, .ref hx)]) C dX11_toldSayings_21 rfl rfl rfl rfl ?_
  refine ww_goto (tgt := 4) C dX11_toldSayings_24 (by decide) ?_
  refine ww_iload_n C dX11_toldSayings_4 0 rfl rfl ?_
  refine ww_bipush (v := 8) C dX11_toldSayings_5 rfl ?_
  refine ww_icmp_ge_f (tgt := 27) C dX11_toldSayings_7 (by decide) (by decide) ?_
  refine ww_aload_n C dX11_toldSayings_10 2 rfl rfl ?_
  refine ww_iload_n C dX11_toldSayings_11 0 rfl rfl ?_
  refine ww_ci (wr := []) (k' := 0) (n' := 0) C (run_V (As := [.int 2]) (rest := []) C (c_isTold X.2.1 E hx 2 qn qp qs qj ql qh qk qr qg qsh jt je ju ja) mi_X11_isTold wl_X11_98 rfl 0 11 rfl rfl rfl rfl rfl dX11_toldSayings_12) [0, 1, 2] [] rfl rfl rfl rfl (fun r u hw => ?_)
  obtain ⟨rfl, rfl⟩ := hw
  refine ww_eq (ws' := [(hx, .inr (11, [.ref qn, .ref qp, .int 0, .int 0, .ref qs, .ref qj, .ref ql, .ref qh, .ref qk, .int 0, .ref qr, .ref qg, .int 0, .int 0, .ref qsh])), (qj, .inr (2, [.ref jt, .ref je, .ref ju, .ref ja])), (jt, .inl (E.2.1 7, 8, .inr (.inr (.inr (.inr (fun _ => none))))))]) ?_ rfl rfl rfl
  refine ww_if_eq_t (tgt := 21) C dX11_toldSayings_15 (by decide) (rfl) ?_
  refine ww_iinc (j := 0) (v := 3) (lv' := [(2, .int 3), (1, .int 0), (0, .ref hx)]) C dX11_toldSayings_21 rfl rfl rfl rfl ?_
  refine ww_goto (tgt := 4) C dX11_toldSayings_24 (by decide) ?_
  refine ww_iload_n C dX11_toldSayings_4 0 rfl rfl ?_
  refine ww_bipush (v := 8) C dX11_toldSayings_5 rfl ?_
  refine ww_icmp_ge_f (tgt := 27) C dX11_toldSayings_7 (by decide) (by decide) ?_
  refine ww_aload_n C dX11_toldSayings_10 2 rfl rfl ?_
  refine ww_iload_n C dX11_toldSayings_11 0 rfl rfl ?_
  refine ww_ci (wr := []) (k' := 0) (n' := 0) C (run_V (As := [.int 3]) (rest := []) C (c_isTold X.2.1 E hx 3 qn qp qs qj ql qh qk qr qg qsh jt je ju ja) mi_X11_isTold wl_X11_98 rfl 0 11 rfl rfl rfl rfl rfl dX11_toldSayings_12) [0, 1, 2] [] rfl rfl rfl rfl (fun r u hw => ?_)
  obtain ⟨rfl, rfl⟩ := hw
  refine ww_eq (ws' := [(hx, .inr (11, [.ref qn, .ref qp, .int 0, .int 0, .ref qs, .ref qj, .ref ql, .ref qh, .ref qk, .int 0, .ref qr, .ref qg, .int 0, .int 0, .ref qsh])), (qj, .inr (2, [.ref jt, .ref je, .ref ju, .ref ja])), (jt, .inl (E.2.1 7, 8, .inr (.inr (.inr (.inr (fun _ => none))))))]) ?_ rfl rfl rfl
  refine ww_if_eq_t (tgt := 21) C dX11_toldSayings_15 (by decide) (rfl) ?_
  refine ww_iinc (j := 0) (v := 4) (lv' := [(2, .int 4), (1, .int 0), (0, .ref hx)]) C dX11_toldSayings_21 rfl rfl rfl rfl ?_
  refine ww_goto (tgt := 4) C dX11_toldSayings_24 (by decide) ?_
  refine ww_iload_n C dX11_toldSayings_4 0 rfl rfl ?_
  refine ww_bipush (v := 8) C dX11_toldSayings_5 rfl ?_
  refine ww_icmp_ge_f (tgt := 27) C dX11_toldSayings_7 (by decide) (by decide) ?_
  refine ww_aload_n C dX11_toldSayings_10 2 rfl rfl ?_
  refine ww_iload_n C dX11_toldSayings_11 0 rfl rfl ?_
  refine ww_ci (wr := []) (k' := 0) (n' := 0) C (run_V (As := [.int 4]) (rest := []) C (c_isTold X.2.1 E hx 4 qn qp qs qj ql qh qk qr qg qsh jt je ju ja) mi_X11_isTold wl_X11_98 rfl 0 11 rfl rfl rfl rfl rfl dX11_toldSayings_12) [0, 1, 2] [] rfl rfl rfl rfl (fun r u hw => ?_)
  obtain ⟨rfl, rfl⟩ := hw
  refine ww_eq (ws' := [(hx, .inr (11, [.ref qn, .ref qp, .int 0, .int 0, .ref qs, .ref qj, .ref ql, .ref qh, .ref qk, .int 0, .ref qr, .ref qg, .int 0, .int 0, .ref qsh])), (qj, .inr (2, [.ref jt, .ref je, .ref ju, .ref ja])), (jt, .inl (E.2.1 7, 8, .inr (.inr (.inr (.inr (fun _ => none))))))]) ?_ rfl rfl rfl
  refine ww_if_eq_t (tgt := 21) C dX11_toldSayings_15 (by decide) (rfl) ?_
  refine ww_iinc (j := 0) (v := 5) (lv' := [(2, .int 5), (1, .int 0), (0, .ref hx)]) C dX11_toldSayings_21 rfl rfl rfl rfl ?_
  refine ww_goto (tgt := 4) C dX11_toldSayings_24 (by decide) ?_
  refine ww_iload_n C dX11_toldSayings_4 0 rfl rfl ?_
  refine ww_bipush (v := 8) C dX11_toldSayings_5 rfl ?_
  refine ww_icmp_ge_f (tgt := 27) C dX11_toldSayings_7 (by decide) (by decide) ?_
  refine ww_aload_n C dX11_toldSayings_10 2 rfl rfl ?_
  refine ww_iload_n C dX11_toldSayings_11 0 rfl rfl ?_
  refine ww_ci (wr := []) (k' := 0) (n' := 0) C (run_V (As := [.int 5]) (rest := []) C (c_isTold X.2.1 E hx 5 qn qp qs qj ql qh qk qr qg qsh jt je ju ja) mi_X11_isTold wl_X11_98 rfl 0 11 rfl rfl rfl rfl rfl dX11_toldSayings_12) [0, 1, 2] [] rfl rfl rfl rfl (fun r u hw => ?_)
  obtain ⟨rfl, rfl⟩ := hw
  refine ww_eq (ws' := [(hx, .inr (11, [.ref qn, .ref qp, .int 0, .int 0, .ref qs, .ref qj, .ref ql, .ref qh, .ref qk, .int 0, .ref qr, .ref qg, .int 0, .int 0, .ref qsh])), (qj, .inr (2, [.ref jt, .ref je, .ref ju, .ref ja])), (jt, .inl (E.2.1 7, 8, .inr (.inr (.inr (.inr (fun _ => none))))))]) ?_ rfl rfl rfl
  refine ww_if_eq_t (tgt := 21) C dX11_toldSayings_15 (by decide) (rfl) ?_
  refine ww_iinc (j := 0) (v := 6) (lv' := [(2, .int 6), (1, .int 0), (0, .ref hx)]) C dX11_toldSayings_21 rfl rfl rfl rfl ?_
  refine ww_goto (tgt := 4) C dX11_toldSayings_24 (by decide) ?_
  refine ww_iload_n C dX11_toldSayings_4 0 rfl rfl ?_
  refine ww_bipush (v := 8) C dX11_toldSayings_5 rfl ?_
  refine ww_icmp_ge_f (tgt := 27) C dX11_toldSayings_7 (by decide) (by decide) ?_
  refine ww_aload_n C dX11_toldSayings_10 2 rfl rfl ?_
  refine ww_iload_n C dX11_toldSayings_11 0 rfl rfl ?_
  refine ww_ci (wr := []) (k' := 0) (n' := 0) C (run_V (As := [.int 6]) (rest := []) C (c_isTold X.2.1 E hx 6 qn qp qs qj ql qh qk qr qg qsh jt je ju ja) mi_X11_isTold wl_X11_98 rfl 0 11 rfl rfl rfl rfl rfl dX11_toldSayings_12) [0, 1, 2] [] rfl rfl rfl rfl (fun r u hw => ?_)
  obtain ⟨rfl, rfl⟩ := hw
  refine ww_eq (ws' := [(hx, .inr (11, [.ref qn, .ref qp, .int 0, .int 0, .ref qs, .ref qj, .ref ql, .ref qh, .ref qk, .int 0, .ref qr, .ref qg, .int 0, .int 0, .ref qsh])), (qj, .inr (2, [.ref jt, .ref je, .ref ju, .ref ja])), (jt, .inl (E.2.1 7, 8, .inr (.inr (.inr (.inr (fun _ => none))))))]) ?_ rfl rfl rfl
  refine ww_if_eq_t (tgt := 21) C dX11_toldSayings_15 (by decide) (rfl) ?_
  refine ww_iinc (j := 0) (v := 7) (lv' := [(2, .int 7), (1, .int 0), (0, .ref hx)]) C dX11_toldSayings_21 rfl rfl rfl rfl ?_
  refine ww_goto (tgt := 4) C dX11_toldSayings_24 (by decide) ?_
  refine ww_iload_n C dX11_toldSayings_4 0 rfl rfl ?_
  refine ww_bipush (v := 8) C dX11_toldSayings_5 rfl ?_
  refine ww_icmp_ge_f (tgt := 27) C dX11_toldSayings_7 (by decide) (by decide) ?_
  refine ww_aload_n C dX11_toldSayings_10 2 rfl rfl ?_
  refine ww_iload_n C dX11_toldSayings_11 0 rfl rfl ?_
  refine ww_ci (wr := []) (k' := 0) (n' := 0) C (run_V (As := [.int 7]) (rest := []) C (c_isTold X.2.1 E hx 7 qn qp qs qj ql qh qk qr qg qsh jt je ju ja) mi_X11_isTold wl_X11_98 rfl 0 11 rfl rfl rfl rfl rfl dX11_toldSayings_12) [0, 1, 2] [] rfl rfl rfl rfl (fun r u hw => ?_)
  obtain ⟨rfl, rfl⟩ := hw
  refine ww_eq (ws' := [(hx, .inr (11, [.ref qn, .ref qp, .int 0, .int 0, .ref qs, .ref qj, .ref ql, .ref qh, .ref qk, .int 0, .ref qr, .ref qg, .int 0, .int 0, .ref qsh])), (qj, .inr (2, [.ref jt, .ref je, .ref ju, .ref ja])), (jt, .inl (E.2.1 7, 8, .inr (.inr (.inr (.inr (fun _ => none))))))]) ?_ rfl rfl rfl
  refine ww_if_eq_t (tgt := 21) C dX11_toldSayings_15 (by decide) (rfl) ?_
  refine ww_iinc (j := 0) (v := 8) (lv' := [(2, .int 8), (1, .int 0), (0, .ref hx)]) C dX11_toldSayings_21 rfl rfl rfl rfl ?_
  refine ww_goto (tgt := 4) C dX11_toldSayings_24 (by decide) ?_
  refine ww_iload_n C dX11_toldSayings_4 0 rfl rfl ?_
  refine ww_bipush (v := 8) C dX11_toldSayings_5 rfl ?_
  refine ww_icmp_ge_t (tgt := 27) C dX11_toldSayings_7 (by decide) (by decide) ?_
  refine ww_iload_n C dX11_toldSayings_27 1 rfl rfl ?_
  exact ww_iret (u := []) C hT [] rfl rfl rfl rfl dX11_toldSayings_28 (⟨rfl, rfl⟩)
theorem dX11_toldEvents_0 : decode cX11_toldEvents 0 = .ok (.iconst 0, 1) := by decide +kernel
theorem dX11_toldEvents_1 : decode cX11_toldEvents 1 = .ok (.istore_n 1, 1) := by decide +kernel
theorem dX11_toldEvents_2 : decode cX11_toldEvents 2 = .ok (.iconst 0, 1) := by decide +kernel
theorem dX11_toldEvents_3 : decode cX11_toldEvents 3 = .ok (.istore_n 2, 1) := by decide +kernel
theorem dX11_toldEvents_4 : decode cX11_toldEvents 4 = .ok (.iload_n 2, 1) := by decide +kernel
theorem dX11_toldEvents_5 : decode cX11_toldEvents 5 = .ok (.iconst 4, 1) := by decide +kernel
theorem dX11_toldEvents_6 : decode cX11_toldEvents 6 = .ok (.if_icmp .ge 20, 3) := by decide +kernel
theorem dX11_toldEvents_9 : decode cX11_toldEvents 9 = .ok (.aload_n 0, 1) := by decide +kernel
theorem dX11_toldEvents_10 : decode cX11_toldEvents 10 = .ok (.iload_n 2, 1) := by decide +kernel
theorem dX11_toldEvents_11 : decode cX11_toldEvents 11 = .ok (.invokevirtual 94, 3) := by decide +kernel
theorem dX11_toldEvents_14 : decode cX11_toldEvents 14 = .ok (.ifCond .eq 6, 3) := by decide +kernel
theorem dX11_toldEvents_20 : decode cX11_toldEvents 20 = .ok (.iinc 2 1, 3) := by decide +kernel
theorem dX11_toldEvents_23 : decode cX11_toldEvents 23 = .ok (.goto (-19), 3) := by decide +kernel
theorem dX11_toldEvents_26 : decode cX11_toldEvents 26 = .ok (.iload_n 1, 1) := by decide +kernel
theorem dX11_toldEvents_27 : decode cX11_toldEvents 27 = .ok (.ireturn, 1) := by decide +kernel
set_option maxRecDepth 100000 in
set_option maxHeartbeats 4000000 in
theorem c_toldEvents (l : Launch) (E : EV) (hx : Nat) (qn : Nat) (qp : Nat) (qs : Nat) (qj : Nat) (ql : Nat) (qh : Nat) (qk : Nat) (qr : Nat) (qg : Nat) (qsh : Nat) (jt : Nat) (je : Nat) (ju : Nat) (ja : Nat) (fe : Nat → Option Nat) (e0 : Nat) (e1 : Nat) (e2 : Nat) (e3 : Nat) (e0a : Nat) (e0b : Nat) (e0c : Nat) (e0d : Nat) (e1a : Nat) (e1b : Nat) (e1c : Nat) (e1d : Nat) (e2a : Nat) (e2b : Nat) (e2c : Nat) (e2d : Nat) (e3a : Nat) (e3b : Nat) (e3c : Nat) (e3d : Nat) (k_fe_0 : fe 0 = some e0) (k_fe_1 : fe 1 = some e1) (k_fe_2 : fe 2 = some e2) (k_fe_3 : fe 3 = some e3) : CT l yX11_toldEvents (Cond.code yX11_toldEvents cX11_toldEvents 3 (some .int) :: TB) ({ frames := 2, cells := 0, slots := 0, locals := 43 }) E [.ref hx] [(hx, .inr (11, [.ref qn, .ref qp, .int 0, .int 0, .ref qs, .ref qj, .ref ql, .ref qh, .ref qk, .int 0, .ref qr, .ref qg, .int 0, .int 0, .ref qsh])), (qj, .inr (2, [.ref jt, .ref je, .ref ju, .ref ja])), (je, .inl (E.2.1 4, 4, .inr (.inr (.inr (.inr fe))))), (e0, .inr (0, [.int 0, .int 0, .ref e0a, .ref e0b, .ref e0c, .ref e0d])), (e1, .inr (0, [.int 0, .int 0, .ref e1a, .ref e1b, .ref e1c, .ref e1d])), (e2, .inr (0, [.int 0, .int 0, .ref e2a, .ref e2b, .ref e2c, .ref e2d])), (e3, .inr (0, [.int 0, .int 0, .ref e3a, .ref e3b, .ref e3c, .ref e3d]))] (Qi E (fun (r : Int32) u => (r = 0 ∧ u = []))) 0 0 := by
  refine ct_of rfl rfl ?_
  intro X C hT hin
  show WW X 3 E 0 [(0, .ref hx)] [] [(hx, .inr (11, [.ref qn, .ref qp, .int 0, .int 0, .ref qs, .ref qj, .ref ql, .ref qh, .ref qk, .int 0, .ref qr, .ref qg, .int 0, .int 0, .ref qsh])), (qj, .inr (2, [.ref jt, .ref je, .ref ju, .ref ja])), (je, .inl (E.2.1 4, 4, .inr (.inr (.inr (.inr fe))))), (e0, .inr (0, [.int 0, .int 0, .ref e0a, .ref e0b, .ref e0c, .ref e0d])), (e1, .inr (0, [.int 0, .int 0, .ref e1a, .ref e1b, .ref e1c, .ref e1d])), (e2, .inr (0, [.int 0, .int 0, .ref e2a, .ref e2b, .ref e2c, .ref e2d])), (e3, .inr (0, [.int 0, .int 0, .ref e3a, .ref e3b, .ref e3c, .ref e3d]))] 0 0
  refine ww_iconst (v := 0) C dX11_toldEvents_0 rfl ?_
  refine ww_istore_n (lv' := [(1, .int 0), (0, .ref hx)]) C dX11_toldEvents_1 rfl rfl rfl ?_
  refine ww_iconst (v := 0) C dX11_toldEvents_2 rfl ?_
  refine ww_istore_n (lv' := [(2, .int 0), (1, .int 0), (0, .ref hx)]) C dX11_toldEvents_3 rfl rfl rfl ?_
  refine ww_iload_n C dX11_toldEvents_4 0 rfl rfl ?_
  refine ww_iconst (v := 4) C dX11_toldEvents_5 rfl ?_
  refine ww_icmp_ge_f (tgt := 26) C dX11_toldEvents_6 (by decide) (by decide) ?_
  refine ww_aload_n C dX11_toldEvents_9 2 rfl rfl ?_
  refine ww_iload_n C dX11_toldEvents_10 0 rfl rfl ?_
  refine ww_ci (wr := []) (k' := 0) (n' := 0) C (run_V (As := [.int 0]) (rest := []) C (c_isEvent X.2.1 E hx 0 qn qp qs qj ql qh qk qr qg qsh jt je ju ja fe e0 e1 e2 e3 e0a e0b e0c e0d e1a e1b e1c e1d e2a e2b e2c e2d e3a e3b e3c e3d k_fe_0 k_fe_1 k_fe_2 k_fe_3) mi_X11_isEvent wl_X11_94 rfl 0 11 rfl rfl rfl rfl rfl dX11_toldEvents_11) [0, 1, 2, 3, 4, 5, 6] [] rfl rfl rfl rfl (fun r u hw => ?_)
  obtain ⟨rfl, rfl⟩ := hw
  refine ww_eq (ws' := [(hx, .inr (11, [.ref qn, .ref qp, .int 0, .int 0, .ref qs, .ref qj, .ref ql, .ref qh, .ref qk, .int 0, .ref qr, .ref qg, .int 0, .int 0, .ref qsh])), (qj, .inr (2, [.ref jt, .ref je, .ref ju, .ref ja])), (je, .inl (E.2.1 4, 4, .inr (.inr (.inr (.inr fe))))), (e0, .inr (0, [.int 0, .int 0, .ref e0a, .ref e0b, .ref e0c, .ref e0d])), (e1, .inr (0, [.int 0, .int 0, .ref e1a, .ref e1b, .ref e1c, .ref e1d])), (e2, .inr (0, [.int 0, .int 0, .ref e2a, .ref e2b, .ref e2c, .ref e2d])), (e3, .inr (0, [.int 0, .int 0, .ref e3a, .ref e3b, .ref e3c, .ref e3d]))]) ?_ rfl rfl rfl
  refine ww_if_eq_t (tgt := 20) C dX11_toldEvents_14 (by decide) (rfl) ?_
  refine ww_iinc (j := 0) (v := 1) (lv' := [(2, .int 1), (1, .int 0), (0, .ref hx)]) C dX11_toldEvents_20 rfl rfl rfl rfl ?_
  refine ww_goto (tgt := 4) C dX11_toldEvents_23 (by decide) ?_
  refine ww_iload_n C dX11_toldEvents_4 0 rfl rfl ?_
  refine ww_iconst (v := 4) C dX11_toldEvents_5 rfl ?_
  refine ww_icmp_ge_f (tgt := 26) C dX11_toldEvents_6 (by decide) (by decide) ?_
  refine ww_aload_n C dX11_toldEvents_9 2 rfl rfl ?_
  refine ww_iload_n C dX11_toldEvents_10 0 rfl rfl ?_
  refine ww_ci (wr := []) (k' := 0) (n' := 0) C (run_V (As := [.int 1]) (rest := []) C (c_isEvent X.2.1 E hx 1 qn qp qs qj ql qh qk qr qg qsh jt je ju ja fe e0 e1 e2 e3 e0a e0b e0c e0d e1a e1b e1c e1d e2a e2b e2c e2d e3a e3b e3c e3d k_fe_0 k_fe_1 k_fe_2 k_fe_3) mi_X11_isEvent wl_X11_94 rfl 0 11 rfl rfl rfl rfl rfl dX11_toldEvents_11) [0, 1, 2, 3, 4, 5, 6] [] rfl rfl rfl rfl (fun r u hw => ?_)
  obtain ⟨rfl, rfl⟩ := hw
  refine ww_eq (ws' := [(hx, .inr (11, [.ref qn, .ref qp, .int 0, .int 0, .ref qs, .ref qj, .ref ql, .ref qh, .ref qk, .int 0, .ref qr, .ref qg, .int 0, .int 0, .ref qsh])), (qj, .inr (2, [.ref jt, .ref je, .ref ju, .ref ja])), (je, .inl (E.2.1 4, 4, .inr (.inr (.inr (.inr fe))))), (e0, .inr (0, [.int 0, .int 0, .ref e0a, .ref e0b, .ref e0c, .ref e0d])), (e1, .inr (0, [.int 0, .int 0, .ref e1a, .ref e1b, .ref e1c, .ref e1d])), (e2, .inr (0, [.int 0, .int 0, .ref e2a, .ref e2b, .ref e2c, .ref e2d])), (e3, .inr (0, [.int 0, .int 0, .ref e3a, .ref e3b, .ref e3c, .ref e3d]))]) ?_ rfl rfl rfl
  refine ww_if_eq_t (tgt := 20) C dX11_toldEvents_14 (by decide) (rfl) ?_
  refine ww_iinc (j := 0) (v := 2) (lv' := [(2, .int 2), (1, .int 0), (0, .ref hx)]) C dX11_toldEvents_20 rfl rfl rfl rfl ?_
  refine ww_goto (tgt := 4) C dX11_toldEvents_23 (by decide) ?_
  refine ww_iload_n C dX11_toldEvents_4 0 rfl rfl ?_
  refine ww_iconst (v := 4) C dX11_toldEvents_5 rfl ?_
  refine ww_icmp_ge_f (tgt := 26) C dX11_toldEvents_6 (by decide) (by decide) ?_
  refine ww_aload_n C dX11_toldEvents_9 2 rfl rfl ?_
  refine ww_iload_n C dX11_toldEvents_10 0 rfl rfl ?_
  refine ww_ci (wr := []) (k' := 0) (n' := 0) C (run_V (As := [.int 2]) (rest := []) C (c_isEvent X.2.1 E hx 2 qn qp qs qj ql qh qk qr qg qsh jt je ju ja fe e0 e1 e2 e3 e0a e0b e0c e0d e1a e1b e1c e1d e2a e2b e2c e2d e3a e3b e3c e3d k_fe_0 k_fe_1 k_fe_2 k_fe_3) mi_X11_isEvent wl_X11_94 rfl 0 11 rfl rfl rfl rfl rfl dX11_toldEvents_11) [0, 1, 2, 3, 4, 5, 6] [] rfl rfl rfl rfl (fun r u hw => ?_)
  obtain ⟨rfl, rfl⟩ := hw
  refine ww_eq (ws' := [(hx, .inr (11, [.ref qn, .ref qp, .int 0, .int 0, .ref qs, .ref qj, .ref ql, .ref qh, .ref qk, .int 0, .ref qr, .ref qg, .int 0, .int 0, .ref qsh])), (qj, .inr (2, [.ref jt, .ref je, .ref ju, .ref ja])), (je, .inl (E.2.1 4, 4, .inr (.inr (.inr (.inr fe))))), (e0, .inr (0, [.int 0, .int 0, .ref e0a, .ref e0b, .ref e0c, .ref e0d])), (e1, .inr (0, [.int 0, .int 0, .ref e1a, .ref e1b, .ref e1c, .ref e1d])), (e2, .inr (0, [.int 0, .int 0, .ref e2a, .ref e2b, .ref e2c, .ref e2d])), (e3, .inr (0, [.int 0, .int 0, .ref e3a, .ref e3b, .ref e3c, .ref e3d]))]) ?_ rfl rfl rfl
  refine ww_if_eq_t (tgt := 20) C dX11_toldEvents_14 (by decide) (rfl) ?_
  refine ww_iinc (j := 0) (v := 3) (lv' := [(2, .int 3), (1, .int 0), (0, .ref hx)]) C dX11_toldEvents_20 rfl rfl rfl rfl ?_
  refine ww_goto (tgt := 4) C dX11_toldEvents_23 (by decide) ?_
  refine ww_iload_n C dX11_toldEvents_4 0 rfl rfl ?_
  refine ww_iconst (v := 4) C dX11_toldEvents_5 rfl ?_
  refine ww_icmp_ge_f (tgt := 26) C dX11_toldEvents_6 (by decide) (by decide) ?_
  refine ww_aload_n C dX11_toldEvents_9 2 rfl rfl ?_
  refine ww_iload_n C dX11_toldEvents_10 0 rfl rfl ?_
  refine ww_ci (wr := []) (k' := 0) (n' := 0) C (run_V (As := [.int 3]) (rest := []) C (c_isEvent X.2.1 E hx 3 qn qp qs qj ql qh qk qr qg qsh jt je ju ja fe e0 e1 e2 e3 e0a e0b e0c e0d e1a e1b e1c e1d e2a e2b e2c e2d e3a e3b e3c e3d k_fe_0 k_fe_1 k_fe_2 k_fe_3) mi_X11_isEvent wl_X11_94 rfl 0 11 rfl rfl rfl rfl rfl dX11_toldEvents_11) [0, 1, 2, 3, 4, 5, 6] [] rfl rfl rfl rfl (fun r u hw => ?_)
  obtain ⟨rfl, rfl⟩ := hw
  refine ww_eq (ws' := [(hx, .inr (11, [.ref qn, .ref qp, .int 0, .int 0, .ref qs, .ref qj, .ref ql, .ref qh, .ref qk, .int 0, .ref qr, .ref qg, .int 0, .int 0, .ref qsh])), (qj, .inr (2, [.ref jt, .ref je, .ref ju, .ref ja])), (je, .inl (E.2.1 4, 4, .inr (.inr (.inr (.inr fe))))), (e0, .inr (0, [.int 0, .int 0, .ref e0a, .ref e0b, .ref e0c, .ref e0d])), (e1, .inr (0, [.int 0, .int 0, .ref e1a, .ref e1b, .ref e1c, .ref e1d])), (e2, .inr (0, [.int 0, .int 0, .ref e2a, .ref e2b, .ref e2c, .ref e2d])), (e3, .inr (0, [.int 0, .int 0, .ref e3a, .ref e3b, .ref e3c, .ref e3d]))]) ?_ rfl rfl rfl
  refine ww_if_eq_t (tgt := 20) C dX11_toldEvents_14 (by decide) (rfl) ?_
  refine ww_iinc (j := 0) (v := 4) (lv' := [(2, .int 4), (1, .int 0), (0, .ref hx)]) C dX11_toldEvents_20 rfl rfl rfl rfl ?_
  refine ww_goto (tgt := 4) C dX11_toldEvents_23 (by decide) ?_
  refine ww_iload_n C dX11_toldEvents_4 0 rfl rfl ?_
  refine ww_iconst (v := 4) C dX11_toldEvents_5 rfl ?_
  refine ww_icmp_ge_t (tgt := 26) C dX11_toldEvents_6 (by decide) (by decide) ?_
  refine ww_iload_n C dX11_toldEvents_26 1 rfl rfl ?_
  exact ww_iret (u := []) C hT [] rfl rfl rfl rfl dX11_toldEvents_27 (⟨rfl, rfl⟩)
theorem dX11_count_0 : decode cX11_count 0 = .ok (.iload_n 1, 1) := by decide +kernel
theorem dX11_count_1 : decode cX11_count 1 = .ok (.tableswitch 145 0 8 #[51, 59, 82, 87, 92, 97, 102, 107, 118], 51) := by decide +kernel
theorem dX11_count_52 : decode cX11_count 52 = .ok (.aload_n 0, 1) := by decide +kernel
theorem dX11_count_53 : decode cX11_count 53 = .ok (.getfield 10, 3) := by decide +kernel
theorem dX11_count_56 : decode cX11_count 56 = .ok (.getfield 125, 3) := by decide +kernel
theorem dX11_count_59 : decode cX11_count 59 = .ok (.ireturn, 1) := by decide +kernel
theorem dX11_count_60 : decode cX11_count 60 = .ok (.aload_n 0, 1) := by decide +kernel
theorem dX11_count_61 : decode cX11_count 61 = .ok (.getfield 10, 3) := by decide +kernel
theorem dX11_count_64 : decode cX11_count 64 = .ok (.getfield 125, 3) := by decide +kernel
theorem dX11_count_67 : decode cX11_count 67 = .ok (.ifCond .ne 8, 3) := by decide +kernel
theorem dX11_count_70 : decode cX11_count 70 = .ok (.bipush (-4), 2) := by decide +kernel
theorem dX11_count_72 : decode cX11_count 72 = .ok (.goto 10, 3) := by decide +kernel
theorem dX11_count_82 : decode cX11_count 82 = .ok (.ireturn, 1) := by decide +kernel
theorem dX11_count_83 : decode cX11_count 83 = .ok (.aload_n 0, 1) := by decide +kernel
theorem dX11_count_84 : decode cX11_count 84 = .ok (.invokevirtual 355, 3) := by decide +kernel
theorem wl_X11_355 : Cond.methodLink RX11 355 yX11_toldSayings ∈ TB := tbm (tq5 (List.mem_of_getElem? (i := 64) (by decide +kernel))) (by decide +kernel)
theorem wc_X11_toldSayings : Cond.code yX11_toldSayings cX11_toldSayings 3 (some .int) ∈ TB := tbm (tq5 (List.mem_of_getElem? (i := 67) (rfl))) (by decide +kernel)
theorem wi_X11_toldSayings : Cond.instanceMethod yX11_toldSayings ∈ TB := tbm (tq5 (List.mem_of_getElem? (i := 66) (by decide +kernel))) (by decide +kernel)
theorem ws_X11_toldSayings : Cond.selects RX11 yX11_toldSayings yX11_toldSayings ∈ TB := tbm (tq0 (List.mem_of_getElem? (i := 34) (by decide +kernel))) (by decide +kernel)
theorem mi_X11_toldSayings : MI yX11_toldSayings cX11_toldSayings 3 (some .int) 0 := ⟨wc_X11_toldSayings, wn_X11, ⟨by decide +kernel, by decide +kernel, by decide +kernel⟩, wi_X11_toldSayings, ws_X11_toldSayings⟩
theorem dX11_count_87 : decode cX11_count 87 = .ok (.ireturn, 1) := by decide +kernel
theorem dX11_count_88 : decode cX11_count 88 = .ok (.aload_n 0, 1) := by decide +kernel
theorem dX11_count_89 : decode cX11_count 89 = .ok (.invokevirtual 358, 3) := by decide +kernel
theorem wl_X11_358 : Cond.methodLink RX11 358 yX11_toldEvents ∈ TB := tbm (tq5 (List.mem_of_getElem? (i := 68) (by decide +kernel))) (by decide +kernel)
theorem wc_X11_toldEvents : Cond.code yX11_toldEvents cX11_toldEvents 3 (some .int) ∈ TB := tbm (tq5 (List.mem_of_getElem? (i := 71) (rfl))) (by decide +kernel)
theorem wi_X11_toldEvents : Cond.instanceMethod yX11_toldEvents ∈ TB := tbm (tq5 (List.mem_of_getElem? (i := 70) (by decide +kernel))) (by decide +kernel)
theorem ws_X11_toldEvents : Cond.selects RX11 yX11_toldEvents yX11_toldEvents ∈ TB := tbm (tq0 (List.mem_of_getElem? (i := 35) (by decide +kernel))) (by decide +kernel)
theorem mi_X11_toldEvents : MI yX11_toldEvents cX11_toldEvents 3 (some .int) 0 := ⟨wc_X11_toldEvents, wn_X11, ⟨by decide +kernel, by decide +kernel, by decide +kernel⟩, wi_X11_toldEvents, ws_X11_toldEvents⟩
theorem dX11_count_92 : decode cX11_count 92 = .ok (.ireturn, 1) := by decide +kernel
theorem dX11_count_93 : decode cX11_count 93 = .ok (.aload_n 0, 1) := by decide +kernel
theorem dX11_count_94 : decode cX11_count 94 = .ok (.getfield 266, 3) := by decide +kernel
theorem dX11_count_97 : decode cX11_count 97 = .ok (.ireturn, 1) := by decide +kernel
theorem dX11_count_98 : decode cX11_count 98 = .ok (.aload_n 0, 1) := by decide +kernel
theorem dX11_count_99 : decode cX11_count 99 = .ok (.getfield 116, 3) := by decide +kernel
theorem dX11_count_102 : decode cX11_count 102 = .ok (.ireturn, 1) := by decide +kernel
theorem dX11_count_103 : decode cX11_count 103 = .ok (.aload_n 0, 1) := by decide +kernel
theorem dX11_count_104 : decode cX11_count 104 = .ok (.getfield 106, 3) := by decide +kernel
theorem dX11_count_107 : decode cX11_count 107 = .ok (.ireturn, 1) := by decide +kernel
theorem dX11_count_108 : decode cX11_count 108 = .ok (.aload_n 0, 1) := by decide +kernel
theorem dX11_count_109 : decode cX11_count 109 = .ok (.getfield 27, 3) := by decide +kernel
theorem dX11_count_112 : decode cX11_count 112 = .ok (.getfield 162, 3) := by decide +kernel
theorem dX11_count_115 : decode cX11_count 115 = .ok (.getfield 171, 3) := by decide +kernel
theorem dX11_count_118 : decode cX11_count 118 = .ok (.ireturn, 1) := by decide +kernel
theorem dX11_count_119 : decode cX11_count 119 = .ok (.aload_n 0, 1) := by decide +kernel
theorem dX11_count_120 : decode cX11_count 120 = .ok (.getfield 71, 3) := by decide +kernel
theorem dX11_count_123 : decode cX11_count 123 = .ok (.iconst 0, 1) := by decide +kernel
theorem dX11_count_124 : decode cX11_count 124 = .ok (.aaload, 1) := by decide +kernel
theorem dX11_count_125 : decode cX11_count 125 = .ok (.getfield 338, 3) := by decide +kernel
theorem dX11_count_128 : decode cX11_count 128 = .ok (.ifCond .eq 15, 3) := by decide +kernel
theorem dX11_count_143 : decode cX11_count 143 = .ok (.bipush (-4), 2) := by decide +kernel
theorem dX11_count_145 : decode cX11_count 145 = .ok (.ireturn, 1) := by decide +kernel
theorem dX11_count_146 : decode cX11_count 146 = .ok (.iconst (-1), 1) := by decide +kernel
theorem dX11_count_147 : decode cX11_count 147 = .ok (.ireturn, 1) := by decide +kernel
set_option maxRecDepth 100000 in
set_option maxHeartbeats 4000000 in
theorem x_count (l : Launch) (E : EV) (hx : Nat) (p0 : Int32) (qn : Nat) (qp : Nat) (qs : Nat) (qj : Nat) (ql : Nat) (qh : Nat) (qk : Nat) (qr : Nat) (qg : Nat) (qsh : Nat) (nf : Nat) (np : Nat) (qt : Nat) (sa : Nat) (sb : Nat) (sc : Nat) (sd : Nat) (tb : Nat) (jt : Nat) (je : Nat) (ju : Nat) (ja : Nat) (fe : Nat → Option Nat) (e0 : Nat) (e1 : Nat) (e2 : Nat) (e3 : Nat) (e0a : Nat) (e0b : Nat) (e0c : Nat) (e0d : Nat) (e1a : Nat) (e1b : Nat) (e1c : Nat) (e1d : Nat) (e2a : Nat) (e2b : Nat) (e2c : Nat) (e2d : Nat) (e3a : Nat) (e3b : Nat) (e3c : Nat) (e3d : Nat) (fs : Nat → Option Nat) (s0 : Nat) (s1 : Nat) (s2 : Nat) (s3 : Nat) (s0c : Nat) (k_fe_0 : fe 0 = some e0) (k_fe_1 : fe 1 = some e1) (k_fe_2 : fe 2 = some e2) (k_fe_3 : fe 3 = some e3) (k_fs_0 : fs 0 = some s0) (k_fs_1 : fs 1 = some s1) (k_fs_2 : fs 2 = some s2) (k_fs_3 : fs 3 = some s3) : CT l yX11_count (Cond.code yX11_count cX11_count 2 (some .int) :: TB) ({ frames := 3, cells := 0, slots := 0, locals := 65 }) E [.ref hx, .int p0] [(hx, .inr (11, [.ref qn, .ref qp, .int 0, .int 0, .ref qs, .ref qj, .ref ql, .ref qh, .ref qk, .int 0, .ref qr, .ref qg, .int 0, .int 0, .ref qsh])), (qn, .inr (4, [.int 0, .int 0, .ref nf, .ref np])), (nf, .inl (E.2.1 1, 24, .inl (fun _ => 0))), (np, .inl (E.2.1 1, 96, .inl (fun _ => 0))), (qs, .inr (5, [.ref qt, .ref sa, .ref sb, .ref sc, .ref sd, .int 0, .int 0, .int 0, .int 0, .int 0])), (qt, .inr (10, [.ref tb, .int 0, .int 0, .int 0, .int 0])), (tb, .inl (E.2.1 0, 160, .inl (fun _ => 0))), (qj, .inr (2, [.ref jt, .ref je, .ref ju, .ref ja])), (jt, .inl (E.2.1 7, 8, .inr (.inr (.inr (.inr (fun _ => none)))))), (je, .inl (E.2.1 4, 4, .inr (.inr (.inr (.inr fe))))), (e0, .inr (0, [.int 0, .int 0, .ref e0a, .ref e0b, .ref e0c, .ref e0d])), (e1, .inr (0, [.int 0, .int 0, .ref e1a, .ref e1b, .ref e1c, .ref e1d])), (e2, .inr (0, [.int 0, .int 0, .ref e2a, .ref e2b, .ref e2c, .ref e2d])), (e3, .inr (0, [.int 0, .int 0, .ref e3a, .ref e3b, .ref e3c, .ref e3d])), (qsh, .inl (E.2.1 8, 4, .inr (.inr (.inr (.inr fs))))), (s0, .inr (9, [.int 0, .int 0, .int 0, .ref s0c]))] (Qi E (fun (r : Int32) u => (r = (-1) ∧ u = [] ∧ (p0.toInt < 0 ∨ 8 < p0.toInt)) ∨ (r = 0 ∧ u = [] ∧ (0 ≤ p0.toInt) ∧ (p0.toInt ≤ 7) ∧ (p0.toInt ≠ 1)) ∨ (r = (-4) ∧ u = [] ∧ (p0.toInt = 1 ∨ p0.toInt = 8)))) 0 0 := by
  refine ct_of rfl rfl ?_
  intro X C hT hin
  show WW X 2 E 0 [(0, .ref hx), (1, .int p0)] [] [(hx, .inr (11, [.ref qn, .ref qp, .int 0, .int 0, .ref qs, .ref qj, .ref ql, .ref qh, .ref qk, .int 0, .ref qr, .ref qg, .int 0, .int 0, .ref qsh])), (qn, .inr (4, [.int 0, .int 0, .ref nf, .ref np])), (nf, .inl (E.2.1 1, 24, .inl (fun _ => 0))), (np, .inl (E.2.1 1, 96, .inl (fun _ => 0))), (qs, .inr (5, [.ref qt, .ref sa, .ref sb, .ref sc, .ref sd, .int 0, .int 0, .int 0, .int 0, .int 0])), (qt, .inr (10, [.ref tb, .int 0, .int 0, .int 0, .int 0])), (tb, .inl (E.2.1 0, 160, .inl (fun _ => 0))), (qj, .inr (2, [.ref jt, .ref je, .ref ju, .ref ja])), (jt, .inl (E.2.1 7, 8, .inr (.inr (.inr (.inr (fun _ => none)))))), (je, .inl (E.2.1 4, 4, .inr (.inr (.inr (.inr fe))))), (e0, .inr (0, [.int 0, .int 0, .ref e0a, .ref e0b, .ref e0c, .ref e0d])), (e1, .inr (0, [.int 0, .int 0, .ref e1a, .ref e1b, .ref e1c, .ref e1d])), (e2, .inr (0, [.int 0, .int 0, .ref e2a, .ref e2b, .ref e2c, .ref e2d])), (e3, .inr (0, [.int 0, .int 0, .ref e3a, .ref e3b, .ref e3c, .ref e3d])), (qsh, .inl (E.2.1 8, 4, .inr (.inr (.inr (.inr fs))))), (s0, .inr (9, [.int 0, .int 0, .int 0, .ref s0c]))] 0 0
  refine ww_iload_n C dX11_count_0 1 rfl rfl ?_
  by_cases c_1 : (0 : Int) ≤ p0.toInt ∧ p0.toInt ≤ 8
  · rcases sp_0_8 (x := p0) (by omega) (by omega) with rfl | rfl | rfl | rfl | rfl | rfl | rfl | rfl | rfl
    · refine ww_tableIn (tgt := 52) C dX11_count_1 (by decide) (by decide) rfl (by decide) ?_
      refine ww_aload_n C dX11_count_52 0 rfl rfl ?_
      refine ww_get C fg_X11_10 0 rfl rfl dX11_count_53 ?_
      refine ww_get C fg_X11_125 1 rfl rfl dX11_count_56 ?_
      exact ww_iret (u := []) C hT [] rfl rfl rfl rfl dX11_count_59 (Or.inr (Or.inl ⟨rfl, rfl, (by first | assumption | omega | decide), (by first | assumption | omega | decide), (by first | assumption | omega | decide)⟩))
    · refine ww_tableIn (tgt := 60) C dX11_count_1 (by decide) (by decide) rfl (by decide) ?_
      refine ww_aload_n C dX11_count_60 0 rfl rfl ?_
      refine ww_get C fg_X11_10 0 rfl rfl dX11_count_61 ?_
      refine ww_get C fg_X11_125 1 rfl rfl dX11_count_64 ?_
      refine ww_if_ne_f (tgt := 75) C dX11_count_67 (by decide) (rfl) ?_
      refine ww_bipush (v := (-4)) C dX11_count_70 rfl ?_
      refine ww_goto (tgt := 82) C dX11_count_72 (by decide) ?_
      exact ww_iret (u := []) C hT [] rfl rfl rfl rfl dX11_count_82 (Or.inr (Or.inr ⟨rfl, rfl, (by first | assumption | omega | decide)⟩))
    · refine ww_tableIn (tgt := 83) C dX11_count_1 (by decide) (by decide) rfl (by decide) ?_
      refine ww_aload_n C dX11_count_83 0 rfl rfl ?_
      refine ww_ci (wr := [(qn, .inr (4, [.int 0, .int 0, .ref nf, .ref np])), (nf, .inl (E.2.1 1, 24, .inl (fun _ => 0))), (np, .inl (E.2.1 1, 96, .inl (fun _ => 0))), (qs, .inr (5, [.ref qt, .ref sa, .ref sb, .ref sc, .ref sd, .int 0, .int 0, .int 0, .int 0, .int 0])), (qt, .inr (10, [.ref tb, .int 0, .int 0, .int 0, .int 0])), (tb, .inl (E.2.1 0, 160, .inl (fun _ => 0))), (je, .inl (E.2.1 4, 4, .inr (.inr (.inr (.inr fe))))), (e0, .inr (0, [.int 0, .int 0, .ref e0a, .ref e0b, .ref e0c, .ref e0d])), (e1, .inr (0, [.int 0, .int 0, .ref e1a, .ref e1b, .ref e1c, .ref e1d])), (e2, .inr (0, [.int 0, .int 0, .ref e2a, .ref e2b, .ref e2c, .ref e2d])), (e3, .inr (0, [.int 0, .int 0, .ref e3a, .ref e3b, .ref e3c, .ref e3d])), (qsh, .inl (E.2.1 8, 4, .inr (.inr (.inr (.inr fs))))), (s0, .inr (9, [.int 0, .int 0, .int 0, .ref s0c]))]) (k' := 0) (n' := 0) C (run_V (As := []) (rest := []) C (c_toldSayings X.2.1 E hx qn qp qs qj ql qh qk qr qg qsh jt je ju ja) mi_X11_toldSayings wl_X11_355 rfl 0 11 rfl rfl rfl rfl rfl dX11_count_84) [0, 7, 8] [1, 2, 3, 4, 5, 6, 9, 10, 11, 12, 13, 14, 15] rfl rfl rfl rfl (fun r u hw => ?_)
      obtain ⟨rfl, rfl⟩ := hw
      refine ww_eq (ws' := [(qn, .inr (4, [.int 0, .int 0, .ref nf, .ref np])), (nf, .inl (E.2.1 1, 24, .inl (fun _ => 0))), (np, .inl (E.2.1 1, 96, .inl (fun _ => 0))), (qs, .inr (5, [.ref qt, .ref sa, .ref sb, .ref sc, .ref sd, .int 0, .int 0, .int 0, .int 0, .int 0])), (qt, .inr (10, [.ref tb, .int 0, .int 0, .int 0, .int 0])), (tb, .inl (E.2.1 0, 160, .inl (fun _ => 0))), (je, .inl (E.2.1 4, 4, .inr (.inr (.inr (.inr fe))))), (e0, .inr (0, [.int 0, .int 0, .ref e0a, .ref e0b, .ref e0c, .ref e0d])), (e1, .inr (0, [.int 0, .int 0, .ref e1a, .ref e1b, .ref e1c, .ref e1d])), (e2, .inr (0, [.int 0, .int 0, .ref e2a, .ref e2b, .ref e2c, .ref e2d])), (e3, .inr (0, [.int 0, .int 0, .ref e3a, .ref e3b, .ref e3c, .ref e3d])), (qsh, .inl (E.2.1 8, 4, .inr (.inr (.inr (.inr fs))))), (s0, .inr (9, [.int 0, .int 0, .int 0, .ref s0c]))]) ?_ rfl rfl rfl
      exact ww_iret (u := []) C hT [] rfl rfl rfl rfl dX11_count_87 (Or.inr (Or.inl ⟨rfl, rfl, (by first | assumption | omega | decide), (by first | assumption | omega | decide), (by first | assumption | omega | decide)⟩))
    · refine ww_tableIn (tgt := 88) C dX11_count_1 (by decide) (by decide) rfl (by decide) ?_
      refine ww_aload_n C dX11_count_88 0 rfl rfl ?_
      refine ww_ci (wr := [(qn, .inr (4, [.int 0, .int 0, .ref nf, .ref np])), (nf, .inl (E.2.1 1, 24, .inl (fun _ => 0))), (np, .inl (E.2.1 1, 96, .inl (fun _ => 0))), (qs, .inr (5, [.ref qt, .ref sa, .ref sb, .ref sc, .ref sd, .int 0, .int 0, .int 0, .int 0, .int 0])), (qt, .inr (10, [.ref tb, .int 0, .int 0, .int 0, .int 0])), (tb, .inl (E.2.1 0, 160, .inl (fun _ => 0))), (jt, .inl (E.2.1 7, 8, .inr (.inr (.inr (.inr (fun _ => none)))))), (qsh, .inl (E.2.1 8, 4, .inr (.inr (.inr (.inr fs))))), (s0, .inr (9, [.int 0, .int 0, .int 0, .ref s0c]))]) (k' := 0) (n' := 0) C (run_V (As := []) (rest := []) C (c_toldEvents X.2.1 E hx qn qp qs qj ql qh qk qr qg qsh jt je ju ja fe e0 e1 e2 e3 e0a e0b e0c e0d e1a e1b e1c e1d e2a e2b e2c e2d e3a e3b e3c e3d k_fe_0 k_fe_1 k_fe_2 k_fe_3) mi_X11_toldEvents wl_X11_358 rfl 0 11 rfl rfl rfl rfl rfl dX11_count_89) [0, 7, 9, 10, 11, 12, 13] [1, 2, 3, 4, 5, 6, 8, 14, 15] rfl rfl rfl rfl (fun r u hw => ?_)
      obtain ⟨rfl, rfl⟩ := hw
      refine ww_eq (ws' := [(qn, .inr (4, [.int 0, .int 0, .ref nf, .ref np])), (nf, .inl (E.2.1 1, 24, .inl (fun _ => 0))), (np, .inl (E.2.1 1, 96, .inl (fun _ => 0))), (qs, .inr (5, [.ref qt, .ref sa, .ref sb, .ref sc, .ref sd, .int 0, .int 0, .int 0, .int 0, .int 0])), (qt, .inr (10, [.ref tb, .int 0, .int 0, .int 0, .int 0])), (tb, .inl (E.2.1 0, 160, .inl (fun _ => 0))), (jt, .inl (E.2.1 7, 8, .inr (.inr (.inr (.inr (fun _ => none)))))), (qsh, .inl (E.2.1 8, 4, .inr (.inr (.inr (.inr fs))))), (s0, .inr (9, [.int 0, .int 0, .int 0, .ref s0c]))]) ?_ rfl rfl rfl
      exact ww_iret (u := []) C hT [] rfl rfl rfl rfl dX11_count_92 (Or.inr (Or.inl ⟨rfl, rfl, (by first | assumption | omega | decide), (by first | assumption | omega | decide), (by first | assumption | omega | decide)⟩))
    · refine ww_tableIn (tgt := 93) C dX11_count_1 (by decide) (by decide) rfl (by decide) ?_
      refine ww_aload_n C dX11_count_93 0 rfl rfl ?_
      refine ww_get C fg_X11_266 0 rfl rfl dX11_count_94 ?_
      exact ww_iret (u := []) C hT [] rfl rfl rfl rfl dX11_count_97 (Or.inr (Or.inl ⟨rfl, rfl, (by first | assumption | omega | decide), (by first | assumption | omega | decide), (by first | assumption | omega | decide)⟩))
    · refine ww_tableIn (tgt := 98) C dX11_count_1 (by decide) (by decide) rfl (by decide) ?_
      refine ww_aload_n C dX11_count_98 0 rfl rfl ?_
      refine ww_get C fg_X11_116 0 rfl rfl dX11_count_99 ?_
      exact ww_iret (u := []) C hT [] rfl rfl rfl rfl dX11_count_102 (Or.inr (Or.inl ⟨rfl, rfl, (by first | assumption | omega | decide), (by first | assumption | omega | decide), (by first | assumption | omega | decide)⟩))
    · refine ww_tableIn (tgt := 103) C dX11_count_1 (by decide) (by decide) rfl (by decide) ?_
      refine ww_aload_n C dX11_count_103 0 rfl rfl ?_
      refine ww_get C fg_X11_106 0 rfl rfl dX11_count_104 ?_
      exact ww_iret (u := []) C hT [] rfl rfl rfl rfl dX11_count_107 (Or.inr (Or.inl ⟨rfl, rfl, (by first | assumption | omega | decide), (by first | assumption | omega | decide), (by first | assumption | omega | decide)⟩))
    · refine ww_tableIn (tgt := 108) C dX11_count_1 (by decide) (by decide) rfl (by decide) ?_
      refine ww_aload_n C dX11_count_108 0 rfl rfl ?_
      refine ww_get C fg_X11_27 0 rfl rfl dX11_count_109 ?_
      refine ww_get C fg_X11_162 4 rfl rfl dX11_count_112 ?_
      refine ww_get C fg_X11_171 5 rfl rfl dX11_count_115 ?_
      exact ww_iret (u := []) C hT [] rfl rfl rfl rfl dX11_count_118 (Or.inr (Or.inl ⟨rfl, rfl, (by first | assumption | omega | decide), (by first | assumption | omega | decide), (by first | assumption | omega | decide)⟩))
    · refine ww_tableIn (tgt := 119) C dX11_count_1 (by decide) (by decide) rfl (by decide) ?_
      refine ww_aload_n C dX11_count_119 0 rfl rfl ?_
      refine ww_get C fg_X11_71 0 rfl rfl dX11_count_120 ?_
      refine ww_iconst (v := 0) C dX11_count_123 rfl ?_
      refine ww_ald (v := (some s0)) (t0 := 8) C 14 rfl rfl (vin rfl) k_fs_0 dX11_count_124 ?_
      refine ww_eq (st' := [.ref s0]) ?_ rfl rfl rfl
      refine ww_get C fg_X11_338 15 rfl rfl dX11_count_125 ?_
      refine ww_if_eq_t (tgt := 143) C dX11_count_128 (by decide) (rfl) ?_
      refine ww_bipush (v := (-4)) C dX11_count_143 rfl ?_
      exact ww_iret (u := []) C hT [] rfl rfl rfl rfl dX11_count_145 (Or.inr (Or.inr ⟨rfl, rfl, (by first | assumption | omega | decide)⟩))
  · refine ww_tableOut (tgt := 146) C dX11_count_1 (by omega) (by decide) ?_
    refine ww_iconst (v := (-1)) C dX11_count_146 rfl ?_
    exact ww_iret (u := []) C hT [] rfl rfl rfl rfl dX11_count_147 (Or.inl ⟨rfl, rfl, (by first | assumption | omega | decide)⟩)
end
section
theorem zz_probe : 1 + 1 = 2 := rfl
end
