section
-- ===== PART A: goes FIRST, ahead of the names: the tables' words, and 'selects' of the private methods out of them =====
/-- a private method of a class that the tables say can be made, by its rows of tables_1 -/
def lw_okq (q : MethodName × Nat) : Prop := (q.1.cls ≠ "java/lang/invoke/MethodHandle" ∧ q.1.cls ≠ "java/lang/invoke/VarHandle") ∧ Cond.instantiable q.1.cls q.2 ∈ tables_1 ∧ Cond.privateMethod q.1 ∈ tables_1 ∧ Cond.instanceMethod q.1 ∈ tables_1
theorem lw_p0 : lw_okq (⟨"java/lang/Throwable", "fillInStackTrace", "(I)Ljava/lang/Throwable;"⟩, 6) := ⟨⟨by decide +kernel, by decide +kernel⟩, List.mem_of_getElem? (i := 82) (by decide +kernel), List.mem_of_getElem? (i := 80) (by decide +kernel), List.mem_of_getElem? (i := 81) (by decide +kernel)⟩
theorem lw_p1 : lw_okq (⟨"MirrorJury$Court", "findCat", "(I)I"⟩, 14) := ⟨⟨by decide +kernel, by decide +kernel⟩, List.mem_of_getElem? (i := 435) (by decide +kernel), List.mem_of_getElem? (i := 433) (by decide +kernel), List.mem_of_getElem? (i := 434) (by decide +kernel)⟩
theorem lw_p2 : lw_okq (⟨"MirrorJury$Court", "copyFrom", "(LMirrorJury$Court;)V"⟩, 14) := ⟨⟨by decide +kernel, by decide +kernel⟩, List.mem_of_getElem? (i := 435) (by decide +kernel), List.mem_of_getElem? (i := 471) (by decide +kernel), List.mem_of_getElem? (i := 472) (by decide +kernel)⟩
theorem lw_p3 : lw_okq (⟨"MirrorJury$Court", "reasonAgainstMirror", "(I)I"⟩, 14) := ⟨⟨by decide +kernel, by decide +kernel⟩, List.mem_of_getElem? (i := 435) (by decide +kernel), List.mem_of_getElem? (i := 506) (by decide +kernel), List.mem_of_getElem? (i := 507) (by decide +kernel)⟩
theorem lw_p4 : lw_okq (⟨"MirrorJury", "reject", "(II)V"⟩, 16) := ⟨⟨by decide +kernel, by decide +kernel⟩, List.mem_of_getElem? (i := 513) (by decide +kernel), List.mem_of_getElem? (i := 511) (by decide +kernel), List.mem_of_getElem? (i := 512) (by decide +kernel)⟩
theorem lw_p5 : lw_okq (⟨"MirrorJury$History", "keep", "(LMirrorJury$Court;)V"⟩, 3) := ⟨⟨by decide +kernel, by decide +kernel⟩, List.mem_of_getElem? (i := 534) (by decide +kernel), List.mem_of_getElem? (i := 532) (by decide +kernel), List.mem_of_getElem? (i := 533) (by decide +kernel)⟩
theorem lw_p6 : lw_okq (⟨"MirrorJury$History", "mark", "(LMirrorJury$Court;)V"⟩, 3) := ⟨⟨by decide +kernel, by decide +kernel⟩, List.mem_of_getElem? (i := 534) (by decide +kernel), List.mem_of_getElem? (i := 537) (by decide +kernel), List.mem_of_getElem? (i := 538) (by decide +kernel)⟩
theorem lw_p7 : lw_okq (⟨"MirrorJury$History", "slotOfMarked", "()LMirrorJury$Court;"⟩, 3) := ⟨⟨by decide +kernel, by decide +kernel⟩, List.mem_of_getElem? (i := 534) (by decide +kernel), List.mem_of_getElem? (i := 541) (by decide +kernel), List.mem_of_getElem? (i := 542) (by decide +kernel)⟩
theorem lw_p8 : lw_okq (⟨"MirrorJury$History", "keepMarked", "()V"⟩, 3) := ⟨⟨by decide +kernel, by decide +kernel⟩, List.mem_of_getElem? (i := 534) (by decide +kernel), List.mem_of_getElem? (i := 546) (by decide +kernel), List.mem_of_getElem? (i := 547) (by decide +kernel)⟩
theorem lw_p9 : lw_okq (⟨"MirrorJury$Court", "changeContent", "(IC)V"⟩, 14) := ⟨⟨by decide +kernel, by decide +kernel⟩, List.mem_of_getElem? (i := 435) (by decide +kernel), List.mem_of_getElem? (i := 550) (by decide +kernel), List.mem_of_getElem? (i := 551) (by decide +kernel)⟩
theorem lw_p10 : lw_okq (⟨"MirrorJury$Court", "countMirrors", "()I"⟩, 14) := ⟨⟨by decide +kernel, by decide +kernel⟩, List.mem_of_getElem? (i := 435) (by decide +kernel), List.mem_of_getElem? (i := 558) (by decide +kernel), List.mem_of_getElem? (i := 559) (by decide +kernel)⟩
theorem lw_p11 : lw_okq (⟨"MirrorJury", "requireCat", "(I)V"⟩, 16) := ⟨⟨by decide +kernel, by decide +kernel⟩, List.mem_of_getElem? (i := 513) (by decide +kernel), List.mem_of_getElem? (i := 580) (by decide +kernel), List.mem_of_getElem? (i := 581) (by decide +kernel)⟩
theorem lw_p12 : lw_okq (⟨"MirrorJury$Courses", "searchByQueue", "(LMirrorJury$Court;I)V"⟩, 4) := ⟨⟨by decide +kernel, by decide +kernel⟩, List.mem_of_getElem? (i := 587) (by decide +kernel), List.mem_of_getElem? (i := 585) (by decide +kernel), List.mem_of_getElem? (i := 586) (by decide +kernel)⟩
theorem lw_p13 : lw_okq (⟨"MirrorJury$Courses", "start", "(I)I"⟩, 4) := ⟨⟨by decide +kernel, by decide +kernel⟩, List.mem_of_getElem? (i := 587) (by decide +kernel), List.mem_of_getElem? (i := 590) (by decide +kernel), List.mem_of_getElem? (i := 591) (by decide +kernel)⟩
theorem lw_p14 : lw_okq (⟨"MirrorJury$Courses", "putAhead", "(I)V"⟩, 4) := ⟨⟨by decide +kernel, by decide +kernel⟩, List.mem_of_getElem? (i := 587) (by decide +kernel), List.mem_of_getElem? (i := 606) (by decide +kernel), List.mem_of_getElem? (i := 607) (by decide +kernel)⟩
theorem lw_p15 : lw_okq (⟨"MirrorJury$Courses", "takeFirst", "()I"⟩, 4) := ⟨⟨by decide +kernel, by decide +kernel⟩, List.mem_of_getElem? (i := 587) (by decide +kernel), List.mem_of_getElem? (i := 610) (by decide +kernel), List.mem_of_getElem? (i := 611) (by decide +kernel)⟩
def lw_privs_1 : List (MethodName × Nat) := [(⟨"java/lang/Throwable", "fillInStackTrace", "(I)Ljava/lang/Throwable;"⟩, 6), (⟨"MirrorJury$Court", "findCat", "(I)I"⟩, 14), (⟨"MirrorJury$Court", "copyFrom", "(LMirrorJury$Court;)V"⟩, 14), (⟨"MirrorJury$Court", "reasonAgainstMirror", "(I)I"⟩, 14), (⟨"MirrorJury", "reject", "(II)V"⟩, 16), (⟨"MirrorJury$History", "keep", "(LMirrorJury$Court;)V"⟩, 3), (⟨"MirrorJury$History", "mark", "(LMirrorJury$Court;)V"⟩, 3), (⟨"MirrorJury$History", "slotOfMarked", "()LMirrorJury$Court;"⟩, 3), (⟨"MirrorJury$History", "keepMarked", "()V"⟩, 3), (⟨"MirrorJury$Court", "changeContent", "(IC)V"⟩, 14), (⟨"MirrorJury$Court", "countMirrors", "()I"⟩, 14), (⟨"MirrorJury", "requireCat", "(I)V"⟩, 16), (⟨"MirrorJury$Courses", "searchByQueue", "(LMirrorJury$Court;I)V"⟩, 4), (⟨"MirrorJury$Courses", "start", "(I)I"⟩, 4), (⟨"MirrorJury$Courses", "putAhead", "(I)V"⟩, 4), (⟨"MirrorJury$Courses", "takeFirst", "()I"⟩, 4)]
theorem lw_r1 : ∀ q ∈ lw_privs_1, lw_okq q := List.forall_mem_cons.mpr ⟨lw_p0, List.forall_mem_cons.mpr ⟨lw_p1, List.forall_mem_cons.mpr ⟨lw_p2, List.forall_mem_cons.mpr ⟨lw_p3, List.forall_mem_cons.mpr ⟨lw_p4, List.forall_mem_cons.mpr ⟨lw_p5, List.forall_mem_cons.mpr ⟨lw_p6, List.forall_mem_cons.mpr ⟨lw_p7, List.forall_mem_cons.mpr ⟨lw_p8, List.forall_mem_cons.mpr ⟨lw_p9, List.forall_mem_cons.mpr ⟨lw_p10, List.forall_mem_cons.mpr ⟨lw_p11, List.forall_mem_cons.mpr ⟨lw_p12, List.forall_mem_cons.mpr ⟨lw_p13, List.forall_mem_cons.mpr ⟨lw_p14, List.forall_mem_cons.mpr ⟨lw_p15, fun _ h => absurd h List.not_mem_nil⟩⟩⟩⟩⟩⟩⟩⟩⟩⟩⟩⟩⟩⟩⟩⟩
theorem lw_p16 : lw_okq (⟨"MirrorJury$Courses", "goOn", "(LMirrorJury$Court;I)V"⟩, 4) := ⟨⟨by decide +kernel, by decide +kernel⟩, List.mem_of_getElem? (i := 587) (by decide +kernel), List.mem_of_getElem? (i := 615) (by decide +kernel), List.mem_of_getElem? (i := 616) (by decide +kernel)⟩
theorem lw_p17 : lw_okq (⟨"MirrorJury$Courses", "reach", "(IIZ)V"⟩, 4) := ⟨⟨by decide +kernel, by decide +kernel⟩, List.mem_of_getElem? (i := 587) (by decide +kernel), List.mem_of_getElem? (i := 629) (by decide +kernel), List.mem_of_getElem? (i := 630) (by decide +kernel)⟩
theorem lw_p18 : lw_okq (⟨"MirrorJury$Courses", "putBehind", "(I)V"⟩, 4) := ⟨⟨by decide +kernel, by decide +kernel⟩, List.mem_of_getElem? (i := 587) (by decide +kernel), List.mem_of_getElem? (i := 633) (by decide +kernel), List.mem_of_getElem? (i := 634) (by decide +kernel)⟩
theorem lw_p19 : lw_okq (⟨"MirrorJury$Courses", "effortInto", "(I)I"⟩, 4) := ⟨⟨by decide +kernel, by decide +kernel⟩, List.mem_of_getElem? (i := 587) (by decide +kernel), List.mem_of_getElem? (i := 638) (by decide +kernel), List.mem_of_getElem? (i := 639) (by decide +kernel)⟩
theorem lw_p20 : lw_okq (⟨"MirrorJury$Ray", "follow", "(LMirrorJury$Court;I)V"⟩, 4) := ⟨⟨by decide +kernel, by decide +kernel⟩, List.mem_of_getElem? (i := 668) (by decide +kernel), List.mem_of_getElem? (i := 666) (by decide +kernel), List.mem_of_getElem? (i := 667) (by decide +kernel)⟩
theorem lw_p21 : lw_okq (⟨"MirrorJury", "portsAhead", "(I)I"⟩, 16) := ⟨⟨by decide +kernel, by decide +kernel⟩, List.mem_of_getElem? (i := 513) (by decide +kernel), List.mem_of_getElem? (i := 681) (by decide +kernel), List.mem_of_getElem? (i := 682) (by decide +kernel)⟩
theorem lw_p22 : lw_okq (⟨"MirrorJury$Court", "hear", "(II)V"⟩, 14) := ⟨⟨by decide +kernel, by decide +kernel⟩, List.mem_of_getElem? (i := 435) (by decide +kernel), List.mem_of_getElem? (i := 703) (by decide +kernel), List.mem_of_getElem? (i := 704) (by decide +kernel)⟩
theorem lw_p23 : lw_okq (⟨"MirrorJury$Court", "placeIn", "(II)I"⟩, 14) := ⟨⟨by decide +kernel, by decide +kernel⟩, List.mem_of_getElem? (i := 435) (by decide +kernel), List.mem_of_getElem? (i := 707) (by decide +kernel), List.mem_of_getElem? (i := 708) (by decide +kernel)⟩
theorem lw_p24 : lw_okq (⟨"MirrorJury$Court", "optionIn", "(II)I"⟩, 14) := ⟨⟨by decide +kernel, by decide +kernel⟩, List.mem_of_getElem? (i := 435) (by decide +kernel), List.mem_of_getElem? (i := 711) (by decide +kernel), List.mem_of_getElem? (i := 712) (by decide +kernel)⟩
theorem lw_p25 : lw_okq (⟨"MirrorJury$Court", "mayRetry", "()Z"⟩, 14) := ⟨⟨by decide +kernel, by decide +kernel⟩, List.mem_of_getElem? (i := 435) (by decide +kernel), List.mem_of_getElem? (i := 723) (by decide +kernel), List.mem_of_getElem? (i := 724) (by decide +kernel)⟩
theorem lw_p26 : lw_okq (⟨"MirrorJury$Court", "startAgain", "()I"⟩, 14) := ⟨⟨by decide +kernel, by decide +kernel⟩, List.mem_of_getElem? (i := 435) (by decide +kernel), List.mem_of_getElem? (i := 728) (by decide +kernel), List.mem_of_getElem? (i := 729) (by decide +kernel)⟩
theorem lw_p27 : lw_okq (⟨"MirrorJury$Court", "resetRanking", "(I)Z"⟩, 14) := ⟨⟨by decide +kernel, by decide +kernel⟩, List.mem_of_getElem? (i := 435) (by decide +kernel), List.mem_of_getElem? (i := 732) (by decide +kernel), List.mem_of_getElem? (i := 733) (by decide +kernel)⟩
theorem lw_p28 : lw_okq (⟨"MirrorJury$Court", "catsAhead", "(I)I"⟩, 14) := ⟨⟨by decide +kernel, by decide +kernel⟩, List.mem_of_getElem? (i := 435) (by decide +kernel), List.mem_of_getElem? (i := 743) (by decide +kernel), List.mem_of_getElem? (i := 744) (by decide +kernel)⟩
theorem lw_p29 : lw_okq (⟨"MirrorJury$History", "stepBack", "(LMirrorJury$Court;)V"⟩, 3) := ⟨⟨by decide +kernel, by decide +kernel⟩, List.mem_of_getElem? (i := 534) (by decide +kernel), List.mem_of_getElem? (i := 771) (by decide +kernel), List.mem_of_getElem? (i := 772) (by decide +kernel)⟩
theorem lw_p30 : lw_okq (⟨"MirrorJury$History", "returnToMarked", "(LMirrorJury$Court;)V"⟩, 3) := ⟨⟨by decide +kernel, by decide +kernel⟩, List.mem_of_getElem? (i := 534) (by decide +kernel), List.mem_of_getElem? (i := 775) (by decide +kernel), List.mem_of_getElem? (i := 776) (by decide +kernel)⟩
theorem lw_p31 : lw_okq (⟨"MirrorJury", "holdVote", "()V"⟩, 16) := ⟨⟨by decide +kernel, by decide +kernel⟩, List.mem_of_getElem? (i := 513) (by decide +kernel), List.mem_of_getElem? (i := 795) (by decide +kernel), List.mem_of_getElem? (i := 796) (by decide +kernel)⟩
def lw_privs_2 : List (MethodName × Nat) := [(⟨"MirrorJury$Courses", "goOn", "(LMirrorJury$Court;I)V"⟩, 4), (⟨"MirrorJury$Courses", "reach", "(IIZ)V"⟩, 4), (⟨"MirrorJury$Courses", "putBehind", "(I)V"⟩, 4), (⟨"MirrorJury$Courses", "effortInto", "(I)I"⟩, 4), (⟨"MirrorJury$Ray", "follow", "(LMirrorJury$Court;I)V"⟩, 4), (⟨"MirrorJury", "portsAhead", "(I)I"⟩, 16), (⟨"MirrorJury$Court", "hear", "(II)V"⟩, 14), (⟨"MirrorJury$Court", "placeIn", "(II)I"⟩, 14), (⟨"MirrorJury$Court", "optionIn", "(II)I"⟩, 14), (⟨"MirrorJury$Court", "mayRetry", "()Z"⟩, 14), (⟨"MirrorJury$Court", "startAgain", "()I"⟩, 14), (⟨"MirrorJury$Court", "resetRanking", "(I)Z"⟩, 14), (⟨"MirrorJury$Court", "catsAhead", "(I)I"⟩, 14), (⟨"MirrorJury$History", "stepBack", "(LMirrorJury$Court;)V"⟩, 3), (⟨"MirrorJury$History", "returnToMarked", "(LMirrorJury$Court;)V"⟩, 3), (⟨"MirrorJury", "holdVote", "()V"⟩, 16)]
theorem lw_r2 : ∀ q ∈ lw_privs_2, lw_okq q := List.forall_mem_cons.mpr ⟨lw_p16, List.forall_mem_cons.mpr ⟨lw_p17, List.forall_mem_cons.mpr ⟨lw_p18, List.forall_mem_cons.mpr ⟨lw_p19, List.forall_mem_cons.mpr ⟨lw_p20, List.forall_mem_cons.mpr ⟨lw_p21, List.forall_mem_cons.mpr ⟨lw_p22, List.forall_mem_cons.mpr ⟨lw_p23, List.forall_mem_cons.mpr ⟨lw_p24, List.forall_mem_cons.mpr ⟨lw_p25, List.forall_mem_cons.mpr ⟨lw_p26, List.forall_mem_cons.mpr ⟨lw_p27, List.forall_mem_cons.mpr ⟨lw_p28, List.forall_mem_cons.mpr ⟨lw_p29, List.forall_mem_cons.mpr ⟨lw_p30, List.forall_mem_cons.mpr ⟨lw_p31, fun _ h => absurd h List.not_mem_nil⟩⟩⟩⟩⟩⟩⟩⟩⟩⟩⟩⟩⟩⟩⟩⟩
theorem lw_p32 : lw_okq (⟨"MirrorJury$Votes", "voteInRounds", "(LMirrorJury$Court;)I"⟩, 4) := ⟨⟨by decide +kernel, by decide +kernel⟩, List.mem_of_getElem? (i := 801) (by decide +kernel), List.mem_of_getElem? (i := 799) (by decide +kernel), List.mem_of_getElem? (i := 800) (by decide +kernel)⟩
theorem lw_p33 : lw_okq (⟨"MirrorJury$Votes", "countBallots", "(LMirrorJury$Court;I)V"⟩, 4) := ⟨⟨by decide +kernel, by decide +kernel⟩, List.mem_of_getElem? (i := 801) (by decide +kernel), List.mem_of_getElem? (i := 804) (by decide +kernel), List.mem_of_getElem? (i := 805) (by decide +kernel)⟩
theorem lw_p34 : lw_okq (⟨"MirrorJury$Votes", "findFavourite", "(LMirrorJury$Court;II)I"⟩, 4) := ⟨⟨by decide +kernel, by decide +kernel⟩, List.mem_of_getElem? (i := 801) (by decide +kernel), List.mem_of_getElem? (i := 809) (by decide +kernel), List.mem_of_getElem? (i := 810) (by decide +kernel)⟩
theorem lw_p35 : lw_okq (⟨"MirrorJury$Votes", "findFewest", "(I)I"⟩, 4) := ⟨⟨by decide +kernel, by decide +kernel⟩, List.mem_of_getElem? (i := 801) (by decide +kernel), List.mem_of_getElem? (i := 817) (by decide +kernel), List.mem_of_getElem? (i := 818) (by decide +kernel)⟩
theorem lw_p36 : lw_okq (⟨"MirrorJury$Votes", "findStrongest", "(LMirrorJury$Court;)I"⟩, 4) := ⟨⟨by decide +kernel, by decide +kernel⟩, List.mem_of_getElem? (i := 801) (by decide +kernel), List.mem_of_getElem? (i := 821) (by decide +kernel), List.mem_of_getElem? (i := 822) (by decide +kernel)⟩
theorem lw_p37 : lw_okq (⟨"MirrorJury$Votes", "fillStrengths", "(LMirrorJury$Court;)V"⟩, 4) := ⟨⟨by decide +kernel, by decide +kernel⟩, List.mem_of_getElem? (i := 801) (by decide +kernel), List.mem_of_getElem? (i := 825) (by decide +kernel), List.mem_of_getElem? (i := 826) (by decide +kernel)⟩
theorem lw_p38 : lw_okq (⟨"MirrorJury$Votes", "countPairs", "(LMirrorJury$Court;)V"⟩, 4) := ⟨⟨by decide +kernel, by decide +kernel⟩, List.mem_of_getElem? (i := 801) (by decide +kernel), List.mem_of_getElem? (i := 829) (by decide +kernel), List.mem_of_getElem? (i := 830) (by decide +kernel)⟩
theorem lw_p39 : lw_okq (⟨"MirrorJury$Votes", "victory", "(II)I"⟩, 4) := ⟨⟨by decide +kernel, by decide +kernel⟩, List.mem_of_getElem? (i := 801) (by decide +kernel), List.mem_of_getElem? (i := 836) (by decide +kernel), List.mem_of_getElem? (i := 837) (by decide +kernel)⟩
theorem lw_p40 : lw_okq (⟨"MirrorJury$Votes", "tableStrength", "(II)I"⟩, 4) := ⟨⟨by decide +kernel, by decide +kernel⟩, List.mem_of_getElem? (i := 801) (by decide +kernel), List.mem_of_getElem? (i := 840) (by decide +kernel), List.mem_of_getElem? (i := 841) (by decide +kernel)⟩
theorem lw_p41 : lw_okq (⟨"MirrorJury$Votes", "holdsAgainstAll", "(I)Z"⟩, 4) := ⟨⟨by decide +kernel, by decide +kernel⟩, List.mem_of_getElem? (i := 801) (by decide +kernel), List.mem_of_getElem? (i := 846) (by decide +kernel), List.mem_of_getElem? (i := 847) (by decide +kernel)⟩
theorem lw_p42 : lw_okq (⟨"MirrorJury$Votes", "findMostPoints", "(LMirrorJury$Court;)I"⟩, 4) := ⟨⟨by decide +kernel, by decide +kernel⟩, List.mem_of_getElem? (i := 801) (by decide +kernel), List.mem_of_getElem? (i := 850) (by decide +kernel), List.mem_of_getElem? (i := 851) (by decide +kernel)⟩
theorem lw_p43 : lw_okq (⟨"MirrorJury$Votes", "countPoints", "(LMirrorJury$Court;I)I"⟩, 4) := ⟨⟨by decide +kernel, by decide +kernel⟩, List.mem_of_getElem? (i := 801) (by decide +kernel), List.mem_of_getElem? (i := 854) (by decide +kernel), List.mem_of_getElem? (i := 855) (by decide +kernel)⟩
theorem lw_p44 : lw_okq (⟨"MirrorJury$Votes", "dominates", "(LMirrorJury$Court;I)Z"⟩, 4) := ⟨⟨by decide +kernel, by decide +kernel⟩, List.mem_of_getElem? (i := 801) (by decide +kernel), List.mem_of_getElem? (i := 859) (by decide +kernel), List.mem_of_getElem? (i := 860) (by decide +kernel)⟩
theorem lw_p45 : lw_okq (⟨"MirrorJury$Votes", "preferring", "(II)I"⟩, 4) := ⟨⟨by decide +kernel, by decide +kernel⟩, List.mem_of_getElem? (i := 801) (by decide +kernel), List.mem_of_getElem? (i := 863) (by decide +kernel), List.mem_of_getElem? (i := 864) (by decide +kernel)⟩
theorem lw_p46 : lw_okq (⟨"MirrorJury$Court", "conclude", "(C)V"⟩, 14) := ⟨⟨by decide +kernel, by decide +kernel⟩, List.mem_of_getElem? (i := 435) (by decide +kernel), List.mem_of_getElem? (i := 870) (by decide +kernel), List.mem_of_getElem? (i := 871) (by decide +kernel)⟩
theorem lw_p47 : lw_okq (⟨"MirrorJury", "requireCats", "()V"⟩, 16) := ⟨⟨by decide +kernel, by decide +kernel⟩, List.mem_of_getElem? (i := 513) (by decide +kernel), List.mem_of_getElem? (i := 881) (by decide +kernel), List.mem_of_getElem? (i := 882) (by decide +kernel)⟩
def lw_privs_3 : List (MethodName × Nat) := [(⟨"MirrorJury$Votes", "voteInRounds", "(LMirrorJury$Court;)I"⟩, 4), (⟨"MirrorJury$Votes", "countBallots", "(LMirrorJury$Court;I)V"⟩, 4), (⟨"MirrorJury$Votes", "findFavourite", "(LMirrorJury$Court;II)I"⟩, 4), (⟨"MirrorJury$Votes", "findFewest", "(I)I"⟩, 4), (⟨"MirrorJury$Votes", "findStrongest", "(LMirrorJury$Court;)I"⟩, 4), (⟨"MirrorJury$Votes", "fillStrengths", "(LMirrorJury$Court;)V"⟩, 4), (⟨"MirrorJury$Votes", "countPairs", "(LMirrorJury$Court;)V"⟩, 4), (⟨"MirrorJury$Votes", "victory", "(II)I"⟩, 4), (⟨"MirrorJury$Votes", "tableStrength", "(II)I"⟩, 4), (⟨"MirrorJury$Votes", "holdsAgainstAll", "(I)Z"⟩, 4), (⟨"MirrorJury$Votes", "findMostPoints", "(LMirrorJury$Court;)I"⟩, 4), (⟨"MirrorJury$Votes", "countPoints", "(LMirrorJury$Court;I)I"⟩, 4), (⟨"MirrorJury$Votes", "dominates", "(LMirrorJury$Court;I)Z"⟩, 4), (⟨"MirrorJury$Votes", "preferring", "(II)I"⟩, 4), (⟨"MirrorJury$Court", "conclude", "(C)V"⟩, 14), (⟨"MirrorJury", "requireCats", "()V"⟩, 16)]
theorem lw_r3 : ∀ q ∈ lw_privs_3, lw_okq q := List.forall_mem_cons.mpr ⟨lw_p32, List.forall_mem_cons.mpr ⟨lw_p33, List.forall_mem_cons.mpr ⟨lw_p34, List.forall_mem_cons.mpr ⟨lw_p35, List.forall_mem_cons.mpr ⟨lw_p36, List.forall_mem_cons.mpr ⟨lw_p37, List.forall_mem_cons.mpr ⟨lw_p38, List.forall_mem_cons.mpr ⟨lw_p39, List.forall_mem_cons.mpr ⟨lw_p40, List.forall_mem_cons.mpr ⟨lw_p41, List.forall_mem_cons.mpr ⟨lw_p42, List.forall_mem_cons.mpr ⟨lw_p43, List.forall_mem_cons.mpr ⟨lw_p44, List.forall_mem_cons.mpr ⟨lw_p45, List.forall_mem_cons.mpr ⟨lw_p46, List.forall_mem_cons.mpr ⟨lw_p47, fun _ h => absurd h List.not_mem_nil⟩⟩⟩⟩⟩⟩⟩⟩⟩⟩⟩⟩⟩⟩⟩⟩
theorem lw_p48 : lw_okq (⟨"MirrorJury$Court", "reasonAgainstCat", "(I)I"⟩, 14) := ⟨⟨by decide +kernel, by decide +kernel⟩, List.mem_of_getElem? (i := 435) (by decide +kernel), List.mem_of_getElem? (i := 916) (by decide +kernel), List.mem_of_getElem? (i := 917) (by decide +kernel)⟩
theorem lw_p49 : lw_okq (⟨"MirrorJury$Court", "seatCat", "(ICCC)V"⟩, 14) := ⟨⟨by decide +kernel, by decide +kernel⟩, List.mem_of_getElem? (i := 435) (by decide +kernel), List.mem_of_getElem? (i := 922) (by decide +kernel), List.mem_of_getElem? (i := 923) (by decide +kernel)⟩
theorem lw_p50 : lw_okq (⟨"MirrorJury$Court", "rank", "(III)V"⟩, 14) := ⟨⟨by decide +kernel, by decide +kernel⟩, List.mem_of_getElem? (i := 435) (by decide +kernel), List.mem_of_getElem? (i := 927) (by decide +kernel), List.mem_of_getElem? (i := 928) (by decide +kernel)⟩
theorem lw_p51 : lw_okq (⟨"MirrorJury$Script", "countCommands", "()I"⟩, 7) := ⟨⟨by decide +kernel, by decide +kernel⟩, List.mem_of_getElem? (i := 1091) (by decide +kernel), List.mem_of_getElem? (i := 1247) (by decide +kernel), List.mem_of_getElem? (i := 1248) (by decide +kernel)⟩
theorem lw_p52 : lw_okq (⟨"MirrorJury$Script", "readCommand", "()Z"⟩, 7) := ⟨⟨by decide +kernel, by decide +kernel⟩, List.mem_of_getElem? (i := 1091) (by decide +kernel), List.mem_of_getElem? (i := 1251) (by decide +kernel), List.mem_of_getElem? (i := 1252) (by decide +kernel)⟩
theorem lw_p53 : lw_okq (⟨"MirrorJury$Script", "peek", "()C"⟩, 7) := ⟨⟨by decide +kernel, by decide +kernel⟩, List.mem_of_getElem? (i := 1091) (by decide +kernel), List.mem_of_getElem? (i := 1255) (by decide +kernel), List.mem_of_getElem? (i := 1256) (by decide +kernel)⟩
theorem lw_p54 : lw_okq (⟨"MirrorJury$Script", "takeWord", "(Ljava/lang/String;)Z"⟩, 7) := ⟨⟨by decide +kernel, by decide +kernel⟩, List.mem_of_getElem? (i := 1091) (by decide +kernel), List.mem_of_getElem? (i := 1271) (by decide +kernel), List.mem_of_getElem? (i := 1272) (by decide +kernel)⟩
theorem lw_p55 : lw_okq (⟨"MirrorJury$Script", "takeNumber", "()Z"⟩, 7) := ⟨⟨by decide +kernel, by decide +kernel⟩, List.mem_of_getElem? (i := 1091) (by decide +kernel), List.mem_of_getElem? (i := 1277) (by decide +kernel), List.mem_of_getElem? (i := 1278) (by decide +kernel)⟩
theorem lw_p56 : lw_okq (⟨"MirrorJury$Script", "takeRanking", "()Z"⟩, 7) := ⟨⟨by decide +kernel, by decide +kernel⟩, List.mem_of_getElem? (i := 1091) (by decide +kernel), List.mem_of_getElem? (i := 1285) (by decide +kernel), List.mem_of_getElem? (i := 1286) (by decide +kernel)⟩
theorem lw_p57 : lw_okq (⟨"MirrorJury$Script", "takeFirst", "(Ljava/lang/String;)Z"⟩, 7) := ⟨⟨by decide +kernel, by decide +kernel⟩, List.mem_of_getElem? (i := 1091) (by decide +kernel), List.mem_of_getElem? (i := 1290) (by decide +kernel), List.mem_of_getElem? (i := 1291) (by decide +kernel)⟩
theorem lw_p58 : lw_okq (⟨"MirrorJury$Script", "readMirrorOrMethod", "()Z"⟩, 7) := ⟨⟨by decide +kernel, by decide +kernel⟩, List.mem_of_getElem? (i := 1091) (by decide +kernel), List.mem_of_getElem? (i := 1341) (by decide +kernel), List.mem_of_getElem? (i := 1342) (by decide +kernel)⟩
theorem lw_p59 : lw_okq (⟨"MirrorJury", "runNextCommand", "()I"⟩, 16) := ⟨⟨by decide +kernel, by decide +kernel⟩, List.mem_of_getElem? (i := 513) (by decide +kernel), List.mem_of_getElem? (i := 1355) (by decide +kernel), List.mem_of_getElem? (i := 1356) (by decide +kernel)⟩
theorem lw_p60 : lw_okq (⟨"MirrorJury$Script", "skipSeparator", "()V"⟩, 7) := ⟨⟨by decide +kernel, by decide +kernel⟩, List.mem_of_getElem? (i := 1091) (by decide +kernel), List.mem_of_getElem? (i := 1359) (by decide +kernel), List.mem_of_getElem? (i := 1360) (by decide +kernel)⟩
theorem lw_p61 : lw_okq (⟨"MirrorJury", "runCat", "()I"⟩, 16) := ⟨⟨by decide +kernel, by decide +kernel⟩, List.mem_of_getElem? (i := 513) (by decide +kernel), List.mem_of_getElem? (i := 1364) (by decide +kernel), List.mem_of_getElem? (i := 1365) (by decide +kernel)⟩
theorem lw_p62 : lw_okq (⟨"MirrorJury", "runMirror", "()I"⟩, 16) := ⟨⟨by decide +kernel, by decide +kernel⟩, List.mem_of_getElem? (i := 513) (by decide +kernel), List.mem_of_getElem? (i := 1368) (by decide +kernel), List.mem_of_getElem? (i := 1369) (by decide +kernel)⟩
theorem lw_p63 : lw_okq (⟨"MirrorJury", "runSay", "()I"⟩, 16) := ⟨⟨by decide +kernel, by decide +kernel⟩, List.mem_of_getElem? (i := 513) (by decide +kernel), List.mem_of_getElem? (i := 1372) (by decide +kernel), List.mem_of_getElem? (i := 1373) (by decide +kernel)⟩
def lw_privs_4 : List (MethodName × Nat) := [(⟨"MirrorJury$Court", "reasonAgainstCat", "(I)I"⟩, 14), (⟨"MirrorJury$Court", "seatCat", "(ICCC)V"⟩, 14), (⟨"MirrorJury$Court", "rank", "(III)V"⟩, 14), (⟨"MirrorJury$Script", "countCommands", "()I"⟩, 7), (⟨"MirrorJury$Script", "readCommand", "()Z"⟩, 7), (⟨"MirrorJury$Script", "peek", "()C"⟩, 7), (⟨"MirrorJury$Script", "takeWord", "(Ljava/lang/String;)Z"⟩, 7), (⟨"MirrorJury$Script", "takeNumber", "()Z"⟩, 7), (⟨"MirrorJury$Script", "takeRanking", "()Z"⟩, 7), (⟨"MirrorJury$Script", "takeFirst", "(Ljava/lang/String;)Z"⟩, 7), (⟨"MirrorJury$Script", "readMirrorOrMethod", "()Z"⟩, 7), (⟨"MirrorJury", "runNextCommand", "()I"⟩, 16), (⟨"MirrorJury$Script", "skipSeparator", "()V"⟩, 7), (⟨"MirrorJury", "runCat", "()I"⟩, 16), (⟨"MirrorJury", "runMirror", "()I"⟩, 16), (⟨"MirrorJury", "runSay", "()I"⟩, 16)]
theorem lw_r4 : ∀ q ∈ lw_privs_4, lw_okq q := List.forall_mem_cons.mpr ⟨lw_p48, List.forall_mem_cons.mpr ⟨lw_p49, List.forall_mem_cons.mpr ⟨lw_p50, List.forall_mem_cons.mpr ⟨lw_p51, List.forall_mem_cons.mpr ⟨lw_p52, List.forall_mem_cons.mpr ⟨lw_p53, List.forall_mem_cons.mpr ⟨lw_p54, List.forall_mem_cons.mpr ⟨lw_p55, List.forall_mem_cons.mpr ⟨lw_p56, List.forall_mem_cons.mpr ⟨lw_p57, List.forall_mem_cons.mpr ⟨lw_p58, List.forall_mem_cons.mpr ⟨lw_p59, List.forall_mem_cons.mpr ⟨lw_p60, List.forall_mem_cons.mpr ⟨lw_p61, List.forall_mem_cons.mpr ⟨lw_p62, List.forall_mem_cons.mpr ⟨lw_p63, fun _ h => absurd h List.not_mem_nil⟩⟩⟩⟩⟩⟩⟩⟩⟩⟩⟩⟩⟩⟩⟩⟩
theorem lw_p64 : lw_okq (⟨"MirrorJury$Joining", "joinAll", "(LMirrorJury$Court;)V"⟩, 1) := ⟨⟨by decide +kernel, by decide +kernel⟩, List.mem_of_getElem? (i := 1045) (by decide +kernel), List.mem_of_getElem? (i := 1478) (by decide +kernel), List.mem_of_getElem? (i := 1479) (by decide +kernel)⟩
theorem lw_p65 : lw_okq (⟨"MirrorJury$Joining", "joinToNeighbour", "(II)V"⟩, 1) := ⟨⟨by decide +kernel, by decide +kernel⟩, List.mem_of_getElem? (i := 1045) (by decide +kernel), List.mem_of_getElem? (i := 1482) (by decide +kernel), List.mem_of_getElem? (i := 1483) (by decide +kernel)⟩
theorem lw_p66 : lw_okq (⟨"MirrorJury$Joining", "join", "(II)V"⟩, 1) := ⟨⟨by decide +kernel, by decide +kernel⟩, List.mem_of_getElem? (i := 1045) (by decide +kernel), List.mem_of_getElem? (i := 1489) (by decide +kernel), List.mem_of_getElem? (i := 1490) (by decide +kernel)⟩
theorem lw_p67 : lw_okq (⟨"MirrorJury$Joining", "rootOf", "(I)I"⟩, 1) := ⟨⟨by decide +kernel, by decide +kernel⟩, List.mem_of_getElem? (i := 1045) (by decide +kernel), List.mem_of_getElem? (i := 1493) (by decide +kernel), List.mem_of_getElem? (i := 1494) (by decide +kernel)⟩
theorem lw_p68 : lw_okq (⟨"MirrorJury$Joining", "joinWithin", "(IC)V"⟩, 1) := ⟨⟨by decide +kernel, by decide +kernel⟩, List.mem_of_getElem? (i := 1045) (by decide +kernel), List.mem_of_getElem? (i := 1500) (by decide +kernel), List.mem_of_getElem? (i := 1501) (by decide +kernel)⟩
theorem lw_p69 : lw_okq (⟨"MirrorJury$Joining", "otherEnd", "(I)I"⟩, 1) := ⟨⟨by decide +kernel, by decide +kernel⟩, List.mem_of_getElem? (i := 1045) (by decide +kernel), List.mem_of_getElem? (i := 1505) (by decide +kernel), List.mem_of_getElem? (i := 1506) (by decide +kernel)⟩
theorem lw_p70 : lw_okq (⟨"MirrorJury$Joining", "rootAt", "(I)I"⟩, 1) := ⟨⟨by decide +kernel, by decide +kernel⟩, List.mem_of_getElem? (i := 1045) (by decide +kernel), List.mem_of_getElem? (i := 1509) (by decide +kernel), List.mem_of_getElem? (i := 1510) (by decide +kernel)⟩
theorem lw_p71 : lw_okq (⟨"MirrorJury$Courses", "searchByRounds", "(LMirrorJury$Court;I)V"⟩, 4) := ⟨⟨by decide +kernel, by decide +kernel⟩, List.mem_of_getElem? (i := 587) (by decide +kernel), List.mem_of_getElem? (i := 1530) (by decide +kernel), List.mem_of_getElem? (i := 1531) (by decide +kernel)⟩
theorem lw_p72 : lw_okq (⟨"MirrorJury$Courses", "lowerAll", "(LMirrorJury$Court;)Z"⟩, 4) := ⟨⟨by decide +kernel, by decide +kernel⟩, List.mem_of_getElem? (i := 587) (by decide +kernel), List.mem_of_getElem? (i := 1534) (by decide +kernel), List.mem_of_getElem? (i := 1535) (by decide +kernel)⟩
theorem lw_p73 : lw_okq (⟨"MirrorJury$Courses", "effortFromBehind", "(LMirrorJury$Court;I)I"⟩, 4) := ⟨⟨by decide +kernel, by decide +kernel⟩, List.mem_of_getElem? (i := 587) (by decide +kernel), List.mem_of_getElem? (i := 1538) (by decide +kernel), List.mem_of_getElem? (i := 1539) (by decide +kernel)⟩
theorem lw_p74 : lw_okq (⟨"MirrorJury$Votes", "triedStrength", "(III)I"⟩, 4) := ⟨⟨by decide +kernel, by decide +kernel⟩, List.mem_of_getElem? (i := 801) (by decide +kernel), List.mem_of_getElem? (i := 1565) (by decide +kernel), List.mem_of_getElem? (i := 1566) (by decide +kernel)⟩
theorem lw_p75 : lw_okq (⟨"MirrorJury$Votes", "reachedWith", "(II)I"⟩, 4) := ⟨⟨by decide +kernel, by decide +kernel⟩, List.mem_of_getElem? (i := 801) (by decide +kernel), List.mem_of_getElem? (i := 1569) (by decide +kernel), List.mem_of_getElem? (i := 1570) (by decide +kernel)⟩
theorem lw_p76 : lw_okq (⟨"MirrorJury", "raysAgree", "()Z"⟩, 16) := ⟨⟨by decide +kernel, by decide +kernel⟩, List.mem_of_getElem? (i := 513) (by decide +kernel), List.mem_of_getElem? (i := 1581) (by decide +kernel), List.mem_of_getElem? (i := 1582) (by decide +kernel)⟩
theorem lw_p77 : lw_okq (⟨"MirrorJury", "effortsAgree", "()Z"⟩, 16) := ⟨⟨by decide +kernel, by decide +kernel⟩, List.mem_of_getElem? (i := 513) (by decide +kernel), List.mem_of_getElem? (i := 1585) (by decide +kernel), List.mem_of_getElem? (i := 1586) (by decide +kernel)⟩
theorem lw_p78 : lw_okq (⟨"MirrorJury", "strengthsAgree", "()Z"⟩, 16) := ⟨⟨by decide +kernel, by decide +kernel⟩, List.mem_of_getElem? (i := 513) (by decide +kernel), List.mem_of_getElem? (i := 1589) (by decide +kernel), List.mem_of_getElem? (i := 1590) (by decide +kernel)⟩
theorem lw_p79 : lw_okq (⟨"MirrorJury$Court", "countHeard", "()I"⟩, 14) := ⟨⟨by decide +kernel, by decide +kernel⟩, List.mem_of_getElem? (i := 435) (by decide +kernel), List.mem_of_getElem? (i := 1593) (by decide +kernel), List.mem_of_getElem? (i := 1594) (by decide +kernel)⟩
def lw_privs_5 : List (MethodName × Nat) := [(⟨"MirrorJury$Joining", "joinAll", "(LMirrorJury$Court;)V"⟩, 1), (⟨"MirrorJury$Joining", "joinToNeighbour", "(II)V"⟩, 1), (⟨"MirrorJury$Joining", "join", "(II)V"⟩, 1), (⟨"MirrorJury$Joining", "rootOf", "(I)I"⟩, 1), (⟨"MirrorJury$Joining", "joinWithin", "(IC)V"⟩, 1), (⟨"MirrorJury$Joining", "otherEnd", "(I)I"⟩, 1), (⟨"MirrorJury$Joining", "rootAt", "(I)I"⟩, 1), (⟨"MirrorJury$Courses", "searchByRounds", "(LMirrorJury$Court;I)V"⟩, 4), (⟨"MirrorJury$Courses", "lowerAll", "(LMirrorJury$Court;)Z"⟩, 4), (⟨"MirrorJury$Courses", "effortFromBehind", "(LMirrorJury$Court;I)I"⟩, 4), (⟨"MirrorJury$Votes", "triedStrength", "(III)I"⟩, 4), (⟨"MirrorJury$Votes", "reachedWith", "(II)I"⟩, 4), (⟨"MirrorJury", "raysAgree", "()Z"⟩, 16), (⟨"MirrorJury", "effortsAgree", "()Z"⟩, 16), (⟨"MirrorJury", "strengthsAgree", "()Z"⟩, 16), (⟨"MirrorJury$Court", "countHeard", "()I"⟩, 14)]
theorem lw_r5 : ∀ q ∈ lw_privs_5, lw_okq q := List.forall_mem_cons.mpr ⟨lw_p64, List.forall_mem_cons.mpr ⟨lw_p65, List.forall_mem_cons.mpr ⟨lw_p66, List.forall_mem_cons.mpr ⟨lw_p67, List.forall_mem_cons.mpr ⟨lw_p68, List.forall_mem_cons.mpr ⟨lw_p69, List.forall_mem_cons.mpr ⟨lw_p70, List.forall_mem_cons.mpr ⟨lw_p71, List.forall_mem_cons.mpr ⟨lw_p72, List.forall_mem_cons.mpr ⟨lw_p73, List.forall_mem_cons.mpr ⟨lw_p74, List.forall_mem_cons.mpr ⟨lw_p75, List.forall_mem_cons.mpr ⟨lw_p76, List.forall_mem_cons.mpr ⟨lw_p77, List.forall_mem_cons.mpr ⟨lw_p78, List.forall_mem_cons.mpr ⟨lw_p79, fun _ h => absurd h List.not_mem_nil⟩⟩⟩⟩⟩⟩⟩⟩⟩⟩⟩⟩⟩⟩⟩⟩
def lw_privs : List (MethodName × Nat) := lw_privs_1 ++ (lw_privs_2 ++ (lw_privs_3 ++ (lw_privs_4 ++ (lw_privs_5))))
def lw_tbl : List Cond := k2_sels lw_privs ++ tables_1
theorem lw_privs_ok : ∀ q ∈ lw_privs, lw_okq q := by
  show ∀ q ∈ lw_privs_1 ++ (lw_privs_2 ++ (lw_privs_3 ++ (lw_privs_4 ++ (lw_privs_5)))), lw_okq q
  exact List.forall_mem_append.mpr ⟨lw_r1, List.forall_mem_append.mpr ⟨lw_r2, List.forall_mem_append.mpr ⟨lw_r3, List.forall_mem_append.mpr ⟨lw_r4, lw_r5⟩⟩⟩⟩
-- ===== end of PART A; then your names; then what follows =====
end
section
/-! ===== BEGIN words of one list among another's, by their places ===== -/
theorem goodIn_r {big : List Cond} (ws : List Cond) (ps : List Nat) (hp : ws = ps.filterMap (fun i => big[i]?)) (h : ws.all goodWord = true) : GoodIn big ws := by
  intro w hw
  have h1 := List.all_eq_true.mp h w hw
  rw [hp] at hw
  obtain ⟨i, -, hi⟩ := List.mem_filterMap.mp hw
  have hm : w ∈ big := by first | exact List.mem_of_getElem? hi | exact List.getElem?_mem hi
  exact ⟨hm, good_of_word h1⟩
theorem goodIn_app {big a b : List Cond} (ha : GoodIn big a) (hb : GoodIn big b) : GoodIn big (a ++ b) := fun w h => (List.mem_append.mp h).elim (ha w) (hb w)
theorem goodIn_ca {big a b : List Cond} {c : Cond} (ha : GoodIn big (c :: a)) (hb : GoodIn big b) : GoodIn big (c :: (a ++ b)) := fun w h => (List.mem_cons.mp h).elim (fun e => ha w (List.mem_cons.mpr (Or.inl e))) (fun h => (List.mem_append.mp h).elim (fun h => ha w (List.mem_cons.mpr (Or.inr h))) (hb w))
theorem goodIn_sub {big ws : List Cond} (hm : ∀ w ∈ ws, w ∈ big) (h : ws.all goodWord = true) : GoodIn big ws := fun w hw => ⟨hm w hw, good_of_word (List.all_eq_true.mp h w hw)⟩
/-! ===== END ===== -/
/-! ===== BEGIN exceptions that leave a method, and their catching by the caller (launches without stack traces) ===== -/
section VXA
/-! The laws vx_back, vx_callV, vx_callS, vx_callSW, vx_throw0, vx_throwS follow proofs of the library, with one case more: JvmDerived/Free/Laws.lean (Back.of_free), Shelf42/LK1.lean (callV, callS), Shelf/KitTraced.lean (throwNew0V, throwNewS). -/
/-- where a method has thrown q: the class by its name, the cell, what was written, the world -/
def vx_T (XC : String → State → State → Prop) (st : State) (q : Addr) (t : State) (mc ms : Nat) (free : Addr → Prop) : Prop :=
  ∃ (E : String) (ce : Cell) (L : List Loc), XC E st t ∧ t.heap[q]? = some ce ∧ ce.vm = .none ∧ st.vm.findClass E = some ce.cls ∧ st.WarmedH t.vm ∧ st.sameButNew ({ t with vm := st.vm } : State) L mc ms ∧ ∀ z ∈ L, free z.base
def vx_Q (Qc : Array Value → State → Outcome → State → Prop) (XC : String → State → State → Prop) (mc ms : Nat) (free : Addr → Prop) : Array Value → State → Outcome → State → Prop := fun a st o t =>
  (Qc a st o t ∧ ∃ L, FrameEnd st o t L mc ms ∧ ∀ q ∈ L, free q.base) ∨ ∃ q, o = .threw q ∧ vx_T XC st q t mc ms free
/-- a callee that returns or throws -/
def vx_Met (l : Launch) (y : MethodName) (ws : List Cond) (rm : Room) (Pc : Array Value → State → Prop) (Qc : Array Value → State → Outcome → State → Prop) (XC : String → State → State → Prop) (mc ms : Nat) (free : Addr → Prop) : Prop :=
  MetFree l y (headSpec ws rm) Pc (fun _ _ _ _ _ => True) (vx_Q Qc XC mc ms free)
def vx_Post (XC : String → State → State → Prop) (mc ms : Nat) (free : Addr → Prop) : Pt → Array Value → Addr → Pt → Prop := fun A a q B =>
  ∃ (g : JFrame) (mk : MethodId) (t : State) (L : List Loc) (E : String) (ce : Cell), B.U.heap = t.heap ∧ B.U.vm = t.vm ∧ XC E (A.U.calling g mk a) t ∧ t.heap[q]? = some ce ∧ ce.vm = .none ∧ A.U.vm.findClass E = some ce.cls ∧ B.locs = A.locs ++ L ∧ (∀ z ∈ L, free z.base) ∧ B.cells = A.cells + mc ∧ B.slots = A.slots + ms
def vx_Back (l : Launch) (R : Room) (p : Program) (e : Env) (below : List Frame) (s : State) (sargs : Array Value) (y : MethodName) (len W9 : Nat)
    (Pre : Pt → Array Value → Prop) (Post : Pt → Array Value → Option Value → Pt → Prop) (PostX : Pt → Array Value → Addr → Pt → Prop) : Prop :=
  ∀ (m : MethodId) (meth : Method) (c : Code) (A : Pt) (g : JFrame) (ig : Instr) (mk : MethodId) (a : Array Value),
    Stand p l e R s m sargs below meth c A.U A.locs A.cells A.slots → g.method = m → g.locals.size = c.maxLocals → decode c.code g.pc = .ok (ig, len) →
    2 * g.monitorRoom + (g.stack.map fun v => v.category).sum ≤ W9 → A.U.methodNamed? y = some mk → Pre A a →
    (∃ (v : Option Value) (B : Pt), Stand p l e R s m sargs below meth c B.U B.locs B.cells B.slots ∧ Post A a v B ∧
      Steps p.tables e below (doInvoke e (A.U.setTop g) [] mk a).1 (B.U.setTop { g with pc := g.pc + len, stack := v.toList ++ g.stack })) ∨
    (∃ (q : Addr) (B : Pt), Stand p l e R s m sargs below meth c B.U B.locs B.cells B.slots ∧ PostX A a q B ∧
      Steps p.tables e below (doInvoke e (A.U.setTop g) [] mk a).1 ((B.U.setTop g).pushFrame (.throwing q)))
section Payer
variable {l : Launch} {R : Room} {p : Program} {e : Env} {below : List Frame} {s : State} {sargs : Array Value} {y : MethodName} {len W9 : Nat}
theorem vx_back {ws : List Cond} {rm : Room} {Pc : Array Value → State → Prop} {Qc : Array Value → State → Outcome → State → Prop} {XC : String → State → State → Prop} {mc ms : Nat} {free : Addr → Prop} {bytes : ByteArray} {maxL : Nat} {ret : Option FieldType}
    (hM : vx_Met l y ws rm Pc Qc XC mc ms free) (hblind : FrameBlind Pc) (hrc : rm.cells = mc) (hrs : rm.slots = ms)
    (hframes : rm.frames + 1 ≤ R.frames) (hlocals : W9 + (maxL + 11) + rm.locals ≤ R.locals)
    (hws : ∀ w ∈ ws, ∀ a' U, s.WarmedH U.vm → w.before a' U = true) (hcode : Cond.code y bytes maxL ret ∈ ws) (hinit : ∀ a' U, s.WarmedH U.vm → (Cond.initialized y.cls).before a' U = true) :
    vx_Back l R p e below s sargs y len W9 (PreOf R mc ms Pc) (PostOf Qc mc ms free) (vx_Post XC mc ms free) := by
  intro m meth c A g ig mk a X hg hsize hdg hW hn hp
  have h1 : (headSpec ws rm).pre.before a A.U = true := atoms_intro fun w hw => hws w hw _ _ X.warmed
  have h2 : (Cond.code y bytes maxL ret).before a A.U = true := hws _ hcode _ _ X.warmed
  have h3 : (Cond.initialized y.cls).before a A.U = true := hinit _ _ X.warmed
  have h4 : A.cells + (headSpec ws rm).room.cells ≤ R.cells := by rw [show (headSpec ws rm).room.cells = mc from hrc]; exact hp.1
  have h5 : A.slots + (headSpec ws rm).room.slots ≤ R.slots := by rw [show (headSpec ws rm).room.slots = ms from hrs]; exact hp.2.1
  have hPc : Pc a (A.U.calling g mk a) := hblind _ _ _ _ hp.2.2
  obtain ⟨U, Ls, c0, s0⟩ := A
  dsimp only [Pt.U, Pt.locs, Pt.cells, Pt.slots] at h1 h2 h3 h4 h5 X hn hPc ⊢
  obtain ⟨methY, cY, hmY, hcY, -, hlY, -, -, -, -⟩ := Cond.code_spec hn h2
  obtain ⟨kY, hkY, -⟩ := className_of_methodNamed hn
  have hinitY : kY.init = .initialized := Cond.initialized_spec (findClass_of_methodNamed hn) hkY h3
  have h : At U g.method c below := by rw [hg]; exact X.here
  have hlocals9 : W9 + (maxL + 11) + (headSpec ws rm).room.locals ≤ R.locals := hlocals
  have happ : (headSpec ws rm).appliesLoose y e.platform (U.calling g mk a) = true :=
    Spec.appliesLoose_calling (g := g) h hdg hn hkY hinitY
      (X.room_calling (g := g) (R' := (headSpec ws rm).room) hsize hmY hcY hframes (by rw [hlY]; omega) h4 h5) h1
  obtain ⟨mid, hmid⟩ := h.above
  have hfr : (U.setTop g).frames = (.java g :: mid) ++ below := by rw [State.frames_setTop' g h.top, hmid]; rfl
  obtain ⟨o, s₂, hsteps, -, hend, hq⟩ := Steps.callFree hM p X.admits X.cas X.clock (acts := []) hfr happ hPc trivial
  have hq' : vx_Q Qc XC mc ms free a (U.calling g mk a) o s₂ := hq
  rw [State.frames_setTop' g h.top] at hend
  obtain ⟨g₀, hg0⟩ := Option.isSome_iff_exists.mp h.top
  obtain ⟨r, hr⟩ := State.topJava?_eq_some.mp hg0
  have hr' : (({ U with heap := s₂.heap, slotsUsed := s₂.slotsUsed } : State).setVm s₂.vm).frames = .java g₀ :: r := hr
  rcases hq' with ⟨hqc, L, hfe, hL⟩ | ⟨q, rfl, E, ce, L, hx, hce, hcv, hcl, hW₂, hsm, hL⟩
  · obtain ⟨⟨v, rfl⟩, hW₂, e2, q2, q3, q4, q5, q6⟩ := id hfe
    have e3 : s₂ = ({ (U.calling g mk a).setFrames s₂.frames with heap := s₂.heap, slotsUsed := s₂.slotsUsed } : State).setVm s₂.vm := by
      have : s₂ = ({ s₂ with vm := (U.calling g mk a).vm } : State).setVm s₂.vm := rfl
      rw [e2] at this
      exact this
    obtain ⟨c₂, i₂, len₂, hc₂, hd₂, hf₂⟩ := hend
    have hW' : U.WarmedH s₂.vm := hW₂
    have hcc : c₂ = c := by
      have h1 : s₂.code? g.method = U.code? g.method := by
        rw [State.code?_eq, State.code?_eq, hW'.alike.method?]
      exact Option.some.inj (hc₂.symm.trans (h1.trans h.code))
    subst hcc
    have hlen : len₂ = len := by rw [hdg] at hd₂; cases hd₂; rfl
    subst hlen
    have hs₂ : s₂ = (({ U with heap := s₂.heap, slotsUsed := s₂.slotsUsed } : State).setVm s₂.vm).setTop { g with pc := g.pc + len₂, stack := v.toList ++ g.stack } := by
      refine e3.trans ?_
      rw [hf₂, State.calling_eq h.top, State.setFrames_setFrames, State.setTop_of_frames _ hr', hr]
      rfl
    have hsame : U.sameButNew ({ U with heap := s₂.heap, slotsUsed := s₂.slotsUsed } : State) L mc ms := by
      refine ⟨?_, q2, q3, q4, q5, q6⟩
      obtain ⟨t, ht, -⟩ := State.frames_cons hr
      show ({ U with heap := s₂.heap, slotsUsed := s₂.slotsUsed } : State) = { U.setFrames U.frames with heap := s₂.heap, slotsUsed := s₂.slotsUsed }
      rw [State.setFrames_self ht]
    subst hg
    refine Or.inl ⟨v, ⟨(({ U with heap := s₂.heap, slotsUsed := s₂.slotsUsed } : State).setVm s₂.vm), Ls ++ L, c0 + mc, s0 + ms⟩,
      ⟨X.admits, X.cas, X.clock, X.frames, X.room, X.hears, X.method, X.code, (X.here.setHeapUsed s₂.heap s₂.slotsUsed).setVm hW'.alike, X.tail, State.WarmedH.trans X.warmed hW', X.limits, X.bytes, X.same.trans (hsame.setVm s.vm)⟩,
      ⟨g, mk, s₂, L, rfl, rfl, hqc, rfl, hL, rfl, rfl⟩, ?_⟩
    show Steps p.tables e below _ ((({ U with heap := s₂.heap, slotsUsed := s₂.slotsUsed } : State).setVm s₂.vm).setTop { g with pc := g.pc + len₂, stack := v.toList ++ g.stack })
    rw [← hs₂]
    exact hsteps
  · obtain ⟨e2, q2, q3, q4, q5, q6⟩ := id hsm
    have e3 : s₂ = ({ (U.calling g mk a).setFrames s₂.frames with heap := s₂.heap, slotsUsed := s₂.slotsUsed } : State).setVm s₂.vm := by
      have : s₂ = ({ s₂ with vm := (U.calling g mk a).vm } : State).setVm s₂.vm := rfl
      rw [e2] at this
      exact this
    have hf₂ : s₂.frames = .throwing q :: .java g :: U.frames.tail := hend
    have hW' : U.WarmedH s₂.vm := hW₂
    have hs₂ : s₂ = ((({ U with heap := s₂.heap, slotsUsed := s₂.slotsUsed } : State).setVm s₂.vm).setTop g).pushFrame (.throwing q) := by
      refine e3.trans ?_
      rw [hf₂, State.calling_eq h.top, State.setFrames_setFrames, State.pushFrame, State.frames_setTop _ hr', State.setTop_of_frames _ hr', State.setFrames_setFrames, hr]
      rfl
    have hsame : U.sameButNew ({ U with heap := s₂.heap, slotsUsed := s₂.slotsUsed } : State) L mc ms := by
      refine ⟨?_, q2, q3, q4, q5, q6⟩
      obtain ⟨t, ht, -⟩ := State.frames_cons hr
      show ({ U with heap := s₂.heap, slotsUsed := s₂.slotsUsed } : State) = { U.setFrames U.frames with heap := s₂.heap, slotsUsed := s₂.slotsUsed }
      rw [State.setFrames_self ht]
    subst hg
    refine Or.inr ⟨q, ⟨(({ U with heap := s₂.heap, slotsUsed := s₂.slotsUsed } : State).setVm s₂.vm), Ls ++ L, c0 + mc, s0 + ms⟩,
      ⟨X.admits, X.cas, X.clock, X.frames, X.room, X.hears, X.method, X.code, (X.here.setHeapUsed s₂.heap s₂.slotsUsed).setVm hW'.alike, X.tail, State.WarmedH.trans X.warmed hW', X.limits, X.bytes, X.same.trans (hsame.setVm s.vm)⟩,
      ⟨g, mk, s₂, L, E, ce, rfl, rfl, hx, hce, hcv, hcl, rfl, hL, rfl, rfl⟩, ?_⟩
    show Steps p.tables e below _ (((({ U with heap := s₂.heap, slotsUsed := s₂.slotsUsed } : State).setVm s₂.vm).setTop g).pushFrame (.throwing q))
    rw [← hs₂]
    exact hsteps
end Payer
section Calls
variable {p : Program} {l : Launch} {e : Env} {R : Room} {s : State} {m : MethodId} {args : Array Value} {below : List Frame} {meth : Method} {c : Code} {T : State} {locs : List Loc} {cells slots : Nat}
theorem vx_callV (X : Stand p l e R s m args below meth c T locs cells slots) (hexec : p.tables.exec = Jvm.exec) {own C : String} {index : Nat} {y : MethodName} {bytes : ByteArray} {maxL : Nat} {ret : Option FieldType}
    (hown : s.vm.findClass own = some m.cls) (hlink : (Cond.methodLink own index y).before args s = true) (hinst : (Cond.instanceMethod y).before args s = true) (hsel : (Cond.selects C y y).before args s = true)
    (hcode : (Cond.code y bytes maxL ret).before args s = true) (hy : y.cls ≠ "java/lang/invoke/MethodHandle" ∧ y.cls ≠ "java/lang/invoke/VarHandle")
    {W9 : Nat} {Pre : Pt → Array Value → Prop} {Post : Pt → Array Value → Option Value → Pt → Prop} {PostX : Pt → Array Value → Addr → Pt → Prop} (hK : vx_Back l R p e below s args y 3 W9 Pre Post PostX)
    {b : Addr} {cellB : Cell} (hcell : T.heap[b]? = some cellB) (hobj : cellB.vm.isStatics = false) (hcls : s.vm.findClass C = some cellB.cls)
    {g : JFrame} (hg : g.method = m) (hsize : g.locals.size = c.maxLocals) {argsL rest : List Value} (hlen : ∀ sig, parseMethodDescriptor y.desc = some sig → argsL.length = sig.parameters.length)
    (hstack : g.stack = argsL.reverse ++ .ref b :: rest) (hW : 2 * g.monitorRoom + (rest.map fun v => v.category).sum ≤ W9) (hdg : decode c.code g.pc = .ok (.invokevirtual index, 3))
    (hpre : ∀ vm₁, s.WarmedH vm₁ → Pre ⟨T.setVm vm₁, locs, cells, slots⟩ (Value.ref b :: argsL).toArray) :
    (∃ (v : Option Value) (vm₁ : Vm) (B : Pt), s.WarmedH vm₁ ∧ Stand p l e R s m args below meth c B.U B.locs B.cells B.slots ∧ Post ⟨T.setVm vm₁, locs, cells, slots⟩ (Value.ref b :: argsL).toArray v B ∧
      ∀ target, Steps p.tables e below (B.U.setTop { g with pc := g.pc + 3, stack := v.toList ++ rest }) target → Steps p.tables e below (T.setTop g) target) ∨
    (∃ (q : Addr) (vm₁ : Vm) (B : Pt), s.WarmedH vm₁ ∧ Stand p l e R s m args below meth c B.U B.locs B.cells B.slots ∧ PostX ⟨T.setVm vm₁, locs, cells, slots⟩ (Value.ref b :: argsL).toArray q B ∧
      Steps p.tables e below (T.setTop g) ((B.U.setTop { g with stack := rest }).pushFrame (.throwing q))) := by
  obtain ⟨mk, methM, hnamed, hmethM, hstM, habM⟩ := Cond.instanceMethod_spec hinst
  obtain ⟨methM', cM, hmethM', -, -, -, -, -, -, hsigM⟩ := Cond.code_spec hnamed hcode
  cases hmethM.symm.trans hmethM'
  obtain ⟨c2, r2, m2, q1, q2, q3, q4, kP, hkP, hkPi⟩ := Cond.selects_spec hsel
  cases hcls.symm.trans q1
  cases (State.methodFound?_of_named hnamed hy).symm.trans q2
  cases hnamed.symm.trans q3
  have hselP : selectMethod e.platform s.vm cellB.cls mk = .method mk := by rw [Launch.admits_selectMethod X.admits]; exact q4
  obtain ⟨vm₁, X₁, hstep₁⟩ := X.invokevirtual hexec hown hlink hnamed hmethM hstM hkP hkPi hy (a := b) (cell := cellB) hcell
    (fun z h => by rw [h] at hobj; cases hobj) hselP hmethM habM hkP hkPi (g := g) hg (argsL := argsL) (rest := rest) (hlen _ hsigM) hstack hdg
  rcases hK m meth c ⟨T.setVm vm₁, locs, cells, slots⟩ { g with stack := rest } (.invokevirtual index) mk (Value.ref b :: argsL).toArray X₁ hg hsize hdg hW (X₁.named hnamed) (hpre vm₁ X₁.warmed) with ⟨v, B, X', hpost, hsteps⟩ | ⟨q, B, X', hpost, hsteps⟩
  · exact Or.inl ⟨v, vm₁, B, X₁.warmed, X', hpost, fun target h => hstep₁ _ fun acts => by rw [doInvoke_state]; exact hsteps.trans h⟩
  · exact Or.inr ⟨q, vm₁, B, X₁.warmed, X', hpost, hstep₁ _ fun acts => by rw [doInvoke_state]; exact hsteps⟩
theorem vx_callS (X : Stand p l e R s m args below meth c T locs cells slots) (hexec : p.tables.exec = Jvm.exec) {own : String} {index : Nat} {y : MethodName} {bytes : ByteArray} {maxL : Nat} {ret : Option FieldType}
    (hown : s.vm.findClass own = some m.cls) (hlink : (Cond.methodLink own index y).before args s = true) (hstat : (Cond.static y).before args s = true) (hinit : (Cond.initialized y.cls).before args s = true)
    (hcode : (Cond.code y bytes maxL ret).before args s = true) (hy : y.cls ≠ "java/lang/invoke/MethodHandle" ∧ y.cls ≠ "java/lang/invoke/VarHandle")
    {W9 : Nat} {Pre : Pt → Array Value → Prop} {Post : Pt → Array Value → Option Value → Pt → Prop} {PostX : Pt → Array Value → Addr → Pt → Prop} (hK : vx_Back l R p e below s args y 3 W9 Pre Post PostX)
    {g : JFrame} (hg : g.method = m) (hsize : g.locals.size = c.maxLocals) {argsL rest : List Value} (hlen : ∀ sig, parseMethodDescriptor y.desc = some sig → argsL.length = sig.parameters.length)
    (hstack : g.stack = argsL.reverse ++ rest) (hW : 2 * g.monitorRoom + (rest.map fun v => v.category).sum ≤ W9) (hdg : decode c.code g.pc = .ok (.invokestatic index, 3))
    (hpre : ∀ vm₁, s.WarmedH vm₁ → Pre ⟨T.setVm vm₁, locs, cells, slots⟩ argsL.toArray) :
    (∃ (v : Option Value) (vm₁ : Vm) (B : Pt), s.WarmedH vm₁ ∧ Stand p l e R s m args below meth c B.U B.locs B.cells B.slots ∧ Post ⟨T.setVm vm₁, locs, cells, slots⟩ argsL.toArray v B ∧
      ∀ target, Steps p.tables e below (B.U.setTop { g with pc := g.pc + 3, stack := v.toList ++ rest }) target → Steps p.tables e below (T.setTop g) target) ∨
    (∃ (q : Addr) (vm₁ : Vm) (B : Pt), s.WarmedH vm₁ ∧ Stand p l e R s m args below meth c B.U B.locs B.cells B.slots ∧ PostX ⟨T.setVm vm₁, locs, cells, slots⟩ argsL.toArray q B ∧
      Steps p.tables e below (T.setTop g) ((B.U.setTop { g with stack := rest }).pushFrame (.throwing q))) := by
  obtain ⟨mk, hnamed⟩ := Cond.code_named hcode
  obtain ⟨methM, cM, hmethM, -, -, -, -, -, -, hsigM⟩ := Cond.code_spec hnamed hcode
  have hstatic : methM.isStatic = true := Cond.static_spec hnamed hmethM hstat
  obtain ⟨kP, hkP, -⟩ := className_of_methodNamed hnamed
  have hinitP : kP.init = .initialized := Cond.initialized_spec (findClass_of_methodNamed hnamed) hkP hinit
  obtain ⟨vm₁, X₁, hstep₁⟩ := X.invokestatic hexec hown hlink hnamed hmethM hstatic hkP hinitP hy (g := g) hg (argsL := argsL) (rest := rest) (hlen _ hsigM) hstack hdg
  rcases hK m meth c ⟨T.setVm vm₁, locs, cells, slots⟩ { g with stack := rest } (.invokestatic index) mk argsL.toArray X₁ hg hsize hdg hW (X₁.named hnamed) (hpre vm₁ X₁.warmed) with ⟨v, B, X', hpost, hsteps⟩ | ⟨q, B, X', hpost, hsteps⟩
  · exact Or.inl ⟨v, vm₁, B, X₁.warmed, X', hpost, fun target h => hstep₁ _ fun acts => by rw [doInvoke_state]; exact hsteps.trans h⟩
  · exact Or.inr ⟨q, vm₁, B, X₁.warmed, X', hpost, hstep₁ _ fun acts => by rw [doInvoke_state]; exact hsteps⟩
end Calls
theorem vx_cls {s : State} {T : State} {vm₁ : Vm} {E : String} {k : ClassId} (hW : s.WarmedH vm₁) (h : (T.setVm vm₁).vm.findClass E = some k) : s.vm.findClass E = some k := by
  have h1 : vm₁.findClass E = some k := h
  rw [hW.alike.findClass] at h1
  exact h1
/-- the method's frame g, with q thrown over it -/
def vx_W (p : Program) (l : Launch) (e : Env) (R : Room) (s : State) (m : MethodId) (args : Array Value) (below : List Frame) (meth : Method) (c : Code) (H : Heap) (locs : List Loc) (cells slots : Nat) (Q : State → Prop) (g : JFrame) (q : Addr) : Prop :=
  ∀ T : State, T.heap = H → Stand p l e R s m args below meth c T locs cells slots → ∃ t, Steps p.tables e below ((T.setTop g).pushFrame (.throwing q)) t ∧ Q t
def vx_Run (p : Program) (l : Launch) (e : Env) (R : Room) (s : State) (m : MethodId) (args : Array Value) (below : List Frame) (meth : Method) (c : Code) (H : Heap) (locs : List Loc) (cells slots mc ms : Nat) (g : JFrame) (rest : List Value) (Qa : State → Outcome → State → Prop) (XC : String → State → State → Prop) (free : Addr → Prop) : Prop :=
  ∀ T : State, T.heap = H → Stand p l e R s m args below meth c T locs cells slots →
    (∃ (v : Option Value) (st₀ t T' : State) (L : List Loc), st₀.heap = H ∧ Stand p l e R s m args below meth c T' (locs ++ L) (cells + mc) (slots + ms) ∧ (∀ q ∈ L, free q.base) ∧ T'.heap = t.heap ∧ T'.vm = t.vm ∧ Qa st₀ (.returned v) t ∧
      Goes p e below T g T' { g with pc := g.pc + 3, stack := v.toList ++ rest }) ∨
    (∃ (q : Addr) (st₀ t T' : State) (L : List Loc) (E : String) (ce : Cell), st₀.heap = H ∧ Stand p l e R s m args below meth c T' (locs ++ L) (cells + mc) (slots + ms) ∧ (∀ z ∈ L, free z.base) ∧ T'.heap = t.heap ∧ T'.vm = t.vm ∧ XC E st₀ t ∧ t.heap[q]? = some ce ∧ ce.vm = .none ∧ s.vm.findClass E = some ce.cls ∧
      Steps p.tables e below (T.setTop g) ((T'.setTop { g with stack := rest }).pushFrame (.throwing q)))
def vx_X {S : Type} (px : S → Prop) (B : String → S → State → Prop) (A : Nat → Prop) : String → State → State → Prop := fun E st t => ∃ u : S, px u ∧ B E u t ∧ va_F A st t
section Runs
variable {p : Program} {l : Launch} {e : Env} {R : Room} {s : State} {m : MethodId} {args : Array Value} {below : List Frame} {meth : Method} {c : Code} {H : Heap} {locs : List Loc} {cells slots : Nat}
variable {y : MethodName} {bytes cc : ByteArray} {maxL nL mc ms n index : Nat} {ret : Option FieldType} {ws : List Cond} {rm : Room} {Pc : Array Value → State → Prop} {Qc : Array Value → State → Outcome → State → Prop} {XC : String → State → State → Prop} {free : Addr → Prop} {Ts : List Cond} {own C : String} {b : Addr} {As rest : List Value} {g : JFrame}
theorem vx_callBack (cb : CallB R s args own index y bytes maxL ret ws rm mc ms n) (hM : vx_Met l y ws rm Pc Qc XC mc ms free) (hbl : FrameBlind Pc) : vx_Back l R p e below s args y 3 8 (PreOf R mc ms Pc) (PostOf Qc mc ms free) (vx_Post XC mc ms free) := by
  obtain ⟨hrc, hrs, hfr, hlo, hws, hcw, -, hini, -⟩ := cb
  exact vx_back (bytes := bytes) (maxL := maxL) (ret := ret) hM hbl hrc hrs hfr hlo hws hcw (fun a' U hW => word_at hW (Or.inl (by first | rfl | simp [Cond.onTables, Cond.keeps, Cond.steady])) hini)
theorem vx_runV (S : CallFix p m c cc nL s args Ts own) (hM : vx_Met l y ws rm Pc Qc XC mc ms free) (cw : CallW R s args own C index y bytes maxL ret ws rm mc ms n) (hp : PreV s H C b Pc As)
    (hg : g.method = m) (hn : As.length = n) (hsize : g.locals.size = nL) (hstack : g.stack = As.reverse ++ .ref b :: rest) (hW : 2 * g.monitorRoom + (rest.map fun v => v.category).sum ≤ 8) (hdg : decode cc g.pc = .ok (.invokevirtual index, 3)) (hf : cells + mc ≤ R.cells ∧ slots + ms ≤ R.slots) :
    vx_Run p l e R s m args below meth c H locs cells slots mc ms g rest (Qc (Value.ref b :: As).toArray) XC free := by
  have hK : vx_Back l R p e below s args y 3 8 (PreOf R mc ms Pc) (PostOf Qc mc ms free) (vx_Post XC mc ms free) := vx_callBack cw.1 hM hp.1
  obtain ⟨⟨-, -, -, -, -, -, hcode, -, hy, hlen, hl⟩, hin, hse⟩ := cw
  obtain ⟨hx, hb, hml, ho, -⟩ := S
  obtain ⟨-, ⟨cellB, hcB, hoB, hclB⟩, hPc⟩ := hp
  intro T hT X
  rcases vx_callV X hx (C := C) (bytes := bytes) (maxL := maxL) (ret := ret) ho hl hin hse hcode hy hK (by rw [hT]; exact hcB) hoB hclB hg (hsize.trans hml.symm) (argsL := As) (rest := rest) (fun sig h => hn.trans (hlen sig h)) hstack hW (by rw [hb]; exact hdg)
    (fun vm₁ hW₁ => ⟨hf.1, hf.2, hPc (T.setVm vm₁) hT hW₁⟩) with ⟨v, vm₁, ⟨U', l2, c2, s2⟩, hW₁, X', ⟨g', mk, t, L, e1, e2, hq, h1, hL, h2, h3⟩, st⟩ | ⟨q, vm₁, ⟨U', l2, c2, s2⟩, hW₁, X', ⟨g', mk, t, L, E, ce, e1, e2, hq, hce, hcv, hcl, h1, hL, h2, h3⟩, st⟩
  · dsimp only [Pt.U, Pt.locs, Pt.cells, Pt.slots] at X' e1 e2 h1 h2 h3 st
    subst h1; subst h2; subst h3
    exact Or.inl ⟨v, (T.setVm vm₁).calling g' mk (Value.ref b :: As).toArray, t, U', L, hT, X', hL, e1, e2, hq, st⟩
  · dsimp only [Pt.U, Pt.locs, Pt.cells, Pt.slots] at X' e1 e2 h1 h2 h3 st hcl
    subst h1; subst h2; subst h3
    exact Or.inr ⟨q, (T.setVm vm₁).calling g' mk (Value.ref b :: As).toArray, t, U', L, E, ce, hT, X', hL, e1, e2, hq, hce, hcv, vx_cls hW₁ hcl, st⟩
theorem vx_runS (S : CallFix p m c cc nL s args Ts own) (hM : vx_Met l y ws rm Pc Qc XC mc ms free) (cw : CallB R s args own index y bytes maxL ret ws rm mc ms n ∧ (Cond.static y).before args s = true) (hp : PreS s H Pc As)
    (hg : g.method = m) (hn : As.length = n) (hsize : g.locals.size = nL) (hstack : g.stack = As.reverse ++ rest) (hW : 2 * g.monitorRoom + (rest.map fun v => v.category).sum ≤ 8) (hdg : decode cc g.pc = .ok (.invokestatic index, 3)) (hf : cells + mc ≤ R.cells ∧ slots + ms ≤ R.slots) :
    vx_Run p l e R s m args below meth c H locs cells slots mc ms g rest (Qc As.toArray) XC free := by
  have hK : vx_Back l R p e below s args y 3 8 (PreOf R mc ms Pc) (PostOf Qc mc ms free) (vx_Post XC mc ms free) := vx_callBack cw.1 hM hp.1
  obtain ⟨⟨-, -, -, -, -, -, hcode, hini, hy, hlen, hl⟩, hstt⟩ := cw
  obtain ⟨hx, hb, hml, ho, -⟩ := S
  intro T hT X
  rcases vx_callS X hx (bytes := bytes) (maxL := maxL) (ret := ret) ho hl hstt hini hcode hy hK hg (hsize.trans hml.symm) (argsL := As) (rest := rest) (fun sig h => hn.trans (hlen sig h)) hstack hW (by rw [hb]; exact hdg)
    (fun vm₁ hW₁ => ⟨hf.1, hf.2, hp.2 (T.setVm vm₁) hT hW₁⟩) with ⟨v, vm₁, ⟨U', l2, c2, s2⟩, hW₁, X', ⟨g', mk, t, L, e1, e2, hq, h1, hL, h2, h3⟩, st⟩ | ⟨q, vm₁, ⟨U', l2, c2, s2⟩, hW₁, X', ⟨g', mk, t, L, E, ce, e1, e2, hq, hce, hcv, hcl, h1, hL, h2, h3⟩, st⟩
  · dsimp only [Pt.U, Pt.locs, Pt.cells, Pt.slots] at X' e1 e2 h1 h2 h3 st
    subst h1; subst h2; subst h3
    exact Or.inl ⟨v, (T.setVm vm₁).calling g' mk As.toArray, t, U', L, hT, X', hL, e1, e2, hq, st⟩
  · dsimp only [Pt.U, Pt.locs, Pt.cells, Pt.slots] at X' e1 e2 h1 h2 h3 st hcl
    subst h1; subst h2; subst h3
    exact Or.inr ⟨q, (T.setVm vm₁).calling g' mk As.toArray, t, U', L, E, ce, hT, X', hL, e1, e2, hq, hce, hcv, vx_cls hW₁ hcl, st⟩
end Runs
section Rows
variable {p : Program} {l : Launch} {e : Env} {R : Room} {s : State} {m : MethodId} {args : Array Value} {below : List Frame} {meth : Method} {c : Code} {H : Heap} {locs : List Loc} {cells slots : Nat} {Q : State → Prop}
variable {mc ms : Nat} {free : Addr → Prop} {A0 A1 : Nat → Prop} {H0 : Heap} {a : Array Value} {pc : Nat} {ls : Array Slot} {st0 rest : List Value}
theorem vx_keep {st₀ t T' : State} {L : List Loc} (h0 : st₀.heap = H) (e1 : T'.heap = t.heap) (hS : va_S A0 H0 H locs) (hA : ∀ q, q < H.size → A1 q → A0 q) (hf : ∀ q, free q → A0 q) (hL : ∀ q ∈ L, free q.base) (hF : va_F A1 st₀ t) :
    H.size ≤ T'.heap.size ∧ (∀ q : Nat, q < H.size → ¬ A1 q → T'.heap[q]? = H[q]?) ∧ va_S A0 H0 T'.heap (locs ++ L) := by
  obtain ⟨hz, hk⟩ := hF
  rw [h0] at hz hk
  exact ⟨by rw [e1]; exact hz, fun q h1 h2 => by rw [e1]; exact hk q h1 h2,
    ⟨Nat.le_trans hS.1 (by rw [e1]; exact hz), fun q h1 h2 => by rw [e1, hk q (Nat.lt_of_lt_of_le h1 hS.1) (fun z => h2 (hA q (Nat.lt_of_lt_of_le h1 hS.1) z))]; exact hS.2.1 q h1 h2, fun q hq => by
      rcases List.mem_append.mp hq with h | h
      · exact hS.2.2 q h
      · exact hf _ (hL q h)⟩⟩
theorem vx_calli {S SX : Type} {post : Int32 → S → Prop} {px : SX → Prop} {B : S → State → Prop} {BX : String → SX → State → Prop} {AX : Nat → Prop} (hr : vx_Run p l e R s m args below meth c H locs cells slots mc ms (F0 m pc ls st0) rest (va_Qi post B A1 a) (vx_X px BX AX) free) (hS : va_S A0 H0 H locs) (hA : ∀ q, q < H.size → A1 q → A0 q) (hf : ∀ q, free q → A0 q) (hAX : ∀ q, q < H.size → AX q → A0 q)
    (kx : ∀ (E : String) (ce : Cell) (q9 : Addr) (u : SX) (t : State) (H1 : Heap) (locs1 : List Loc), t.heap = H1 → s.vm.Alike t.vm → px u → BX E u t → H.size ≤ H1.size → (∀ q : Nat, q < H.size → ¬ AX q → H1[q]? = H[q]?) → va_S A0 H0 H1 locs1 → H1[q9]? = some ce → ce.vm = .none → s.vm.findClass E = some ce.cls → vx_W p l e R s m args below meth c H1 locs1 (cells + mc) (slots + ms) Q (F0 m pc ls rest) q9)
    (kk : ∀ (r : Int32) (u : S) (t : State) (H1 : Heap) (locs1 : List Loc), t.heap = H1 → s.vm.Alike t.vm → post r u → B u t → H.size ≤ H1.size → (∀ q : Nat, q < H.size → ¬ A1 q → H1[q]? = H[q]?) → va_S A0 H0 H1 locs1 → W p l e R s m args below meth c H1 locs1 (cells + mc) (slots + ms) Q (F0 m (pc + 3) ls (.int r :: rest))) : W p l e R s m args below meth c H locs cells slots Q (F0 m pc ls st0) := by
  intro T hT X
  rcases hr T hT X with ⟨v, st₀, t, T', L, h0, X', hL, e1, e2, ⟨⟨r, u, hv, hp, hb⟩, hF⟩, st⟩ | ⟨q, st₀, t, T', L, E, ce, h0, X', hL, e1, e2, ⟨u, hp, hb, hF⟩, hce, hcv, hcl, st⟩
  · cases hv
    obtain ⟨k1, k2, k3⟩ := vx_keep h0 e1 hS hA hf hL hF
    obtain ⟨t2, a1, b1⟩ := kk r u t T'.heap (locs ++ L) e1.symm (by rw [← e2]; exact X'.warmed.alike) hp hb k1 k2 k3 T' rfl X'
    exact ⟨t2, st t2 a1, b1⟩
  · obtain ⟨k1, k2, k3⟩ := vx_keep h0 e1 hS hAX hf hL hF
    obtain ⟨t2, a1, b1⟩ := kx E ce q u t T'.heap (locs ++ L) e1.symm (by rw [← e2]; exact X'.warmed.alike) hp hb k1 k2 k3 (by rw [e1]; exact hce) hcv hcl T' rfl X'
    exact ⟨t2, st.trans a1, b1⟩
theorem vx_calll {S SX : Type} {post : Int64 → S → Prop} {px : SX → Prop} {B : S → State → Prop} {BX : String → SX → State → Prop} {AX : Nat → Prop} (hr : vx_Run p l e R s m args below meth c H locs cells slots mc ms (F0 m pc ls st0) rest (va_Ql post B A1 a) (vx_X px BX AX) free) (hS : va_S A0 H0 H locs) (hA : ∀ q, q < H.size → A1 q → A0 q) (hf : ∀ q, free q → A0 q) (hAX : ∀ q, q < H.size → AX q → A0 q)
    (kx : ∀ (E : String) (ce : Cell) (q9 : Addr) (u : SX) (t : State) (H1 : Heap) (locs1 : List Loc), t.heap = H1 → s.vm.Alike t.vm → px u → BX E u t → H.size ≤ H1.size → (∀ q : Nat, q < H.size → ¬ AX q → H1[q]? = H[q]?) → va_S A0 H0 H1 locs1 → H1[q9]? = some ce → ce.vm = .none → s.vm.findClass E = some ce.cls → vx_W p l e R s m args below meth c H1 locs1 (cells + mc) (slots + ms) Q (F0 m pc ls rest) q9)
    (kk : ∀ (r : Int64) (u : S) (t : State) (H1 : Heap) (locs1 : List Loc), t.heap = H1 → s.vm.Alike t.vm → post r u → B u t → H.size ≤ H1.size → (∀ q : Nat, q < H.size → ¬ A1 q → H1[q]? = H[q]?) → va_S A0 H0 H1 locs1 → W p l e R s m args below meth c H1 locs1 (cells + mc) (slots + ms) Q (F0 m (pc + 3) ls (.long r :: rest))) : W p l e R s m args below meth c H locs cells slots Q (F0 m pc ls st0) := by
  intro T hT X
  rcases hr T hT X with ⟨v, st₀, t, T', L, h0, X', hL, e1, e2, ⟨⟨r, u, hv, hp, hb⟩, hF⟩, st⟩ | ⟨q, st₀, t, T', L, E, ce, h0, X', hL, e1, e2, ⟨u, hp, hb, hF⟩, hce, hcv, hcl, st⟩
  · cases hv
    obtain ⟨k1, k2, k3⟩ := vx_keep h0 e1 hS hA hf hL hF
    obtain ⟨t2, a1, b1⟩ := kk r u t T'.heap (locs ++ L) e1.symm (by rw [← e2]; exact X'.warmed.alike) hp hb k1 k2 k3 T' rfl X'
    exact ⟨t2, st t2 a1, b1⟩
  · obtain ⟨k1, k2, k3⟩ := vx_keep h0 e1 hS hAX hf hL hF
    obtain ⟨t2, a1, b1⟩ := kx E ce q u t T'.heap (locs ++ L) e1.symm (by rw [← e2]; exact X'.warmed.alike) hp hb k1 k2 k3 (by rw [e1]; exact hce) hcv hcl T' rfl X'
    exact ⟨t2, st.trans a1, b1⟩
theorem vx_callf {S SX : Type} {post : UInt32 → S → Prop} {px : SX → Prop} {B : S → State → Prop} {BX : String → SX → State → Prop} {AX : Nat → Prop} (hr : vx_Run p l e R s m args below meth c H locs cells slots mc ms (F0 m pc ls st0) rest (va_Qf post B A1 a) (vx_X px BX AX) free) (hS : va_S A0 H0 H locs) (hA : ∀ q, q < H.size → A1 q → A0 q) (hf : ∀ q, free q → A0 q) (hAX : ∀ q, q < H.size → AX q → A0 q)
    (kx : ∀ (E : String) (ce : Cell) (q9 : Addr) (u : SX) (t : State) (H1 : Heap) (locs1 : List Loc), t.heap = H1 → s.vm.Alike t.vm → px u → BX E u t → H.size ≤ H1.size → (∀ q : Nat, q < H.size → ¬ AX q → H1[q]? = H[q]?) → va_S A0 H0 H1 locs1 → H1[q9]? = some ce → ce.vm = .none → s.vm.findClass E = some ce.cls → vx_W p l e R s m args below meth c H1 locs1 (cells + mc) (slots + ms) Q (F0 m pc ls rest) q9)
    (kk : ∀ (r : UInt32) (u : S) (t : State) (H1 : Heap) (locs1 : List Loc), t.heap = H1 → s.vm.Alike t.vm → post r u → B u t → H.size ≤ H1.size → (∀ q : Nat, q < H.size → ¬ A1 q → H1[q]? = H[q]?) → va_S A0 H0 H1 locs1 → W p l e R s m args below meth c H1 locs1 (cells + mc) (slots + ms) Q (F0 m (pc + 3) ls (.float r :: rest))) : W p l e R s m args below meth c H locs cells slots Q (F0 m pc ls st0) := by
  intro T hT X
  rcases hr T hT X with ⟨v, st₀, t, T', L, h0, X', hL, e1, e2, ⟨⟨r, u, hv, hp, hb⟩, hF⟩, st⟩ | ⟨q, st₀, t, T', L, E, ce, h0, X', hL, e1, e2, ⟨u, hp, hb, hF⟩, hce, hcv, hcl, st⟩
  · cases hv
    obtain ⟨k1, k2, k3⟩ := vx_keep h0 e1 hS hA hf hL hF
    obtain ⟨t2, a1, b1⟩ := kk r u t T'.heap (locs ++ L) e1.symm (by rw [← e2]; exact X'.warmed.alike) hp hb k1 k2 k3 T' rfl X'
    exact ⟨t2, st t2 a1, b1⟩
  · obtain ⟨k1, k2, k3⟩ := vx_keep h0 e1 hS hAX hf hL hF
    obtain ⟨t2, a1, b1⟩ := kx E ce q u t T'.heap (locs ++ L) e1.symm (by rw [← e2]; exact X'.warmed.alike) hp hb k1 k2 k3 (by rw [e1]; exact hce) hcv hcl T' rfl X'
    exact ⟨t2, st.trans a1, b1⟩
theorem vx_calld {S SX : Type} {post : UInt64 → S → Prop} {px : SX → Prop} {B : S → State → Prop} {BX : String → SX → State → Prop} {AX : Nat → Prop} (hr : vx_Run p l e R s m args below meth c H locs cells slots mc ms (F0 m pc ls st0) rest (va_Qd post B A1 a) (vx_X px BX AX) free) (hS : va_S A0 H0 H locs) (hA : ∀ q, q < H.size → A1 q → A0 q) (hf : ∀ q, free q → A0 q) (hAX : ∀ q, q < H.size → AX q → A0 q)
    (kx : ∀ (E : String) (ce : Cell) (q9 : Addr) (u : SX) (t : State) (H1 : Heap) (locs1 : List Loc), t.heap = H1 → s.vm.Alike t.vm → px u → BX E u t → H.size ≤ H1.size → (∀ q : Nat, q < H.size → ¬ AX q → H1[q]? = H[q]?) → va_S A0 H0 H1 locs1 → H1[q9]? = some ce → ce.vm = .none → s.vm.findClass E = some ce.cls → vx_W p l e R s m args below meth c H1 locs1 (cells + mc) (slots + ms) Q (F0 m pc ls rest) q9)
    (kk : ∀ (r : UInt64) (u : S) (t : State) (H1 : Heap) (locs1 : List Loc), t.heap = H1 → s.vm.Alike t.vm → post r u → B u t → H.size ≤ H1.size → (∀ q : Nat, q < H.size → ¬ A1 q → H1[q]? = H[q]?) → va_S A0 H0 H1 locs1 → W p l e R s m args below meth c H1 locs1 (cells + mc) (slots + ms) Q (F0 m (pc + 3) ls (.double r :: rest))) : W p l e R s m args below meth c H locs cells slots Q (F0 m pc ls st0) := by
  intro T hT X
  rcases hr T hT X with ⟨v, st₀, t, T', L, h0, X', hL, e1, e2, ⟨⟨r, u, hv, hp, hb⟩, hF⟩, st⟩ | ⟨q, st₀, t, T', L, E, ce, h0, X', hL, e1, e2, ⟨u, hp, hb, hF⟩, hce, hcv, hcl, st⟩
  · cases hv
    obtain ⟨k1, k2, k3⟩ := vx_keep h0 e1 hS hA hf hL hF
    obtain ⟨t2, a1, b1⟩ := kk r u t T'.heap (locs ++ L) e1.symm (by rw [← e2]; exact X'.warmed.alike) hp hb k1 k2 k3 T' rfl X'
    exact ⟨t2, st t2 a1, b1⟩
  · obtain ⟨k1, k2, k3⟩ := vx_keep h0 e1 hS hAX hf hL hF
    obtain ⟨t2, a1, b1⟩ := kx E ce q u t T'.heap (locs ++ L) e1.symm (by rw [← e2]; exact X'.warmed.alike) hp hb k1 k2 k3 (by rw [e1]; exact hce) hcv hcl T' rfl X'
    exact ⟨t2, st.trans a1, b1⟩
theorem vx_callv {S SX : Type} {post : S → Prop} {px : SX → Prop} {B : S → State → Prop} {BX : String → SX → State → Prop} {AX : Nat → Prop} (hr : vx_Run p l e R s m args below meth c H locs cells slots mc ms (F0 m pc ls st0) rest (va_Qv post B A1 a) (vx_X px BX AX) free) (hS : va_S A0 H0 H locs) (hA : ∀ q, q < H.size → A1 q → A0 q) (hf : ∀ q, free q → A0 q) (hAX : ∀ q, q < H.size → AX q → A0 q)
    (kx : ∀ (E : String) (ce : Cell) (q9 : Addr) (u : SX) (t : State) (H1 : Heap) (locs1 : List Loc), t.heap = H1 → s.vm.Alike t.vm → px u → BX E u t → H.size ≤ H1.size → (∀ q : Nat, q < H.size → ¬ AX q → H1[q]? = H[q]?) → va_S A0 H0 H1 locs1 → H1[q9]? = some ce → ce.vm = .none → s.vm.findClass E = some ce.cls → vx_W p l e R s m args below meth c H1 locs1 (cells + mc) (slots + ms) Q (F0 m pc ls rest) q9)
    (kk : ∀ (u : S) (t : State) (H1 : Heap) (locs1 : List Loc), t.heap = H1 → s.vm.Alike t.vm → post u → B u t → H.size ≤ H1.size → (∀ q : Nat, q < H.size → ¬ A1 q → H1[q]? = H[q]?) → va_S A0 H0 H1 locs1 → W p l e R s m args below meth c H1 locs1 (cells + mc) (slots + ms) Q (F0 m (pc + 3) ls (rest))) : W p l e R s m args below meth c H locs cells slots Q (F0 m pc ls st0) := by
  intro T hT X
  rcases hr T hT X with ⟨v, st₀, t, T', L, h0, X', hL, e1, e2, ⟨⟨u, hv, hp, hb⟩, hF⟩, st⟩ | ⟨q, st₀, t, T', L, E, ce, h0, X', hL, e1, e2, ⟨u, hp, hb, hF⟩, hce, hcv, hcl, st⟩
  · cases hv
    obtain ⟨k1, k2, k3⟩ := vx_keep h0 e1 hS hA hf hL hF
    obtain ⟨t2, a1, b1⟩ := kk u t T'.heap (locs ++ L) e1.symm (by rw [← e2]; exact X'.warmed.alike) hp hb k1 k2 k3 T' rfl X'
    exact ⟨t2, st t2 a1, b1⟩
  · obtain ⟨k1, k2, k3⟩ := vx_keep h0 e1 hS hAX hf hL hF
    obtain ⟨t2, a1, b1⟩ := kx E ce q u t T'.heap (locs ++ L) e1.symm (by rw [← e2]; exact X'.warmed.alike) hp hb k1 k2 k3 (by rw [e1]; exact hce) hcv hcl T' rfl X'
    exact ⟨t2, st.trans a1, b1⟩
/-- caught by the row x of this method's table; the rows ahead don't take it -/
theorem vx_catch {own name : String} {E : String} {ce : Cell} {q : Addr} (hown : s.vm.findClass own = some m.cls) (pre : List ExceptionTableEntry) (x : ExceptionTableEntry) (suf : List ExceptionTableEntry) (hsplit : c.exceptionTable.toList = pre ++ x :: suf)
    (hpass : ∀ z ∈ pre, covers z pc = false ∨ (z.catchType ≠ 0 ∧ ∃ nm : String, (Cond.classLink own z.catchType nm).before args s = true ∧ va_Nc E nm s)) (hx : covers x pc = true) (h0 : x.catchType ≠ 0)
    (hlink : (Cond.classLink own x.catchType name).before args s = true) (hcast : (Cond.castable E name).before args s = true) (hcell : H[q]? = some ce) (hv : ce.vm = .none) (hcl : s.vm.findClass E = some ce.cls)
    (kk : W p l e R s m args below meth c H locs cells slots Q (F0 m x.handlerPc ls [.ref q])) : vx_W p l e R s m args below meth c H locs cells slots Q (F0 m pc ls rest) q := by
  intro T hT X
  have hpl : e.platform.magicAccessors = ({} : Platform).magicAccessors := by rw [X.admits.platform]
  obtain ⟨c3, c4, hc3, hc4, hasg⟩ := Cond.castable_spec hcast
  cases Option.some.inj (hc3.symm.trans hcl)
  obtain ⟨c5, hc5, hcl5⟩ := Cond.classLink_spec hown hlink e.platform hpl
  cases Option.some.inj (hc4.symm.trans hc5)
  obtain ⟨vm', X', st⟩ := X.thenCaughtThrough q (g := F0 m pc ls rest) rfl (Steps.refl _) (by rw [hT]; exact hcell) (by rw [hv]; rfl) (by obtain ⟨k9, h9, -⟩ := Vm.findClass_spec hcl; exact ⟨k9, h9⟩) pre x suf hsplit
    (fun z hz => by
      rcases hpass z hz with h | ⟨hz0, nm, hl1, hn1⟩
      · exact Or.inl h
      · obtain ⟨c6, hc6, hcl6⟩ := Cond.classLink_spec hown hl1 e.platform hpl
        obtain ⟨a8, b8, h1, h2, h3⟩ := hn1
        cases Option.some.inj (h1.symm.trans hcl)
        cases Option.some.inj (h2.symm.trans hc6)
        exact Or.inr ⟨hz0, _, hcl6, h3⟩) hx (Or.inr ⟨h0, c4, hcl5, hasg⟩)
  obtain ⟨t, a1, b1⟩ := kk (T.setVm vm') hT X'
  exact ⟨t, st.trans a1, b1⟩
end Rows
section Ends
variable {p : Program} {l : Launch} {e : Env} {R : Room} {s : State} {m : MethodId} {args : Array Value} {below : List Frame} {meth : Method} {c : Code} {H : Heap} {locs : List Loc} {cells slots : Nat} {Q : State → Prop}
variable {mc ms : Nat} {free : Addr → Prop} {A0 A1 : Nat → Prop} {H0 : Heap} {a : Array Value} {ls : Array Slot} {st0 rest : List Value}
variable {Qc : Array Value → State → Outcome → State → Prop} {XC : String → State → State → Prop}
/-- what a body that may throw owes at its end -/
def vx_MQ (below : List Frame) (Qc : Array Value → State → Outcome → State → Prop) (XC : String → State → State → Prop) (a : Array Value) (s : State) (mc ms : Nat) (free : Addr → Prop) : State → Prop := fun t =>
  ∃ o, t.status = .running ∧ Ended t below o ∧ vx_Q Qc XC mc ms free a s o t
theorem vx_ret {g : JFrame} {mc ms : Nat} (k : W p l e R s m args below meth c H locs cells slots (MQ below Qc args s mc ms free) g) : W p l e R s m args below meth c H locs cells slots (vx_MQ below Qc XC args s mc ms free) g := by
  intro T hT X
  obtain ⟨t, a1, o, b1, b2, b3, b4⟩ := k T hT X
  exact ⟨t, a1, o, b1, b2, Or.inl ⟨b3, b4⟩⟩
/-- not caught here: it goes on to the caller -/
theorem vx_widen {g : JFrame} {q : Addr} {k n : Nat} (h1 : cells ≤ k) (h2 : slots ≤ n) (kk : vx_W p l e R s m args below meth c H locs k n Q g q) : vx_W p l e R s m args below meth c H locs cells slots Q g q := fun T hT X => kk T hT (stand_widen X h1 h2)
theorem vx_out {pc : Nat} {E : String} {ce : Cell} {q : Addr} {mc ms : Nat} (hout : ∀ x ∈ c.exceptionTable.toList, covers x pc = false) (hlocks : meth.locks = false) (hcell : H[q]? = some ce) (hv : ce.vm = .none) (hcl : s.vm.findClass E = some ce.cls)
    (hx : ∀ t : State, t.heap = H → s.vm.Alike t.vm → XC E s t) (hf : ∀ z ∈ locs, free z.base) (hc : cells ≤ mc) (hs : slots ≤ ms) :
    vx_W p l e R s m args below meth c H locs cells slots (vx_MQ below Qc XC args s mc ms free) (F0 m pc ls rest) q := by
  intro T hT X
  obtain ⟨st1, hrun, hend, hW, hsm⟩ := X.leaveThrown q (g := F0 m pc ls rest) rfl rfl rfl hout hlocks
  have hcell9 : (T.setFrames (.throwing q :: below)).heap[q]? = some ce := by
    show T.heap[q]? = some ce
    rw [hT]; exact hcell
  exact ⟨_, st1, .threw q, hrun, hend, Or.inr ⟨q, rfl, E, ce, locs, hx _ hT hW.alike, hcell9, hv, hcl, hW, hsm.mono hc hs, hf⟩⟩
theorem vx_frame {U : State} {k n : Nat} (h : s.sameButNew ({ U with vm := s.vm } : State) locs k n) : s.heap.size ≤ U.heap.size ∧ ∀ q : Nat, q < s.heap.size → (∀ z ∈ locs, z.base ≠ q) → U.heap[q]? = s.heap[q]? := by
  obtain ⟨-, h2, -, -, -, h6⟩ := h
  refine ⟨h2, fun q hq hz => ?_⟩
  obtain ⟨c9, e1, e2, e3, e4⟩ := h6 q _ (Array.getElem?_eq_getElem hq)
  have hs : c9.slots = (s.heap[q]).slots := Array.ext_getElem? fun i => e4 i fun hm => hz _ hm rfl
  have h9 : c9 = s.heap[q] := by
    rw [hs] at e2
    exact e2
  have e5 : U.heap[q]? = some c9 := e1
  rw [e5, h9, Array.getElem?_eq_getElem hq]
/-- the words of a throw but the four that speak of the heap -/
def vx_no (w : Cond) : Bool := decide (w ≠ .isRef (.static Bundle.tN "UNASSIGNED_STACK" Bundle.steD)) && decide (w ≠ .isRef (.static Bundle.tN "SUPPRESSED_SENTINEL" Bundle.listD)) && decide (w ≠ .laysStatic Bundle.tN "UNASSIGNED_STACK" Bundle.steD) && decide (w ≠ .laysStatic Bundle.tN "SUPPRESSED_SENTINEL" Bundle.listD)
def vx_at0 (own : String) (ic : Nat) (X : String) (names : List String) : List Cond := (Bundle.ownAtoms0 own ic X names).filter vx_no
def vx_atS (own : String) (ic : Nat) (X : String) (names : List String) : List Cond := (Bundle.ownAtoms own ic X names).filter vx_no
/-- a word that the tables alone decide, or a good one -/
def vx_ot (w : Cond) : Bool := w.onTables || goodWord w
theorem vx_ot_at {args a' : Array Value} {s U : State} {w : Cond} (hW : s.WarmedH U.vm) (hvm : s.vm = U.vm) (hg : vx_ot w = true) (h : w.before args s = true) : w.before a' U = true := by
  simp only [vx_ot, Bool.or_eq_true] at hg
  rcases hg with hg | hg
  · exact va_tabs hg hvm h
  · exact word_at hW (good_of_word hg) h
/-- a list's words: the good ones out of the method's own list, the others by premises of their own -/
theorem vx_hat {args : Array Value} {s : State} {L B : List Cond} (h1 : ∀ w ∈ L.filter goodWord, w.before args s = true) (h2 : ∀ w ∈ L.filter (fun w => !goodWord w), w ∈ B) (h3 : ∀ w ∈ B, w.before args s = true) : ∀ w ∈ L, w.before args s = true := by
  intro w hw
  by_cases g : goodWord w = true
  · exact h1 w (List.mem_filter.mpr ⟨hw, g⟩)
  · refine h3 w (h2 w (List.mem_filter.mpr ⟨hw, ?_⟩))
    show (!goodWord w) = true
    cases hgw : goodWord w
    · rfl
    · exact absurd hgw g
theorem vx_c {args : Array Value} {s : State} {w : Cond} {B : List Cond} (h : w.before args s = true) (t : ∀ w ∈ B, w.before args s = true) : ∀ w' ∈ w :: B, w'.before args s = true := fun w' h' => (List.mem_cons.mp h').elim (fun e => by rw [e]; exact h) (t w')
theorem vx_n {args : Array Value} {s : State} : ∀ w ∈ ([] : List Cond), w.before args s = true := fun _ h => nomatch h
theorem vx_own {args : Array Value} {s : State} {L : List Cond} (h1 : ∀ w ∈ L.filter vx_no, w.before args s = true)
    (hU : (Cond.isRef (.static Bundle.tN "UNASSIGNED_STACK" Bundle.steD)).before args s = true) (hN : (Cond.isRef (.static Bundle.tN "SUPPRESSED_SENTINEL" Bundle.listD)).before args s = true)
    (lU : (Cond.laysStatic Bundle.tN "UNASSIGNED_STACK" Bundle.steD).before args s = true) (lN : (Cond.laysStatic Bundle.tN "SUPPRESSED_SENTINEL" Bundle.listD).before args s = true) : ∀ w ∈ L, w.before args s = true := by
  intro w hw
  by_cases e1 : w = .isRef (.static Bundle.tN "UNASSIGNED_STACK" Bundle.steD)
  · rw [e1]; exact hU
  · by_cases e2 : w = .isRef (.static Bundle.tN "SUPPRESSED_SENTINEL" Bundle.listD)
    · rw [e2]; exact hN
    · by_cases e3 : w = .laysStatic Bundle.tN "UNASSIGNED_STACK" Bundle.steD
      · rw [e3]; exact lU
      · by_cases e4 : w = .laysStatic Bundle.tN "SUPPRESSED_SENTINEL" Bundle.listD
        · rw [e4]; exact lN
        · exact h1 w (List.mem_filter.mpr ⟨hw, by unfold vx_no; rw [decide_eq_true e1, decide_eq_true e2, decide_eq_true e3, decide_eq_true e4]; rfl⟩)
/-- where a static field lies, its class's statics cell in H -/
def vx_L (C n d : String) (A : Nat → Prop) (U : State) (H : Heap) : Prop := ∃ (c : ClassId) (k : Class) (i : Nat) (f : Field) (a : Nat) (cell : Cell), U.vm.findClass C = some c ∧ U.fieldFound? C n d = some (c, k, i, f) ∧ f.isStatic = true ∧ k.statics = some a ∧ H[a]? = some cell ∧ cell.vm.isStatics = true ∧ cell.cls = c ∧ f.slot < cell.slots.size ∧ k.staticTypes[f.slot]? = some f.type ∧ ¬ A a
theorem vx_L.moved {C n d : String} {A : Nat → Prop} {u U : State} {H : Heap} (hvm : u.vm.Alike U.vm) (h : vx_L C n d A u H) : vx_L C n d A U H := by
  obtain ⟨c, k, i, f, a, cell, h1, h2, h3, h4, h5, h6, h7, h8, h9, h10⟩ := h
  obtain ⟨k', hi', he⟩ := State.fieldFound?_setVm hvm h2
  exact ⟨c, k', i, f, a, cell, by rw [hvm.findClass]; exact h1, hi', h3, by rw [he]; exact h4, h5, h6, h7, h8, by rw [he]; exact h9, h10⟩
theorem vx_L.kept {C n d : String} {A : Nat → Prop} {U : State} {H H1 : Heap} (h : vx_L C n d A U H) (hq : ∀ a : Nat, a < H.size → ¬ A a → H1[a]? = H[a]?) : vx_L C n d A U H1 := by
  obtain ⟨c, k, i, f, a, cell, h1, h2, h3, h4, h5, h6, h7, h8, h9, h10⟩ := h
  exact ⟨c, k, i, f, a, cell, h1, h2, h3, h4, by rw [hq a (Array.getElem?_eq_some_iff.mp h5).1 h10]; exact h5, h6, h7, h8, h9, h10⟩
theorem vx_L.narrow {C n d : String} {A B : Nat → Prop} {U : State} {H : Heap} (h : vx_L C n d A U H) (hAB : ∀ q, B q → A q) : vx_L C n d B U H := by
  obtain ⟨c, k, i, f, a, cell, h1, h2, h3, h4, h5, h6, h7, h8, h9, h10⟩ := h
  exact ⟨c, k, i, f, a, cell, h1, h2, h3, h4, h5, h6, h7, h8, h9, fun z => h10 (hAB _ z)⟩
theorem vx_L.word {C n d : String} {A : Nat → Prop} {s : State} {args : Array Value} (h : vx_L C n d A s s.heap) : (Cond.laysStatic C n d).before args s = true := by
  obtain ⟨c, k, i, f, a, cell, h1, h2, h3, h4, h5, h6, h7, h8, h9, -⟩ := h
  show (Cond.laysStatic C n d).holds args s none s [] = true
  exact Cond.laysStatic_of h1 h2 h3 h4 h5 h6 h7 h8 h9
/-- .. and what it holds: null or some reference -/
def vx_Zq (C n d : String) (A : Nat → Prop) (U : State) (H : Heap) : Prop := va_Zq C n d A U H ∧ vx_L C n d A U H
theorem vx_Zq.moved {C n d : String} {A : Nat → Prop} {u U : State} {H : Heap} (hvm : u.vm.Alike U.vm) (h : vx_Zq C n d A u H) : vx_Zq C n d A U H := ⟨va_Zq.moved hvm h.1, vx_L.moved hvm h.2⟩
theorem vx_Zq.kept {C n d : String} {A : Nat → Prop} {U : State} {H H1 : Heap} (h : vx_Zq C n d A U H) (hq : ∀ a : Nat, a < H.size → ¬ A a → H1[a]? = H[a]?) : vx_Zq C n d A U H1 := ⟨va_Zq.kept h.1 hq, vx_L.kept h.2 hq⟩
theorem vx_Zq.narrow {C n d : String} {A B : Nat → Prop} {U : State} {H : Heap} (h : vx_Zq C n d A U H) (hAB : ∀ q, B q → A q) : vx_Zq C n d B U H := ⟨va_Zq.narrow h.1 hAB, vx_L.narrow h.2 hAB⟩
theorem vx_Zqof {args : Array Value} {s : State} {C n d : String} {A : Nat → Prop} (hl : (Cond.laysStatic C n d).before args s = true) (hini : (Cond.initialized C).before args s = true) (h : (Cond.isRef (.static C n d)).before args s = true) (hA : ∀ a : Nat, a < s.heap.size → ¬ A a) : vx_Zq C n d A s s.heap := by
  refine ⟨va_Zqof hl hini h hA, ?_⟩
  obtain ⟨c, k, i, f, a, cell, h1, h2, h3, h4, h5, h6, h7, h8, h9⟩ := Cond.laysStatic_spec hl
  exact ⟨c, k, i, f, a, cell, h1, h2, h3, h4, h5, h6, h7, h8, h9, hA a (Array.getElem?_eq_some_iff.mp h5).1⟩
theorem vx_isRef {C n d : String} {v : Value} {A : Nat → Prop} {s : State} {args : Array Value} (h : va_Z C n d v A s s.heap) (hv : v.isRef = true) : (Cond.isRef (.static C n d)).before args s = true := by
  obtain ⟨cf, kf, fi, f, a, cell, h1, h2, h3, h4, h5, h6, h7, -⟩ := h
  have he : (Term.static C n d).eval args s none [] s = some v := by
    simp [Term.eval, State.fieldNamed?, h1, h2, h4, h5, h6, h7]
  simp only [Cond.before, Cond.holds, Cond.value, he]
  cases v <;> simp_all [Value.isRef]
theorem vx_isRefq {C n d : String} {A : Nat → Prop} {s : State} {args : Array Value} (h : va_Zq C n d A s s.heap) : (Cond.isRef (.static C n d)).before args s = true := by
  rcases h with h | ⟨t, h⟩
  · exact vx_isRef h rfl
  · exact vx_isRef h rfl
/-- the same frame, seen from here: as if the method were called anew in this heap -/
theorem vx_rebase {T : State} (X : Stand p l e R s m args below meth c T locs cells slots) {R' : Room} (hf : R'.frames ≤ R.frames) (hl : R'.locals ≤ R.locals) (hc : cells + R'.cells ≤ R.cells) (hs : slots + R'.slots ≤ R.slots) :
    Stand p l e R' ((T.setVm s.vm).setFrames (.invoking m args :: below)) m args below meth c T [] 0 0 := by
  have htop : (T.setVm s.vm).topJava?.isSome := X.here.top
  have hF : ((T.setVm s.vm).setFrames (.invoking m args :: below)).frames = .invoking m args :: below := State.frames_setFrames _ (State.cur_lt_of_top htop)
  obtain ⟨g₀, hg0⟩ := Option.isSome_iff_exists.mp htop
  obtain ⟨r, hr⟩ := State.topJava?_eq_some.mp hg0
  have hl9 : e.platform.stackLimits (T.setVm s.vm).me = e.platform.stackLimits s.me := X.limits
  have hb9 : (T.setVm s.vm).me.stackBytes = s.me.stackBytes := X.bytes
  refine ⟨X.admits, X.cas, X.clock, hF, ?_, X.hears, X.method, X.code, X.here, X.tail, X.warmed, ?_, ?_, ?_⟩
  · have h := X.room
    have hU : ((T.setVm s.vm).setFrames (.invoking m args :: below)).localsInUse = s.localsInUse := by
      rw [State.localsInUse_invoking hF (meth := meth) (c := c) X.method X.code, State.localsInUse_invoking X.frames X.method X.code]
    simp only [State.hasRoom, Bool.and_eq_true, decide_eq_true_eq] at h ⊢
    obtain ⟨⟨⟨⟨h1, h2, h3, h4, h5, h6⟩, h7⟩, h8⟩, h9⟩ := h
    rw [X.frames, List.length_cons] at h2 h3
    have q1 := X.heapSize
    have q2 := X.used
    simp only [hF, hU, List.length_cons, State.stackLimits_setFrames, State.stackBytes_setFrames, hl9, hb9]
    refine ⟨⟨⟨⟨by omega, by omega, by omega, by omega, by omega, h6⟩, ?_⟩, ?_⟩, X.book⟩
    · show T.heap.size + R'.cells ≤ e.platform.maxCells
      omega
    · show T.slotsUsed + R'.slots ≤ e.platform.maxSlots
      omega
  · rw [State.stackLimits_setFrames]; rfl
  · rw [State.stackBytes_setFrames]; rfl
  · refine ⟨?_, Nat.le_refl _, Nat.le_refl _, ?_, ?_, fun a c9 h9 => ⟨c9, h9, rfl, rfl, fun _ _ => rfl⟩⟩
    · obtain ⟨t, ht, -⟩ := State.frames_cons hr
      show T.setVm s.vm = { ((T.setVm s.vm).setFrames (.invoking m args :: below)).setFrames (T.setVm s.vm).frames with heap := T.heap, slotsUsed := T.slotsUsed }
      rw [State.setFrames_setFrames, State.setFrames_self ht]
      rfl
    · show T.slotsUsed = T.slotsUsed + ((T.heap.toList.drop T.heap.size).map (·.slots.size)).sum
      rw [List.drop_eq_nil_of_le (Nat.le_of_eq Array.length_toList)]
      rfl
    · show ((T.heap.toList.drop T.heap.size).map (·.slots.size)).sum ≤ 0
      rw [List.drop_eq_nil_of_le (Nat.le_of_eq Array.length_toList)]
      exact Nat.le_refl _
/-- 'throw new E()': new; dup; invokespecial; athrow -/
theorem vx_throw0 {cc : ByteArray} {pc : Nat} (hexec : p.tables.exec = Jvm.exec) (hb : c.code = cc) (hl : l.stackTraces = false) {own cls : String} {names : List String} {ik ic mc ms : Nat} {A : Nat → Prop}
    (hown : s.vm.findClass own = some m.cls) (hcls : Bundle.fit cls = true) (hnames : ∀ n ∈ names, Bundle.fit n = true)
    (hk : (Cond.classLink own ik cls).before args s = true) (hini : (Cond.initialized cls).before args s = true) (hat : ∀ w ∈ vx_at0 own ic cls names, w.before args s = true)
    (hgood : ∀ w ∈ Cond.classLink own ik cls :: Cond.initialized cls :: vx_at0 own ic cls names, vx_ot w = true)
    (hU : vx_Zq Bundle.tN "UNASSIGNED_STACK" Bundle.steD A s s.heap) (hN : vx_Zq Bundle.tN "SUPPRESSED_SENTINEL" Bundle.listD A s s.heap) (hS : va_S A s.heap H locs) (hsize : ls.size = c.maxLocals)
    (d0 : decode cc pc = .ok (.new ik, 3)) (d3 : decode cc (pc + 3) = .ok (.dup, 1)) (d4 : decode cc (pc + 4) = .ok (.invokespecial ic, 3)) (d7 : decode cc (pc + 7) = .ok (.athrow, 1))
    (hout : ∀ x ∈ c.exceptionTable.toList, covers x (pc + 7) = false)
    (hRframes : names.length + 3 < R.frames) (hRlocals : (rest.map fun v => v.category).sum + (13 * (names.length + 1) + 42) ≤ R.locals) (hRcells : cells + 1 ≤ R.cells) (hRslots : slots + 6 ≤ R.slots) (hlocks : meth.locks = false)
    (hx : ∀ t : State, s.vm.Alike t.vm → H.size ≤ t.heap.size → (∀ q : Nat, q < H.size → t.heap[q]? = H[q]?) → XC cls s t)
    (hf : ∀ z ∈ locs, free z.base) (hc : cells + 1 ≤ mc) (hs : slots + 6 ≤ ms) :
    W p l e R s m args below meth c H locs cells slots (vx_MQ below Qc XC args s mc ms free) (F0 m pc ls rest) := by
  intro T hT X
  have htr : e.platform.stackTraces = false := (show e.platform.stackTraces = l.stackTraces by rw [X.admits.platform]).trans hl
  have Y := vx_rebase X (R' := { frames := R.frames, locals := R.locals, cells := 1, slots := 6 }) (Nat.le_refl _) (Nat.le_refl _) hRcells hRslots
  obtain ⟨s', hA⟩ : ∃ z, z = (T.setVm s.vm).setFrames (.invoking m args :: below) := ⟨_, rfl⟩
  rw [← hA] at Y
  have hvm : s'.vm = s.vm := by rw [hA]; rfl
  have hhp : s'.heap = H := by rw [hA]; exact hT
  have hW0 : s.WarmedH s'.vm := by rw [hvm]; exact State.WarmedH.refl s
  have hat' : ∀ w ∈ vx_at0 own ic cls names, w.before args s' = true := fun w hw => vx_ot_at hW0 hvm.symm (hgood w (List.mem_cons_of_mem _ (List.mem_cons_of_mem _ hw))) (hat w hw)
  have hk' : (Cond.classLink own ik cls).before args s' = true := vx_ot_at hW0 hvm.symm (hgood _ List.mem_cons_self) hk
  have hini' : (Cond.initialized cls).before args s' = true := vx_ot_at hW0 hvm.symm (hgood _ (List.mem_cons_of_mem _ List.mem_cons_self)) hini
  have hU' : vx_Zq Bundle.tN "UNASSIGNED_STACK" Bundle.steD A s' s'.heap := by rw [hhp]; exact vx_Zq.moved hW0.alike (hU.kept hS.2.1)
  have hN' : vx_Zq Bundle.tN "SUPPRESSED_SENTINEL" Bundle.listD A s' s'.heap := by rw [hhp]; exact vx_Zq.moved hW0.alike (hN.kept hS.2.1)
  have h : ∀ w ∈ Bundle.ownAtoms0 own ic cls names, w.before args s' = true := vx_own hat' (vx_isRefq hU'.1) (vx_isRefq hN'.1) hU'.2.word hN'.2.word
  have hown' : s'.vm.findClass own = some m.cls := by rw [hvm]; exact hown
  have hins : (Cond.instantiable cls 6).before args s' = true := h _ (by simp [Bundle.ownAtoms0])
  obtain ⟨vm₁, cX, kX, hfX, hkX, -, -, X₁, st1⟩ := Y.newCold hexec (own := own) (C := cls) (index := ik) (n := 6) hown' hk' hins hini'
    (g := F0 m pc ls rest) rfl (by rw [hb]; exact d0) (Nat.le_refl _) (Nat.le_refl _)
  generalize hT1 : (T.setVm vm₁).pushCell { cls := cX, slots := kX.instanceTypes.map defaultValue, vm := .none } = T1 at X₁ st1
  have hcat : (Value.ref T.heap.size).category = 1 := rfl
  have hcellA : T1.heap[T.heap.size]? = some (freshCell cX kX) := by rw [← hT1]; exact State.heap_pushCell_size _ _
  have d3' : decode c.code (pc + 3) = .ok (.dup, 1) := by rw [hb]; exact d3
  obtain ⟨U, hsteps, hrun, hend, hW, hsame, ce, hce, hO⟩ := X₁.ctorThrow0 hexec htr (own := own) (cls := cls) (names := names) (ic := ic) hown' hcls hnames h (fun x hx => nomatch hx) hfX hkX hcellA (by rw [hhp, hT]; exact Nat.le_refl _)
    (g := { method := m, pc := pc + 4, locals := ls, stack := .ref T.heap.size :: .ref T.heap.size :: rest, locked := none }) rfl hsize rfl rfl (rest := rest) rfl
    (by rw [hb]; exact d4) (by rw [hb]; exact d7) hout hRframes (by simp only [List.map_cons, List.sum_cons, hcat]; omega) hlocks
  obtain ⟨f1, f2⟩ := vx_frame hsame
  rw [hhp] at f1 f2
  have hWs : s.WarmedH U.vm := State.WarmedH.trans hW0 hW
  have hcl : s.vm.findClass cls = some ce.cls := by
    have h9 := hO.cls
    rw [hvm] at h9
    exact h9
  have hall : s.sameButNew ({ U with vm := s.vm } : State) locs mc ms := by
    subst hA
    obtain ⟨e1, e2⟩ := hsame
    rw [State.setFrames_setFrames] at e1
    have h2 : (T.setVm s.vm).sameButNew ({ U with vm := s.vm } : State) [] (0 + 1) (0 + 6) := ⟨e1, e2⟩
    have h3 := X.same.trans h2
    rw [List.append_nil] at h3
    exact h3.mono hc hs
  refine ⟨U, ?_, .threw T.heap.size, hrun, hend, Or.inr ⟨T.heap.size, rfl, cls, ce, locs, hx U hWs.alike f1 (fun q hq => f2 q hq (fun z hz => nomatch hz)), hce, hO.vm, hcl, hWs, hall, hf⟩⟩
  refine st1 _ ?_
  show Steps p.tables e below (T1.setTop { method := m, pc := pc + 3, locals := ls, stack := .ref T.heap.size :: rest, locked := none }) _
  jvm_step X₁.here [X₁.here.top, hexec, d3', Value.category]
  exact hsteps
/-- 'throw new E("text")': new; dup; ldc; invokespecial; athrow -/
theorem vx_throwS {cc : ByteArray} {pc : Nat} (hexec : p.tables.exec = Jvm.exec) (hb : c.code = cc) (hl : l.stackTraces = false) {own cls text : String} {names : List String} {ik is ic mc ms sa : Nat} {A : Nat → Prop}
    (hown : s.vm.findClass own = some m.cls) (hcls : Bundle.fit cls = true) (hnames : ∀ n ∈ names, Bundle.fit n = true)
    (hk : (Cond.classLink own ik cls).before args s = true) (hini : (Cond.initialized cls).before args s = true) (hstr : vk_R own is text sa s) (hat : ∀ w ∈ vx_atS own ic cls names, w.before args s = true)
    (hgood : ∀ w ∈ Cond.classLink own ik cls :: Cond.initialized cls :: vx_atS own ic cls names, vx_ot w = true)
    (hU : vx_Zq Bundle.tN "UNASSIGNED_STACK" Bundle.steD A s s.heap) (hN : vx_Zq Bundle.tN "SUPPRESSED_SENTINEL" Bundle.listD A s s.heap) (hS : va_S A s.heap H locs) (hsize : ls.size = c.maxLocals)
    (d0 : decode cc pc = .ok (.new ik, 3)) (d3 : decode cc (pc + 3) = .ok (.dup, 1)) (d4 : decode cc (pc + 4) = .ok (.ldc is, 2)) (d6 : decode cc (pc + 6) = .ok (.invokespecial ic, 3)) (d9 : decode cc (pc + 9) = .ok (.athrow, 1))
    (hout : ∀ x ∈ c.exceptionTable.toList, covers x (pc + 9) = false)
    (hRframes : names.length + 3 < R.frames) (hRlocals : (rest.map fun v => v.category).sum + (13 * (names.length + 1) + 43) ≤ R.locals) (hRcells : cells + 1 ≤ R.cells) (hRslots : slots + 6 ≤ R.slots) (hlocks : meth.locks = false)
    (hx : ∀ t : State, s.vm.Alike t.vm → H.size ≤ t.heap.size → (∀ q : Nat, q < H.size → t.heap[q]? = H[q]?) → XC cls s t)
    (hf : ∀ z ∈ locs, free z.base) (hc : cells + 1 ≤ mc) (hs : slots + 6 ≤ ms) :
    W p l e R s m args below meth c H locs cells slots (vx_MQ below Qc XC args s mc ms free) (F0 m pc ls rest) := by
  intro T hT X
  have htr : e.platform.stackTraces = false := (show e.platform.stackTraces = l.stackTraces by rw [X.admits.platform]).trans hl
  have Y := vx_rebase X (R' := { frames := R.frames, locals := R.locals, cells := 1, slots := 6 }) (Nat.le_refl _) (Nat.le_refl _) hRcells hRslots
  obtain ⟨s', hA⟩ : ∃ z, z = (T.setVm s.vm).setFrames (.invoking m args :: below) := ⟨_, rfl⟩
  rw [← hA] at Y
  have hvm : s'.vm = s.vm := by rw [hA]; rfl
  have hhp : s'.heap = H := by rw [hA]; exact hT
  have hW0 : s.WarmedH s'.vm := by rw [hvm]; exact State.WarmedH.refl s
  have hat' : ∀ w ∈ vx_atS own ic cls names, w.before args s' = true := fun w hw => vx_ot_at hW0 hvm.symm (hgood w (List.mem_cons_of_mem _ (List.mem_cons_of_mem _ hw))) (hat w hw)
  have hk' : (Cond.classLink own ik cls).before args s' = true := vx_ot_at hW0 hvm.symm (hgood _ List.mem_cons_self) hk
  have hini' : (Cond.initialized cls).before args s' = true := vx_ot_at hW0 hvm.symm (hgood _ (List.mem_cons_of_mem _ List.mem_cons_self)) hini
  have hU' : vx_Zq Bundle.tN "UNASSIGNED_STACK" Bundle.steD A s' s'.heap := by rw [hhp]; exact vx_Zq.moved hW0.alike (hU.kept hS.2.1)
  have hN' : vx_Zq Bundle.tN "SUPPRESSED_SENTINEL" Bundle.listD A s' s'.heap := by rw [hhp]; exact vx_Zq.moved hW0.alike (hN.kept hS.2.1)
  have h : ∀ w ∈ Bundle.ownAtoms own ic cls names, w.before args s' = true := vx_own hat' (vx_isRefq hU'.1) (vx_isRefq hN'.1) hU'.2.word hN'.2.word
  have hown' : s'.vm.findClass own = some m.cls := by rw [hvm]; exact hown
  have hins : (Cond.instantiable cls 6).before args s' = true := h _ (by simp [Bundle.ownAtoms])
  obtain ⟨vm₁, cX, kX, hfX, hkX, -, -, X₁, st1⟩ := Y.newCold hexec (own := own) (C := cls) (index := ik) (n := 6) hown' hk' hins hini'
    (g := F0 m pc ls rest) rfl (by rw [hb]; exact d0) (Nat.le_refl _) (Nat.le_refl _)
  generalize hT1 : (T.setVm vm₁).pushCell { cls := cX, slots := kX.instanceTypes.map defaultValue, vm := .none } = T1 at X₁ st1
  have hcat : (Value.ref T.heap.size).category = 1 := rfl
  have hcellA : T1.heap[T.heap.size]? = some (freshCell cX kX) := by rw [← hT1]; exact State.heap_pushCell_size _ _
  have d3' : decode c.code (pc + 3) = .ok (.dup, 1) := by rw [hb]; exact d3
  have d4' : decode c.code (pc + 4) = .ok (.ldc is, 2) := by rw [hb]; exact d4
  have hstr' : vk_R own is text sa s' := vk_R.warm hW0 hstr
  obtain ⟨U, hsteps, hrun, hend, hW, hsame, ce, hce, hO⟩ := X₁.ctorThrowS hexec htr (own := own) (cls := cls) (names := names) (ic := ic) hown' hcls hnames h (fun x hx => nomatch hx) hfX hkX hcellA (by rw [hhp, hT]; exact Nat.le_refl _) (msg := .ref sa) rfl
    (g := { method := m, pc := pc + 6, locals := ls, stack := .ref sa :: .ref T.heap.size :: .ref T.heap.size :: rest, locked := none }) rfl hsize rfl rfl (rest := rest) rfl
    (by rw [hb]; exact d6) (by rw [hb]; exact d9) hout hRframes (by simp only [List.map_cons, List.sum_cons, hcat]; omega) hlocks
  obtain ⟨f1, f2⟩ := vx_frame hsame
  rw [hhp] at f1 f2
  have hWs : s.WarmedH U.vm := State.WarmedH.trans hW0 hW
  have hcl : s.vm.findClass cls = some ce.cls := by
    have h9 := hO.cls
    rw [hvm] at h9
    exact h9
  have hall : s.sameButNew ({ U with vm := s.vm } : State) locs mc ms := by
    subst hA
    obtain ⟨e1, e2⟩ := hsame
    rw [State.setFrames_setFrames] at e1
    have h2 : (T.setVm s.vm).sameButNew ({ U with vm := s.vm } : State) [] (0 + 1) (0 + 6) := ⟨e1, e2⟩
    have h3 := X.same.trans h2
    rw [List.append_nil] at h3
    exact h3.mono hc hs
  refine ⟨U, ?_, .threw T.heap.size, hrun, hend, Or.inr ⟨T.heap.size, rfl, cls, ce, locs, hx U hWs.alike f1 (fun q hq => f2 q hq (fun z hz => nomatch hz)), hce, hO.vm, hcl, hWs, hall, hf⟩⟩
  refine st1 _ ?_
  show Steps p.tables e below (T1.setTop { method := m, pc := pc + 3, locals := ls, stack := .ref T.heap.size :: rest, locked := none }) _
  jvm_step X₁.here [X₁.here.top, hexec, d3', Value.category]
  exact X₁.ldcString hexec (own := own) (text := text) (index := is) (a := sa) hown' hstr'.1 hstr'.2
    (g := { method := m, pc := pc + 4, locals := ls, stack := .ref T.heap.size :: .ref T.heap.size :: rest, locked := none }) rfl d4' _ hsteps
/-- 'throw new E("text")', the text by a wide index -/
theorem vx_throwSW {cc : ByteArray} {pc : Nat} (hexec : p.tables.exec = Jvm.exec) (hb : c.code = cc) (hl : l.stackTraces = false) {own cls text : String} {names : List String} {ik is ic mc ms sa : Nat} {A : Nat → Prop}
    (hown : s.vm.findClass own = some m.cls) (hcls : Bundle.fit cls = true) (hnames : ∀ n ∈ names, Bundle.fit n = true)
    (hk : (Cond.classLink own ik cls).before args s = true) (hini : (Cond.initialized cls).before args s = true) (hstr : vk_R own is text sa s) (hat : ∀ w ∈ vx_atS own ic cls names, w.before args s = true)
    (hgood : ∀ w ∈ Cond.classLink own ik cls :: Cond.initialized cls :: vx_atS own ic cls names, vx_ot w = true)
    (hU : vx_Zq Bundle.tN "UNASSIGNED_STACK" Bundle.steD A s s.heap) (hN : vx_Zq Bundle.tN "SUPPRESSED_SENTINEL" Bundle.listD A s s.heap) (hS : va_S A s.heap H locs) (hsize : ls.size = c.maxLocals)
    (d0 : decode cc pc = .ok (.new ik, 3)) (d3 : decode cc (pc + 3) = .ok (.dup, 1)) (d4 : decode cc (pc + 4) = .ok (.ldc_w is, 3)) (d7 : decode cc (pc + 7) = .ok (.invokespecial ic, 3)) (d10 : decode cc (pc + 10) = .ok (.athrow, 1))
    (hout : ∀ x ∈ c.exceptionTable.toList, covers x (pc + 10) = false)
    (hRframes : names.length + 3 < R.frames) (hRlocals : (rest.map fun v => v.category).sum + (13 * (names.length + 1) + 43) ≤ R.locals) (hRcells : cells + 1 ≤ R.cells) (hRslots : slots + 6 ≤ R.slots) (hlocks : meth.locks = false)
    (hx : ∀ t : State, s.vm.Alike t.vm → H.size ≤ t.heap.size → (∀ q : Nat, q < H.size → t.heap[q]? = H[q]?) → XC cls s t)
    (hf : ∀ z ∈ locs, free z.base) (hc : cells + 1 ≤ mc) (hs : slots + 6 ≤ ms) :
    W p l e R s m args below meth c H locs cells slots (vx_MQ below Qc XC args s mc ms free) (F0 m pc ls rest) := by
  intro T hT X
  have htr : e.platform.stackTraces = false := (show e.platform.stackTraces = l.stackTraces by rw [X.admits.platform]).trans hl
  have Y := vx_rebase X (R' := { frames := R.frames, locals := R.locals, cells := 1, slots := 6 }) (Nat.le_refl _) (Nat.le_refl _) hRcells hRslots
  obtain ⟨s', hA⟩ : ∃ z, z = (T.setVm s.vm).setFrames (.invoking m args :: below) := ⟨_, rfl⟩
  rw [← hA] at Y
  have hvm : s'.vm = s.vm := by rw [hA]; rfl
  have hhp : s'.heap = H := by rw [hA]; exact hT
  have hW0 : s.WarmedH s'.vm := by rw [hvm]; exact State.WarmedH.refl s
  have hat' : ∀ w ∈ vx_atS own ic cls names, w.before args s' = true := fun w hw => vx_ot_at hW0 hvm.symm (hgood w (List.mem_cons_of_mem _ (List.mem_cons_of_mem _ hw))) (hat w hw)
  have hk' : (Cond.classLink own ik cls).before args s' = true := vx_ot_at hW0 hvm.symm (hgood _ List.mem_cons_self) hk
  have hini' : (Cond.initialized cls).before args s' = true := vx_ot_at hW0 hvm.symm (hgood _ (List.mem_cons_of_mem _ List.mem_cons_self)) hini
  have hU' : vx_Zq Bundle.tN "UNASSIGNED_STACK" Bundle.steD A s' s'.heap := by rw [hhp]; exact vx_Zq.moved hW0.alike (hU.kept hS.2.1)
  have hN' : vx_Zq Bundle.tN "SUPPRESSED_SENTINEL" Bundle.listD A s' s'.heap := by rw [hhp]; exact vx_Zq.moved hW0.alike (hN.kept hS.2.1)
  have h : ∀ w ∈ Bundle.ownAtoms own ic cls names, w.before args s' = true := vx_own hat' (vx_isRefq hU'.1) (vx_isRefq hN'.1) hU'.2.word hN'.2.word
  have hown' : s'.vm.findClass own = some m.cls := by rw [hvm]; exact hown
  have hins : (Cond.instantiable cls 6).before args s' = true := h _ (by simp [Bundle.ownAtoms])
  obtain ⟨vm₁, cX, kX, hfX, hkX, -, -, X₁, st1⟩ := Y.newCold hexec (own := own) (C := cls) (index := ik) (n := 6) hown' hk' hins hini'
    (g := F0 m pc ls rest) rfl (by rw [hb]; exact d0) (Nat.le_refl _) (Nat.le_refl _)
  generalize hT1 : (T.setVm vm₁).pushCell { cls := cX, slots := kX.instanceTypes.map defaultValue, vm := .none } = T1 at X₁ st1
  have hcat : (Value.ref T.heap.size).category = 1 := rfl
  have hcellA : T1.heap[T.heap.size]? = some (freshCell cX kX) := by rw [← hT1]; exact State.heap_pushCell_size _ _
  have d3' : decode c.code (pc + 3) = .ok (.dup, 1) := by rw [hb]; exact d3
  have d4' : decode c.code (pc + 4) = .ok (.ldc_w is, 3) := by rw [hb]; exact d4
  have hstr' : vk_R own is text sa s' := vk_R.warm hW0 hstr
  obtain ⟨U, hsteps, hrun, hend, hW, hsame, ce, hce, hO⟩ := X₁.ctorThrowS hexec htr (own := own) (cls := cls) (names := names) (ic := ic) hown' hcls hnames h (fun x hx => nomatch hx) hfX hkX hcellA (by rw [hhp, hT]; exact Nat.le_refl _) (msg := .ref sa) rfl
    (g := { method := m, pc := pc + 7, locals := ls, stack := .ref sa :: .ref T.heap.size :: .ref T.heap.size :: rest, locked := none }) rfl hsize rfl rfl (rest := rest) rfl
    (by rw [hb]; exact d7) (by rw [hb]; exact d10) hout hRframes (by simp only [List.map_cons, List.sum_cons, hcat]; omega) hlocks
  obtain ⟨f1, f2⟩ := vx_frame hsame
  rw [hhp] at f1 f2
  have hWs : s.WarmedH U.vm := State.WarmedH.trans hW0 hW
  have hcl : s.vm.findClass cls = some ce.cls := by
    have h9 := hO.cls
    rw [hvm] at h9
    exact h9
  have hall : s.sameButNew ({ U with vm := s.vm } : State) locs mc ms := by
    subst hA
    obtain ⟨e1, e2⟩ := hsame
    rw [State.setFrames_setFrames] at e1
    have h2 : (T.setVm s.vm).sameButNew ({ U with vm := s.vm } : State) [] (0 + 1) (0 + 6) := ⟨e1, e2⟩
    have h3 := X.same.trans h2
    rw [List.append_nil] at h3
    exact h3.mono hc hs
  refine ⟨U, ?_, .threw T.heap.size, hrun, hend, Or.inr ⟨T.heap.size, rfl, cls, ce, locs, hx U hWs.alike f1 (fun q hq => f2 q hq (fun z hz => nomatch hz)), hce, hO.vm, hcl, hWs, hall, hf⟩⟩
  refine st1 _ ?_
  show Steps p.tables e below (T1.setTop { method := m, pc := pc + 3, locals := ls, stack := .ref T.heap.size :: rest, locked := none }) _
  jvm_step X₁.here [X₁.here.top, hexec, d3', Value.category]
  exact X₁.ldcStringW hexec (own := own) (text := text) (index := is) (a := sa) hown' hstr'.1 hstr'.2
    (g := { method := m, pc := pc + 4, locals := ls, stack := .ref T.heap.size :: .ref T.heap.size :: rest, locked := none }) rfl d4' _ hsteps
end Ends
section Bodies
variable {l : Launch}
theorem vx_ofW {y : MethodName} {ws ws' : List Cond} {rm : Room} {Pc : Array Value → State → Prop} {Qc : Array Value → State → Outcome → State → Prop} {XC : String → State → State → Prop} {mc ms : Nat} {free : Addr → Prop} {cc : ByteArray} {maxL : Nat} {ret : Option FieldType}
    (hy : plainName y.cls = true) (hw : ws = Cond.code y cc maxL ret :: ws')
    (body : ∀ p e s m args below meth c s₁, BodyLoose p l y (headSpec ws rm) cc maxL ret e s m args below meth c s₁ → c.maxLocals = maxL → (∀ x ∈ c.exceptionTable.toList, False) → Pc args s →
      W p l e (headSpec ws rm).room s m args below meth c s.heap [] 0 0 (vx_MQ below Qc XC args s mc ms free) (entryFrame m args maxL)) : vx_Met l y ws rm Pc Qc XC mc ms free := by
  refine MetFree.of_bodyS (code := cc) (maxLocals := maxL) (ret := ret) hy ?_ ?_
  · intro args s m h hn
    obtain ⟨meth, c, h1, h2, h3, h4, h5, h6, -, -⟩ := Cond.code_spec hn (atoms_spec (ws := ws) h _ (by rw [hw]; exact List.mem_cons_self))
    exact ⟨meth, c, h1, h2, h3, h4, h5, h6⟩
  · intro p e s m args below meth c s₁ B hml hP _
    have hh0 : s₁.heap = s.heap := by rw [B.state]; rfl
    have ht : ∀ x ∈ c.exceptionTable.toList, False := by
      obtain ⟨meth9, c9, h1, h2, -, -, -, -, h7, -⟩ := Cond.code_spec B.named (atoms_spec (ws := ws) B.pre _ (by rw [hw]; exact List.mem_cons_self))
      cases Option.some.inj (h1.symm.trans B.method)
      cases Option.some.inj (h2.symm.trans (Stand.of_body B).code)
      intro x hx
      rw [Array.isEmpty_iff.mp h7] at hx
      cases hx
    obtain ⟨t, a1, o, b1, b2, b3⟩ := body p e s m args below meth c s₁ B hml ht hP s₁ hh0 (Stand.of_body B)
    exact ⟨t, o, a1, b1, b2, b3⟩
/-- the table of a body with handlers -/
theorem vx_table {p : Program} {x y : MethodName} {S : Spec} {cc bytes : ByteArray} {maxL maxL' : Nat} {ret ret' : Option FieldType} {e : Env} {s s₁ : State} {m : MethodId} {args : Array Value} {below : List Frame} {meth : Method} {c : Code} {hh : List (Nat × Nat × Nat × Nat)}
    (B : BodyLoose p l y S cc maxL ret e s m args below meth c s₁) (h : (Cond.codeWith y bytes maxL' ret' hh).before args s = true) : c.exceptionTable.toList = tableOf hh := by
  obtain ⟨m9, meth9, c9, hn9, h1, h2, -, -, h6, -⟩ := Cond.codeWith_spec h
  cases Option.some.inj (hn9.symm.trans B.named)
  cases Option.some.inj (h1.symm.trans B.method)
  cases Option.some.inj (h2.symm.trans (Stand.of_body B).code)
  rw [← h6, table_eq]
end Bodies
end VXA
/-! ===== END ===== -/
/-! ===== BEGIN a static call of a method with an exception table ===== -/
section VXS
variable {p : Program} {l : Launch} {e : Env} {R : Room} {s : State} {m : MethodId} {args : Array Value} {below : List Frame} {meth : Method} {c : Code} {T : State} {H : Heap} {locs : List Loc} {cells slots : Nat}
abbrev vx_CSW (R : Room) (s : State) (args : Array Value) (own : String) (index : Nat) (y : MethodName) (bytes : ByteArray) (maxL : Nat) (ret : Option FieldType) (hh : List (Nat × Nat × Nat × Nat)) (ws : List Cond) (rm : Room) (mc ms n : Nat) : Prop :=
  (rm.cells = mc ∧ rm.slots = ms ∧ rm.frames + 1 ≤ R.frames ∧ 8 + (maxL + 11) + rm.locals ≤ R.locals ∧ (∀ w ∈ ws, ∀ (a' : Array Value) (U : State), s.WarmedH U.vm → w.before a' U = true) ∧ Cond.codeWith y bytes maxL ret hh ∈ ws) ∧
  (Cond.codeWith y bytes maxL ret hh).before args s = true ∧ (Cond.initialized y.cls).before args s = true ∧ (y.cls ≠ "java/lang/invoke/MethodHandle" ∧ y.cls ≠ "java/lang/invoke/VarHandle") ∧
  (∀ sig, parseMethodDescriptor y.desc = some sig → n = sig.parameters.length) ∧ (Cond.methodLink own index y).before args s = true ∧ (Cond.static y).before args s = true
theorem vx_cwSW {own : String} {index maxL mc ms : Nat} {y : MethodName} {bytes : ByteArray} {ret : Option FieldType} {hh : List (Nat × Nat × Nat × Nat)} {Ts ws ws' : List Cond} {rm : Room} (n : Nat) (ht : ∀ w ∈ Ts, w.before args s = true) (hT : GoodIn Ts (va_wsS own index y ws)) (hw : ws = Cond.codeWith y bytes maxL ret hh :: ws') (hrc : rm.cells = mc) (hrs : rm.slots = ms)
    (hd : y.cls ≠ "java/lang/invoke/MethodHandle" ∧ y.cls ≠ "java/lang/invoke/VarHandle" ∧ (parseMethodDescriptor y.desc).map (fun d => d.parameters.length) = some n) (hR : rm.frames + 1 ≤ R.frames ∧ 8 + (maxL + 11) + rm.locals ≤ R.locals) :
    vx_CSW R s args own index y bytes maxL ret hh ws rm mc ms n := by
  have ok : ∀ w ∈ va_wsS own index y ws, w.before args s = true := fun w h => ht w (hT w h).1
  have hG : GoodIn Ts ws := fun w h => hT w (by unfold va_wsS; exact List.mem_append_right _ h)
  have hc : Cond.codeWith y bytes maxL ret hh ∈ ws := by rw [hw]; exact List.mem_cons_self
  refine ⟨⟨hrc, hrs, hR.1, hR.2, pay_in ht hG, hc⟩, ht _ (hG _ hc).1, ok _ (by simp [va_wsS]), ⟨hd.1, hd.2.1⟩, fun sig h => ?_, ok _ (by simp [va_wsS]), ok _ (by simp [va_wsS])⟩
  have h2 := hd.2.2
  rw [h] at h2
  exact (Option.some.inj h2).symm
theorem vx_callSW (X : Stand p l e R s m args below meth c T locs cells slots) (hexec : p.tables.exec = Jvm.exec) {own : String} {index : Nat} {y : MethodName} {bytes : ByteArray} {maxL : Nat} {ret : Option FieldType} {hh : List (Nat × Nat × Nat × Nat)}
    (hown : s.vm.findClass own = some m.cls) (hlink : (Cond.methodLink own index y).before args s = true) (hstat : (Cond.static y).before args s = true) (hinit : (Cond.initialized y.cls).before args s = true)
    (hcode : (Cond.codeWith y bytes maxL ret hh).before args s = true) (hy : y.cls ≠ "java/lang/invoke/MethodHandle" ∧ y.cls ≠ "java/lang/invoke/VarHandle")
    {W9 : Nat} {Pre : Pt → Array Value → Prop} {Post : Pt → Array Value → Option Value → Pt → Prop} (hK : Back l R p e below s args y 3 W9 Pre Post)
    {g : JFrame} (hg : g.method = m) (hsize : g.locals.size = c.maxLocals) {argsL rest : List Value} (hlen : ∀ sig, parseMethodDescriptor y.desc = some sig → argsL.length = sig.parameters.length)
    (hstack : g.stack = argsL.reverse ++ rest) (hW : 2 * g.monitorRoom + (rest.map fun v => v.category).sum ≤ W9) (hdg : decode c.code g.pc = .ok (.invokestatic index, 3))
    (hpre : ∀ vm₁, s.WarmedH vm₁ → Pre ⟨T.setVm vm₁, locs, cells, slots⟩ argsL.toArray) :
    ∃ (v : Option Value) (vm₁ : Vm) (B : Pt), s.WarmedH vm₁ ∧ Stand p l e R s m args below meth c B.U B.locs B.cells B.slots ∧ Post ⟨T.setVm vm₁, locs, cells, slots⟩ argsL.toArray v B ∧
      ∀ target, Steps p.tables e below (B.U.setTop { g with pc := g.pc + 3, stack := v.toList ++ rest }) target → Steps p.tables e below (T.setTop g) target := by
  obtain ⟨mk, methM, cM, hnamed, hmethM, -, -, -, -, -, -, hsigM⟩ := Cond.codeWith_spec hcode
  have hstatic : methM.isStatic = true := Cond.static_spec hnamed hmethM hstat
  obtain ⟨kP, hkP, -⟩ := className_of_methodNamed hnamed
  have hinitP : kP.init = .initialized := Cond.initialized_spec (findClass_of_methodNamed hnamed) hkP hinit
  obtain ⟨vm₁, X₁, hstep₁⟩ := X.invokestatic hexec hown hlink hnamed hmethM hstatic hkP hinitP hy (g := g) hg (argsL := argsL) (rest := rest) (hlen _ hsigM) hstack hdg
  obtain ⟨v, B, X', hpost, hsteps⟩ := hK m meth c ⟨T.setVm vm₁, locs, cells, slots⟩ { g with stack := rest } (.invokestatic index) mk argsL.toArray X₁ hg hsize hdg hW (X₁.named hnamed) (hpre vm₁ X₁.warmed)
  exact ⟨v, vm₁, B, X₁.warmed, X', hpost, fun target h => hstep₁ _ fun acts => by rw [doInvoke_state]; exact hsteps.trans h⟩
theorem vx_runSW {y : MethodName} {bytes cc : ByteArray} {maxL nL mc ms n index : Nat} {ret : Option FieldType} {hh : List (Nat × Nat × Nat × Nat)} {ws : List Cond} {rm : Room} {Pc : Array Value → State → Prop} {Qc : Array Value → State → Outcome → State → Prop} {free : Addr → Prop} {Ts : List Cond} {own : String} {As rest : List Value} {g : JFrame}
    (S : CallFix p m c cc nL s args Ts own) (hM : Met l y ws rm Pc Qc mc ms free) (cw : vx_CSW R s args own index y bytes maxL ret hh ws rm mc ms n) (hp : PreS s H Pc As)
    (hg : g.method = m) (hn : As.length = n) (hsize : g.locals.size = nL) (hstack : g.stack = As.reverse ++ rest) (hW : 2 * g.monitorRoom + (rest.map fun v => v.category).sum ≤ 8) (hdg : decode cc g.pc = .ok (.invokestatic index, 3)) (hf : cells + mc ≤ R.cells ∧ slots + ms ≤ R.slots) :
    va_Run p l e R s m args below meth c H locs cells slots mc ms g rest (Qc As.toArray) (free) := by
  obtain ⟨⟨hrc, hrs, hfr, hlo, hws, hcw⟩, hcode, hini, hy, hlen, hl, hstt⟩ := cw
  have hK : Back l R p e below s args y 3 8 (PreOf R mc ms Pc) (PostOf Qc mc ms free) := va_backW (hh := hh) (bytes := bytes) (maxL := maxL) (ret := ret) hM hp.1 hrc hrs hfr hlo hws hcw (fun a' U hW => word_at hW (Or.inl (by first | rfl | simp [Cond.onTables, Cond.keeps, Cond.steady])) hini)
  obtain ⟨hx, hb, hml, ho, -⟩ := S
  intro T hT X
  obtain ⟨v, vm₁, ⟨U', l2, c2, s2⟩, hW₁, X', ⟨g', mk, t, L, e1, e2, hq, h1, hL, h2, h3⟩, st⟩ := vx_callSW X hx (hh := hh) (bytes := bytes) (maxL := maxL) (ret := ret) ho hl hstt hini hcode hy hK hg (hsize.trans hml.symm) (argsL := As) (rest := rest) (fun sig h => hn.trans (hlen sig h)) hstack hW (by rw [hb]; exact hdg)
    (fun vm₁ hW₁ => ⟨hf.1, hf.2, hp.2 (T.setVm vm₁) hT hW₁⟩)
  dsimp only [Pt.U, Pt.locs, Pt.cells, Pt.slots] at X' e1 e2 h1 h2 h3 st
  subst h1; subst h2; subst h3
  exact ⟨v, (T.setVm vm₁).calling g' mk As.toArray, t, U', L, hT, X', hL, e1, e2, hq, st⟩
/-- not caught here, past rows that name other classes: it goes on to the caller -/
theorem vx_outP {p : Program} {l : Launch} {e : Env} {R : Room} {s : State} {m : MethodId} {args : Array Value} {below : List Frame} {meth : Method} {c : Code} {H : Heap} {locs : List Loc} {cells slots : Nat} {free : Addr → Prop} {ls : Array Slot} {rest : List Value} {Qc : Array Value → State → Outcome → State → Prop} {XC : String → State → State → Prop}
    {pc : Nat} {own E : String} {ce : Cell} {q : Addr} {mc ms : Nat} (hown : s.vm.findClass own = some m.cls) (hlocks : meth.locks = false)
    (hpass : ∀ z ∈ c.exceptionTable.toList, covers z pc = false ∨ (z.catchType ≠ 0 ∧ ∃ nm : String, (Cond.classLink own z.catchType nm).before args s = true ∧ va_Nc E nm s)) (hcell : H[q]? = some ce) (hv : ce.vm = .none) (hcl : s.vm.findClass E = some ce.cls)
    (hx : ∀ t : State, t.heap = H → s.vm.Alike t.vm → XC E s t) (hf : ∀ z ∈ locs, free z.base) (hc : cells ≤ mc) (hs : slots ≤ ms) :
    vx_W p l e R s m args below meth c H locs cells slots (vx_MQ below Qc XC args s mc ms free) (F0 m pc ls rest) q := by
  intro T hT X
  have hpl : e.platform.magicAccessors = ({} : Platform).magicAccessors := by rw [X.admits.platform]
  obtain ⟨vm', hW', X', st⟩ := X.outThrough hlocks q (g := F0 m pc ls rest) rfl rfl rfl (cell := ce) (by rw [hT]; exact hcell) (by rw [hv]; rfl)
    (by obtain ⟨k9, h9, -⟩ := Vm.findClass_spec hcl; exact ⟨k9, h9⟩) (fun z hz => by
      rcases hpass z hz with h | ⟨hz0, nm, hl1, hn1⟩
      · exact Or.inl h
      · obtain ⟨c6, hc6, hcl6⟩ := Cond.classLink_spec hown hl1 e.platform hpl
        obtain ⟨a8, b8, h1, h2, h3⟩ := hn1
        cases Option.some.inj (h1.symm.trans hcl)
        cases Option.some.inj (h2.symm.trans hc6)
        exact Or.inr ⟨hz0, _, hcl6, h3⟩)
  obtain ⟨g₀, hfr⟩ := X'.frames_eq
  have hcell9 : ((T.setVm vm').setFrames (.throwing q :: below)).heap[q]? = some ce := by
    show T.heap[q]? = some ce
    rw [hT]; exact hcell
  have hend : Ended ((T.setVm vm').setFrames (.throwing q :: below)) below (.threw q) := State.frames_setFrames _ (State.cur_lt_of_frames hfr)
  refine ⟨(T.setVm vm').setFrames (.throwing q :: below), ?_, .threw q, X'.here.running, hend, Or.inr ⟨q, rfl, E, ce, locs, hx _ hT (X'.ends _).1.alike, hcell9, hv, hcl, (X'.ends _).1, (X'.ends _).2.mono hc hs, hf⟩⟩
  rw [X.pushThrowing_eq]
  exact st
/-- a thing of a world lies in the heap -/
theorem vx_lt {D : va_G} {cl : List vw_C} {ws : va_W} {H1 : Heap} (h : va_P D cl ws H1) {k : Nat} {q : Nat × va_E} (hk : ws[k]? = some q) : q.1 < H1.size := (h k q hk).lt
end VXS
/-! ===== END ===== -/
/-! ===== BEGIN methods with a table of their own: called by a name, returning or throwing ===== -/
section VXH
/-! vx_backW, vx_callVX, vx_callSX, vx_callVW, vx_runVW, vx_runVX, vx_runSX, vx_ofWH follow the same proofs as their sisters above (Free/Laws.lean, Shelf42/LK1.lean); vx_outP calls Shelf42/NT130.lean (outThrough). -/
section
variable {l : Launch} {R : Room} {p : Program} {e : Env} {below : List Frame} {s : State} {sargs : Array Value} {y : MethodName} {len W9 : Nat}
theorem vx_backW {ws : List Cond} {rm : Room} {Pc : Array Value → State → Prop} {Qc : Array Value → State → Outcome → State → Prop} {XC : String → State → State → Prop} {mc ms : Nat} {free : Addr → Prop} {bytes : ByteArray} {maxL : Nat} {ret : Option FieldType} {hh : List (Nat × Nat × Nat × Nat)}
    (hM : vx_Met l y ws rm Pc Qc XC mc ms free) (hblind : FrameBlind Pc) (hrc : rm.cells = mc) (hrs : rm.slots = ms)
    (hframes : rm.frames + 1 ≤ R.frames) (hlocals : W9 + (maxL + 11) + rm.locals ≤ R.locals)
    (hws : ∀ w ∈ ws, ∀ a' U, s.WarmedH U.vm → w.before a' U = true) (hcode : Cond.codeWith y bytes maxL ret hh ∈ ws) (hinit : ∀ a' U, s.WarmedH U.vm → (Cond.initialized y.cls).before a' U = true) :
    vx_Back l R p e below s sargs y len W9 (PreOf R mc ms Pc) (PostOf Qc mc ms free) (vx_Post XC mc ms free) := by
  intro m meth c A g ig mk a X hg hsize hdg hW hn hp
  have h1 : (headSpec ws rm).pre.before a A.U = true := atoms_intro fun w hw => hws w hw _ _ X.warmed
  have h2 : (Cond.codeWith y bytes maxL ret hh).before a A.U = true := hws _ hcode _ _ X.warmed
  have h3 : (Cond.initialized y.cls).before a A.U = true := hinit _ _ X.warmed
  have h4 : A.cells + (headSpec ws rm).room.cells ≤ R.cells := by rw [show (headSpec ws rm).room.cells = mc from hrc]; exact hp.1
  have h5 : A.slots + (headSpec ws rm).room.slots ≤ R.slots := by rw [show (headSpec ws rm).room.slots = ms from hrs]; exact hp.2.1
  have hPc : Pc a (A.U.calling g mk a) := hblind _ _ _ _ hp.2.2
  obtain ⟨U, Ls, c0, s0⟩ := A
  dsimp only [Pt.U, Pt.locs, Pt.cells, Pt.slots] at h1 h2 h3 h4 h5 X hn hPc ⊢
  obtain ⟨m9, methY, cY, hn9, hmY, hcY, -, hlY, -⟩ := Cond.codeWith_spec h2
  cases Option.some.inj (hn9.symm.trans hn)
  obtain ⟨kY, hkY, -⟩ := className_of_methodNamed hn
  have hinitY : kY.init = .initialized := Cond.initialized_spec (findClass_of_methodNamed hn) hkY h3
  have h : At U g.method c below := by rw [hg]; exact X.here
  have hlocals9 : W9 + (maxL + 11) + (headSpec ws rm).room.locals ≤ R.locals := hlocals
  have happ : (headSpec ws rm).appliesLoose y e.platform (U.calling g mk a) = true :=
    Spec.appliesLoose_calling (g := g) h hdg hn hkY hinitY
      (X.room_calling (g := g) (R' := (headSpec ws rm).room) hsize hmY hcY hframes (by rw [hlY]; omega) h4 h5) h1
  obtain ⟨mid, hmid⟩ := h.above
  have hfr : (U.setTop g).frames = (.java g :: mid) ++ below := by rw [State.frames_setTop' g h.top, hmid]; rfl
  obtain ⟨o, s₂, hsteps, -, hend, hq⟩ := Steps.callFree hM p X.admits X.cas X.clock (acts := []) hfr happ hPc trivial
  have hq' : vx_Q Qc XC mc ms free a (U.calling g mk a) o s₂ := hq
  rw [State.frames_setTop' g h.top] at hend
  obtain ⟨g₀, hg0⟩ := Option.isSome_iff_exists.mp h.top
  obtain ⟨r, hr⟩ := State.topJava?_eq_some.mp hg0
  have hr' : (({ U with heap := s₂.heap, slotsUsed := s₂.slotsUsed } : State).setVm s₂.vm).frames = .java g₀ :: r := hr
  rcases hq' with ⟨hqc, L, hfe, hL⟩ | ⟨q, rfl, E, ce, L, hx, hce, hcv, hcl, hW₂, hsm, hL⟩
  · obtain ⟨⟨v, rfl⟩, hW₂, e2, q2, q3, q4, q5, q6⟩ := id hfe
    have e3 : s₂ = ({ (U.calling g mk a).setFrames s₂.frames with heap := s₂.heap, slotsUsed := s₂.slotsUsed } : State).setVm s₂.vm := by
      have : s₂ = ({ s₂ with vm := (U.calling g mk a).vm } : State).setVm s₂.vm := rfl
      rw [e2] at this
      exact this
    obtain ⟨c₂, i₂, len₂, hc₂, hd₂, hf₂⟩ := hend
    have hW' : U.WarmedH s₂.vm := hW₂
    have hcc : c₂ = c := by
      have h1 : s₂.code? g.method = U.code? g.method := by
        rw [State.code?_eq, State.code?_eq, hW'.alike.method?]
      exact Option.some.inj (hc₂.symm.trans (h1.trans h.code))
    subst hcc
    have hlen : len₂ = len := by rw [hdg] at hd₂; cases hd₂; rfl
    subst hlen
    have hs₂ : s₂ = (({ U with heap := s₂.heap, slotsUsed := s₂.slotsUsed } : State).setVm s₂.vm).setTop { g with pc := g.pc + len₂, stack := v.toList ++ g.stack } := by
      refine e3.trans ?_
      rw [hf₂, State.calling_eq h.top, State.setFrames_setFrames, State.setTop_of_frames _ hr', hr]
      rfl
    have hsame : U.sameButNew ({ U with heap := s₂.heap, slotsUsed := s₂.slotsUsed } : State) L mc ms := by
      refine ⟨?_, q2, q3, q4, q5, q6⟩
      obtain ⟨t, ht, -⟩ := State.frames_cons hr
      show ({ U with heap := s₂.heap, slotsUsed := s₂.slotsUsed } : State) = { U.setFrames U.frames with heap := s₂.heap, slotsUsed := s₂.slotsUsed }
      rw [State.setFrames_self ht]
    subst hg
    refine Or.inl ⟨v, ⟨(({ U with heap := s₂.heap, slotsUsed := s₂.slotsUsed } : State).setVm s₂.vm), Ls ++ L, c0 + mc, s0 + ms⟩,
      ⟨X.admits, X.cas, X.clock, X.frames, X.room, X.hears, X.method, X.code, (X.here.setHeapUsed s₂.heap s₂.slotsUsed).setVm hW'.alike, X.tail, State.WarmedH.trans X.warmed hW', X.limits, X.bytes, X.same.trans (hsame.setVm s.vm)⟩,
      ⟨g, mk, s₂, L, rfl, rfl, hqc, rfl, hL, rfl, rfl⟩, ?_⟩
    show Steps p.tables e below _ ((({ U with heap := s₂.heap, slotsUsed := s₂.slotsUsed } : State).setVm s₂.vm).setTop { g with pc := g.pc + len₂, stack := v.toList ++ g.stack })
    rw [← hs₂]
    exact hsteps
  · obtain ⟨e2, q2, q3, q4, q5, q6⟩ := id hsm
    have e3 : s₂ = ({ (U.calling g mk a).setFrames s₂.frames with heap := s₂.heap, slotsUsed := s₂.slotsUsed } : State).setVm s₂.vm := by
      have : s₂ = ({ s₂ with vm := (U.calling g mk a).vm } : State).setVm s₂.vm := rfl
      rw [e2] at this
      exact this
    have hf₂ : s₂.frames = .throwing q :: .java g :: U.frames.tail := hend
    have hW' : U.WarmedH s₂.vm := hW₂
    have hs₂ : s₂ = ((({ U with heap := s₂.heap, slotsUsed := s₂.slotsUsed } : State).setVm s₂.vm).setTop g).pushFrame (.throwing q) := by
      refine e3.trans ?_
      rw [hf₂, State.calling_eq h.top, State.setFrames_setFrames, State.pushFrame, State.frames_setTop _ hr', State.setTop_of_frames _ hr', State.setFrames_setFrames, hr]
      rfl
    have hsame : U.sameButNew ({ U with heap := s₂.heap, slotsUsed := s₂.slotsUsed } : State) L mc ms := by
      refine ⟨?_, q2, q3, q4, q5, q6⟩
      obtain ⟨t, ht, -⟩ := State.frames_cons hr
      show ({ U with heap := s₂.heap, slotsUsed := s₂.slotsUsed } : State) = { U.setFrames U.frames with heap := s₂.heap, slotsUsed := s₂.slotsUsed }
      rw [State.setFrames_self ht]
    subst hg
    refine Or.inr ⟨q, ⟨(({ U with heap := s₂.heap, slotsUsed := s₂.slotsUsed } : State).setVm s₂.vm), Ls ++ L, c0 + mc, s0 + ms⟩,
      ⟨X.admits, X.cas, X.clock, X.frames, X.room, X.hears, X.method, X.code, (X.here.setHeapUsed s₂.heap s₂.slotsUsed).setVm hW'.alike, X.tail, State.WarmedH.trans X.warmed hW', X.limits, X.bytes, X.same.trans (hsame.setVm s.vm)⟩,
      ⟨g, mk, s₂, L, E, ce, rfl, rfl, hx, hce, hcv, hcl, rfl, hL, rfl, rfl⟩, ?_⟩
    show Steps p.tables e below _ (((({ U with heap := s₂.heap, slotsUsed := s₂.slotsUsed } : State).setVm s₂.vm).setTop g).pushFrame (.throwing q))
    rw [← hs₂]
    exact hsteps
end
variable {p : Program} {l : Launch} {e : Env} {R : Room} {s : State} {m : MethodId} {args : Array Value} {below : List Frame} {meth : Method} {c : Code} {T : State} {H : Heap} {locs : List Loc} {cells slots : Nat}
theorem vx_callVX (X : Stand p l e R s m args below meth c T locs cells slots) (hexec : p.tables.exec = Jvm.exec) {own C : String} {index : Nat} {y : MethodName} {bytes : ByteArray} {maxL : Nat} {ret : Option FieldType} {hh : List (Nat × Nat × Nat × Nat)}
    (hown : s.vm.findClass own = some m.cls) (hlink : (Cond.methodLink own index y).before args s = true) (hinst : (Cond.instanceMethod y).before args s = true) (hsel : (Cond.selects C y y).before args s = true)
    (hcode : (Cond.codeWith y bytes maxL ret hh).before args s = true) (hy : y.cls ≠ "java/lang/invoke/MethodHandle" ∧ y.cls ≠ "java/lang/invoke/VarHandle")
    {W9 : Nat} {Pre : Pt → Array Value → Prop} {Post : Pt → Array Value → Option Value → Pt → Prop} {PostX : Pt → Array Value → Addr → Pt → Prop} (hK : vx_Back l R p e below s args y 3 W9 Pre Post PostX)
    {b : Addr} {cellB : Cell} (hcell : T.heap[b]? = some cellB) (hobj : cellB.vm.isStatics = false) (hcls : s.vm.findClass C = some cellB.cls)
    {g : JFrame} (hg : g.method = m) (hsize : g.locals.size = c.maxLocals) {argsL rest : List Value} (hlen : ∀ sig, parseMethodDescriptor y.desc = some sig → argsL.length = sig.parameters.length)
    (hstack : g.stack = argsL.reverse ++ .ref b :: rest) (hW : 2 * g.monitorRoom + (rest.map fun v => v.category).sum ≤ W9) (hdg : decode c.code g.pc = .ok (.invokevirtual index, 3))
    (hpre : ∀ vm₁, s.WarmedH vm₁ → Pre ⟨T.setVm vm₁, locs, cells, slots⟩ (Value.ref b :: argsL).toArray) :
    (∃ (v : Option Value) (vm₁ : Vm) (B : Pt), s.WarmedH vm₁ ∧ Stand p l e R s m args below meth c B.U B.locs B.cells B.slots ∧ Post ⟨T.setVm vm₁, locs, cells, slots⟩ (Value.ref b :: argsL).toArray v B ∧
      ∀ target, Steps p.tables e below (B.U.setTop { g with pc := g.pc + 3, stack := v.toList ++ rest }) target → Steps p.tables e below (T.setTop g) target) ∨
    (∃ (q : Addr) (vm₁ : Vm) (B : Pt), s.WarmedH vm₁ ∧ Stand p l e R s m args below meth c B.U B.locs B.cells B.slots ∧ PostX ⟨T.setVm vm₁, locs, cells, slots⟩ (Value.ref b :: argsL).toArray q B ∧
      Steps p.tables e below (T.setTop g) ((B.U.setTop { g with stack := rest }).pushFrame (.throwing q))) := by
  obtain ⟨mk, methM, hnamed, hmethM, hstM, habM⟩ := Cond.instanceMethod_spec hinst
  obtain ⟨m8, methM', cM, hn8, hmethM', -, -, -, -, -, -, hsigM⟩ := Cond.codeWith_spec hcode
  cases Option.some.inj (hn8.symm.trans hnamed)
  cases hmethM.symm.trans hmethM'
  obtain ⟨c2, r2, m2, q1, q2, q3, q4, kP, hkP, hkPi⟩ := Cond.selects_spec hsel
  cases hcls.symm.trans q1
  cases (State.methodFound?_of_named hnamed hy).symm.trans q2
  cases hnamed.symm.trans q3
  have hselP : selectMethod e.platform s.vm cellB.cls mk = .method mk := by rw [Launch.admits_selectMethod X.admits]; exact q4
  obtain ⟨vm₁, X₁, hstep₁⟩ := X.invokevirtual hexec hown hlink hnamed hmethM hstM hkP hkPi hy (a := b) (cell := cellB) hcell
    (fun z h => by rw [h] at hobj; cases hobj) hselP hmethM habM hkP hkPi (g := g) hg (argsL := argsL) (rest := rest) (hlen _ hsigM) hstack hdg
  rcases hK m meth c ⟨T.setVm vm₁, locs, cells, slots⟩ { g with stack := rest } (.invokevirtual index) mk (Value.ref b :: argsL).toArray X₁ hg hsize hdg hW (X₁.named hnamed) (hpre vm₁ X₁.warmed) with ⟨v, B, X', hpost, hsteps⟩ | ⟨q, B, X', hpost, hsteps⟩
  · exact Or.inl ⟨v, vm₁, B, X₁.warmed, X', hpost, fun target h => hstep₁ _ fun acts => by rw [doInvoke_state]; exact hsteps.trans h⟩
  · exact Or.inr ⟨q, vm₁, B, X₁.warmed, X', hpost, hstep₁ _ fun acts => by rw [doInvoke_state]; exact hsteps⟩
theorem vx_callSX (X : Stand p l e R s m args below meth c T locs cells slots) (hexec : p.tables.exec = Jvm.exec) {own : String} {index : Nat} {y : MethodName} {bytes : ByteArray} {maxL : Nat} {ret : Option FieldType} {hh : List (Nat × Nat × Nat × Nat)}
    (hown : s.vm.findClass own = some m.cls) (hlink : (Cond.methodLink own index y).before args s = true) (hstat : (Cond.static y).before args s = true) (hinit : (Cond.initialized y.cls).before args s = true)
    (hcode : (Cond.codeWith y bytes maxL ret hh).before args s = true) (hy : y.cls ≠ "java/lang/invoke/MethodHandle" ∧ y.cls ≠ "java/lang/invoke/VarHandle")
    {W9 : Nat} {Pre : Pt → Array Value → Prop} {Post : Pt → Array Value → Option Value → Pt → Prop} {PostX : Pt → Array Value → Addr → Pt → Prop} (hK : vx_Back l R p e below s args y 3 W9 Pre Post PostX)
    {g : JFrame} (hg : g.method = m) (hsize : g.locals.size = c.maxLocals) {argsL rest : List Value} (hlen : ∀ sig, parseMethodDescriptor y.desc = some sig → argsL.length = sig.parameters.length)
    (hstack : g.stack = argsL.reverse ++ rest) (hW : 2 * g.monitorRoom + (rest.map fun v => v.category).sum ≤ W9) (hdg : decode c.code g.pc = .ok (.invokestatic index, 3))
    (hpre : ∀ vm₁, s.WarmedH vm₁ → Pre ⟨T.setVm vm₁, locs, cells, slots⟩ argsL.toArray) :
    (∃ (v : Option Value) (vm₁ : Vm) (B : Pt), s.WarmedH vm₁ ∧ Stand p l e R s m args below meth c B.U B.locs B.cells B.slots ∧ Post ⟨T.setVm vm₁, locs, cells, slots⟩ argsL.toArray v B ∧
      ∀ target, Steps p.tables e below (B.U.setTop { g with pc := g.pc + 3, stack := v.toList ++ rest }) target → Steps p.tables e below (T.setTop g) target) ∨
    (∃ (q : Addr) (vm₁ : Vm) (B : Pt), s.WarmedH vm₁ ∧ Stand p l e R s m args below meth c B.U B.locs B.cells B.slots ∧ PostX ⟨T.setVm vm₁, locs, cells, slots⟩ argsL.toArray q B ∧
      Steps p.tables e below (T.setTop g) ((B.U.setTop { g with stack := rest }).pushFrame (.throwing q))) := by
  obtain ⟨mk, methM, cM, hnamed, hmethM, -, -, -, -, -, -, hsigM⟩ := Cond.codeWith_spec hcode
  have hstatic : methM.isStatic = true := Cond.static_spec hnamed hmethM hstat
  obtain ⟨kP, hkP, -⟩ := className_of_methodNamed hnamed
  have hinitP : kP.init = .initialized := Cond.initialized_spec (findClass_of_methodNamed hnamed) hkP hinit
  obtain ⟨vm₁, X₁, hstep₁⟩ := X.invokestatic hexec hown hlink hnamed hmethM hstatic hkP hinitP hy (g := g) hg (argsL := argsL) (rest := rest) (hlen _ hsigM) hstack hdg
  rcases hK m meth c ⟨T.setVm vm₁, locs, cells, slots⟩ { g with stack := rest } (.invokestatic index) mk argsL.toArray X₁ hg hsize hdg hW (X₁.named hnamed) (hpre vm₁ X₁.warmed) with ⟨v, B, X', hpost, hsteps⟩ | ⟨q, B, X', hpost, hsteps⟩
  · exact Or.inl ⟨v, vm₁, B, X₁.warmed, X', hpost, fun target h => hstep₁ _ fun acts => by rw [doInvoke_state]; exact hsteps.trans h⟩
  · exact Or.inr ⟨q, vm₁, B, X₁.warmed, X', hpost, hstep₁ _ fun acts => by rw [doInvoke_state]; exact hsteps⟩
theorem vx_callVW (X : Stand p l e R s m args below meth c T locs cells slots) (hexec : p.tables.exec = Jvm.exec) {own C : String} {index : Nat} {y : MethodName} {bytes : ByteArray} {maxL : Nat} {ret : Option FieldType} {hh : List (Nat × Nat × Nat × Nat)}
    (hown : s.vm.findClass own = some m.cls) (hlink : (Cond.methodLink own index y).before args s = true) (hinst : (Cond.instanceMethod y).before args s = true) (hsel : (Cond.selects C y y).before args s = true)
    (hcode : (Cond.codeWith y bytes maxL ret hh).before args s = true) (hy : y.cls ≠ "java/lang/invoke/MethodHandle" ∧ y.cls ≠ "java/lang/invoke/VarHandle")
    {W9 : Nat} {Pre : Pt → Array Value → Prop} {Post : Pt → Array Value → Option Value → Pt → Prop} (hK : Back l R p e below s args y 3 W9 Pre Post)
    {b : Addr} {cellB : Cell} (hcell : T.heap[b]? = some cellB) (hobj : cellB.vm.isStatics = false) (hcls : s.vm.findClass C = some cellB.cls)
    {g : JFrame} (hg : g.method = m) (hsize : g.locals.size = c.maxLocals) {argsL rest : List Value} (hlen : ∀ sig, parseMethodDescriptor y.desc = some sig → argsL.length = sig.parameters.length)
    (hstack : g.stack = argsL.reverse ++ .ref b :: rest) (hW : 2 * g.monitorRoom + (rest.map fun v => v.category).sum ≤ W9) (hdg : decode c.code g.pc = .ok (.invokevirtual index, 3))
    (hpre : ∀ vm₁, s.WarmedH vm₁ → Pre ⟨T.setVm vm₁, locs, cells, slots⟩ (Value.ref b :: argsL).toArray) :
    ∃ (v : Option Value) (vm₁ : Vm) (B : Pt), s.WarmedH vm₁ ∧ Stand p l e R s m args below meth c B.U B.locs B.cells B.slots ∧ Post ⟨T.setVm vm₁, locs, cells, slots⟩ (Value.ref b :: argsL).toArray v B ∧
      ∀ target, Steps p.tables e below (B.U.setTop { g with pc := g.pc + 3, stack := v.toList ++ rest }) target → Steps p.tables e below (T.setTop g) target := by
  obtain ⟨mk, methM, hnamed, hmethM, hstM, habM⟩ := Cond.instanceMethod_spec hinst
  obtain ⟨m8, methM', cM, hn8, hmethM', -, -, -, -, -, -, hsigM⟩ := Cond.codeWith_spec hcode
  cases Option.some.inj (hn8.symm.trans hnamed)
  cases hmethM.symm.trans hmethM'
  obtain ⟨c2, r2, m2, q1, q2, q3, q4, kP, hkP, hkPi⟩ := Cond.selects_spec hsel
  cases hcls.symm.trans q1
  cases (State.methodFound?_of_named hnamed hy).symm.trans q2
  cases hnamed.symm.trans q3
  have hselP : selectMethod e.platform s.vm cellB.cls mk = .method mk := by rw [Launch.admits_selectMethod X.admits]; exact q4
  obtain ⟨vm₁, X₁, hstep₁⟩ := X.invokevirtual hexec hown hlink hnamed hmethM hstM hkP hkPi hy (a := b) (cell := cellB) hcell
    (fun z h => by rw [h] at hobj; cases hobj) hselP hmethM habM hkP hkPi (g := g) hg (argsL := argsL) (rest := rest) (hlen _ hsigM) hstack hdg
  obtain ⟨v, B, X', hpost, hsteps⟩ := hK m meth c ⟨T.setVm vm₁, locs, cells, slots⟩ { g with stack := rest } (.invokevirtual index) mk (Value.ref b :: argsL).toArray X₁ hg hsize hdg hW (X₁.named hnamed) (hpre vm₁ X₁.warmed)
  exact ⟨v, vm₁, B, X₁.warmed, X', hpost, fun target h => hstep₁ _ fun acts => by rw [doInvoke_state]; exact hsteps.trans h⟩
abbrev vx_CVW (R : Room) (s : State) (args : Array Value) (own C : String) (index : Nat) (y : MethodName) (bytes : ByteArray) (maxL : Nat) (ret : Option FieldType) (hh : List (Nat × Nat × Nat × Nat)) (ws : List Cond) (rm : Room) (mc ms n : Nat) : Prop :=
  (rm.cells = mc ∧ rm.slots = ms ∧ rm.frames + 1 ≤ R.frames ∧ 8 + (maxL + 11) + rm.locals ≤ R.locals ∧ (∀ w ∈ ws, ∀ (a' : Array Value) (U : State), s.WarmedH U.vm → w.before a' U = true) ∧ Cond.codeWith y bytes maxL ret hh ∈ ws) ∧
  (Cond.codeWith y bytes maxL ret hh).before args s = true ∧ (Cond.initialized y.cls).before args s = true ∧ (y.cls ≠ "java/lang/invoke/MethodHandle" ∧ y.cls ≠ "java/lang/invoke/VarHandle") ∧
  (∀ sig, parseMethodDescriptor y.desc = some sig → n = sig.parameters.length) ∧ (Cond.methodLink own index y).before args s = true ∧ (Cond.instanceMethod y).before args s = true ∧ (Cond.selects C y y).before args s = true
theorem vx_cwVW {own C : String} {index maxL mc ms : Nat} {y : MethodName} {bytes : ByteArray} {ret : Option FieldType} {hh : List (Nat × Nat × Nat × Nat)} {Ts ws ws' : List Cond} {rm : Room} (n : Nat) (ht : ∀ w ∈ Ts, w.before args s = true) (hT : GoodIn Ts (wsV own index C y ws)) (hw : ws = Cond.codeWith y bytes maxL ret hh :: ws') (hrc : rm.cells = mc) (hrs : rm.slots = ms)
    (hd : y.cls = C ∧ y.cls ≠ "java/lang/invoke/MethodHandle" ∧ y.cls ≠ "java/lang/invoke/VarHandle" ∧ (parseMethodDescriptor y.desc).map (fun d => d.parameters.length) = some n) (hR : rm.frames + 1 ≤ R.frames ∧ 8 + (maxL + 11) + rm.locals ≤ R.locals) :
    vx_CVW R s args own C index y bytes maxL ret hh ws rm mc ms n := by
  obtain ⟨hC, hd⟩ := hd
  subst hC
  have ok : ∀ w ∈ wsV own index y.cls y ws, w.before args s = true := fun w h => ht w (hT w h).1
  have hG : GoodIn Ts ws := fun w h => hT w (by unfold wsV; exact List.mem_append_right _ h)
  have hc : Cond.codeWith y bytes maxL ret hh ∈ ws := by rw [hw]; exact List.mem_cons_self
  refine ⟨⟨hrc, hrs, hR.1, hR.2, pay_in ht hG, hc⟩, ht _ (hG _ hc).1, ok _ (by simp [wsV]), ⟨hd.1, hd.2.1⟩, fun sig h => ?_, ok _ (by simp [wsV]), ok _ (by simp [wsV]), ok _ (by simp [wsV])⟩
  have h2 := hd.2.2
  rw [h] at h2
  exact (Option.some.inj h2).symm
theorem vx_runVW {y : MethodName} {bytes cc : ByteArray} {maxL nL mc ms n index : Nat} {ret : Option FieldType} {hh : List (Nat × Nat × Nat × Nat)} {ws : List Cond} {rm : Room} {Pc : Array Value → State → Prop} {Qc : Array Value → State → Outcome → State → Prop} {free : Addr → Prop} {Ts : List Cond} {own C : String} {b : Addr} {As rest : List Value} {g : JFrame}
    (S : CallFix p m c cc nL s args Ts own) (hM : Met l y ws rm Pc Qc mc ms free) (cw : vx_CVW R s args own C index y bytes maxL ret hh ws rm mc ms n) (hp : PreV s H C b Pc As)
    (hg : g.method = m) (hn : As.length = n) (hsize : g.locals.size = nL) (hstack : g.stack = As.reverse ++ .ref b :: rest) (hW : 2 * g.monitorRoom + (rest.map fun v => v.category).sum ≤ 8) (hdg : decode cc g.pc = .ok (.invokevirtual index, 3)) (hf : cells + mc ≤ R.cells ∧ slots + ms ≤ R.slots) :
    va_Run p l e R s m args below meth c H locs cells slots mc ms g rest (Qc (Value.ref b :: As).toArray) free := by
  obtain ⟨⟨hrc, hrs, hfr, hlo, hws, hcw⟩, hcode, hini, hy, hlen, hl, hin, hse⟩ := cw
  have hK : Back l R p e below s args y 3 8 (PreOf R mc ms Pc) (PostOf Qc mc ms free) := va_backW (hh := hh) (bytes := bytes) (maxL := maxL) (ret := ret) hM hp.1 hrc hrs hfr hlo hws hcw (fun a' U hW => word_at hW (Or.inl (by first | rfl | simp [Cond.onTables, Cond.keeps, Cond.steady])) hini)
  obtain ⟨hx, hb, hml, ho, -⟩ := S
  obtain ⟨-, ⟨cellB, hcB, hoB, hclB⟩, hPc⟩ := hp
  intro T hT X
  obtain ⟨v, vm₁, ⟨U', l2, c2, s2⟩, hW₁, X', ⟨g', mk, t, L, e1, e2, hq, h1, hL, h2, h3⟩, st⟩ := vx_callVW X hx (C := C) (hh := hh) (bytes := bytes) (maxL := maxL) (ret := ret) ho hl hin hse hcode hy hK (by rw [hT]; exact hcB) hoB hclB hg (hsize.trans hml.symm) (argsL := As) (rest := rest) (fun sig h => hn.trans (hlen sig h)) hstack hW (by rw [hb]; exact hdg)
    (fun vm₁ hW₁ => ⟨hf.1, hf.2, hPc (T.setVm vm₁) hT hW₁⟩)
  dsimp only [Pt.U, Pt.locs, Pt.cells, Pt.slots] at X' e1 e2 h1 h2 h3 st
  subst h1; subst h2; subst h3
  exact ⟨v, (T.setVm vm₁).calling g' mk (Value.ref b :: As).toArray, t, U', L, hT, X', hL, e1, e2, hq, st⟩
section
variable {y : MethodName} {bytes cc : ByteArray} {maxL nL mc ms n index : Nat} {ret : Option FieldType} {ws : List Cond} {rm : Room} {Pc : Array Value → State → Prop} {Qc : Array Value → State → Outcome → State → Prop} {XC : String → State → State → Prop} {free : Addr → Prop} {Ts : List Cond} {own C : String} {b : Addr} {As rest : List Value} {g : JFrame}
theorem vx_runVX {hh : List (Nat × Nat × Nat × Nat)} (S : CallFix p m c cc nL s args Ts own) (hM : vx_Met l y ws rm Pc Qc XC mc ms free) (cw : vx_CVW R s args own C index y bytes maxL ret hh ws rm mc ms n) (hp : PreV s H C b Pc As)
    (hg : g.method = m) (hn : As.length = n) (hsize : g.locals.size = nL) (hstack : g.stack = As.reverse ++ .ref b :: rest) (hW : 2 * g.monitorRoom + (rest.map fun v => v.category).sum ≤ 8) (hdg : decode cc g.pc = .ok (.invokevirtual index, 3)) (hf : cells + mc ≤ R.cells ∧ slots + ms ≤ R.slots) :
    vx_Run p l e R s m args below meth c H locs cells slots mc ms g rest (Qc (Value.ref b :: As).toArray) XC free := by
  obtain ⟨⟨hrc, hrs, hfr, hlo, hws, hcw⟩, hcode, hini, hy, hlen, hl, hin, hse⟩ := cw
  have hK : vx_Back l R p e below s args y 3 8 (PreOf R mc ms Pc) (PostOf Qc mc ms free) (vx_Post XC mc ms free) := vx_backW (hh := hh) (bytes := bytes) (maxL := maxL) (ret := ret) hM hp.1 hrc hrs hfr hlo hws hcw (fun a' U hW => word_at hW (Or.inl (by first | rfl | simp [Cond.onTables, Cond.keeps, Cond.steady])) hini)
  obtain ⟨hx, hb, hml, ho, -⟩ := S
  obtain ⟨-, ⟨cellB, hcB, hoB, hclB⟩, hPc⟩ := hp
  intro T hT X
  rcases vx_callVX X hx (C := C) (hh := hh) (bytes := bytes) (maxL := maxL) (ret := ret) ho hl hin hse hcode hy hK (by rw [hT]; exact hcB) hoB hclB hg (hsize.trans hml.symm) (argsL := As) (rest := rest) (fun sig h => hn.trans (hlen sig h)) hstack hW (by rw [hb]; exact hdg)
    (fun vm₁ hW₁ => ⟨hf.1, hf.2, hPc (T.setVm vm₁) hT hW₁⟩) with ⟨v, vm₁, ⟨U', l2, c2, s2⟩, hW₁, X', ⟨g', mk, t, L, e1, e2, hq, h1, hL, h2, h3⟩, st⟩ | ⟨q, vm₁, ⟨U', l2, c2, s2⟩, hW₁, X', ⟨g', mk, t, L, E, ce, e1, e2, hq, hce, hcv, hcl, h1, hL, h2, h3⟩, st⟩
  · dsimp only [Pt.U, Pt.locs, Pt.cells, Pt.slots] at X' e1 e2 h1 h2 h3 st
    subst h1; subst h2; subst h3
    exact Or.inl ⟨v, (T.setVm vm₁).calling g' mk (Value.ref b :: As).toArray, t, U', L, hT, X', hL, e1, e2, hq, st⟩
  · dsimp only [Pt.U, Pt.locs, Pt.cells, Pt.slots] at X' e1 e2 h1 h2 h3 st hcl
    subst h1; subst h2; subst h3
    exact Or.inr ⟨q, (T.setVm vm₁).calling g' mk (Value.ref b :: As).toArray, t, U', L, E, ce, hT, X', hL, e1, e2, hq, hce, hcv, vx_cls hW₁ hcl, st⟩
theorem vx_runSX {hh : List (Nat × Nat × Nat × Nat)} (S : CallFix p m c cc nL s args Ts own) (hM : vx_Met l y ws rm Pc Qc XC mc ms free) (cw : vx_CSW R s args own index y bytes maxL ret hh ws rm mc ms n) (hp : PreS s H Pc As)
    (hg : g.method = m) (hn : As.length = n) (hsize : g.locals.size = nL) (hstack : g.stack = As.reverse ++ rest) (hW : 2 * g.monitorRoom + (rest.map fun v => v.category).sum ≤ 8) (hdg : decode cc g.pc = .ok (.invokestatic index, 3)) (hf : cells + mc ≤ R.cells ∧ slots + ms ≤ R.slots) :
    vx_Run p l e R s m args below meth c H locs cells slots mc ms g rest (Qc As.toArray) XC free := by
  obtain ⟨⟨hrc, hrs, hfr, hlo, hws, hcw⟩, hcode, hini, hy, hlen, hl, hstt⟩ := cw
  have hK : vx_Back l R p e below s args y 3 8 (PreOf R mc ms Pc) (PostOf Qc mc ms free) (vx_Post XC mc ms free) := vx_backW (hh := hh) (bytes := bytes) (maxL := maxL) (ret := ret) hM hp.1 hrc hrs hfr hlo hws hcw (fun a' U hW => word_at hW (Or.inl (by first | rfl | simp [Cond.onTables, Cond.keeps, Cond.steady])) hini)
  obtain ⟨hx, hb, hml, ho, -⟩ := S
  intro T hT X
  rcases vx_callSX X hx (hh := hh) (bytes := bytes) (maxL := maxL) (ret := ret) ho hl hstt hini hcode hy hK hg (hsize.trans hml.symm) (argsL := As) (rest := rest) (fun sig h => hn.trans (hlen sig h)) hstack hW (by rw [hb]; exact hdg)
    (fun vm₁ hW₁ => ⟨hf.1, hf.2, hp.2 (T.setVm vm₁) hT hW₁⟩) with ⟨v, vm₁, ⟨U', l2, c2, s2⟩, hW₁, X', ⟨g', mk, t, L, e1, e2, hq, h1, hL, h2, h3⟩, st⟩ | ⟨q, vm₁, ⟨U', l2, c2, s2⟩, hW₁, X', ⟨g', mk, t, L, E, ce, e1, e2, hq, hce, hcv, hcl, h1, hL, h2, h3⟩, st⟩
  · dsimp only [Pt.U, Pt.locs, Pt.cells, Pt.slots] at X' e1 e2 h1 h2 h3 st
    subst h1; subst h2; subst h3
    exact Or.inl ⟨v, (T.setVm vm₁).calling g' mk As.toArray, t, U', L, hT, X', hL, e1, e2, hq, st⟩
  · dsimp only [Pt.U, Pt.locs, Pt.cells, Pt.slots] at X' e1 e2 h1 h2 h3 st hcl
    subst h1; subst h2; subst h3
    exact Or.inr ⟨q, (T.setVm vm₁).calling g' mk As.toArray, t, U', L, E, ce, hT, X', hL, e1, e2, hq, hce, hcv, vx_cls hW₁ hcl, st⟩
end
end VXH
theorem vx_ofWH {l : Launch} {y : MethodName} {ws ws' : List Cond} {rm : Room} {Pc : Array Value → State → Prop} {Qc : Array Value → State → Outcome → State → Prop} {XC : String → State → State → Prop} {mc ms : Nat} {free : Addr → Prop} {cc : ByteArray} {maxL : Nat} {ret : Option FieldType} {hh : List (Nat × Nat × Nat × Nat)}
    (hy : plainName y.cls = true) (hw : ws = Cond.codeWith y cc maxL ret hh :: ws')
    (body : ∀ p e s m args below meth c s₁, BodyLoose p l y (headSpec ws rm) cc maxL ret e s m args below meth c s₁ → c.maxLocals = maxL → Pc args s →
      W p l e (headSpec ws rm).room s m args below meth c s.heap [] 0 0 (vx_MQ below Qc XC args s mc ms free) (entryFrame m args maxL)) : vx_Met l y ws rm Pc Qc XC mc ms free := by
  refine MetFree.of_bodyS (code := cc) (maxLocals := maxL) (ret := ret) hy ?_ ?_
  · intro args s m h hn
    obtain ⟨m9, meth, c, hn9, h1, h2, h3, h4, -, h5, h6, -⟩ := Cond.codeWith_spec (atoms_spec (ws := ws) h _ (by rw [hw]; exact List.mem_cons_self))
    cases hn.symm.trans hn9
    exact ⟨meth, c, h1, h2, h3, h4, h5, h6⟩
  · intro p e s m args below meth c s₁ B hml hP _
    have hh0 : s₁.heap = s.heap := by rw [B.state]; rfl
    obtain ⟨t, a1, o, b1, b2, b3⟩ := body p e s m args below meth c s₁ B hml hP s₁ hh0 (Stand.of_body B)
    exact ⟨t, o, a1, b1, b2, b3⟩
/-! ===== END ===== -/
/-! ===== BEGIN what the machine throws by itself, no traces kept ===== -/
section VXM
set_option maxHeartbeats 1000000 in
/-- the machine throws cls with the message text, no traces kept: from its note over the frame g to 'throwing' over the same frame (follows the proofs of Stand.vmThrowsMessage, Shelf/KitTracedVmS.lean, and Stand.throwsMessageColdBareV, StandMessageColdV.lean, without the step out of the frame) -/
theorem vx_vmAt {p : Program} {l : Launch} {e : Env} {R : Room} {s : State} {m₀ : MethodId} {args : Array Value} {below : List Frame} {meth : Method} {c : Code} {W : State} {locs : List Loc} {cells slots : Nat}
    (X : Stand p l e R s m₀ args below meth c W locs cells slots) (hexec : p.tables.exec = Jvm.exec) (htr : e.platform.stackTraces = false) {cls : String} {names : List String} {text : String}
    (hcls : Bundle.fit cls = true) (hnames : ∀ n ∈ names, Bundle.fit n = true) (hsoe : (cls == "java/lang/StackOverflowError") = false) (hoom : (cls == "java/lang/OutOfMemoryError") = false)
    (h : ∀ a ∈ Bundle.messageArmAtoms cls names, a.before args s = true)
    (hlocs : ∀ x ∈ locs, ∀ cell, s.heap[x.base]? = some cell → cell.vm.isStatics = false)
    (htext : (text == notModelled) = false) (hlimit : ¬ (stringBytes (stringToUtf16 text)).size > e.platform.arrayLengthLimit) (hheap : ¬ (stringBytes (stringToUtf16 text)).size * componentBytes .byte > e.platform.maxHeapBytes)
    {g : JFrame} (hg : g.method = m₀) (hsize : g.locals.size = c.maxLocals)
    (hRframes : names.length + 4 < R.frames) (hRlocals : 2 * g.monitorRoom + (g.stack.map fun v => v.category).sum + 10240 ≤ R.locals) (hshort : 13 * names.length + 55 ≤ 10240)
    (hRcells : cells + 3 ≤ R.cells) (hRslots : slots + ((stringBytes (stringToUtf16 text)).size + 4 + 6) ≤ R.slots) (hlocks : meth.locks = false) :
    ∃ (S : State) (q : Addr) (ce : Cell), (∀ target, Steps p.tables e below ((S.setTop g).pushFrame (.throwing q)) target → Steps p.tables e below ((W.setTop g).pushFrame (.throwNew cls (some text) none)) target) ∧
      Stand p l e R s m₀ args below meth c S locs (cells + 3) (slots + ((stringBytes (stringToUtf16 text)).size + 4 + 6)) ∧ S.heap[q]? = some ce ∧ s.vm.findClass cls = some ce.cls ∧ ce.vm = .none := by
  have howns : e.platform.frameOwnsMonitors = true := by rw [X.admits.platform]
  have hfin : e.platform.finalization = false := by rw [X.admits.platform]
  have hpl : e.platform.magicAccessors = ({} : Platform).magicAccessors := by rw [X.admits.platform]
  have a : ∀ x, x ∈ Bundle.messageArmAtoms cls names → x.holds args s none s [] = true := fun x hx => h x hx
  obtain ⟨T, Z0, L, -, Y⟩ := ThrowableC.of_atoms (args := args) howns hfin hpl (fun x hx => h x (by simp [Bundle.messageArmAtoms, hx]))
  obtain ⟨Z, M, LZ, LM, hnZ⟩ := Init0T.ofS_atoms (args := args) hpl L Y (fun x hx => h x (by simp [Bundle.messageArmAtoms, hx]))
  obtain ⟨P1, Ps, hlen, L1, hL, hP1m, hlink1, hlink⟩ := Bundle.chainS (args := args) hpl hnZ names cls hcls hnames (fun x hx => h x (by simp [Bundle.messageArmAtoms, hx]))
  obtain ⟨Zs, LZs, hn4, hfitv, hfitc⟩ := StringT.of_atoms (args := args) (fun x hx => h x (by simp [Bundle.messageArmAtoms, hx]))
  have hfound : s.vm.findClass cls = some P1.m.cls := findClass_of_methodNamed hP1m
  obtain ⟨c1, kX, hc1, hk, hord, -, -, hn6⟩ := Cond.instantiable_spec (a (.instantiable cls 6) (by simp [Bundle.messageArmAtoms]))
  cases Option.some.inj (hc1.symm.trans hfound)
  have hinit := Cond.initialized_spec hfound hk (a (.initialized cls) (by simp [Bundle.messageArmAtoms]))
  have hctor : kX.findMethod "<init>" "(Ljava/lang/String;)V" = some P1.m.idx := findMethod_of_methodNamed hP1m hk
  have hsel0 : selectMethod e.platform s.vm P1.m.cls T.fill0 = .method T.fill0 := by
    obtain ⟨c2, r2, m2, q1, q2, q3, q4, -⟩ := Cond.selects_spec (a (.selects cls Bundle.tFill0 Bundle.tFill0) (by simp [Bundle.messageArmAtoms]))
    cases Option.some.inj (q1.symm.trans hfound)
    cases Option.some.inj (q2.symm.trans (State.methodFound?_of_named Y.fill0 (by decide)))
    cases Option.some.inj (q3.symm.trans Y.fill0)
    rw [Launch.admits_selectMethod X.admits]; exact q4
  have hselF : selectMethod e.platform s.vm P1.m.cls T.fill = .method T.fill := by
    obtain ⟨c2, r2, m2, q1, q2, q3, q4, -⟩ := Cond.selects_spec (a (.selects cls Bundle.tFill Bundle.tFill) (by simp [Bundle.messageArmAtoms]))
    cases Option.some.inj (q1.symm.trans hfound)
    cases Option.some.inj (q2.symm.trans (State.methodFound?_of_named Y.fill (by decide)))
    cases Option.some.inj (q3.symm.trans Y.fill)
    rw [Launch.admits_selectMethod X.admits]; exact q4
  obtain ⟨cellS0, hcS0, hiss⟩ := Y.statics
  obtain ⟨u0, hu0⟩ := Cond.staticRefV Y.unassigned L.unassignedStatic L.statics hcS0 hiss (a (.isRef (.static Bundle.tN "UNASSIGNED_STACK" Bundle.steD)) (by simp [Bundle.messageArmAtoms]))
  obtain ⟨sen, hsen⟩ := Cond.staticRefV Y.sentinel L.sentinelStatic L.statics hcS0 hiss (a (.isRef (.static Bundle.tN "SUPPRESSED_SENTINEL" Bundle.listD)) (by simp [Bundle.messageArmAtoms]))
  obtain ⟨ci198, i198, fB, hk198, hg198, ha198, hsB, -, hnB, htB, hffB⟩ := Cond.ownField (t := .object "java/lang/Object") Y.found L.cls (by decide +kernel) (a (.fieldLink Bundle.tN 198 Bundle.tN "backtrace" "Ljava/lang/Object;") (by simp [Bundle.messageArmAtoms])) (a (.lays Bundle.tN Bundle.tN "backtrace" "Ljava/lang/Object;") (by simp [Bundle.messageArmAtoms])) e.platform hpl
  obtain ⟨cellS, hcS', heS, -, hkeep⟩ := X.same.2.2.2.2.2 T.aS cellS0 hcS0
  have hcellS : W.heap[T.aS]? = some cellS := hcS'
  have hout' : ∀ i, (⟨T.aS, i⟩ : Loc) ∉ locs := fun i hmem => by
    have := hlocs _ hmem cellS0 hcS0
    rw [hiss] at this; cases this
  have hknownS : cellS.vm ≠ .unknown := by
    rw [heS]; intro hu
    rw [show cellS0.vm = .unknown from hu] at hiss
    cases hiss
  have hvU : cellS.slots[T.fUnassigned.slot]? = some u0.v := by rw [hkeep _ (hout' _)]; exact hu0
  have hvSen : cellS.slots[T.fSentinel.slot]? = some sen.v := by rw [hkeep _ (hout' _)]; exact hsen
  obtain ⟨iM, hffM⟩ := Y.msg
  obtain ⟨tyC, dC, hdC, hdnC⟩ := Cond.laysAt hfound hk Y.cause (a (.lays cls Bundle.tN "cause" "Ljava/lang/Throwable;") (by simp [Bundle.messageArmAtoms]))
  obtain ⟨tyS, dS, hdS, hdnS⟩ := Cond.laysAt hfound hk Y.stack (a (.lays cls Bundle.tN "stackTrace" Bundle.steD) (by simp [Bundle.messageArmAtoms]))
  obtain ⟨tyP, dP, hdP, hdnP⟩ := Cond.laysAt hfound hk Y.supp (a (.lays cls Bundle.tN "suppressedExceptions" Bundle.listD) (by simp [Bundle.messageArmAtoms]))
  obtain ⟨tyM, dM, hdM, hdnM⟩ := Cond.laysAt hfound hk hffM (a (.lays cls Bundle.tN "detailMessage" "Ljava/lang/String;") (by simp [Bundle.messageArmAtoms]))
  obtain ⟨tyB, dB, hdB, hdnB⟩ := Cond.laysAt hfound hk hffB (a (.lays cls Bundle.tN "backtrace" "Ljava/lang/Object;") (by simp [Bundle.messageArmAtoms]))
  have bC := Cond.laysApart hdB hdC hdnB hdnC (by rw [hnB, Y.causeName]; decide)
  have bS := Cond.laysApart hdB hdS hdnB hdnS (by rw [hnB, Y.stackName]; decide)
  have bP := Cond.laysApart hdB hdP hdnB hdnP (by rw [hnB, Y.suppName]; decide)
  have hbk : ((preparedCellV T.toThrowableT (freshCell P1.m.cls kX) (W.heap.size + 2) u0 sen).withEntry W.cur).slots[fB.slot]? = some .null := by
    have := fresh_default (c := P1.m.cls) tyB
    rw [htB] at this
    simpa [preparedCellV, Cell.setSlot, Cell.withEntry, Array.getElem?_setIfInBounds, bC, bS, bP, bC.symm, bS.symm, bP.symm, defaultValue] using this
  have tkC := Takes.of_laid (v := .ref (W.heap.size + 2)) hk hord tyC (by rw [Y.causeType]; rfl)
  have tkS := Takes.of_laid (v := u0.v) hk hord tyS (by rw [Y.stackType]; exact fits_refV_array _ u0)
  have tkP := Takes.of_laid (v := sen.v) hk hord tyP (by rw [Y.suppType]; exact fits_refV_object _ sen)
  have tkM := Takes.of_laid (v := .ref (W.heap.size + 1)) hk hord tyM (by rw [Y.msgType]; rfl)
  have hskip : SkipFacts T e.platform s (fun u => u) u0 ((preparedCellV T.toThrowableT (freshCell P1.m.cls kX) (W.heap.size + 2) u0 sen).withEntry W.cur) := ⟨{ ci198 := ci198, i198 := i198, fBack := fB }, ⟨hk198, hg198, ha198, hsB⟩, hbk, fun _ _ => rfl⟩
  have h0 : At W g.method c below := by rw [hg]; exact X.here
  obtain ⟨hbeyond, hfreeW⟩ := X.vmMayThrow hsize (.throwNew cls (some text) none) (fun f hf => by cases hf) rfl hRlocals
  have hfr' : W.frames.length + Ps.length + 4 < (e.platform.stackLimits W.me).1 := by have := X.framesAbove hRframes; omega
  have hwd' : (stackUse (.java g :: W.frames.tail)).2 + 13 * Ps.length + 55 ≤ (e.platform.stackLimits W.me).2 := by have := X.stackAbove hsize (K := 13 * Ps.length + 55) (by omega); omega
  have hslots : W.slotsUsed + (stringBytes (stringToUtf16 text)).size + Zs.kS.instanceTypes.size + kX.instanceTypes.size ≤ e.platform.maxSlots := by
    have := X.slotsAbove hRslots
    rw [hn4, hn6]
    omega
  obtain ⟨vm', hW', st⟩ := Steps.vmThrowsMessageColdByV p (s₀ := s) (S := W) (g := g) h0 hexec T L Z LZ M LM X.warmed (t := W.cur) rfl Zs LZs P1 L1 Ps hL hlink1 hlink hsoe hoom hfound hk hinit hord hctor
    (Launch.admits_hotImplicitExceptions X.admits) hbeyond hfreeW htext hlimit hheap (X.cellsAbove hRcells) hslots (hfitv _) (hfitc _)
    (Nn := fun u => u) heapOnly_id (fun _ _ => rfl) (fun _ => rfl) (fun u x y => setCell_twice _ _ _ _) (fun _ => Nat.le_refl _) (cN := ((preparedCellV T.toThrowableT (freshCell P1.m.cls kX) (W.heap.size + 2) u0 sen).withEntry W.cur))
    hsel0 hcellS hknownS hvU tkS (fun _ hu => hu) (fun _ hu => hu) rfl rfl rfl (by simp [preparedCellV, Cell.setSlot, Cell.withEntry]) hskip (fun _ _ hA hW _ hroom _ hrest => L.nativeOff p htr hA hW hroom hrest) hselF hvSen tkC tkP tkM Y.objLocals rfl hfr' hwd'
  rw [plainBareV_eq T.toThrowableT (W.heap.size + 2) u0 sen (.ref (W.heap.size + 1)) W.cur rfl rfl] at st
  obtain ⟨-, -, w3, w4, -, -, -⟩ := withThrown_facts e.platform W Zs text P1.m.cls kX
  have X3 := ((X.pushed (bytesOf Zs.cB (stringToUtf16 text))).pushed (stringAt Zs.cS Zs.kS Zs.fv Zs.fc (stringToUtf16 text) W.heap.size)).pushed (freshCell P1.m.cls kX)
  rw [← withString_eq] at X3
  have X4 := X3.noted hW'
  have ha : (W.heap.size + 2) < ((withThrown W Zs text P1.m.cls kX).setVm vm').heap.size := by show _ < (withThrown W Zs text P1.m.cls kX).heap.size; rw [w3]; omega
  have hcell : ((withThrown W Zs text P1.m.cls kX).setVm vm').heap[(W.heap.size + 2)]? = some (freshCell P1.m.cls kX) := w4
  have X5 := ((((X4.stored hcell T.fCause.slot (.ref (W.heap.size + 2))).storedAgain ha T.fStack.slot u0.v).storedAgain ha T.fSupp.slot sen.v).storedAgain ha T.fStack.slot u0.v).storedAgain ha T.fMsg.slot (.ref (W.heap.size + 1))
  obtain ⟨g₁, hfrM⟩ := X5.frames_eq
  have hU : ((((withThrown W Zs text P1.m.cls kX).setVm vm').setCell (W.heap.size + 2) (plainBareV T.toThrowableT (freshCell P1.m.cls kX) (W.heap.size + 2) u0 sen (.ref (W.heap.size + 1)))).setTop g).pushFrame (.throwing (W.heap.size + 2)) = (((withThrown W Zs text P1.m.cls kX).setVm vm').setCell (W.heap.size + 2) (plainBareV T.toThrowableT (freshCell P1.m.cls kX) (W.heap.size + 2) u0 sen (.ref (W.heap.size + 1)))).setFrames (.throwing (W.heap.size + 2) :: .java g :: below) := by
    rw [State.pushFrame, State.frames_setTop _ hfrM, State.setTop_of_frames _ hfrM, State.setFrames_setFrames]
  have b1 : (bytesOf Zs.cB (stringToUtf16 text)).slots.size = (stringBytes (stringToUtf16 text)).size := by
    rw [(Cell.writeAll_facts _ _).2.2]; simp [bytes0]
  have b2 : (stringAt Zs.cS Zs.kS Zs.fv Zs.fc (stringToUtf16 text) W.heap.size).slots.size = 4 := by simp [string0, Cell.setSlot, hn4]
  have b3 : (freshCell P1.m.cls kX).slots.size = 6 := by simp [hn6]
  rw [b1, b2, b3] at X5
  have e9 : slots + (stringBytes (stringToUtf16 text)).size + 4 + 6 = slots + ((stringBytes (stringToUtf16 text)).size + 4 + 6) := by omega
  rw [e9] at X5
  simp only [List.append_assoc, List.cons_append, List.nil_append] at X5
  refine ⟨((withThrown W Zs text P1.m.cls kX).setVm vm').setCell (W.heap.size + 2) (plainBareV T.toThrowableT (freshCell P1.m.cls kX) (W.heap.size + 2) u0 sen (.ref (W.heap.size + 1))), W.heap.size + 2, _, fun target ht => st _ (by rw [X.tail, ← hU]; exact ht),
    X5.forget (fun y hy => ?_), heapAt_setCell_self _ ha, hfound, rfl⟩
  simp only [List.mem_cons, List.not_mem_nil, or_false] at hy
  have hge : s.heap.size ≤ W.heap.size := X.same.2.1
  rcases hy with rfl | rfl | rfl | rfl | rfl <;> exact Nat.le_trans hge (Nat.le_add_right _ 2)
set_option maxHeartbeats 1000000 in
/-- the machine throws NullPointerException, no traces kept: from its note over the frame g to 'throwing' over the same frame (follows the proof of Stand.vmThrowsNpe, Shelf42/KT2.lean; throwsNpeColdBareVAt, Shelf42/NT91.lean, called) -/
theorem vx_npeAt {p : Program} {l : Launch} {e : Env} {R : Room} {s : State} {m₀ : MethodId} {args : Array Value} {below : List Frame} {meth : Method} {c : Code} {W : State} {locs : List Loc} {cells slots : Nat}
    (X : Stand p l e R s m₀ args below meth c W locs cells slots) (hexec : p.tables.exec = Jvm.exec) (htr : e.platform.stackTraces = false) {n : Nat}
    (h : ∀ a ∈ Bundle.npeArmAtoms n, a.before args s = true)
    (hlocs : ∀ x ∈ locs, ∀ cell, s.heap[x.base]? = some cell → cell.vm.isStatics = false)
    {g : JFrame} (hg : g.method = m₀) (hsize : g.locals.size = c.maxLocals)
    (hRframes : 7 < R.frames) (hRlocals : 2 * g.monitorRoom + (g.stack.map fun v => v.category).sum + 10240 ≤ R.locals)
    (hRcells : cells + 1 ≤ R.cells) (hRslots : slots + n ≤ R.slots) (hlocks : meth.locks = false) :
    ∃ (S : State) (q : Addr) (ce : Cell), (∀ target, Steps p.tables e below ((S.setTop g).pushFrame (.throwing q)) target → Steps p.tables e below ((W.setTop g).pushFrame (.throwNew "java/lang/NullPointerException" none none)) target) ∧
      Stand p l e R s m₀ args below meth c S locs (cells + 1) (slots + n) ∧ S.heap[q]? = some ce ∧ s.vm.findClass "java/lang/NullPointerException" = some ce.cls ∧ ce.vm = .none := by
  have howns : e.platform.frameOwnsMonitors = true := by rw [X.admits.platform]
  have hfin : e.platform.finalization = false := by rw [X.admits.platform]
  have hpl : e.platform.magicAccessors = ({} : Platform).magicAccessors := by rw [X.admits.platform]
  have hpl2 : e.platform.arrayCloneIsPublic = true := by rw [X.admits.platform]
  have a' : ∀ x, x ∈ Bundle.npeArmAtoms n → x.holds args s none s [] = true := fun x hx => h x hx
  obtain ⟨T, Z, L, LZ, Y⟩ := ThrowableC.of_atoms (args := args) howns hfin hpl (fun x hx => h x (by simp [Bundle.npeArmAtoms, hx]))
  obtain ⟨N, LN, hcN, hnNF, hordN, hffS⟩ := NpeC.of_atoms (args := args) hpl hpl2 L Y (fun x hx => h x (by simp [Bundle.npeArmAtoms, hx]))
  obtain ⟨P1, L1, hP1m, hP1s⟩ := PassC.of_atoms (args := args) (s := s) hpl (X := Bundle.nN) (Y := Bundle.rN) (by decide) (by decide) LibCode.NullPointerException.Init0.at_0 LibCode.NullPointerException.Init0.at_1 LibCode.NullPointerException.Init0.at_4 (fun x hx => h x (by simp [Bundle.npeArmAtoms, hx]))
  obtain ⟨PR, LR, hPRm, hPRs⟩ := PassC.of_atoms (args := args) (s := s) hpl (X := Bundle.rN) (Y := Bundle.eN) (by decide) (by decide) LibCode.RuntimeException.Init0.at_0 LibCode.RuntimeException.Init0.at_1 LibCode.RuntimeException.Init0.at_4 (fun x hx => h x (by simp [Bundle.npeArmAtoms, hx]))
  obtain ⟨PE, LEx, hPEm, hPEs⟩ := PassC.of_atoms (args := args) (s := s) hpl (X := Bundle.eN) (Y := Bundle.tN) (by decide) (by decide) LibCode.Exception.Init0.at_0 LibCode.Exception.Init0.at_1 LibCode.Exception.Init0.at_4 (fun x hx => h x (by simp [Bundle.npeArmAtoms, hx]))
  have hfound : s.vm.findClass Bundle.nN = some P1.m.cls := findClass_of_methodNamed hP1m
  have ecls : N.cN = P1.m.cls := Option.some.inj (hcN.symm.trans hfound)
  have hk : s.vm.classes[P1.m.cls]? = some N.kN := by rw [← ecls]; exact LN.cls
  have hinit := Cond.initialized_spec hfound hk (a' (.initialized Bundle.nN) (by simp [Bundle.npeArmAtoms]))
  have hctor : N.kN.findMethod "<init>" "()V" = some P1.m.idx := findMethod_of_methodNamed hP1m hk
  obtain ⟨c1, k1, hc1, hk1, -, -, -, hn⟩ := Cond.instantiable_spec (a' (.instantiable Bundle.nN n) (by simp [Bundle.npeArmAtoms]))
  cases Option.some.inj (hc1.symm.trans hfound)
  cases Option.some.inj (hk1.symm.trans hk)
  have hfsz : (freshCell P1.m.cls N.kN).slots.size = n := by simp [hn]
  have hlink1 : P1.sup = PR.m := Option.some.inj (hP1s.symm.trans hPRm)
  have hlinkR : PR.sup = PE.m := Option.some.inj (hPRs.symm.trans hPEm)
  have hlinkE : PE.sup = Z.m T.toThrowableT := Option.some.inj (hPEs.symm.trans Y.init0)
  have hLs : ∀ P, P ∈ [PR, PE] → P.Links0 e.platform s := fun P hP => by
    simp only [List.mem_cons, List.not_mem_nil, or_false] at hP
    rcases hP with rfl | rfl
    · exact LR
    · exact LEx
  have hsel0 : selectMethod e.platform s.vm P1.m.cls T.fill0 = .method T.fill0 := by
    obtain ⟨c2, r2, m2, q1, q2, q3, q4, -⟩ := Cond.selects_spec (a' (.selects Bundle.nN Bundle.tFill0 Bundle.tFill0) (by simp [Bundle.npeArmAtoms]))
    cases Option.some.inj (q1.symm.trans hfound)
    cases Option.some.inj (q2.symm.trans (State.methodFound?_of_named Y.fill0 (by decide)))
    cases Option.some.inj (q3.symm.trans Y.fill0)
    rw [Launch.admits_selectMethod X.admits]; exact q4
  have hselF : selectMethod e.platform s.vm P1.m.cls T.fill = .method N.fill := by
    obtain ⟨c2, r2, m2, q1, q2, q3, q4, -⟩ := Cond.selects_spec (a' (.selects Bundle.nN Bundle.tFill Bundle.nFill) (by simp [Bundle.npeArmAtoms]))
    cases Option.some.inj (q1.symm.trans hfound)
    cases Option.some.inj (q2.symm.trans (State.methodFound?_of_named Y.fill (by decide)))
    cases Option.some.inj (q3.symm.trans hnNF)
    rw [Launch.admits_selectMethod X.admits]; exact q4
  obtain ⟨cellS0, hcS0, hiss⟩ := Y.statics
  obtain ⟨u0, hu0⟩ := Cond.staticRefV Y.unassigned L.unassignedStatic L.statics hcS0 hiss (a' (.isRef (.static Bundle.tN "UNASSIGNED_STACK" Bundle.steD)) (by simp [Bundle.npeArmAtoms]))
  obtain ⟨sen, hsen⟩ := Cond.staticRefV Y.sentinel L.sentinelStatic L.statics hcS0 hiss (a' (.isRef (.static Bundle.tN "SUPPRESSED_SENTINEL" Bundle.listD)) (by simp [Bundle.npeArmAtoms]))
  obtain ⟨ci198, i198, fB, hk198, hg198, ha198, hsB, -, hnB, htB, hffB⟩ := Cond.ownField (t := .object "java/lang/Object") Y.found L.cls (by decide +kernel) (a' (.fieldLink Bundle.tN 198 Bundle.tN "backtrace" Bundle.objD) (by simp [Bundle.npeArmAtoms])) (a' (.lays Bundle.tN Bundle.tN "backtrace" Bundle.objD) (by simp [Bundle.npeArmAtoms])) e.platform hpl
  obtain ⟨cellS, hcS', heS, -, hkeep⟩ := X.same.2.2.2.2.2 T.aS cellS0 hcS0
  have hcellS : W.heap[T.aS]? = some cellS := hcS'
  have hout' : ∀ i, (⟨T.aS, i⟩ : Loc) ∉ locs := fun i hmem => by
    have := hlocs _ hmem cellS0 hcS0
    rw [hiss] at this; cases this
  have hknownS : cellS.vm ≠ .unknown := by
    rw [heS]; intro hu
    rw [show cellS0.vm = .unknown from hu] at hiss
    cases hiss
  have hvU : cellS.slots[T.fUnassigned.slot]? = some u0.v := by rw [hkeep _ (hout' _)]; exact hu0
  have hvSen : cellS.slots[T.fSentinel.slot]? = some sen.v := by rw [hkeep _ (hout' _)]; exact hsen
  obtain ⟨tyC, dC, hdC, hdnC⟩ := Cond.laysAt hfound hk Y.cause (a' (.lays Bundle.nN Bundle.tN "cause" "Ljava/lang/Throwable;") (by simp [Bundle.npeArmAtoms]))
  obtain ⟨tyS, dS, hdS, hdnS⟩ := Cond.laysAt hfound hk Y.stack (a' (.lays Bundle.nN Bundle.tN "stackTrace" Bundle.steD) (by simp [Bundle.npeArmAtoms]))
  obtain ⟨tyP, dP, hdP, hdnP⟩ := Cond.laysAt hfound hk Y.supp (a' (.lays Bundle.nN Bundle.tN "suppressedExceptions" Bundle.listD) (by simp [Bundle.npeArmAtoms]))
  obtain ⟨tyX, dX, hdX, hdnX⟩ := Cond.laysAt hfound hk hffS (a' (.lays Bundle.nN Bundle.nN "extendedMessageState" "I") (by simp [Bundle.npeArmAtoms, Bundle.npeAtoms]))
  obtain ⟨hnX, htX⟩ := State.fieldFound?_type hffS (t := .int) (by decide +kernel)
  have xC := Cond.laysApart hdC hdX hdnC hdnX (by rw [hnX, Y.causeName]; decide)
  have xS := Cond.laysApart hdS hdX hdnS hdnX (by rw [hnX, Y.stackName]; decide)
  have xP := Cond.laysApart hdP hdX hdnP hdnX (by rw [hnX, Y.suppName]; decide)
  have hv0 : (freshCell P1.m.cls N.kN).slots[N.fState.slot]? = some (.int 0) := by
    have := fresh_default (c := P1.m.cls) tyX
    rw [htX] at this; exact this
  obtain ⟨tyB, dB, hdB, hdnB⟩ := Cond.laysAt hfound hk hffB (a' (.lays Bundle.nN Bundle.tN "backtrace" Bundle.objD) (by simp [Bundle.npeArmAtoms]))
  have bC := Cond.laysApart hdB hdC hdnB hdnC (by rw [hnB, Y.causeName]; decide)
  have bS := Cond.laysApart hdB hdS hdnB hdnS (by rw [hnB, Y.stackName]; decide)
  have bP := Cond.laysApart hdB hdP hdnB hdnP (by rw [hnB, Y.suppName]; decide)
  have bX := Cond.laysApart hdB hdX hdnB hdnX (by rw [hnB, hnX]; decide)
  have hbk : ((npeCell N.toNpeT (preparedCellV T.toThrowableT (freshCell P1.m.cls N.kN) W.heap.size u0 sen) W.cur).withEntry W.cur).slots[fB.slot]? = some .null := by
    have := fresh_default (c := P1.m.cls) tyB
    rw [htB] at this
    simpa [npeCell, preparedCellV, Cell.setSlot, Cell.withEntry, Array.getElem?_setIfInBounds, bC, bS, bP, bX, bC.symm, bS.symm, bP.symm, bX.symm, defaultValue] using this
  have tkC := Takes.of_laid (v := .ref W.heap.size) hk hordN tyC (by rw [Y.causeType]; rfl)
  have tkS := Takes.of_laid (v := u0.v) hk hordN tyS (by rw [Y.stackType]; exact fits_refV_array _ u0)
  have tkP := Takes.of_laid (v := sen.v) hk hordN tyP (by rw [Y.suppType]; exact fits_refV_object _ sen)
  have tkX := Takes.of_laid (v := .int 1) hk hordN tyX (by rw [htX]; rfl)
  have hskip : SkipFacts T e.platform s (fun u => u) u0 ((npeCell N.toNpeT (preparedCellV T.toThrowableT (freshCell P1.m.cls N.kN) W.heap.size u0 sen) W.cur).withEntry W.cur) := ⟨{ ci198 := ci198, i198 := i198, fBack := fB }, ⟨hk198, hg198, ha198, hsB⟩, hbk, fun _ _ => rfl⟩
  obtain ⟨vm', X3, st, -⟩ := X.throwsNpeColdBareVAt hexec hg hsize T L Z LZ N LN P1 L1 [PR, PE] hLs hlink1 ⟨hlinkR, hlinkE, trivial⟩ hfound hk hinit hordN hctor hsel0 hselF hcellS hknownS hvU hvSen
    hv0 xC xS xP tkC tkS tkP tkX Y.objLocals hskip (fun _ _ hA hW _ hroom _ hrest => L.nativeOff p htr hA hW hroom hrest) (by simpa using hRframes) hRlocals (by simp) hRcells (by rw [hn]; exact hRslots)
  have hlt : W.heap.size < ((W.pushCell (freshCell P1.m.cls N.kN)).setVm vm').heap.size := by
    show W.heap.size < (W.pushCell (freshCell P1.m.cls N.kN)).heap.size
    rw [State.heap_size_pushCell]; omega
  rw [hfsz] at X3
  obtain ⟨g₁, hfrM⟩ := X3.frames_eq
  have hU : ((((W.pushCell (freshCell P1.m.cls N.kN)).setVm vm').setCell W.heap.size (npeBareV T.toThrowableT N.toNpeT (freshCell P1.m.cls N.kN) W.heap.size u0 sen)).setTop g).pushFrame (.throwing W.heap.size) = (((W.pushCell (freshCell P1.m.cls N.kN)).setVm vm').setCell W.heap.size (npeBareV T.toThrowableT N.toNpeT (freshCell P1.m.cls N.kN) W.heap.size u0 sen)).setFrames (.throwing W.heap.size :: .java g :: below) := by
    rw [State.pushFrame, State.frames_setTop _ hfrM, State.setTop_of_frames _ hfrM, State.setFrames_setFrames]
  refine ⟨_, W.heap.size, _, fun target ht => st.trans (by rw [← hU]; exact ht), X3.forget (fun y hy => ?_), heapAt_setCell_self _ hlt, hfound, rfl⟩
  simp only [List.mem_cons, List.not_mem_nil, or_false] at hy
  have hge : s.heap.size ≤ W.heap.size := X.same.2.1
  rcases hy with rfl | rfl | rfl | rfl | rfl <;> exact hge
/-- the words of a machine's NullPointerException, but the four that speak of the heap -/
def vx_atN (n : Nat) : List Cond := (Bundle.npeArmAtoms n).filter vx_no
/-- the words of a machine's throw with a message, but the four that speak of the heap -/
def vx_atM (X : String) (names : List String) : List Cond := (Bundle.messageArmAtoms X names).filter vx_no
section
variable {p : Program} {l : Launch} {e : Env} {R : Room} {s : State} {m : MethodId} {args : Array Value} {below : List Frame} {meth : Method} {c : Code} {H : Heap} {locs : List Loc} {cells slots : Nat}
/-- a frame seen from a rebased start, seen from the first start again -/
theorem vx_back9 {T S : State} {R' : Room} {k n : Nat} (X : Stand p l e R s m args below meth c T locs cells slots) (Y : Stand p l e R' ((T.setVm s.vm).setFrames (.invoking m args :: below)) m args below meth c T [] 0 0) (Z : Stand p l e R' ((T.setVm s.vm).setFrames (.invoking m args :: below)) m args below meth c S [] k n) :
    Stand p l e R s m args below meth c S locs (cells + k) (slots + n) := by
  have hW0 : s.WarmedH ((T.setVm s.vm).setFrames (.invoking m args :: below)).vm := State.WarmedH.refl s
  refine { admits := X.admits, cas := X.cas, clock := X.clock, frames := X.frames, room := X.room, hears := X.hears, method := X.method, code := X.code, here := Z.here, tail := Z.tail, warmed := State.WarmedH.trans hW0 Z.warmed, limits := Z.limits.trans (Y.limits.symm.trans X.limits), bytes := Z.bytes.trans (Y.bytes.symm.trans X.bytes), same := ?_ }
  obtain ⟨e1, e2⟩ := Z.same
  rw [State.setFrames_setFrames] at e1
  have h2 : (T.setVm s.vm).sameButNew (S.setVm s.vm) [] k n := ⟨e1, e2⟩
  have h3 := X.same.trans h2
  rw [List.append_nil] at h3
  exact h3
/-- from the machine's note that E is thrown here with this text -/
def vx_Note (p : Program) (l : Launch) (e : Env) (R : Room) (s : State) (m : MethodId) (args : Array Value) (below : List Frame) (meth : Method) (c : Code) (H : Heap) (locs : List Loc) (cells slots : Nat) (Q : State → Prop) (g : JFrame) (E text : String) : Prop :=
  ∀ T : State, T.heap = H → Stand p l e R s m args below meth c T locs cells slots → ∃ t, Steps p.tables e below ((T.setTop g).pushFrame (.throwNew E (some text) none)) t ∧ Q t
theorem vx_vm {pc : Nat} {ls : Array Slot} {rest : List Value} {Q : State → Prop} (hexec : p.tables.exec = Jvm.exec) (hl : l.stackTraces = false) {cls text : String} {names : List String} {nb : Nat} {A : Nat → Prop}
    (hcls : Bundle.fit cls = true) (hnames : ∀ n ∈ names, Bundle.fit n = true) (hsoe : (cls == "java/lang/StackOverflowError") = false) (hoom : (cls == "java/lang/OutOfMemoryError") = false)
    (hat : ∀ w ∈ vx_atM cls names, w.before args s = true) (hgood : ∀ w ∈ vx_atM cls names, vx_ot w = true)
    (hU : vx_Zq Bundle.tN "UNASSIGNED_STACK" Bundle.steD A s s.heap) (hN : vx_Zq Bundle.tN "SUPPRESSED_SENTINEL" Bundle.listD A s s.heap) (hS : va_S A s.heap H locs) (hsize : ls.size = c.maxLocals)
    (htext : (text == notModelled) = false) (hnb : (stringBytes (stringToUtf16 text)).size ≤ nb) (hnb1 : nb ≤ 1000)
    (hRframes : names.length + 4 < R.frames) (hRlocals : (rest.map fun v => v.category).sum + 10240 ≤ R.locals) (hshort : 13 * names.length + 55 ≤ 10240) (hRcells : cells + 3 ≤ R.cells) (hRslots : slots + (nb + 10) ≤ R.slots) (hlocks : meth.locks = false)
    (k : ∀ (H1 : Heap) (q9 : Addr) (ce : Cell), H.size ≤ H1.size → (∀ q : Nat, q < H.size → H1[q]? = H[q]?) → va_S A s.heap H1 locs → H1[q9]? = some ce → ce.vm = .none → s.vm.findClass cls = some ce.cls → vx_W p l e R s m args below meth c H1 locs (cells + 3) (slots + (nb + 10)) Q (F0 m pc ls rest) q9) :
    vx_Note p l e R s m args below meth c H locs cells slots Q (F0 m pc ls rest) cls text := by
  intro T hT X
  have htr : e.platform.stackTraces = false := (show e.platform.stackTraces = l.stackTraces by rw [X.admits.platform]).trans hl
  have Y := vx_rebase X (R' := { frames := R.frames, locals := R.locals, cells := 3, slots := nb + 10 }) (Nat.le_refl _) (Nat.le_refl _) hRcells hRslots
  have hhp : ((T.setVm s.vm).setFrames (.invoking m args :: below)).heap = H := hT
  have hW0 : s.WarmedH ((T.setVm s.vm).setFrames (.invoking m args :: below)).vm := State.WarmedH.refl s
  have hat' : ∀ w ∈ vx_atM cls names, w.before args ((T.setVm s.vm).setFrames (.invoking m args :: below)) = true := fun w hw => vx_ot_at hW0 rfl (hgood w hw) (hat w hw)
  have hU' : vx_Zq Bundle.tN "UNASSIGNED_STACK" Bundle.steD A ((T.setVm s.vm).setFrames (.invoking m args :: below)) ((T.setVm s.vm).setFrames (.invoking m args :: below)).heap := by rw [hhp]; exact vx_Zq.moved hW0.alike (hU.kept hS.2.1)
  have hN' : vx_Zq Bundle.tN "SUPPRESSED_SENTINEL" Bundle.listD A ((T.setVm s.vm).setFrames (.invoking m args :: below)) ((T.setVm s.vm).setFrames (.invoking m args :: below)).heap := by rw [hhp]; exact vx_Zq.moved hW0.alike (hN.kept hS.2.1)
  obtain ⟨S, q, ce, st, Z, hce, hcl', hv⟩ := vx_vmAt Y hexec htr (cls := cls) (names := names) (text := text) hcls hnames hsoe hoom (vx_own hat' (vx_isRefq hU'.1) (vx_isRefq hN'.1) hU'.2.word hN'.2.word) (fun x hx => nomatch hx) htext
    (by rw [Launch.admits_arrayLengthLimit X.admits]; omega) (by rw [Launch.admits_maxHeapBytes X.admits]; simp only [componentBytes]; omega)
    (g := F0 m pc ls rest) rfl hsize hRframes (by show 2 * 0 + (rest.map fun v => v.category).sum + 10240 ≤ R.locals; omega) hshort (by show 0 + 3 ≤ 3; omega) (by show 0 + (_ + 4 + 6) ≤ nb + 10; omega) hlocks
  obtain ⟨f1, f2⟩ := vx_frame Z.same
  have f1' : H.size ≤ S.heap.size := by rw [← hT]; exact f1
  have f2' : ∀ q : Nat, q < H.size → S.heap[q]? = H[q]? := fun q hq => by
    rw [← hT]
    exact f2 q (by rw [← hT] at hq; exact hq) (fun z hz => nomatch hz)
  have X5 := vx_back9 X Y Z
  have X6 : Stand p l e R s m args below meth c S locs (cells + 3) (slots + (nb + 10)) := { X5 with same := X5.same.mono (by omega) (by omega) }
  obtain ⟨t, a1, b1⟩ := k S.heap q ce f1' f2' ⟨Nat.le_trans hS.1 f1', fun q h1 h2 => (f2' q (Nat.lt_of_lt_of_le h1 hS.1)).trans (hS.2.1 q h1 h2), hS.2.2⟩ hce hv hcl' S rfl X6
  exact ⟨t, st t a1, b1⟩
/-- from the machine's note that NullPointerException is thrown here -/
def vx_NoteN (p : Program) (l : Launch) (e : Env) (R : Room) (s : State) (m : MethodId) (args : Array Value) (below : List Frame) (meth : Method) (c : Code) (H : Heap) (locs : List Loc) (cells slots : Nat) (Q : State → Prop) (g : JFrame) : Prop :=
  ∀ T : State, T.heap = H → Stand p l e R s m args below meth c T locs cells slots → ∃ t, Steps p.tables e below ((T.setTop g).pushFrame (.throwNew "java/lang/NullPointerException" none none)) t ∧ Q t
theorem vx_npe {pc : Nat} {ls : Array Slot} {rest : List Value} {Q : State → Prop} (hexec : p.tables.exec = Jvm.exec) (hl : l.stackTraces = false) {nb : Nat} {A : Nat → Prop}
    (hat : ∀ w ∈ vx_atN nb, w.before args s = true) (hgood : ∀ w ∈ vx_atN nb, vx_ot w = true)
    (hU : vx_Zq Bundle.tN "UNASSIGNED_STACK" Bundle.steD A s s.heap) (hN : vx_Zq Bundle.tN "SUPPRESSED_SENTINEL" Bundle.listD A s s.heap) (hS : va_S A s.heap H locs) (hsize : ls.size = c.maxLocals)
    (hRframes : 7 < R.frames) (hRlocals : (rest.map fun v => v.category).sum + 10240 ≤ R.locals) (hRcells : cells + 1 ≤ R.cells) (hRslots : slots + nb ≤ R.slots) (hlocks : meth.locks = false)
    (k : ∀ (H1 : Heap) (q9 : Addr) (ce : Cell), H.size ≤ H1.size → (∀ q : Nat, q < H.size → H1[q]? = H[q]?) → va_S A s.heap H1 locs → H1[q9]? = some ce → ce.vm = .none → s.vm.findClass "java/lang/NullPointerException" = some ce.cls → vx_W p l e R s m args below meth c H1 locs (cells + 1) (slots + nb) Q (F0 m pc ls rest) q9) :
    vx_NoteN p l e R s m args below meth c H locs cells slots Q (F0 m pc ls rest) := by
  intro T hT X
  have htr : e.platform.stackTraces = false := (show e.platform.stackTraces = l.stackTraces by rw [X.admits.platform]).trans hl
  have Y := vx_rebase X (R' := { frames := R.frames, locals := R.locals, cells := 1, slots := nb }) (Nat.le_refl _) (Nat.le_refl _) hRcells hRslots
  have hhp : ((T.setVm s.vm).setFrames (.invoking m args :: below)).heap = H := hT
  have hW0 : s.WarmedH ((T.setVm s.vm).setFrames (.invoking m args :: below)).vm := State.WarmedH.refl s
  have hat' : ∀ w ∈ vx_atN nb, w.before args ((T.setVm s.vm).setFrames (.invoking m args :: below)) = true := fun w hw => vx_ot_at hW0 rfl (hgood w hw) (hat w hw)
  have hU' : vx_Zq Bundle.tN "UNASSIGNED_STACK" Bundle.steD A ((T.setVm s.vm).setFrames (.invoking m args :: below)) ((T.setVm s.vm).setFrames (.invoking m args :: below)).heap := by rw [hhp]; exact vx_Zq.moved hW0.alike (hU.kept hS.2.1)
  have hN' : vx_Zq Bundle.tN "SUPPRESSED_SENTINEL" Bundle.listD A ((T.setVm s.vm).setFrames (.invoking m args :: below)) ((T.setVm s.vm).setFrames (.invoking m args :: below)).heap := by rw [hhp]; exact vx_Zq.moved hW0.alike (hN.kept hS.2.1)
  obtain ⟨S, q, ce, st, Z, hce, hcl', hv⟩ := vx_npeAt Y hexec htr (n := nb) (vx_own hat' (vx_isRefq hU'.1) (vx_isRefq hN'.1) hU'.2.word hN'.2.word) (fun x hx => nomatch hx)
    (g := F0 m pc ls rest) rfl hsize hRframes (by show 2 * 0 + (rest.map fun v => v.category).sum + 10240 ≤ R.locals; omega) (by show 0 + 1 ≤ 1; omega) (by show 0 + nb ≤ nb; omega) hlocks
  obtain ⟨f1, f2⟩ := vx_frame Z.same
  have f1' : H.size ≤ S.heap.size := by rw [← hT]; exact f1
  have f2' : ∀ q : Nat, q < H.size → S.heap[q]? = H[q]? := fun q hq => by
    rw [← hT]
    exact f2 q (by rw [← hT] at hq; exact hq) (fun z hz => nomatch hz)
  have X5 := vx_back9 X Y Z
  have X6 : Stand p l e R s m args below meth c S locs (cells + 1) (slots + nb) := { X5 with same := X5.same.mono (by omega) (by omega) }
  obtain ⟨t, a1, b1⟩ := k S.heap q ce f1' f2' ⟨Nat.le_trans hS.1 f1', fun q h1 h2 => (f2' q (Nat.lt_of_lt_of_le h1 hS.1)).trans (hS.2.1 q h1 h2), hS.2.2⟩ hce hv hcl' S rfl X6
  exact ⟨t, st t a1, b1⟩
variable {Q : State → Prop} {cc : ByteArray} {pc : Nat} {ls : Array Slot} {rest : List Value}
theorem vx_idivZ (hexec : p.tables.exec = Jvm.exec) (hb : c.code = cc) {a b : Int32} (h0 : b = 0) (d : decode cc pc = .ok (.idiv, 1)) (k : vx_Note p l e R s m args below meth c H locs cells slots Q (F0 m pc ls rest) "java/lang/ArithmeticException" "/ by zero") :
    W p l e R s m args below meth c H locs cells slots Q (F0 m pc ls (.int b :: .int a :: rest)) := by
  intro T hT X
  obtain ⟨t, st, q⟩ := k T hT X
  exact ⟨t, X.idivZero hexec (g := F0 m pc ls (.int b :: .int a :: rest)) rfl (a := a) (rest := rest) (by rw [h0]) (by rw [hb]; exact d) t st, q⟩
theorem vx_iremZ (hexec : p.tables.exec = Jvm.exec) (hb : c.code = cc) {a b : Int32} (h0 : b = 0) (d : decode cc pc = .ok (.irem, 1)) (k : vx_Note p l e R s m args below meth c H locs cells slots Q (F0 m pc ls rest) "java/lang/ArithmeticException" "/ by zero") :
    W p l e R s m args below meth c H locs cells slots Q (F0 m pc ls (.int b :: .int a :: rest)) := by
  intro T hT X
  obtain ⟨t, st, q⟩ := k T hT X
  exact ⟨t, X.iremZero hexec (g := F0 m pc ls (.int b :: .int a :: rest)) rfl (a := a) (rest := rest) (by rw [h0]) (by rw [hb]; exact d) t st, q⟩
theorem vx_ldivZ (hexec : p.tables.exec = Jvm.exec) (hb : c.code = cc) {a b : Int64} (h0 : b = 0) (d : decode cc pc = .ok (.ldiv, 1)) (k : vx_Note p l e R s m args below meth c H locs cells slots Q (F0 m pc ls rest) "java/lang/ArithmeticException" "/ by zero") :
    W p l e R s m args below meth c H locs cells slots Q (F0 m pc ls (.long b :: .long a :: rest)) := by
  intro T hT X
  obtain ⟨t, st, q⟩ := k T hT X
  exact ⟨t, X.ldivZero hexec (g := F0 m pc ls (.long b :: .long a :: rest)) rfl (a := a) (rest := rest) (by rw [h0]) (by rw [hb]; exact d) t st, q⟩
theorem vx_lremZ (hexec : p.tables.exec = Jvm.exec) (hb : c.code = cc) {a b : Int64} (h0 : b = 0) (d : decode cc pc = .ok (.lrem, 1)) (k : vx_Note p l e R s m args below meth c H locs cells slots Q (F0 m pc ls rest) "java/lang/ArithmeticException" "/ by zero") :
    W p l e R s m args below meth c H locs cells slots Q (F0 m pc ls (.long b :: .long a :: rest)) := by
  intro T hT X
  obtain ⟨t, st, q⟩ := k T hT X
  exact ⟨t, X.lremZero hexec (g := F0 m pc ls (.long b :: .long a :: rest)) rfl (a := a) (rest := rest) (by rw [h0]) (by rw [hb]; exact d) t st, q⟩
theorem vx_ialdZ {D : va_G} {cl : List vw_C} {ws : va_W} {tys : List (ClassId × FieldType)} {a : Nat} (hexec : p.tables.exec = Jvm.exec) (hb : c.code = cc) (hK : va_K D cl tys s) (hP : va_P D cl ws H) (q0 t0 : Nat) {cA : ClassId} {n : Nat} {f : Nat → Int32} (ha : ws[q0]? = some (a, .inl (cA, n, .inl f))) (ht : tys[t0]? = some (cA, .int)) {i : Int32} (hout : ¬ vp_in i n) (hdg : decode cc pc = .ok (.iaload, 1))
    (k : ∀ tx : String, tx = (toString "Index " ++ toString i ++ toString " out of bounds for length " ++ toString n : String) → vx_Note p l e R s m args below meth c H locs cells slots Q (F0 m pc ls rest) "java/lang/ArrayIndexOutOfBoundsException" tx) : W p l e R s m args below meth c H locs cells slots Q (F0 m pc ls (.int i :: .ref a :: rest)) := by
  intro T hT X
  obtain ⟨t, st, q⟩ := k _ rfl T hT X
  refine ⟨t, ?_, q⟩
  have h1 := X.ialoadOut hexec (by rw [hT]; exact hP q0 _ ha) ((hK.2 t0 _ ht).1 n (fun j => .int (f j))) (j := i) (by show (i < 0 ∨ (arrV _ _ _).slots.size ≤ _); rw [arrV_size]; exact Classical.byContradiction hout) (g := F0 m pc ls (.int i :: .ref a :: rest)) rfl (rest := rest) rfl (by rw [hb]; exact hdg) t
  simp only [arrV_size] at h1
  exact h1 st
theorem vx_iastZ {D : va_G} {cl : List vw_C} {ws : va_W} {tys : List (ClassId × FieldType)} {a : Nat} (hexec : p.tables.exec = Jvm.exec) (hb : c.code = cc) (hK : va_K D cl tys s) (hP : va_P D cl ws H) (q0 t0 : Nat) {cA : ClassId} {n : Nat} {f : Nat → Int32} (ha : ws[q0]? = some (a, .inl (cA, n, .inl f))) (ht : tys[t0]? = some (cA, .int)) {i : Int32} {x : Int32} (hout : ¬ vp_in i n) (hdg : decode cc pc = .ok (.iastore, 1))
    (k : ∀ tx : String, tx = (toString "Index " ++ toString i ++ toString " out of bounds for length " ++ toString n : String) → vx_Note p l e R s m args below meth c H locs cells slots Q (F0 m pc ls rest) "java/lang/ArrayIndexOutOfBoundsException" tx) : W p l e R s m args below meth c H locs cells slots Q (F0 m pc ls (.int x :: .int i :: .ref a :: rest)) := by
  intro T hT X
  obtain ⟨t, st, q⟩ := k _ rfl T hT X
  refine ⟨t, ?_, q⟩
  have h1 := X.iastoreOut hexec (by rw [hT]; exact hP q0 _ ha) ((hK.2 t0 _ ht).1 n (fun j => .int (f j))) (j := i) (by show (i < 0 ∨ (arrV _ _ _).slots.size ≤ _); rw [arrV_size]; exact Classical.byContradiction hout) (g := F0 m pc ls (.int x :: .int i :: .ref a :: rest)) rfl (rest := rest) rfl (by rw [hb]; exact hdg) t
  simp only [arrV_size] at h1
  exact h1 st
theorem vx_baldZ {D : va_G} {cl : List vw_C} {ws : va_W} {tys : List (ClassId × FieldType)} {a : Nat} (hexec : p.tables.exec = Jvm.exec) (hb : c.code = cc) (hK : va_K D cl tys s) (hP : va_P D cl ws H) (q0 t0 : Nat) {cA : ClassId} {n : Nat} {f : Nat → Int32} (ha : ws[q0]? = some (a, .inl (cA, n, .inl f))) (ht : tys[t0]? = some (cA, .byte)) {i : Int32} (hout : ¬ vp_in i n) (hdg : decode cc pc = .ok (.baload, 1))
    (k : ∀ tx : String, tx = (toString "Index " ++ toString i ++ toString " out of bounds for length " ++ toString n : String) → vx_Note p l e R s m args below meth c H locs cells slots Q (F0 m pc ls rest) "java/lang/ArrayIndexOutOfBoundsException" tx) : W p l e R s m args below meth c H locs cells slots Q (F0 m pc ls (.int i :: .ref a :: rest)) := by
  intro T hT X
  obtain ⟨t, st, q⟩ := k _ rfl T hT X
  refine ⟨t, ?_, q⟩
  have h1 := X.baloadOut hexec (by rw [hT]; exact hP q0 _ ha) ((hK.2 t0 _ ht).1 n (fun j => .int (f j))) (j := i) (by show (i < 0 ∨ (arrV _ _ _).slots.size ≤ _); rw [arrV_size]; exact Classical.byContradiction hout) (g := F0 m pc ls (.int i :: .ref a :: rest)) rfl (rest := rest) rfl (by rw [hb]; exact hdg) t
  simp only [arrV_size] at h1
  exact h1 st
theorem vx_bastZ {D : va_G} {cl : List vw_C} {ws : va_W} {tys : List (ClassId × FieldType)} {a : Nat} (hexec : p.tables.exec = Jvm.exec) (hb : c.code = cc) (hK : va_K D cl tys s) (hP : va_P D cl ws H) (q0 t0 : Nat) {cA : ClassId} {n : Nat} {f : Nat → Int32} (ha : ws[q0]? = some (a, .inl (cA, n, .inl f))) (ht : tys[t0]? = some (cA, .byte)) {i : Int32} {x : Int32} (hout : ¬ vp_in i n) (hdg : decode cc pc = .ok (.bastore, 1))
    (k : ∀ tx : String, tx = (toString "Index " ++ toString i ++ toString " out of bounds for length " ++ toString n : String) → vx_Note p l e R s m args below meth c H locs cells slots Q (F0 m pc ls rest) "java/lang/ArrayIndexOutOfBoundsException" tx) : W p l e R s m args below meth c H locs cells slots Q (F0 m pc ls (.int x :: .int i :: .ref a :: rest)) := by
  intro T hT X
  obtain ⟨t, st, q⟩ := k _ rfl T hT X
  refine ⟨t, ?_, q⟩
  have h1 := X.bastoreOut hexec (by rw [hT]; exact hP q0 _ ha) ((hK.2 t0 _ ht).1 n (fun j => .int (f j))) (j := i) (by show (i < 0 ∨ (arrV _ _ _).slots.size ≤ _); rw [arrV_size]; exact Classical.byContradiction hout) (g := F0 m pc ls (.int x :: .int i :: .ref a :: rest)) rfl (rest := rest) rfl (by rw [hb]; exact hdg) t
  simp only [arrV_size] at h1
  exact h1 st
theorem vx_zaldZ {D : va_G} {cl : List vw_C} {ws : va_W} {tys : List (ClassId × FieldType)} {a : Nat} (hexec : p.tables.exec = Jvm.exec) (hb : c.code = cc) (hK : va_K D cl tys s) (hP : va_P D cl ws H) (q0 t0 : Nat) {cA : ClassId} {n : Nat} {f : Nat → Int32} (ha : ws[q0]? = some (a, .inl (cA, n, .inl f))) (ht : tys[t0]? = some (cA, .boolean)) {i : Int32} (hout : ¬ vp_in i n) (hdg : decode cc pc = .ok (.baload, 1))
    (k : ∀ tx : String, tx = (toString "Index " ++ toString i ++ toString " out of bounds for length " ++ toString n : String) → vx_Note p l e R s m args below meth c H locs cells slots Q (F0 m pc ls rest) "java/lang/ArrayIndexOutOfBoundsException" tx) : W p l e R s m args below meth c H locs cells slots Q (F0 m pc ls (.int i :: .ref a :: rest)) := by
  intro T hT X
  obtain ⟨t, st, q⟩ := k _ rfl T hT X
  refine ⟨t, ?_, q⟩
  have h1 := X.baloadOut hexec (by rw [hT]; exact hP q0 _ ha) ((hK.2 t0 _ ht).1 n (fun j => .int (f j))) (j := i) (by show (i < 0 ∨ (arrV _ _ _).slots.size ≤ _); rw [arrV_size]; exact Classical.byContradiction hout) (g := F0 m pc ls (.int i :: .ref a :: rest)) rfl (rest := rest) rfl (by rw [hb]; exact hdg) t
  simp only [arrV_size] at h1
  exact h1 st
theorem vx_zastZ {D : va_G} {cl : List vw_C} {ws : va_W} {tys : List (ClassId × FieldType)} {a : Nat} (hexec : p.tables.exec = Jvm.exec) (hb : c.code = cc) (hK : va_K D cl tys s) (hP : va_P D cl ws H) (q0 t0 : Nat) {cA : ClassId} {n : Nat} {f : Nat → Int32} (ha : ws[q0]? = some (a, .inl (cA, n, .inl f))) (ht : tys[t0]? = some (cA, .boolean)) {i : Int32} {x : Int32} (hout : ¬ vp_in i n) (hdg : decode cc pc = .ok (.bastore, 1))
    (k : ∀ tx : String, tx = (toString "Index " ++ toString i ++ toString " out of bounds for length " ++ toString n : String) → vx_Note p l e R s m args below meth c H locs cells slots Q (F0 m pc ls rest) "java/lang/ArrayIndexOutOfBoundsException" tx) : W p l e R s m args below meth c H locs cells slots Q (F0 m pc ls (.int x :: .int i :: .ref a :: rest)) := by
  intro T hT X
  obtain ⟨t, st, q⟩ := k _ rfl T hT X
  refine ⟨t, ?_, q⟩
  have h1 := X.bastoreOut hexec (by rw [hT]; exact hP q0 _ ha) ((hK.2 t0 _ ht).1 n (fun j => .int (f j))) (j := i) (by show (i < 0 ∨ (arrV _ _ _).slots.size ≤ _); rw [arrV_size]; exact Classical.byContradiction hout) (g := F0 m pc ls (.int x :: .int i :: .ref a :: rest)) rfl (rest := rest) rfl (by rw [hb]; exact hdg) t
  simp only [arrV_size] at h1
  exact h1 st
theorem vx_caldZ {D : va_G} {cl : List vw_C} {ws : va_W} {tys : List (ClassId × FieldType)} {a : Nat} (hexec : p.tables.exec = Jvm.exec) (hb : c.code = cc) (hK : va_K D cl tys s) (hP : va_P D cl ws H) (q0 t0 : Nat) {cA : ClassId} {n : Nat} {f : Nat → Int32} (ha : ws[q0]? = some (a, .inl (cA, n, .inl f))) (ht : tys[t0]? = some (cA, .char)) {i : Int32} (hout : ¬ vp_in i n) (hdg : decode cc pc = .ok (.caload, 1))
    (k : ∀ tx : String, tx = (toString "Index " ++ toString i ++ toString " out of bounds for length " ++ toString n : String) → vx_Note p l e R s m args below meth c H locs cells slots Q (F0 m pc ls rest) "java/lang/ArrayIndexOutOfBoundsException" tx) : W p l e R s m args below meth c H locs cells slots Q (F0 m pc ls (.int i :: .ref a :: rest)) := by
  intro T hT X
  obtain ⟨t, st, q⟩ := k _ rfl T hT X
  refine ⟨t, ?_, q⟩
  have h1 := X.caloadOut hexec (by rw [hT]; exact hP q0 _ ha) ((hK.2 t0 _ ht).1 n (fun j => .int (f j))) (j := i) (by show (i < 0 ∨ (arrV _ _ _).slots.size ≤ _); rw [arrV_size]; exact Classical.byContradiction hout) (g := F0 m pc ls (.int i :: .ref a :: rest)) rfl (rest := rest) rfl (by rw [hb]; exact hdg) t
  simp only [arrV_size] at h1
  exact h1 st
theorem vx_castZ {D : va_G} {cl : List vw_C} {ws : va_W} {tys : List (ClassId × FieldType)} {a : Nat} (hexec : p.tables.exec = Jvm.exec) (hb : c.code = cc) (hK : va_K D cl tys s) (hP : va_P D cl ws H) (q0 t0 : Nat) {cA : ClassId} {n : Nat} {f : Nat → Int32} (ha : ws[q0]? = some (a, .inl (cA, n, .inl f))) (ht : tys[t0]? = some (cA, .char)) {i : Int32} {x : Int32} (hout : ¬ vp_in i n) (hdg : decode cc pc = .ok (.castore, 1))
    (k : ∀ tx : String, tx = (toString "Index " ++ toString i ++ toString " out of bounds for length " ++ toString n : String) → vx_Note p l e R s m args below meth c H locs cells slots Q (F0 m pc ls rest) "java/lang/ArrayIndexOutOfBoundsException" tx) : W p l e R s m args below meth c H locs cells slots Q (F0 m pc ls (.int x :: .int i :: .ref a :: rest)) := by
  intro T hT X
  obtain ⟨t, st, q⟩ := k _ rfl T hT X
  refine ⟨t, ?_, q⟩
  have h1 := X.castoreOut hexec (by rw [hT]; exact hP q0 _ ha) ((hK.2 t0 _ ht).1 n (fun j => .int (f j))) (j := i) (by show (i < 0 ∨ (arrV _ _ _).slots.size ≤ _); rw [arrV_size]; exact Classical.byContradiction hout) (g := F0 m pc ls (.int x :: .int i :: .ref a :: rest)) rfl (rest := rest) rfl (by rw [hb]; exact hdg) t
  simp only [arrV_size] at h1
  exact h1 st
theorem vx_saldZ {D : va_G} {cl : List vw_C} {ws : va_W} {tys : List (ClassId × FieldType)} {a : Nat} (hexec : p.tables.exec = Jvm.exec) (hb : c.code = cc) (hK : va_K D cl tys s) (hP : va_P D cl ws H) (q0 t0 : Nat) {cA : ClassId} {n : Nat} {f : Nat → Int32} (ha : ws[q0]? = some (a, .inl (cA, n, .inl f))) (ht : tys[t0]? = some (cA, .short)) {i : Int32} (hout : ¬ vp_in i n) (hdg : decode cc pc = .ok (.saload, 1))
    (k : ∀ tx : String, tx = (toString "Index " ++ toString i ++ toString " out of bounds for length " ++ toString n : String) → vx_Note p l e R s m args below meth c H locs cells slots Q (F0 m pc ls rest) "java/lang/ArrayIndexOutOfBoundsException" tx) : W p l e R s m args below meth c H locs cells slots Q (F0 m pc ls (.int i :: .ref a :: rest)) := by
  intro T hT X
  obtain ⟨t, st, q⟩ := k _ rfl T hT X
  refine ⟨t, ?_, q⟩
  have h1 := X.saloadOut hexec (by rw [hT]; exact hP q0 _ ha) ((hK.2 t0 _ ht).1 n (fun j => .int (f j))) (j := i) (by show (i < 0 ∨ (arrV _ _ _).slots.size ≤ _); rw [arrV_size]; exact Classical.byContradiction hout) (g := F0 m pc ls (.int i :: .ref a :: rest)) rfl (rest := rest) rfl (by rw [hb]; exact hdg) t
  simp only [arrV_size] at h1
  exact h1 st
theorem vx_sastZ {D : va_G} {cl : List vw_C} {ws : va_W} {tys : List (ClassId × FieldType)} {a : Nat} (hexec : p.tables.exec = Jvm.exec) (hb : c.code = cc) (hK : va_K D cl tys s) (hP : va_P D cl ws H) (q0 t0 : Nat) {cA : ClassId} {n : Nat} {f : Nat → Int32} (ha : ws[q0]? = some (a, .inl (cA, n, .inl f))) (ht : tys[t0]? = some (cA, .short)) {i : Int32} {x : Int32} (hout : ¬ vp_in i n) (hdg : decode cc pc = .ok (.sastore, 1))
    (k : ∀ tx : String, tx = (toString "Index " ++ toString i ++ toString " out of bounds for length " ++ toString n : String) → vx_Note p l e R s m args below meth c H locs cells slots Q (F0 m pc ls rest) "java/lang/ArrayIndexOutOfBoundsException" tx) : W p l e R s m args below meth c H locs cells slots Q (F0 m pc ls (.int x :: .int i :: .ref a :: rest)) := by
  intro T hT X
  obtain ⟨t, st, q⟩ := k _ rfl T hT X
  refine ⟨t, ?_, q⟩
  have h1 := X.sastoreOut hexec (by rw [hT]; exact hP q0 _ ha) ((hK.2 t0 _ ht).1 n (fun j => .int (f j))) (j := i) (by show (i < 0 ∨ (arrV _ _ _).slots.size ≤ _); rw [arrV_size]; exact Classical.byContradiction hout) (g := F0 m pc ls (.int x :: .int i :: .ref a :: rest)) rfl (rest := rest) rfl (by rw [hb]; exact hdg) t
  simp only [arrV_size] at h1
  exact h1 st
theorem vx_laldZ {D : va_G} {cl : List vw_C} {ws : va_W} {tys : List (ClassId × FieldType)} {a : Nat} (hexec : p.tables.exec = Jvm.exec) (hb : c.code = cc) (hK : va_K D cl tys s) (hP : va_P D cl ws H) (q0 t0 : Nat) {cA : ClassId} {n : Nat} {f : Nat → Int64} (ha : ws[q0]? = some (a, .inl (cA, n, .inr (.inl f)))) (ht : tys[t0]? = some (cA, .long)) {i : Int32} (hout : ¬ vp_in i n) (hdg : decode cc pc = .ok (.laload, 1))
    (k : ∀ tx : String, tx = (toString "Index " ++ toString i ++ toString " out of bounds for length " ++ toString n : String) → vx_Note p l e R s m args below meth c H locs cells slots Q (F0 m pc ls rest) "java/lang/ArrayIndexOutOfBoundsException" tx) : W p l e R s m args below meth c H locs cells slots Q (F0 m pc ls (.int i :: .ref a :: rest)) := by
  intro T hT X
  obtain ⟨t, st, q⟩ := k _ rfl T hT X
  refine ⟨t, ?_, q⟩
  have h1 := X.laloadOut hexec (by rw [hT]; exact hP q0 _ ha) ((hK.2 t0 _ ht).1 n (fun j => .long (f j))) (j := i) (by show (i < 0 ∨ (arrV _ _ _).slots.size ≤ _); rw [arrV_size]; exact Classical.byContradiction hout) (g := F0 m pc ls (.int i :: .ref a :: rest)) rfl (rest := rest) rfl (by rw [hb]; exact hdg) t
  simp only [arrV_size] at h1
  exact h1 st
theorem vx_lastZ {D : va_G} {cl : List vw_C} {ws : va_W} {tys : List (ClassId × FieldType)} {a : Nat} (hexec : p.tables.exec = Jvm.exec) (hb : c.code = cc) (hK : va_K D cl tys s) (hP : va_P D cl ws H) (q0 t0 : Nat) {cA : ClassId} {n : Nat} {f : Nat → Int64} (ha : ws[q0]? = some (a, .inl (cA, n, .inr (.inl f)))) (ht : tys[t0]? = some (cA, .long)) {i : Int32} {x : Int64} (hout : ¬ vp_in i n) (hdg : decode cc pc = .ok (.lastore, 1))
    (k : ∀ tx : String, tx = (toString "Index " ++ toString i ++ toString " out of bounds for length " ++ toString n : String) → vx_Note p l e R s m args below meth c H locs cells slots Q (F0 m pc ls rest) "java/lang/ArrayIndexOutOfBoundsException" tx) : W p l e R s m args below meth c H locs cells slots Q (F0 m pc ls (.long x :: .int i :: .ref a :: rest)) := by
  intro T hT X
  obtain ⟨t, st, q⟩ := k _ rfl T hT X
  refine ⟨t, ?_, q⟩
  have h1 := X.lastoreOut hexec (by rw [hT]; exact hP q0 _ ha) ((hK.2 t0 _ ht).1 n (fun j => .long (f j))) (j := i) (by show (i < 0 ∨ (arrV _ _ _).slots.size ≤ _); rw [arrV_size]; exact Classical.byContradiction hout) (g := F0 m pc ls (.long x :: .int i :: .ref a :: rest)) rfl (rest := rest) rfl (by rw [hb]; exact hdg) t
  simp only [arrV_size] at h1
  exact h1 st
theorem vx_faldZ {D : va_G} {cl : List vw_C} {ws : va_W} {tys : List (ClassId × FieldType)} {a : Nat} (hexec : p.tables.exec = Jvm.exec) (hb : c.code = cc) (hK : va_K D cl tys s) (hP : va_P D cl ws H) (q0 t0 : Nat) {cA : ClassId} {n : Nat} {f : Nat → UInt32} (ha : ws[q0]? = some (a, .inl (cA, n, .inr (.inr (.inl f))))) (ht : tys[t0]? = some (cA, .float)) {i : Int32} (hout : ¬ vp_in i n) (hdg : decode cc pc = .ok (.faload, 1))
    (k : ∀ tx : String, tx = (toString "Index " ++ toString i ++ toString " out of bounds for length " ++ toString n : String) → vx_Note p l e R s m args below meth c H locs cells slots Q (F0 m pc ls rest) "java/lang/ArrayIndexOutOfBoundsException" tx) : W p l e R s m args below meth c H locs cells slots Q (F0 m pc ls (.int i :: .ref a :: rest)) := by
  intro T hT X
  obtain ⟨t, st, q⟩ := k _ rfl T hT X
  refine ⟨t, ?_, q⟩
  have h1 := X.faloadOut hexec (by rw [hT]; exact hP q0 _ ha) ((hK.2 t0 _ ht).1 n (fun j => .float (f j))) (j := i) (by show (i < 0 ∨ (arrV _ _ _).slots.size ≤ _); rw [arrV_size]; exact Classical.byContradiction hout) (g := F0 m pc ls (.int i :: .ref a :: rest)) rfl (rest := rest) rfl (by rw [hb]; exact hdg) t
  simp only [arrV_size] at h1
  exact h1 st
theorem vx_fastZ {D : va_G} {cl : List vw_C} {ws : va_W} {tys : List (ClassId × FieldType)} {a : Nat} (hexec : p.tables.exec = Jvm.exec) (hb : c.code = cc) (hK : va_K D cl tys s) (hP : va_P D cl ws H) (q0 t0 : Nat) {cA : ClassId} {n : Nat} {f : Nat → UInt32} (ha : ws[q0]? = some (a, .inl (cA, n, .inr (.inr (.inl f))))) (ht : tys[t0]? = some (cA, .float)) {i : Int32} {x : UInt32} (hout : ¬ vp_in i n) (hdg : decode cc pc = .ok (.fastore, 1))
    (k : ∀ tx : String, tx = (toString "Index " ++ toString i ++ toString " out of bounds for length " ++ toString n : String) → vx_Note p l e R s m args below meth c H locs cells slots Q (F0 m pc ls rest) "java/lang/ArrayIndexOutOfBoundsException" tx) : W p l e R s m args below meth c H locs cells slots Q (F0 m pc ls (.float x :: .int i :: .ref a :: rest)) := by
  intro T hT X
  obtain ⟨t, st, q⟩ := k _ rfl T hT X
  refine ⟨t, ?_, q⟩
  have h1 := X.fastoreOut hexec (by rw [hT]; exact hP q0 _ ha) ((hK.2 t0 _ ht).1 n (fun j => .float (f j))) (j := i) (by show (i < 0 ∨ (arrV _ _ _).slots.size ≤ _); rw [arrV_size]; exact Classical.byContradiction hout) (g := F0 m pc ls (.float x :: .int i :: .ref a :: rest)) rfl (rest := rest) rfl (by rw [hb]; exact hdg) t
  simp only [arrV_size] at h1
  exact h1 st
theorem vx_daldZ {D : va_G} {cl : List vw_C} {ws : va_W} {tys : List (ClassId × FieldType)} {a : Nat} (hexec : p.tables.exec = Jvm.exec) (hb : c.code = cc) (hK : va_K D cl tys s) (hP : va_P D cl ws H) (q0 t0 : Nat) {cA : ClassId} {n : Nat} {f : Nat → UInt64} (ha : ws[q0]? = some (a, .inl (cA, n, .inr (.inr (.inr (.inl f)))))) (ht : tys[t0]? = some (cA, .double)) {i : Int32} (hout : ¬ vp_in i n) (hdg : decode cc pc = .ok (.daload, 1))
    (k : ∀ tx : String, tx = (toString "Index " ++ toString i ++ toString " out of bounds for length " ++ toString n : String) → vx_Note p l e R s m args below meth c H locs cells slots Q (F0 m pc ls rest) "java/lang/ArrayIndexOutOfBoundsException" tx) : W p l e R s m args below meth c H locs cells slots Q (F0 m pc ls (.int i :: .ref a :: rest)) := by
  intro T hT X
  obtain ⟨t, st, q⟩ := k _ rfl T hT X
  refine ⟨t, ?_, q⟩
  have h1 := X.daloadOut hexec (by rw [hT]; exact hP q0 _ ha) ((hK.2 t0 _ ht).1 n (fun j => .double (f j))) (j := i) (by show (i < 0 ∨ (arrV _ _ _).slots.size ≤ _); rw [arrV_size]; exact Classical.byContradiction hout) (g := F0 m pc ls (.int i :: .ref a :: rest)) rfl (rest := rest) rfl (by rw [hb]; exact hdg) t
  simp only [arrV_size] at h1
  exact h1 st
theorem vx_dastZ {D : va_G} {cl : List vw_C} {ws : va_W} {tys : List (ClassId × FieldType)} {a : Nat} (hexec : p.tables.exec = Jvm.exec) (hb : c.code = cc) (hK : va_K D cl tys s) (hP : va_P D cl ws H) (q0 t0 : Nat) {cA : ClassId} {n : Nat} {f : Nat → UInt64} (ha : ws[q0]? = some (a, .inl (cA, n, .inr (.inr (.inr (.inl f)))))) (ht : tys[t0]? = some (cA, .double)) {i : Int32} {x : UInt64} (hout : ¬ vp_in i n) (hdg : decode cc pc = .ok (.dastore, 1))
    (k : ∀ tx : String, tx = (toString "Index " ++ toString i ++ toString " out of bounds for length " ++ toString n : String) → vx_Note p l e R s m args below meth c H locs cells slots Q (F0 m pc ls rest) "java/lang/ArrayIndexOutOfBoundsException" tx) : W p l e R s m args below meth c H locs cells slots Q (F0 m pc ls (.double x :: .int i :: .ref a :: rest)) := by
  intro T hT X
  obtain ⟨t, st, q⟩ := k _ rfl T hT X
  refine ⟨t, ?_, q⟩
  have h1 := X.dastoreOut hexec (by rw [hT]; exact hP q0 _ ha) ((hK.2 t0 _ ht).1 n (fun j => .double (f j))) (j := i) (by show (i < 0 ∨ (arrV _ _ _).slots.size ≤ _); rw [arrV_size]; exact Classical.byContradiction hout) (g := F0 m pc ls (.double x :: .int i :: .ref a :: rest)) rfl (rest := rest) rfl (by rw [hb]; exact hdg) t
  simp only [arrV_size] at h1
  exact h1 st
theorem vx_arraylengthN (hexec : p.tables.exec = Jvm.exec) (hb : c.code = cc) (hdg : decode cc pc = .ok (.arraylength, 1)) (k : vx_NoteN p l e R s m args below meth c H locs cells slots Q (F0 m pc ls rest)) : W p l e R s m args below meth c H locs cells slots Q (F0 m pc ls (.null :: rest)) := by
  intro T hT X
  obtain ⟨t, st, q⟩ := k T hT X
  exact ⟨t, X.arraylengthNull hexec (g := F0 m pc ls (.null :: rest)) rfl (rest := rest) rfl (by rw [hb]; exact hdg) t st, q⟩
theorem vx_ialoadN (hexec : p.tables.exec = Jvm.exec) (hb : c.code = cc) {i : Int32} (hdg : decode cc pc = .ok (.iaload, 1)) (k : vx_NoteN p l e R s m args below meth c H locs cells slots Q (F0 m pc ls rest)) : W p l e R s m args below meth c H locs cells slots Q (F0 m pc ls (.int i :: .null :: rest)) := by
  intro T hT X
  obtain ⟨t, st, q⟩ := k T hT X
  exact ⟨t, X.ialoadNull hexec (g := F0 m pc ls (.int i :: .null :: rest)) rfl (rest := rest) rfl (by rw [hb]; exact hdg) t st, q⟩
theorem vx_laloadN (hexec : p.tables.exec = Jvm.exec) (hb : c.code = cc) {i : Int32} (hdg : decode cc pc = .ok (.laload, 1)) (k : vx_NoteN p l e R s m args below meth c H locs cells slots Q (F0 m pc ls rest)) : W p l e R s m args below meth c H locs cells slots Q (F0 m pc ls (.int i :: .null :: rest)) := by
  intro T hT X
  obtain ⟨t, st, q⟩ := k T hT X
  exact ⟨t, X.laloadNull hexec (g := F0 m pc ls (.int i :: .null :: rest)) rfl (rest := rest) rfl (by rw [hb]; exact hdg) t st, q⟩
theorem vx_faloadN (hexec : p.tables.exec = Jvm.exec) (hb : c.code = cc) {i : Int32} (hdg : decode cc pc = .ok (.faload, 1)) (k : vx_NoteN p l e R s m args below meth c H locs cells slots Q (F0 m pc ls rest)) : W p l e R s m args below meth c H locs cells slots Q (F0 m pc ls (.int i :: .null :: rest)) := by
  intro T hT X
  obtain ⟨t, st, q⟩ := k T hT X
  exact ⟨t, X.faloadNull hexec (g := F0 m pc ls (.int i :: .null :: rest)) rfl (rest := rest) rfl (by rw [hb]; exact hdg) t st, q⟩
theorem vx_daloadN (hexec : p.tables.exec = Jvm.exec) (hb : c.code = cc) {i : Int32} (hdg : decode cc pc = .ok (.daload, 1)) (k : vx_NoteN p l e R s m args below meth c H locs cells slots Q (F0 m pc ls rest)) : W p l e R s m args below meth c H locs cells slots Q (F0 m pc ls (.int i :: .null :: rest)) := by
  intro T hT X
  obtain ⟨t, st, q⟩ := k T hT X
  exact ⟨t, X.daloadNull hexec (g := F0 m pc ls (.int i :: .null :: rest)) rfl (rest := rest) rfl (by rw [hb]; exact hdg) t st, q⟩
theorem vx_aaloadN (hexec : p.tables.exec = Jvm.exec) (hb : c.code = cc) {i : Int32} (hdg : decode cc pc = .ok (.aaload, 1)) (k : vx_NoteN p l e R s m args below meth c H locs cells slots Q (F0 m pc ls rest)) : W p l e R s m args below meth c H locs cells slots Q (F0 m pc ls (.int i :: .null :: rest)) := by
  intro T hT X
  obtain ⟨t, st, q⟩ := k T hT X
  exact ⟨t, X.aaloadNull hexec (g := F0 m pc ls (.int i :: .null :: rest)) rfl (rest := rest) rfl (by rw [hb]; exact hdg) t st, q⟩
theorem vx_baloadN (hexec : p.tables.exec = Jvm.exec) (hb : c.code = cc) {i : Int32} (hdg : decode cc pc = .ok (.baload, 1)) (k : vx_NoteN p l e R s m args below meth c H locs cells slots Q (F0 m pc ls rest)) : W p l e R s m args below meth c H locs cells slots Q (F0 m pc ls (.int i :: .null :: rest)) := by
  intro T hT X
  obtain ⟨t, st, q⟩ := k T hT X
  exact ⟨t, X.baloadNull hexec (g := F0 m pc ls (.int i :: .null :: rest)) rfl (rest := rest) rfl (by rw [hb]; exact hdg) t st, q⟩
theorem vx_caloadN (hexec : p.tables.exec = Jvm.exec) (hb : c.code = cc) {i : Int32} (hdg : decode cc pc = .ok (.caload, 1)) (k : vx_NoteN p l e R s m args below meth c H locs cells slots Q (F0 m pc ls rest)) : W p l e R s m args below meth c H locs cells slots Q (F0 m pc ls (.int i :: .null :: rest)) := by
  intro T hT X
  obtain ⟨t, st, q⟩ := k T hT X
  exact ⟨t, X.caloadNull hexec (g := F0 m pc ls (.int i :: .null :: rest)) rfl (rest := rest) rfl (by rw [hb]; exact hdg) t st, q⟩
theorem vx_saloadN (hexec : p.tables.exec = Jvm.exec) (hb : c.code = cc) {i : Int32} (hdg : decode cc pc = .ok (.saload, 1)) (k : vx_NoteN p l e R s m args below meth c H locs cells slots Q (F0 m pc ls rest)) : W p l e R s m args below meth c H locs cells slots Q (F0 m pc ls (.int i :: .null :: rest)) := by
  intro T hT X
  obtain ⟨t, st, q⟩ := k T hT X
  exact ⟨t, X.saloadNull hexec (g := F0 m pc ls (.int i :: .null :: rest)) rfl (rest := rest) rfl (by rw [hb]; exact hdg) t st, q⟩
theorem vx_iastoreN (hexec : p.tables.exec = Jvm.exec) (hb : c.code = cc) {x : Int32} {i : Int32} (hdg : decode cc pc = .ok (.iastore, 1)) (k : vx_NoteN p l e R s m args below meth c H locs cells slots Q (F0 m pc ls rest)) : W p l e R s m args below meth c H locs cells slots Q (F0 m pc ls (.int x :: .int i :: .null :: rest)) := by
  intro T hT X
  obtain ⟨t, st, q⟩ := k T hT X
  exact ⟨t, X.iastoreNull hexec (g := F0 m pc ls (.int x :: .int i :: .null :: rest)) rfl (rest := rest) rfl (by rw [hb]; exact hdg) t st, q⟩
theorem vx_lastoreN (hexec : p.tables.exec = Jvm.exec) (hb : c.code = cc) {x : Int64} {i : Int32} (hdg : decode cc pc = .ok (.lastore, 1)) (k : vx_NoteN p l e R s m args below meth c H locs cells slots Q (F0 m pc ls rest)) : W p l e R s m args below meth c H locs cells slots Q (F0 m pc ls (.long x :: .int i :: .null :: rest)) := by
  intro T hT X
  obtain ⟨t, st, q⟩ := k T hT X
  exact ⟨t, X.lastoreNull hexec (g := F0 m pc ls (.long x :: .int i :: .null :: rest)) rfl (rest := rest) rfl (by rw [hb]; exact hdg) t st, q⟩
theorem vx_fastoreN (hexec : p.tables.exec = Jvm.exec) (hb : c.code = cc) {x : UInt32} {i : Int32} (hdg : decode cc pc = .ok (.fastore, 1)) (k : vx_NoteN p l e R s m args below meth c H locs cells slots Q (F0 m pc ls rest)) : W p l e R s m args below meth c H locs cells slots Q (F0 m pc ls (.float x :: .int i :: .null :: rest)) := by
  intro T hT X
  obtain ⟨t, st, q⟩ := k T hT X
  exact ⟨t, X.fastoreNull hexec (g := F0 m pc ls (.float x :: .int i :: .null :: rest)) rfl (rest := rest) rfl (by rw [hb]; exact hdg) t st, q⟩
theorem vx_dastoreN (hexec : p.tables.exec = Jvm.exec) (hb : c.code = cc) {x : UInt64} {i : Int32} (hdg : decode cc pc = .ok (.dastore, 1)) (k : vx_NoteN p l e R s m args below meth c H locs cells slots Q (F0 m pc ls rest)) : W p l e R s m args below meth c H locs cells slots Q (F0 m pc ls (.double x :: .int i :: .null :: rest)) := by
  intro T hT X
  obtain ⟨t, st, q⟩ := k T hT X
  exact ⟨t, X.dastoreNull hexec (g := F0 m pc ls (.double x :: .int i :: .null :: rest)) rfl (rest := rest) rfl (by rw [hb]; exact hdg) t st, q⟩
theorem vx_bastoreN (hexec : p.tables.exec = Jvm.exec) (hb : c.code = cc) {x : Int32} {i : Int32} (hdg : decode cc pc = .ok (.bastore, 1)) (k : vx_NoteN p l e R s m args below meth c H locs cells slots Q (F0 m pc ls rest)) : W p l e R s m args below meth c H locs cells slots Q (F0 m pc ls (.int x :: .int i :: .null :: rest)) := by
  intro T hT X
  obtain ⟨t, st, q⟩ := k T hT X
  exact ⟨t, X.bastoreNull hexec (g := F0 m pc ls (.int x :: .int i :: .null :: rest)) rfl (rest := rest) rfl (by rw [hb]; exact hdg) t st, q⟩
theorem vx_castoreN (hexec : p.tables.exec = Jvm.exec) (hb : c.code = cc) {x : Int32} {i : Int32} (hdg : decode cc pc = .ok (.castore, 1)) (k : vx_NoteN p l e R s m args below meth c H locs cells slots Q (F0 m pc ls rest)) : W p l e R s m args below meth c H locs cells slots Q (F0 m pc ls (.int x :: .int i :: .null :: rest)) := by
  intro T hT X
  obtain ⟨t, st, q⟩ := k T hT X
  exact ⟨t, X.castoreNull hexec (g := F0 m pc ls (.int x :: .int i :: .null :: rest)) rfl (rest := rest) rfl (by rw [hb]; exact hdg) t st, q⟩
theorem vx_sastoreN (hexec : p.tables.exec = Jvm.exec) (hb : c.code = cc) {x : Int32} {i : Int32} (hdg : decode cc pc = .ok (.sastore, 1)) (k : vx_NoteN p l e R s m args below meth c H locs cells slots Q (F0 m pc ls rest)) : W p l e R s m args below meth c H locs cells slots Q (F0 m pc ls (.int x :: .int i :: .null :: rest)) := by
  intro T hT X
  obtain ⟨t, st, q⟩ := k T hT X
  exact ⟨t, X.sastoreNull hexec (g := F0 m pc ls (.int x :: .int i :: .null :: rest)) rfl (rest := rest) rfl (by rw [hb]; exact hdg) t st, q⟩
theorem vx_invokeN {own C : String} {index maxL : Nat} {y : MethodName} {bytes : ByteArray} {ret : Option FieldType} (hexec : p.tables.exec = Jvm.exec) (hb : c.code = cc) (hown : s.vm.findClass own = some m.cls) (hlink : (Cond.methodLink own index y).before args s = true) (hinst : (Cond.instanceMethod y).before args s = true) (hcode : (Cond.code y bytes maxL ret).before args s = true) (hsel : (Cond.selects C y y).before args s = true)
    (hx : y.cls ≠ "java/lang/invoke/MethodHandle" ∧ y.cls ≠ "java/lang/invoke/VarHandle") {As : List Value} (hlen : (parseMethodDescriptor y.desc).map (fun d => d.parameters.length) = some As.length) (hdg : decode cc pc = .ok (.invokevirtual index, 3))
    (k : vx_NoteN p l e R s m args below meth c H locs cells slots Q (F0 m pc ls rest)) {st0 : List Value} (hst : st0 = As.reverse ++ .null :: rest) : W p l e R s m args below meth c H locs cells slots Q (F0 m pc ls st0) := by
  intro T hT X
  obtain ⟨r0, r, hn, hrm, hstR, hsigR⟩ := va_Decl.of hinst hcode
  obtain ⟨c2, r2, m2, q1, q2, q3, q4, kP, hkP, hkPi⟩ := Cond.selects_spec hsel
  cases hn.symm.trans q3
  have hl9 : As.length = r.sig.parameters.length := by
    rw [hsigR] at hlen
    exact (Option.some.inj hlen).symm
  obtain ⟨vm', X1, st1⟩ := X.invokevirtualNull hexec hown hlink hn hrm hstR hkP hkPi hx (g := F0 m pc ls st0) rfl (argsL := As) (rest := rest) hl9 hst (by rw [hb]; exact hdg)
  obtain ⟨t, st, q⟩ := k (T.setVm vm') hT X1
  exact ⟨t, st1 t st, q⟩
theorem vx_newarrayZ {atype : ArrayType} (hexec : p.tables.exec = Jvm.exec) (hb : c.code = cc) {n : Int32} (h0 : n < 0) (hdg : decode cc pc = .ok (.newarray atype, 2)) (k : ∀ tx : String, tx = toString n → vx_Note p l e R s m args below meth c H locs cells slots Q (F0 m pc ls rest) "java/lang/NegativeArraySizeException" tx) : W p l e R s m args below meth c H locs cells slots Q (F0 m pc ls (.int n :: rest)) := by
  intro T hT X
  obtain ⟨t, st, q⟩ := k _ rfl T hT X
  exact ⟨t, X.newarrayNegative hexec (g := F0 m pc ls (.int n :: rest)) rfl h0 (rest := rest) rfl (by rw [hb]; exact hdg) t st, q⟩
end
end VXM
/-! ===== END ===== -/
/-! ===== BEGIN an exception as an object: made, kept, thrown later (no traces kept) ===== -/
section VXK
variable {p : Program} {l : Launch} {e : Env} {R : Room} {s : State} {m₀ : MethodId} {args : Array Value} {below : List Frame} {meth : Method} {c : Code} {W : State} {locs : List Loc} {cells slots : Nat}
set_option maxHeartbeats 1000000 in
theorem vx_ctorMadeS (X : Stand p l e R s m₀ args below meth c W locs cells slots) (hexec : p.tables.exec = Jvm.exec) (htr : e.platform.stackTraces = false) {own cls : String} {names : List String} {ic : Nat}
    (hown : s.vm.findClass own = some m₀.cls) (hcls : Bundle.fit cls = true) (hnames : ∀ n ∈ names, Bundle.fit n = true)
    (h : ∀ a ∈ Bundle.ownAtoms own ic cls names, a.before args s = true)
    (hlocs : ∀ x ∈ locs, ∀ cell, s.heap[x.base]? = some cell → cell.vm.isStatics = false)
    {a : Addr} {cX : ClassId} {kX : Class} (hfoundX : s.vm.findClass cls = some cX) (hkX : s.vm.classes[cX]? = some kX) (hcell : W.heap[a]? = some (freshCell cX kX)) (hnew : s.heap.size ≤ a)
    {msg : Value} (hmsg : msg.isRef = true)
    {g : JFrame} (hg : g.method = m₀) (hsize : g.locals.size = c.maxLocals) {rest : List Value} (hstack : g.stack = msg :: .ref a :: .ref a :: rest)
    (hd6 : decode c.code g.pc = .ok (.invokespecial ic, 3))
    (hRframes : names.length + 3 < R.frames) (hRlocals : 2 * g.monitorRoom + ((Value.ref a :: rest).map fun v => v.category).sum + (13 * (names.length + 1) + 42) ≤ R.locals) :
    ∃ (V : State) (ce : Cell) (L : List Loc), Stand p l e R s m₀ args below meth c (V.setCell a ce) (locs ++ L) cells slots ∧ (∀ y ∈ L, y.base = a) ∧ a < V.heap.size ∧ ce.cls = cX ∧ ce.vm = .none ∧
      ∀ target, Steps p.tables e below ((V.setCell a ce).setTop { g with stack := .ref a :: rest, pc := g.pc + 3 }) target → Steps p.tables e below (W.setTop g) target := by
  have howns : e.platform.frameOwnsMonitors = true := by rw [X.admits.platform]
  have hfin : e.platform.finalization = false := by rw [X.admits.platform]
  have hpl : e.platform.magicAccessors = ({} : Platform).magicAccessors := by rw [X.admits.platform]
  have a' : ∀ x, x ∈ Bundle.ownAtoms own ic cls names → x.holds args s none s [] = true := fun x hx => h x hx
  obtain ⟨T, Z0, L, -, Y⟩ := ThrowableC.of_atoms (args := args) howns hfin hpl (fun x hx => h x (by simp [Bundle.ownAtoms, hx]))
  obtain ⟨Z, M, LZ, LM, hnZ⟩ := Init0T.ofS_atoms (args := args) hpl L Y (fun x hx => h x (by simp [Bundle.ownAtoms, hx]))
  obtain ⟨P1, Ps, hlen, L1, hL, hP1m, hlink1, hlink⟩ := Bundle.chainS (args := args) hpl hnZ names cls hcls hnames (fun x hx => h x (by simp [Bundle.ownAtoms, hx]))
  have hfound : s.vm.findClass cls = some P1.m.cls := findClass_of_methodNamed hP1m
  cases Option.some.inj (hfoundX.symm.trans hfound)
  obtain ⟨c1, kX', hc1, hk, hord, -, -, hn6⟩ := Cond.instantiable_spec (a' (.instantiable cls 6) (by simp [Bundle.ownAtoms]))
  cases Option.some.inj (hc1.symm.trans hfound)
  cases Option.some.inj (hkX.symm.trans hk)
  have hsel0 : selectMethod e.platform s.vm P1.m.cls T.fill0 = .method T.fill0 := by
    obtain ⟨c2, r2, m2, q1, q2, q3, q4, -⟩ := Cond.selects_spec (a' (.selects cls Bundle.tFill0 Bundle.tFill0) (by simp [Bundle.ownAtoms]))
    cases Option.some.inj (q1.symm.trans hfound)
    cases Option.some.inj (q2.symm.trans (State.methodFound?_of_named Y.fill0 (by decide)))
    cases Option.some.inj (q3.symm.trans Y.fill0)
    rw [Launch.admits_selectMethod X.admits]; exact q4
  have hselF : selectMethod e.platform s.vm P1.m.cls T.fill = .method T.fill := by
    obtain ⟨c2, r2, m2, q1, q2, q3, q4, -⟩ := Cond.selects_spec (a' (.selects cls Bundle.tFill Bundle.tFill) (by simp [Bundle.ownAtoms]))
    cases Option.some.inj (q1.symm.trans hfound)
    cases Option.some.inj (q2.symm.trans (State.methodFound?_of_named Y.fill (by decide)))
    cases Option.some.inj (q3.symm.trans Y.fill)
    rw [Launch.admits_selectMethod X.admits]; exact q4
  obtain ⟨cellS0, hcS0, hiss⟩ := Y.statics
  obtain ⟨u0, hu0⟩ := Cond.staticRefV Y.unassigned L.unassignedStatic L.statics hcS0 hiss (a' (.isRef (.static Bundle.tN "UNASSIGNED_STACK" Bundle.steD)) (by simp [Bundle.ownAtoms]))
  obtain ⟨sen, hsen⟩ := Cond.staticRefV Y.sentinel L.sentinelStatic L.statics hcS0 hiss (a' (.isRef (.static Bundle.tN "SUPPRESSED_SENTINEL" Bundle.listD)) (by simp [Bundle.ownAtoms]))
  obtain ⟨ci198, i198, fB, hk198, hg198, ha198, hsB, -, hnB, htB, hffB⟩ := Cond.ownField (t := .object "java/lang/Object") Y.found L.cls (by decide +kernel) (a' (.fieldLink Bundle.tN 198 Bundle.tN "backtrace" "Ljava/lang/Object;") (by simp [Bundle.ownAtoms])) (a' (.lays Bundle.tN Bundle.tN "backtrace" "Ljava/lang/Object;") (by simp [Bundle.ownAtoms])) e.platform hpl
  obtain ⟨cellS, hcS', heS, -, hkeep⟩ := X.same.2.2.2.2.2 T.aS cellS0 hcS0
  have hcellS : W.heap[T.aS]? = some cellS := hcS'
  have hout' : ∀ i, (⟨T.aS, i⟩ : Loc) ∉ locs := fun i hmem => by
    have := hlocs _ hmem cellS0 hcS0
    rw [hiss] at this; cases this
  have hknownS : cellS.vm ≠ .unknown := by
    rw [heS]; intro hu
    rw [show cellS0.vm = .unknown from hu] at hiss
    cases hiss
  have hneS : T.aS ≠ a := Nat.ne_of_lt (Nat.lt_of_lt_of_le (Array.getElem?_eq_some_iff.mp hcS0).1 hnew)
  obtain ⟨iM, hffM⟩ := Y.msg
  obtain ⟨tyC, dC, hdC, hdnC⟩ := Cond.laysAt hfound hk Y.cause (a' (.lays cls Bundle.tN "cause" "Ljava/lang/Throwable;") (by simp [Bundle.ownAtoms]))
  obtain ⟨tyS, dS, hdS, hdnS⟩ := Cond.laysAt hfound hk Y.stack (a' (.lays cls Bundle.tN "stackTrace" Bundle.steD) (by simp [Bundle.ownAtoms]))
  obtain ⟨tyP, dP, hdP, hdnP⟩ := Cond.laysAt hfound hk Y.supp (a' (.lays cls Bundle.tN "suppressedExceptions" Bundle.listD) (by simp [Bundle.ownAtoms]))
  obtain ⟨tyM, dM, hdM, hdnM⟩ := Cond.laysAt hfound hk hffM (a' (.lays cls Bundle.tN "detailMessage" "Ljava/lang/String;") (by simp [Bundle.ownAtoms]))
  obtain ⟨tyB, dB, hdB, hdnB⟩ := Cond.laysAt hfound hk hffB (a' (.lays cls Bundle.tN "backtrace" "Ljava/lang/Object;") (by simp [Bundle.ownAtoms]))
  have bC := Cond.laysApart hdB hdC hdnB hdnC (by rw [hnB, Y.causeName]; decide)
  have bS := Cond.laysApart hdB hdS hdnB hdnS (by rw [hnB, Y.stackName]; decide)
  have bP := Cond.laysApart hdB hdP hdnB hdnP (by rw [hnB, Y.suppName]; decide)
  have hskip : SkipFacts T e.platform s (fun u => u) u0 ((preparedCellV T.toThrowableT (freshCell P1.m.cls kX) a u0 sen).withEntry W.cur) :=
    ⟨{ ci198 := ci198, i198 := i198, fBack := fB }, ⟨hk198, hg198, ha198, hsB⟩, by
      have := fresh_default (c := P1.m.cls) tyB
      rw [htB] at this
      simpa [preparedCellV, Cell.setSlot, Cell.withEntry, Array.getElem?_setIfInBounds, bC, bS, bP, bC.symm, bS.symm, bP.symm, defaultValue] using this, fun _ _ => rfl⟩
  obtain ⟨tm, methC, cdC, kC, vm₁, hnC, -, -, -, -, -, -, -, hW₁, st1⟩ := Steps.initColdS (tb := p.tables) (e := e) (below := below) (s := s) (U := W) X.here hexec X.warmed hpl hown (t := Bundle.initS cls) rfl rfl (Bundle.fit_spec hcls).2
    (a' (.methodLink own ic (Bundle.initS cls)) (by simp [Bundle.ownAtoms])) (h (.instanceMethod (Bundle.initS cls)) (by cases names <;> simp [Bundle.ownAtoms, Bundle.chainSAtoms, Bundle.passSAtoms])) (bytes := Bundle.six) (maxL := 2) (h (.code (Bundle.initS cls) Bundle.six 2 none) (by cases names <;> simp [Bundle.ownAtoms, Bundle.chainSAtoms, Bundle.passSAtoms]))
    (f := g) hg (a := a) (msg := msg) (rest := .ref a :: rest) hstack hd6
  cases Option.some.inj (hnC.symm.trans hP1m)
  have X₁ := X.noted hW₁
  obtain ⟨vm₂, X₂, st2⟩ := X₁.ctorMessageOffV hexec (g := { g with stack := .ref a :: rest }) hg hsize T L Z LZ M LM (P1 :: Ps)
    (fun P hP => by rcases List.mem_cons.mp hP with rfl | hP; exact L1; exact hL P hP) ⟨hlink1, hlink⟩ (u0 := u0) (sen := sen) (self := a) hmsg (cell := freshCell P1.m.cls kX) (cellS := cellS)
    hcell (fun _ => by simp) (by simp) rfl rfl hsel0 hselF hcellS hneS hknownS (by rw [hkeep _ (hout' _)]; exact hu0) (by rw [hkeep _ (hout' _)]; exact hsen)
    (Takes.of_laid hk hord tyC (by rw [Y.causeType]; rfl)) (Takes.of_laid hk hord tyS (by rw [Y.stackType]; exact fits_refV_array _ u0)) (Takes.of_laid hk hord tyP (by rw [Y.suppType]; exact fits_refV_object _ sen))
    (Takes.of_laid hk hord tyM (by rw [Y.msgType]; exact fits_refV_object _ ⟨msg, hmsg⟩)) Y.objLocals hskip htr [] hd6
    (by simp only [List.length_cons, hlen]; omega) (by simp only [List.length_cons, hlen]; exact hRlocals)
  have hlt : a < ((W.setVm vm₁).setVm vm₂).heap.size := (Array.getElem?_eq_some_iff.mp hcell).1
  refine ⟨(W.setVm vm₁).setVm vm₂, _, _, X₂, fun y hy => ?_, hlt, rfl, rfl, fun target hwalk => st1 _ (fun acts => ?_)⟩
  · simp only [List.mem_cons, List.not_mem_nil, or_false] at hy
    rcases hy with rfl | rfl | rfl | rfl | rfl <;> rfl
  · rw [doInvoke_state]
    exact st2 _ hwalk
set_option maxHeartbeats 1000000 in
theorem vx_ctorMade0 (X : Stand p l e R s m₀ args below meth c W locs cells slots) (hexec : p.tables.exec = Jvm.exec) (htr : e.platform.stackTraces = false) {own cls : String} {names : List String} {ic : Nat}
    (hown : s.vm.findClass own = some m₀.cls) (hcls : Bundle.fit cls = true) (hnames : ∀ n ∈ names, Bundle.fit n = true)
    (h : ∀ a ∈ Bundle.ownAtoms0 own ic cls names, a.before args s = true)
    (hlocs : ∀ x ∈ locs, ∀ cell, s.heap[x.base]? = some cell → cell.vm.isStatics = false)
    {a : Addr} {cX : ClassId} {kX : Class} (hfoundX : s.vm.findClass cls = some cX) (hkX : s.vm.classes[cX]? = some kX) (hcell : W.heap[a]? = some (freshCell cX kX)) (hnew : s.heap.size ≤ a)
    {g : JFrame} (hg : g.method = m₀) (hsize : g.locals.size = c.maxLocals) {rest : List Value} (hstack : g.stack = .ref a :: .ref a :: rest)
    (hd6 : decode c.code g.pc = .ok (.invokespecial ic, 3))
    (hRframes : names.length + 3 < R.frames) (hRlocals : 2 * g.monitorRoom + ((Value.ref a :: rest).map fun v => v.category).sum + (13 * (names.length + 1) + 41) ≤ R.locals) :
    ∃ (V : State) (ce : Cell) (L : List Loc), Stand p l e R s m₀ args below meth c (V.setCell a ce) (locs ++ L) cells slots ∧ (∀ y ∈ L, y.base = a) ∧ a < V.heap.size ∧ ce.cls = cX ∧ ce.vm = .none ∧
      ∀ target, Steps p.tables e below ((V.setCell a ce).setTop { g with stack := .ref a :: rest, pc := g.pc + 3 }) target → Steps p.tables e below (W.setTop g) target := by
  have howns : e.platform.frameOwnsMonitors = true := by rw [X.admits.platform]
  have hfin : e.platform.finalization = false := by rw [X.admits.platform]
  have hpl : e.platform.magicAccessors = ({} : Platform).magicAccessors := by rw [X.admits.platform]
  have a' : ∀ x, x ∈ Bundle.ownAtoms0 own ic cls names → x.holds args s none s [] = true := fun x hx => h x hx
  obtain ⟨T, Z, L, LZ, Y⟩ := ThrowableC.of_atoms (args := args) howns hfin hpl (fun x hx => h x (by simp [Bundle.ownAtoms0, hx]))
  obtain ⟨P1, Ps, hlen, L1, hL, hP1m, hlink1, hlink⟩ := Bundle.chain0 (args := args) hpl Y.init0 names cls hcls hnames (fun x hx => h x (by simp [Bundle.ownAtoms0, hx]))
  have hfound : s.vm.findClass cls = some P1.m.cls := findClass_of_methodNamed hP1m
  cases Option.some.inj (hfoundX.symm.trans hfound)
  obtain ⟨c1, kX', hc1, hk, hord, -, -, hn6⟩ := Cond.instantiable_spec (a' (.instantiable cls 6) (by simp [Bundle.ownAtoms0]))
  cases Option.some.inj (hc1.symm.trans hfound)
  cases Option.some.inj (hkX.symm.trans hk)
  have hsel0 : selectMethod e.platform s.vm P1.m.cls T.fill0 = .method T.fill0 := by
    obtain ⟨c2, r2, m2, q1, q2, q3, q4, -⟩ := Cond.selects_spec (a' (.selects cls Bundle.tFill0 Bundle.tFill0) (by simp [Bundle.ownAtoms0]))
    cases Option.some.inj (q1.symm.trans hfound)
    cases Option.some.inj (q2.symm.trans (State.methodFound?_of_named Y.fill0 (by decide)))
    cases Option.some.inj (q3.symm.trans Y.fill0)
    rw [Launch.admits_selectMethod X.admits]; exact q4
  have hselF : selectMethod e.platform s.vm P1.m.cls T.fill = .method T.fill := by
    obtain ⟨c2, r2, m2, q1, q2, q3, q4, -⟩ := Cond.selects_spec (a' (.selects cls Bundle.tFill Bundle.tFill) (by simp [Bundle.ownAtoms0]))
    cases Option.some.inj (q1.symm.trans hfound)
    cases Option.some.inj (q2.symm.trans (State.methodFound?_of_named Y.fill (by decide)))
    cases Option.some.inj (q3.symm.trans Y.fill)
    rw [Launch.admits_selectMethod X.admits]; exact q4
  obtain ⟨cellS0, hcS0, hiss⟩ := Y.statics
  obtain ⟨u0, hu0⟩ := Cond.staticRefV Y.unassigned L.unassignedStatic L.statics hcS0 hiss (a' (.isRef (.static Bundle.tN "UNASSIGNED_STACK" Bundle.steD)) (by simp [Bundle.ownAtoms0]))
  obtain ⟨sen, hsen⟩ := Cond.staticRefV Y.sentinel L.sentinelStatic L.statics hcS0 hiss (a' (.isRef (.static Bundle.tN "SUPPRESSED_SENTINEL" Bundle.listD)) (by simp [Bundle.ownAtoms0]))
  obtain ⟨ci198, i198, fB, hk198, hg198, ha198, hsB, -, hnB, htB, hffB⟩ := Cond.ownField (t := .object "java/lang/Object") Y.found L.cls (by decide +kernel) (a' (.fieldLink Bundle.tN 198 Bundle.tN "backtrace" "Ljava/lang/Object;") (by simp [Bundle.ownAtoms0])) (a' (.lays Bundle.tN Bundle.tN "backtrace" "Ljava/lang/Object;") (by simp [Bundle.ownAtoms0])) e.platform hpl
  obtain ⟨cellS, hcS', heS, -, hkeep⟩ := X.same.2.2.2.2.2 T.aS cellS0 hcS0
  have hcellS : W.heap[T.aS]? = some cellS := hcS'
  have hout' : ∀ i, (⟨T.aS, i⟩ : Loc) ∉ locs := fun i hmem => by
    have := hlocs _ hmem cellS0 hcS0
    rw [hiss] at this; cases this
  have hknownS : cellS.vm ≠ .unknown := by
    rw [heS]; intro hu
    rw [show cellS0.vm = .unknown from hu] at hiss
    cases hiss
  have hneS : T.aS ≠ a := Nat.ne_of_lt (Nat.lt_of_lt_of_le (Array.getElem?_eq_some_iff.mp hcS0).1 hnew)
  obtain ⟨iM, hffM⟩ := Y.msg
  obtain ⟨tyC, dC, hdC, hdnC⟩ := Cond.laysAt hfound hk Y.cause (a' (.lays cls Bundle.tN "cause" "Ljava/lang/Throwable;") (by simp [Bundle.ownAtoms0]))
  obtain ⟨tyS, dS, hdS, hdnS⟩ := Cond.laysAt hfound hk Y.stack (a' (.lays cls Bundle.tN "stackTrace" Bundle.steD) (by simp [Bundle.ownAtoms0]))
  obtain ⟨tyP, dP, hdP, hdnP⟩ := Cond.laysAt hfound hk Y.supp (a' (.lays cls Bundle.tN "suppressedExceptions" Bundle.listD) (by simp [Bundle.ownAtoms0]))
  obtain ⟨tyM, dM, hdM, hdnM⟩ := Cond.laysAt hfound hk hffM (a' (.lays cls Bundle.tN "detailMessage" "Ljava/lang/String;") (by simp [Bundle.ownAtoms0]))
  obtain ⟨tyB, dB, hdB, hdnB⟩ := Cond.laysAt hfound hk hffB (a' (.lays cls Bundle.tN "backtrace" "Ljava/lang/Object;") (by simp [Bundle.ownAtoms0]))
  have bC := Cond.laysApart hdB hdC hdnB hdnC (by rw [hnB, Y.causeName]; decide)
  have bS := Cond.laysApart hdB hdS hdnB hdnS (by rw [hnB, Y.stackName]; decide)
  have bP := Cond.laysApart hdB hdP hdnB hdnP (by rw [hnB, Y.suppName]; decide)
  have hskip : SkipFacts T e.platform s (fun u => u) u0 ((preparedCellV T.toThrowableT (freshCell P1.m.cls kX) a u0 sen).withEntry W.cur) :=
    ⟨{ ci198 := ci198, i198 := i198, fBack := fB }, ⟨hk198, hg198, ha198, hsB⟩, by
      have := fresh_default (c := P1.m.cls) tyB
      rw [htB] at this
      simpa [preparedCellV, Cell.setSlot, Cell.withEntry, Array.getElem?_setIfInBounds, bC, bS, bP, bC.symm, bS.symm, bP.symm, defaultValue] using this, fun _ _ => rfl⟩
  obtain ⟨tm, methC, cdC, kC, vm₁, hnC, -, -, -, -, -, -, -, hW₁, st1⟩ := Steps.initCold (tb := p.tables) (e := e) (below := below) (s := s) (U := W) X.here hexec X.warmed hpl hown (t := Bundle.init0 cls) rfl rfl (Bundle.fit_spec hcls).2
    (a' (.methodLink own ic (Bundle.init0 cls)) (by simp [Bundle.ownAtoms0])) (h (.instanceMethod (Bundle.init0 cls)) (by cases names <;> simp [Bundle.ownAtoms0, Bundle.chain0Atoms, Bundle.passAtoms])) (bytes := Bundle.five) (maxL := 1) (h (.code (Bundle.init0 cls) Bundle.five 1 none) (by cases names <;> simp [Bundle.ownAtoms0, Bundle.chain0Atoms, Bundle.passAtoms]))
    (f := g) hg (a := a) (rest := .ref a :: rest) hstack hd6
  cases Option.some.inj (hnC.symm.trans hP1m)
  have X₁ := X.noted hW₁
  obtain ⟨vm₂, X₂, st2⟩ := X₁.ctorPlainOffV hexec (g := { g with stack := .ref a :: rest }) hg hsize T L Z LZ (P1 :: Ps)
    (fun P hP => by rcases List.mem_cons.mp hP with rfl | hP; exact L1; exact hL P hP) ⟨hlink1, hlink⟩ (u0 := u0) (sen := sen) (self := a) (cell := freshCell P1.m.cls kX) (cellS := cellS)
    hcell (fun _ => by simp) (by simp) rfl rfl hsel0 hselF hcellS hneS hknownS (by rw [hkeep _ (hout' _)]; exact hu0) (by rw [hkeep _ (hout' _)]; exact hsen)
    (Takes.of_laid hk hord tyC (by rw [Y.causeType]; rfl)) (Takes.of_laid hk hord tyS (by rw [Y.stackType]; exact fits_refV_array _ u0)) (Takes.of_laid hk hord tyP (by rw [Y.suppType]; exact fits_refV_object _ sen)) Y.objLocals hskip htr [] hd6
    (by simp only [List.length_cons, hlen]; omega) (by simp only [List.length_cons, hlen]; exact hRlocals)
  have hlt : a < ((W.setVm vm₁).setVm vm₂).heap.size := (Array.getElem?_eq_some_iff.mp hcell).1
  refine ⟨(W.setVm vm₁).setVm vm₂, _, _, X₂, fun y hy => ?_, hlt, rfl, rfl, fun target hwalk => st1 _ (fun acts => ?_)⟩
  · simp only [List.mem_cons, List.not_mem_nil, or_false] at hy
    rcases hy with rfl | rfl | rfl | rfl <;> rfl
  · rw [doInvoke_state]
    exact st2 _ hwalk
end VXK
section VXK2
variable {p : Program} {l : Launch} {e : Env} {R : Room} {s : State} {m : MethodId} {args : Array Value} {below : List Frame} {meth : Method} {c : Code} {H : Heap} {locs : List Loc} {cells slots : Nat} {Q : State → Prop}
variable {ls : Array Slot} {rest : List Value} {D : va_G} {cl : List vw_C} {tys : List (ClassId × FieldType)} {ws : va_W}
/-- 'new E("text")' that isn't thrown at once: the object goes on the stack -/
theorem vx_makeS {cc : ByteArray} {pc : Nat} (hexec : p.tables.exec = Jvm.exec) (hb : c.code = cc) (hl : l.stackTraces = false) {own cls text : String} {names : List String} {ik is ic sa ci : Nat} {A : Nat → Prop} {T0 : u_T}
    (hown : s.vm.findClass own = some m.cls) (hcls : Bundle.fit cls = true) (hnames : ∀ n ∈ names, Bundle.fit n = true)
    (hk : (Cond.classLink own ik cls).before args s = true) (hini : (Cond.initialized cls).before args s = true) (hstr : vk_R own is text sa s) (hat : ∀ w ∈ vx_atS own ic cls names, w.before args s = true)
    (hgood : ∀ w ∈ Cond.classLink own ik cls :: Cond.initialized cls :: vx_atS own ic cls names, vx_ot w = true)
    (hU : vx_Zq Bundle.tN "UNASSIGNED_STACK" Bundle.steD A s s.heap) (hN : vx_Zq Bundle.tN "SUPPRESSED_SENTINEL" Bundle.listD A s s.heap) (hS : va_S A s.heap H locs) (hsize : ls.size = c.maxLocals)
    (d0 : decode cc pc = .ok (.new ik, 3)) (d3 : decode cc (pc + 3) = .ok (.dup, 1)) (d4 : decode cc (pc + 4) = .ok (.ldc is, 2)) (d6 : decode cc (pc + 6) = .ok (.invokespecial ic, 3))
    (hK : va_K D cl tys s) (hP : va_P D cl ws H) (hD : va_D A ws) (hA : ∀ q, s.heap.size ≤ q → A q) (hc : cl[ci]? = some (cls, T0, 0))
    (hRframes : names.length + 3 < R.frames) (hRlocals : (rest.map fun v => v.category).sum + (13 * (names.length + 1) + 43) ≤ R.locals) (hRcells : cells + 1 ≤ R.cells) (hRslots : slots + 6 ≤ R.slots)
    (kk : ∀ (q : Nat) (H1 : Heap), va_P D cl (ws ++ [(q, .inr (ci, []))]) H1 → va_D A (ws ++ [(q, .inr (ci, []))]) → va_S A s.heap H1 locs → W p l e R s m args below meth c H1 locs (cells + 1) (slots + 6) Q (F0 m (pc + 9) ls (.ref q :: rest))) :
    W p l e R s m args below meth c H locs cells slots Q (F0 m pc ls rest) := by
  intro T hT X
  subst hT
  have htr : e.platform.stackTraces = false := (show e.platform.stackTraces = l.stackTraces by rw [X.admits.platform]).trans hl
  have Y := vx_rebase X (R' := { frames := R.frames, locals := R.locals, cells := 1, slots := 6 }) (Nat.le_refl _) (Nat.le_refl _) hRcells hRslots
  obtain ⟨s', hA'⟩ : ∃ z, z = (T.setVm s.vm).setFrames (.invoking m args :: below) := ⟨_, rfl⟩
  rw [← hA'] at Y
  have hvm : s'.vm = s.vm := by rw [hA']; rfl
  have hhp : s'.heap = T.heap := by rw [hA']; rfl
  have hW0 : s.WarmedH s'.vm := by rw [hvm]; exact State.WarmedH.refl s
  have hat' : ∀ w ∈ vx_atS own ic cls names, w.before args s' = true := fun w hw => vx_ot_at hW0 hvm.symm (hgood w (List.mem_cons_of_mem _ (List.mem_cons_of_mem _ hw))) (hat w hw)
  have hk' : (Cond.classLink own ik cls).before args s' = true := vx_ot_at hW0 hvm.symm (hgood _ List.mem_cons_self) hk
  have hini' : (Cond.initialized cls).before args s' = true := vx_ot_at hW0 hvm.symm (hgood _ (List.mem_cons_of_mem _ List.mem_cons_self)) hini
  have hU' : vx_Zq Bundle.tN "UNASSIGNED_STACK" Bundle.steD A s' s'.heap := by rw [hhp]; exact vx_Zq.moved hW0.alike (hU.kept hS.2.1)
  have hN' : vx_Zq Bundle.tN "SUPPRESSED_SENTINEL" Bundle.listD A s' s'.heap := by rw [hhp]; exact vx_Zq.moved hW0.alike (hN.kept hS.2.1)
  have h : ∀ w ∈ Bundle.ownAtoms own ic cls names, w.before args s' = true := vx_own hat' (vx_isRefq hU'.1) (vx_isRefq hN'.1) hU'.2.word hN'.2.word
  have hown' : s'.vm.findClass own = some m.cls := by rw [hvm]; exact hown
  have hins : (Cond.instantiable cls 6).before args s' = true := h _ (by simp [Bundle.ownAtoms])
  obtain ⟨vm₁, cX, kX, hfX, hkX, -, -, X₁, st1⟩ := Y.newCold hexec (own := own) (C := cls) (index := ik) (n := 6) hown' hk' hins hini'
    (g := F0 m pc ls rest) rfl (by rw [hb]; exact d0) (Nat.le_refl _) (Nat.le_refl _)
  generalize hT1 : (T.setVm vm₁).pushCell { cls := cX, slots := kX.instanceTypes.map defaultValue, vm := .none } = T1 at X₁ st1
  have hcat : (Value.ref T.heap.size).category = 1 := rfl
  have hcellA : T1.heap[T.heap.size]? = some (freshCell cX kX) := by rw [← hT1]; exact State.heap_pushCell_size _ _
  have d3' : decode c.code (pc + 3) = .ok (.dup, 1) := by rw [hb]; exact d3
  have d4' : decode c.code (pc + 4) = .ok (.ldc is, 2) := by rw [hb]; exact d4
  have hstr' : vk_R own is text sa s' := vk_R.warm hW0 hstr
  obtain ⟨V, ce, L, Z, hL, hlt, hcl9, hvm9, st⟩ := vx_ctorMadeS X₁ hexec htr (own := own) (cls := cls) (names := names) (ic := ic) hown' hcls hnames h (fun x hx => nomatch hx) hfX hkX hcellA (by rw [hhp]; exact Nat.le_refl _) (msg := .ref sa) rfl
    (g := { method := m, pc := pc + 6, locals := ls, stack := .ref sa :: .ref T.heap.size :: .ref T.heap.size :: rest, locked := none }) rfl hsize (rest := rest) rfl
    (by rw [hb]; exact d6) hRframes (by simp only [List.map_cons, List.sum_cons, hcat]; omega)
  have Z0 := Stand.forget (locs := []) Z (fun y hy => by rw [hL y hy, hhp]; exact Nat.le_refl _)
  obtain ⟨f1, f2⟩ := vx_frame Z0.same
  rw [hhp] at f1 f2
  have hcid : ce.cls = D.1 ci := by
    rw [hcl9]
    have h1 := (hK.1 ci _ hc).2.1
    rw [hvm] at hfX
    exact Option.some.inj (hfX.symm.trans h1)
  have hh : (V.setCell T.heap.size ce).heap[T.heap.size]? = some ce := heapAt_setCell_self (s := V) ce hlt
  subst hA'
  have X5 := vx_back9 X Y Z0
  have X6 : Stand p l e R s m args below meth c (V.setCell T.heap.size ce) locs (cells + 1) (slots + 6) := { X5 with same := X5.same.mono (by omega) (by omega) }
  have hk9 : ∀ (k : Nat) (x : Nat × va_E), ws[k]? = some x → (V.setCell T.heap.size ce).heap[x.1]? = T.heap[x.1]? := fun k x hx => f2 x.1 ((hP k x hx).lt) (fun z hz => nomatch hz)
  obtain ⟨t, a1, b1⟩ := kk T.heap.size (V.setCell T.heap.size ce).heap ((hP.kept hk9).app (fun k x hx => by
      have hz : k < 1 := (List.getElem?_eq_some_iff.mp hx).1
      rw [show k = 0 by omega] at hx
      cases hx
      exact ⟨_, hc, ce, hh, hcid, hvm9, fun k hk => absurd hk (Nat.not_lt_zero k)⟩)) (hD.push hP rfl (hA _ hS.1)) ⟨Nat.le_trans hS.1 f1, fun q h1 h2 => (f2 q (Nat.lt_of_lt_of_le h1 hS.1) (fun z hz => nomatch hz)).trans (hS.2.1 q h1 h2), hS.2.2⟩ _ rfl X6
  refine ⟨t, st1 _ ?_, b1⟩
  show Steps p.tables e below (T1.setTop { method := m, pc := pc + 3, locals := ls, stack := .ref T.heap.size :: rest, locked := none }) _
  jvm_step X₁.here [X₁.here.top, hexec, d3', Value.category]
  exact X₁.ldcString hexec (own := own) (text := text) (index := is) (a := sa) hown' hstr'.1 hstr'.2
    (g := { method := m, pc := pc + 4, locals := ls, stack := .ref T.heap.size :: .ref T.heap.size :: rest, locked := none }) rfl d4' _ (st _ a1)
/-- 'new E()' that isn't thrown at once: the object goes on the stack -/
theorem vx_make0 {cc : ByteArray} {pc : Nat} (hexec : p.tables.exec = Jvm.exec) (hb : c.code = cc) (hl : l.stackTraces = false) {own cls : String} {names : List String} {ik ic ci : Nat} {A : Nat → Prop} {T0 : u_T}
    (hown : s.vm.findClass own = some m.cls) (hcls : Bundle.fit cls = true) (hnames : ∀ n ∈ names, Bundle.fit n = true)
    (hk : (Cond.classLink own ik cls).before args s = true) (hini : (Cond.initialized cls).before args s = true) (hat : ∀ w ∈ vx_at0 own ic cls names, w.before args s = true)
    (hgood : ∀ w ∈ Cond.classLink own ik cls :: Cond.initialized cls :: vx_at0 own ic cls names, vx_ot w = true)
    (hU : vx_Zq Bundle.tN "UNASSIGNED_STACK" Bundle.steD A s s.heap) (hN : vx_Zq Bundle.tN "SUPPRESSED_SENTINEL" Bundle.listD A s s.heap) (hS : va_S A s.heap H locs) (hsize : ls.size = c.maxLocals)
    (d0 : decode cc pc = .ok (.new ik, 3)) (d3 : decode cc (pc + 3) = .ok (.dup, 1)) (d4 : decode cc (pc + 4) = .ok (.invokespecial ic, 3))
    (hK : va_K D cl tys s) (hP : va_P D cl ws H) (hD : va_D A ws) (hA : ∀ q, s.heap.size ≤ q → A q) (hc : cl[ci]? = some (cls, T0, 0))
    (hRframes : names.length + 3 < R.frames) (hRlocals : (rest.map fun v => v.category).sum + (13 * (names.length + 1) + 42) ≤ R.locals) (hRcells : cells + 1 ≤ R.cells) (hRslots : slots + 6 ≤ R.slots)
    (kk : ∀ (q : Nat) (H1 : Heap), va_P D cl (ws ++ [(q, .inr (ci, []))]) H1 → va_D A (ws ++ [(q, .inr (ci, []))]) → va_S A s.heap H1 locs → W p l e R s m args below meth c H1 locs (cells + 1) (slots + 6) Q (F0 m (pc + 7) ls (.ref q :: rest))) :
    W p l e R s m args below meth c H locs cells slots Q (F0 m pc ls rest) := by
  intro T hT X
  subst hT
  have htr : e.platform.stackTraces = false := (show e.platform.stackTraces = l.stackTraces by rw [X.admits.platform]).trans hl
  have Y := vx_rebase X (R' := { frames := R.frames, locals := R.locals, cells := 1, slots := 6 }) (Nat.le_refl _) (Nat.le_refl _) hRcells hRslots
  obtain ⟨s', hA'⟩ : ∃ z, z = (T.setVm s.vm).setFrames (.invoking m args :: below) := ⟨_, rfl⟩
  rw [← hA'] at Y
  have hvm : s'.vm = s.vm := by rw [hA']; rfl
  have hhp : s'.heap = T.heap := by rw [hA']; rfl
  have hW0 : s.WarmedH s'.vm := by rw [hvm]; exact State.WarmedH.refl s
  have hat' : ∀ w ∈ vx_at0 own ic cls names, w.before args s' = true := fun w hw => vx_ot_at hW0 hvm.symm (hgood w (List.mem_cons_of_mem _ (List.mem_cons_of_mem _ hw))) (hat w hw)
  have hk' : (Cond.classLink own ik cls).before args s' = true := vx_ot_at hW0 hvm.symm (hgood _ List.mem_cons_self) hk
  have hini' : (Cond.initialized cls).before args s' = true := vx_ot_at hW0 hvm.symm (hgood _ (List.mem_cons_of_mem _ List.mem_cons_self)) hini
  have hU' : vx_Zq Bundle.tN "UNASSIGNED_STACK" Bundle.steD A s' s'.heap := by rw [hhp]; exact vx_Zq.moved hW0.alike (hU.kept hS.2.1)
  have hN' : vx_Zq Bundle.tN "SUPPRESSED_SENTINEL" Bundle.listD A s' s'.heap := by rw [hhp]; exact vx_Zq.moved hW0.alike (hN.kept hS.2.1)
  have h : ∀ w ∈ Bundle.ownAtoms0 own ic cls names, w.before args s' = true := vx_own hat' (vx_isRefq hU'.1) (vx_isRefq hN'.1) hU'.2.word hN'.2.word
  have hown' : s'.vm.findClass own = some m.cls := by rw [hvm]; exact hown
  have hins : (Cond.instantiable cls 6).before args s' = true := h _ (by simp [Bundle.ownAtoms0])
  obtain ⟨vm₁, cX, kX, hfX, hkX, -, -, X₁, st1⟩ := Y.newCold hexec (own := own) (C := cls) (index := ik) (n := 6) hown' hk' hins hini'
    (g := F0 m pc ls rest) rfl (by rw [hb]; exact d0) (Nat.le_refl _) (Nat.le_refl _)
  generalize hT1 : (T.setVm vm₁).pushCell { cls := cX, slots := kX.instanceTypes.map defaultValue, vm := .none } = T1 at X₁ st1
  have hcat : (Value.ref T.heap.size).category = 1 := rfl
  have hcellA : T1.heap[T.heap.size]? = some (freshCell cX kX) := by rw [← hT1]; exact State.heap_pushCell_size _ _
  have d3' : decode c.code (pc + 3) = .ok (.dup, 1) := by rw [hb]; exact d3
  obtain ⟨V, ce, L, Z, hL, hlt, hcl9, hvm9, st⟩ := vx_ctorMade0 X₁ hexec htr (own := own) (cls := cls) (names := names) (ic := ic) hown' hcls hnames h (fun x hx => nomatch hx) hfX hkX hcellA (by rw [hhp]; exact Nat.le_refl _)
    (g := { method := m, pc := pc + 4, locals := ls, stack := .ref T.heap.size :: .ref T.heap.size :: rest, locked := none }) rfl hsize (rest := rest) rfl
    (by rw [hb]; exact d4) hRframes (by simp only [List.map_cons, List.sum_cons, hcat]; omega)
  have Z0 := Stand.forget (locs := []) Z (fun y hy => by rw [hL y hy, hhp]; exact Nat.le_refl _)
  obtain ⟨f1, f2⟩ := vx_frame Z0.same
  rw [hhp] at f1 f2
  have hcid : ce.cls = D.1 ci := by
    rw [hcl9]
    have h1 := (hK.1 ci _ hc).2.1
    rw [hvm] at hfX
    exact Option.some.inj (hfX.symm.trans h1)
  have hh : (V.setCell T.heap.size ce).heap[T.heap.size]? = some ce := heapAt_setCell_self (s := V) ce hlt
  subst hA'
  have X5 := vx_back9 X Y Z0
  have X6 : Stand p l e R s m args below meth c (V.setCell T.heap.size ce) locs (cells + 1) (slots + 6) := { X5 with same := X5.same.mono (by omega) (by omega) }
  have hk9 : ∀ (k : Nat) (x : Nat × va_E), ws[k]? = some x → (V.setCell T.heap.size ce).heap[x.1]? = T.heap[x.1]? := fun k x hx => f2 x.1 ((hP k x hx).lt) (fun z hz => nomatch hz)
  obtain ⟨t, a1, b1⟩ := kk T.heap.size (V.setCell T.heap.size ce).heap ((hP.kept hk9).app (fun k x hx => by
      have hz : k < 1 := (List.getElem?_eq_some_iff.mp hx).1
      rw [show k = 0 by omega] at hx
      cases hx
      exact ⟨_, hc, ce, hh, hcid, hvm9, fun k hk => absurd hk (Nat.not_lt_zero k)⟩)) (hD.push hP rfl (hA _ hS.1)) ⟨Nat.le_trans hS.1 f1, fun q h1 h2 => (f2 q (Nat.lt_of_lt_of_le h1 hS.1) (fun z hz => nomatch hz)).trans (hS.2.1 q h1 h2), hS.2.2⟩ _ rfl X6
  refine ⟨t, st1 _ ?_, b1⟩
  show Steps p.tables e below (T1.setTop { method := m, pc := pc + 3, locals := ls, stack := .ref T.heap.size :: rest, locked := none }) _
  jvm_step X₁.here [X₁.here.top, hexec, d3', Value.category]
  exact st _ a1
/-- 'throw x' of an object that was made before -/
theorem vx_athrow {cc : ByteArray} {pc : Nat} (hexec : p.tables.exec = Jvm.exec) (hb : c.code = cc) {q : Addr} (hdg : decode cc pc = .ok (.athrow, 1)) (k : vx_W p l e R s m args below meth c H locs cells slots Q (F0 m pc ls rest) q) : W p l e R s m args below meth c H locs cells slots Q (F0 m pc ls (.ref q :: rest)) := by
  intro T hT X
  obtain ⟨t, st, hq⟩ := k T hT X
  refine ⟨t, ?_, hq⟩
  have hdg' : decode c.code pc = .ok (.athrow, 1) := by rw [hb]; exact hdg
  jvm_step X.here [X.here.top, hexec, hdg', athrow.wp_sem]
  exact st
end VXK2
/-! ===== END ===== -/
/-! ===== BEGIN a constructor that throws (launches without stack traces) ===== -/
section VXIA
variable {p : Program} {l : Launch} {e : Env} {R : Room} {s : State} {m : MethodId} {args : Array Value} {below : List Frame} {meth : Method} {c : Code} {T : State} {locs : List Loc} {cells slots : Nat}
theorem vx_callI (X : Stand p l e R s m args below meth c T locs cells slots) (hexec : p.tables.exec = Jvm.exec) {own : String} {index : Nat} {y : MethodName} {bytes : ByteArray} {maxL : Nat}
    (hown : s.vm.findClass own = some m.cls) (hy1 : y.name = "<init>") (hlink : (Cond.methodLink own index y).before args s = true) (hinst : (Cond.instanceMethod y).before args s = true)
    (hcode : (Cond.code y bytes maxL none).before args s = true) (hy : y.cls ≠ "java/lang/invoke/MethodHandle" ∧ y.cls ≠ "java/lang/invoke/VarHandle")
    {W9 : Nat} {Pre : Pt → Array Value → Prop} {Post : Pt → Array Value → Option Value → Pt → Prop} {PostX : Pt → Array Value → Addr → Pt → Prop} (hK : vx_Back l R p e below s args y 3 W9 Pre Post PostX)
    {g : JFrame} (hg : g.method = m) (hsize : g.locals.size = c.maxLocals) {a : Addr} {argsL rest : List Value} (hlen : ∀ sig, parseMethodDescriptor y.desc = some sig → argsL.length = sig.parameters.length)
    (hstack : g.stack = argsL.reverse ++ .ref a :: rest) (hW : 2 * g.monitorRoom + (rest.map fun v => v.category).sum ≤ W9) (hdg : decode c.code g.pc = .ok (.invokespecial index, 3))
    (hpre : ∀ vm₁, s.WarmedH vm₁ → Pre ⟨T.setVm vm₁, locs, cells, slots⟩ (Value.ref a :: argsL).toArray) :
    (∃ (v : Option Value) (vm₁ : Vm) (B : Pt), s.WarmedH vm₁ ∧ Stand p l e R s m args below meth c B.U B.locs B.cells B.slots ∧ Post ⟨T.setVm vm₁, locs, cells, slots⟩ (Value.ref a :: argsL).toArray v B ∧
      ∀ target, Steps p.tables e below (B.U.setTop { g with pc := g.pc + 3, stack := v.toList ++ rest }) target → Steps p.tables e below (T.setTop g) target) ∨
    (∃ (q : Addr) (vm₁ : Vm) (B : Pt), s.WarmedH vm₁ ∧ Stand p l e R s m args below meth c B.U B.locs B.cells B.slots ∧ PostX ⟨T.setVm vm₁, locs, cells, slots⟩ (Value.ref a :: argsL).toArray q B ∧
      Steps p.tables e below (T.setTop g) ((B.U.setTop { g with stack := rest }).pushFrame (.throwing q))) := by
  subst hg
  have hpl : e.platform.magicAccessors = ({} : Platform).magicAccessors := by rw [X.admits.platform]
  obtain ⟨mk, methM, cM, kP, vm₁, hnamed, hmethM, hcodeM, -, hlocalsM, -, hkP, -, hW₁, hstep₁⟩ := Steps.initColdArgs (e := e) X.here hexec X.warmed hpl hown hy1 hy hlink hinst hcode (f := g) rfl hlen hstack hdg
  have X₁ := X.noted hW₁
  rcases hK g.method meth c ⟨T.setVm vm₁, locs, cells, slots⟩ { g with stack := rest } (.invokespecial index) mk (Value.ref a :: argsL).toArray X₁ rfl hsize hdg hW (X₁.named hnamed) (hpre vm₁ X₁.warmed) with ⟨v, B, X', hpost, hsteps⟩ | ⟨q, B, X', hpost, hsteps⟩
  · exact Or.inl ⟨v, vm₁, B, X₁.warmed, X', hpost, fun target h => hstep₁ _ fun acts => by rw [doInvoke_state]; exact hsteps.trans h⟩
  · exact Or.inr ⟨q, vm₁, B, X₁.warmed, X', hpost, hstep₁ _ fun acts => by rw [doInvoke_state]; exact hsteps⟩
end VXIA
section VXIB
variable {p : Program} {l : Launch} {e : Env} {R : Room} {s : State} {m : MethodId} {args : Array Value} {below : List Frame} {meth : Method} {c : Code} {H : Heap} {locs : List Loc} {cells slots : Nat}
variable {y : MethodName} {bytes cc : ByteArray} {maxL nL mc ms n index : Nat} {ret : Option FieldType} {ws : List Cond} {rm : Room} {Pc : Array Value → State → Prop} {Qc : Array Value → State → Outcome → State → Prop} {XC : String → State → State → Prop} {free : Addr → Prop} {Ts : List Cond} {own C : String} {b : Addr} {As rest : List Value} {g : JFrame}
theorem vx_runI (S : CallFix p m c cc nL s args Ts own) (hM : vx_Met l y ws rm Pc Qc XC mc ms free) (cw : CallB R s args own index y bytes maxL none ws rm mc ms n ∧ y.name = "<init>" ∧ (Cond.instanceMethod y).before args s = true) (hp : PreS s H Pc (.ref b :: As))
    (hg : g.method = m) (hn : As.length = n) (hsize : g.locals.size = nL) (hstack : g.stack = As.reverse ++ .ref b :: rest) (hW : 2 * g.monitorRoom + (rest.map fun v => v.category).sum ≤ 8) (hdg : decode cc g.pc = .ok (.invokespecial index, 3)) (hf : cells + mc ≤ R.cells ∧ slots + ms ≤ R.slots) :
    vx_Run p l e R s m args below meth c H locs cells slots mc ms g rest (Qc (Value.ref b :: As).toArray) XC free := by
  have hK : vx_Back l R p e below s args y 3 8 (PreOf R mc ms Pc) (PostOf Qc mc ms free) (vx_Post XC mc ms free) := vx_callBack cw.1 hM hp.1
  obtain ⟨⟨-, -, -, -, -, -, hcode, -, hy, hlen, hl⟩, hy1, hin⟩ := cw
  obtain ⟨hx, hb, hml, ho, -⟩ := S
  have hPc := hp.2
  intro T hT X
  rcases vx_callI X hx (bytes := bytes) (maxL := maxL) ho hy1 hl hin hcode hy hK hg (hsize.trans hml.symm) (a := b) (argsL := As) (rest := rest) (fun sig h => hn.trans (hlen sig h)) hstack hW (by rw [hb]; exact hdg)
    (fun vm₁ hW₁ => ⟨hf.1, hf.2, hPc (T.setVm vm₁) hT hW₁⟩) with ⟨v, vm₁, ⟨U', l2, c2, s2⟩, hW₁, X', ⟨g', mk, t, L, e1, e2, hq, h1, hL, h2, h3⟩, st⟩ | ⟨q, vm₁, ⟨U', l2, c2, s2⟩, hW₁, X', ⟨g', mk, t, L, E, ce, e1, e2, hq, hce, hcv, hcl, h1, hL, h2, h3⟩, st⟩
  · dsimp only [Pt.U, Pt.locs, Pt.cells, Pt.slots] at X' e1 e2 h1 h2 h3 st
    subst h1; subst h2; subst h3
    exact Or.inl ⟨v, (T.setVm vm₁).calling g' mk (Value.ref b :: As).toArray, t, U', L, hT, X', hL, e1, e2, hq, st⟩
  · dsimp only [Pt.U, Pt.locs, Pt.cells, Pt.slots] at X' e1 e2 h1 h2 h3 st hcl
    subst h1; subst h2; subst h3
    exact Or.inr ⟨q, (T.setVm vm₁).calling g' mk (Value.ref b :: As).toArray, t, U', L, E, ce, hT, X', hL, e1, e2, hq, hce, hcv, vx_cls hW₁ hcl, st⟩
end VXIB
/-! ===== END ===== -/
/-! ===== BEGIN a private constructor of a nest mate that throws ===== -/
section VXIC
variable {p : Program} {l : Launch} {e : Env} {R : Room} {s : State} {m : MethodId} {args : Array Value} {below : List Frame} {meth : Method} {c : Code} {T : State} {locs : List Loc} {cells slots : Nat}
theorem vx_callIN (X : Stand p l e R s m args below meth c T locs cells slots) (hexec : p.tables.exec = Jvm.exec) {own : String} {index : Nat} {host : String} {y : MethodName} {bytes : ByteArray} {maxL : Nat}
    (hown : s.vm.findClass own = some m.cls) (hy1 : y.name = "<init>") (hlink : (Cond.methodLinkNest own index y host).before args s = true) (hinst : (Cond.instanceMethod y).before args s = true)
    (hcode : (Cond.code y bytes maxL none).before args s = true) (hy : y.cls ≠ "java/lang/invoke/MethodHandle" ∧ y.cls ≠ "java/lang/invoke/VarHandle")
    {W9 : Nat} {Pre : Pt → Array Value → Prop} {Post : Pt → Array Value → Option Value → Pt → Prop} {PostX : Pt → Array Value → Addr → Pt → Prop} (hK : vx_Back l R p e below s args y 3 W9 Pre Post PostX)
    {g : JFrame} (hg : g.method = m) (hsize : g.locals.size = c.maxLocals) {a : Addr} {argsL rest : List Value} (hlen : ∀ sig, parseMethodDescriptor y.desc = some sig → argsL.length = sig.parameters.length)
    (hstack : g.stack = argsL.reverse ++ .ref a :: rest) (hW : 2 * g.monitorRoom + (rest.map fun v => v.category).sum ≤ W9) (hdg : decode c.code g.pc = .ok (.invokespecial index, 3))
    (hpre : ∀ vm₁, s.WarmedH vm₁ → Pre ⟨T.setVm vm₁, locs, cells, slots⟩ (Value.ref a :: argsL).toArray) :
    (∃ (v : Option Value) (vm₁ : Vm) (B : Pt), s.WarmedH vm₁ ∧ Stand p l e R s m args below meth c B.U B.locs B.cells B.slots ∧ Post ⟨T.setVm vm₁, locs, cells, slots⟩ (Value.ref a :: argsL).toArray v B ∧
      ∀ target, Steps p.tables e below (B.U.setTop { g with pc := g.pc + 3, stack := v.toList ++ rest }) target → Steps p.tables e below (T.setTop g) target) ∨
    (∃ (q : Addr) (vm₁ : Vm) (B : Pt), s.WarmedH vm₁ ∧ Stand p l e R s m args below meth c B.U B.locs B.cells B.slots ∧ PostX ⟨T.setVm vm₁, locs, cells, slots⟩ (Value.ref a :: argsL).toArray q B ∧
      Steps p.tables e below (T.setTop g) ((B.U.setTop { g with stack := rest }).pushFrame (.throwing q))) := by
  subst hg
  have hpl : e.platform.magicAccessors = ({} : Platform).magicAccessors := by rw [X.admits.platform]
  obtain ⟨mk, methM, cM, kP, vm₁, hnamed, hmethM, hcodeM, -, hlocalsM, -, hkP, -, hW₁, hstep₁⟩ := Steps.initColdArgsNest (e := e) X.here hexec X.warmed hpl hown hy1 hy hlink hinst hcode (f := g) rfl hlen hstack hdg
  have X₁ := X.noted hW₁
  rcases hK g.method meth c ⟨T.setVm vm₁, locs, cells, slots⟩ { g with stack := rest } (.invokespecial index) mk (Value.ref a :: argsL).toArray X₁ rfl hsize hdg hW (X₁.named hnamed) (hpre vm₁ X₁.warmed) with ⟨v, B, X', hpost, hsteps⟩ | ⟨q, B, X', hpost, hsteps⟩
  · exact Or.inl ⟨v, vm₁, B, X₁.warmed, X', hpost, fun target h => hstep₁ _ fun acts => by rw [doInvoke_state]; exact hsteps.trans h⟩
  · exact Or.inr ⟨q, vm₁, B, X₁.warmed, X', hpost, hstep₁ _ fun acts => by rw [doInvoke_state]; exact hsteps⟩
end VXIC
section VXID
variable {p : Program} {l : Launch} {e : Env} {R : Room} {s : State} {m : MethodId} {args : Array Value} {below : List Frame} {meth : Method} {c : Code} {H : Heap} {locs : List Loc} {cells slots : Nat}
theorem vx_runIN {y : MethodName} {bytes cc : ByteArray} {maxL nL mc ms n index : Nat} {ws : List Cond} {rm : Room} {Pc : Array Value → State → Prop} {Qc : Array Value → State → Outcome → State → Prop} {XC : String → State → State → Prop} {free : Addr → Prop} {Ts : List Cond} {own host : String} {b : Addr} {As rest : List Value} {g : JFrame}
    (S : CallFix p m c cc nL s args Ts own) (hM : vx_Met l y ws rm Pc Qc XC mc ms free) (cw : va_CN R s args own index y host bytes maxL none ws rm mc ms n ∧ y.name = "<init>" ∧ (Cond.instanceMethod y).before args s = true) (hp : PreS s H Pc (.ref b :: As))
    (hg : g.method = m) (hn : As.length = n) (hsize : g.locals.size = nL) (hstack : g.stack = As.reverse ++ .ref b :: rest) (hW : 2 * g.monitorRoom + (rest.map fun v => v.category).sum ≤ 8) (hdg : decode cc g.pc = .ok (.invokespecial index, 3)) (hf : cells + mc ≤ R.cells ∧ slots + ms ≤ R.slots) :
    vx_Run p l e R s m args below meth c H locs cells slots mc ms g rest (Qc (Value.ref b :: As).toArray) XC free := by
  obtain ⟨⟨⟨hrc, hrs, hfr, hlo, hws, hcw⟩, hcode, hini, hy, hlen, hl⟩, hx1, hx2⟩ := cw
  have hK : vx_Back l R p e below s args y 3 8 (PreOf R mc ms Pc) (PostOf Qc mc ms free) (vx_Post XC mc ms free) := vx_back (bytes := bytes) (maxL := maxL) (ret := none) hM hp.1 hrc hrs hfr hlo hws hcw (fun a' U hW => word_at hW (Or.inl (by first | rfl | simp [Cond.onTables, Cond.keeps, Cond.steady])) hini)
  obtain ⟨hx, hb, hml, ho, -⟩ := S
  have hPc := hp.2
  intro T hT X
  rcases vx_callIN X hx (bytes := bytes) (maxL := maxL) ho hx1 hl hx2 hcode hy hK hg (hsize.trans hml.symm) (a := b) (argsL := As) (rest := rest) (fun sig h => hn.trans (hlen sig h)) hstack hW (by rw [hb]; exact hdg)
    (fun vm₁ hW₁ => ⟨hf.1, hf.2, hPc (T.setVm vm₁) hT hW₁⟩) with ⟨v, vm₁, ⟨U', l2, c2, s2⟩, hW₁, X', ⟨g', mk, t, L, e1, e2, hq, h1, hL, h2, h3⟩, st⟩ | ⟨q, vm₁, ⟨U', l2, c2, s2⟩, hW₁, X', ⟨g', mk, t, L, E, ce, e1, e2, hq, hce, hcv, hcl, h1, hL, h2, h3⟩, st⟩
  · dsimp only [Pt.U, Pt.locs, Pt.cells, Pt.slots] at X' e1 e2 h1 h2 h3 st
    subst h1; subst h2; subst h3
    exact Or.inl ⟨v, (T.setVm vm₁).calling g' mk (Value.ref b :: As).toArray, t, U', L, hT, X', hL, e1, e2, hq, st⟩
  · dsimp only [Pt.U, Pt.locs, Pt.cells, Pt.slots] at X' e1 e2 h1 h2 h3 st hcl
    subst h1; subst h2; subst h3
    exact Or.inr ⟨q, (T.setVm vm₁).calling g' mk (Value.ref b :: As).toArray, t, U', L, E, ce, hT, X', hL, e1, e2, hq, hce, hcv, vx_cls hW₁ hcl, st⟩
end VXID
/-! ===== END ===== -/
/-! ===== BEGIN a method of a class above, found by the receiver, that may throw (follows va_callVU, va_runU of this kit) ===== -/
section
variable {p : Program} {l : Launch} {e : Env} {R : Room} {s : State} {m : MethodId} {args : Array Value} {below : List Frame} {meth : Method} {c : Code} {H : Heap} {locs : List Loc} {cells slots : Nat}
theorem vx_callVU {T : State} {locs : List Loc} {cells slots : Nat} (X : Stand p l e R s m args below meth c T locs cells slots) (hexec : p.tables.exec = Jvm.exec) {own C owner : String} {index : Nat} {x y : MethodName} {bytes : ByteArray} {maxL : Nat} {ret : Option FieldType}
    (hown : s.vm.findClass own = some m.cls) (hlink : (Cond.methodLink own index x).before args s = true) (hsame : (Cond.sameMethod x.cls owner x.name x.desc).before args s = true)
    (hd0 : va_Decl s ⟨owner, x.name, x.desc⟩) (howner : owner ≠ "java/lang/invoke/MethodHandle" ∧ owner ≠ "java/lang/invoke/VarHandle")
    (hsel : (Cond.selects C x y).before args s = true) (hinst : (Cond.instanceMethod y).before args s = true) (hcode : (Cond.code y bytes maxL ret).before args s = true)
    {W : Nat} {Pre : Pt → Array Value → Prop} {Post : Pt → Array Value → Option Value → Pt → Prop} {PostX : Pt → Array Value → Addr → Pt → Prop} (hK : vx_Back l R p e below s args y 3 W Pre Post PostX)
    {b : Addr} {cellB : Cell} (hcell : T.heap[b]? = some cellB) (hobj : cellB.vm.isStatics = false) (hcls : s.vm.findClass C = some cellB.cls)
    {g : JFrame} (hg : g.method = m) (hsize : g.locals.size = c.maxLocals) {argsL rest : List Value} (hlen : ∀ sig, parseMethodDescriptor x.desc = some sig → argsL.length = sig.parameters.length)
    (hstack : g.stack = argsL.reverse ++ .ref b :: rest) (hW : 2 * g.monitorRoom + (rest.map fun v => v.category).sum ≤ W) (hdg : decode c.code g.pc = .ok (.invokevirtual index, 3))
    (hpre : ∀ vm₁, s.WarmedH vm₁ → Pre ⟨T.setVm vm₁, locs, cells, slots⟩ (Value.ref b :: argsL).toArray) :
    (∃ (v : Option Value) (vm₁ : Vm) (B : Pt), s.WarmedH vm₁ ∧ Stand p l e R s m args below meth c B.U B.locs B.cells B.slots ∧ Post ⟨T.setVm vm₁, locs, cells, slots⟩ (Value.ref b :: argsL).toArray v B ∧
      ∀ target, Steps p.tables e below (B.U.setTop { g with pc := g.pc + 3, stack := v.toList ++ rest }) target → Steps p.tables e below (T.setTop g) target) ∨
    (∃ (q : Addr) (vm₁ : Vm) (B : Pt), s.WarmedH vm₁ ∧ Stand p l e R s m args below meth c B.U B.locs B.cells B.slots ∧ PostX ⟨T.setVm vm₁, locs, cells, slots⟩ (Value.ref b :: argsL).toArray q B ∧
      Steps p.tables e below (T.setTop g) ((B.U.setTop { g with stack := rest }).pushFrame (.throwing q))) := by
  obtain ⟨r0, r, hn, hrm, hstR, hsigR⟩ := hd0
  obtain ⟨cn, ck, r1, hcn, hck, hni, hf, hn1⟩ := Cond.sameMethod_found hsame
  cases hn.symm.trans hn1
  obtain ⟨mk, methM, hnamed, hmethM, -, habM⟩ := Cond.instanceMethod_spec hinst
  obtain ⟨c2, r2, m2, q1, q2, q3, q4, kP, hkP, hkPi⟩ := Cond.selects_spec hsel
  cases hcls.symm.trans q1
  cases hf.symm.trans q2
  cases hnamed.symm.trans q3
  have hselP : selectMethod e.platform s.vm cellB.cls r0 = .method mk := by rw [Launch.admits_selectMethod X.admits]; exact q4
  obtain ⟨vm₁, X₁, hstep₁⟩ := X.invokevirtualUp hexec hown hlink hsame howner hn hrm hstR (a := b) (cell := cellB) hcell
    (fun z h => by rw [h] at hobj; cases hobj) hselP hmethM habM hkP hkPi (g := g) hg (argsL := argsL) (rest := rest) (hlen _ hsigR) hstack hdg
  rcases hK m meth c ⟨T.setVm vm₁, locs, cells, slots⟩ { g with stack := rest } (.invokevirtual index) mk (Value.ref b :: argsL).toArray X₁ hg hsize hdg hW (X₁.named hnamed) (hpre vm₁ X₁.warmed) with ⟨v, B, X', hpost, hsteps⟩ | ⟨q, B, X', hpost, hsteps⟩
  · exact Or.inl ⟨v, vm₁, B, X₁.warmed, X', hpost, fun target h => hstep₁ _ fun acts => by rw [doInvoke_state]; exact hsteps.trans h⟩
  · exact Or.inr ⟨q, vm₁, B, X₁.warmed, X', hpost, hstep₁ _ fun acts => by rw [doInvoke_state]; exact hsteps⟩
theorem vx_runU {x y : MethodName} {bytes cc : ByteArray} {maxL nL mc ms n index : Nat} {ret : Option FieldType} {ws : List Cond} {rm : Room} {Pc : Array Value → State → Prop} {Qc : Array Value → State → Outcome → State → Prop} {XC : String → State → State → Prop} {free : Addr → Prop} {Ts : List Cond} {own C owner : String} {b : Addr} {As rest : List Value} {g : JFrame}
    (S : CallFix p m c cc nL s args Ts own) (hM : vx_Met l y ws rm Pc Qc XC mc ms free) (cw : va_CU R s args own C owner index x y bytes maxL ret ws rm mc ms n) (hp : PreV s H C b Pc As)
    (hg : g.method = m) (hn : As.length = n) (hsize : g.locals.size = nL) (hstack : g.stack = As.reverse ++ .ref b :: rest) (hW : 2 * g.monitorRoom + (rest.map fun v => v.category).sum ≤ 8) (hdg : decode cc g.pc = .ok (.invokevirtual index, 3)) (hf : cells + mc ≤ R.cells ∧ slots + ms ≤ R.slots) :
    vx_Run p l e R s m args below meth c H locs cells slots mc ms g rest (Qc (Value.ref b :: As).toArray) XC free := by
  obtain ⟨hrc, hrs, hfr, hlo, hws, hcw⟩ := cw.back
  have hini := cw.init
  have hK : vx_Back l R p e below s args y 3 8 (PreOf R mc ms Pc) (PostOf Qc mc ms free) (vx_Post XC mc ms free) := vx_back (bytes := bytes) (maxL := maxL) (ret := ret) hM hp.1 hrc hrs hfr hlo hws hcw (fun a' U hW => word_at hW (Or.inl (by first | rfl | simp [Cond.onTables, Cond.keeps, Cond.steady])) hini)
  obtain ⟨hx, hb, hml, ho, -⟩ := S
  obtain ⟨-, ⟨cellB, hcB, hoB, hclB⟩, hPc⟩ := hp
  intro T hT X
  rcases vx_callVU X hx (C := C) (owner := owner) (bytes := bytes) (maxL := maxL) (ret := ret) ho cw.link cw.same cw.decl cw.notMH cw.sel cw.inst cw.code hK (by rw [hT]; exact hcB) hoB hclB hg (hsize.trans hml.symm) (argsL := As) (rest := rest) (fun sig h => hn.trans (cw.len sig h)) hstack hW (by rw [hb]; exact hdg)
    (fun vm₁ hW₁ => ⟨hf.1, hf.2, hPc (T.setVm vm₁) hT hW₁⟩) with ⟨v, vm₁, ⟨U', l2, c2, s2⟩, hW₁, X', ⟨g', mk, t, L, e1, e2, hq, h1, hL, h2, h3⟩, st⟩ | ⟨q, vm₁, ⟨U', l2, c2, s2⟩, hW₁, X', ⟨g', mk, t, L, E, ce, e1, e2, hq, hce, hcv, hcl, h1, hL, h2, h3⟩, st⟩
  · dsimp only [Pt.U, Pt.locs, Pt.cells, Pt.slots] at X' e1 e2 h1 h2 h3 st
    subst h1; subst h2; subst h3
    exact Or.inl ⟨v, (T.setVm vm₁).calling g' mk (Value.ref b :: As).toArray, t, U', L, hT, X', hL, e1, e2, hq, st⟩
  · dsimp only [Pt.U, Pt.locs, Pt.cells, Pt.slots] at X' e1 e2 h1 h2 h3 st hcl
    subst h1; subst h2; subst h3
    exact Or.inr ⟨q, (T.setVm vm₁).calling g' mk (Value.ref b :: As).toArray, t, U', L, E, ce, hT, X', hL, e1, e2, hq, hce, hcv, vx_cls hW₁ hcl, st⟩
end
/-! ===== END ===== -/
/-! ===== BEGIN super.m(..) that may throw (follows va_callSU, va_runSU) ===== -/
section
variable {p : Program} {l : Launch} {e : Env} {R : Room} {s : State} {m : MethodId} {args : Array Value} {below : List Frame} {meth : Method} {c : Code} {H : Heap} {locs : List Loc} {cells slots : Nat}
theorem vx_callSU {T : State} {locs : List Loc} {cells slots : Nat} (X : Stand p l e R s m args below meth c T locs cells slots) (hexec : p.tables.exec = Jvm.exec) {own : String} {index : Nat} {y : MethodName} {bytes : ByteArray} {maxL : Nat} {ret : Option FieldType}
    (hown : s.vm.findClass own = some m.cls) (hlink : (Cond.methodLink own index y).before args s = true) (hsame : (Cond.sameMethod y.cls y.cls y.name y.desc).before args s = true) (hsup : (Cond.superclass own y.cls).before args s = true)
    (hinst : (Cond.instanceMethod y).before args s = true) (hcode : (Cond.code y bytes maxL ret).before args s = true) (hno : y.name ≠ "<init>")
    {W : Nat} {Pre : Pt → Array Value → Prop} {Post : Pt → Array Value → Option Value → Pt → Prop} {PostX : Pt → Array Value → Addr → Pt → Prop} (hK : vx_Back l R p e below s args y 3 W Pre Post PostX)
    {b : Addr} {cellB : Cell} {kB : Class} (hcell : T.heap[b]? = some cellB) (hobj : cellB.vm.isStatics = false) (hkB : s.vm.classes[cellB.cls]? = some kB)
    {g : JFrame} (hg : g.method = m) (hsize : g.locals.size = c.maxLocals) {argsL rest : List Value} (hlen : ∀ sig, parseMethodDescriptor y.desc = some sig → argsL.length = sig.parameters.length)
    (hstack : g.stack = argsL.reverse ++ .ref b :: rest) (hW : 2 * g.monitorRoom + (rest.map fun v => v.category).sum ≤ W) (hdg : decode c.code g.pc = .ok (.invokespecial index, 3))
    (hpre : ∀ vm₁, s.WarmedH vm₁ → Pre ⟨T.setVm vm₁, locs, cells, slots⟩ (Value.ref b :: argsL).toArray) :
    (∃ (v : Option Value) (vm₁ : Vm) (B : Pt), s.WarmedH vm₁ ∧ Stand p l e R s m args below meth c B.U B.locs B.cells B.slots ∧ Post ⟨T.setVm vm₁, locs, cells, slots⟩ (Value.ref b :: argsL).toArray v B ∧
      ∀ target, Steps p.tables e below (B.U.setTop { g with pc := g.pc + 3, stack := v.toList ++ rest }) target → Steps p.tables e below (T.setTop g) target) ∨
    (∃ (q : Addr) (vm₁ : Vm) (B : Pt), s.WarmedH vm₁ ∧ Stand p l e R s m args below meth c B.U B.locs B.cells B.slots ∧ PostX ⟨T.setVm vm₁, locs, cells, slots⟩ (Value.ref b :: argsL).toArray q B ∧
      Steps p.tables e below (T.setTop g) ((B.U.setTop { g with stack := rest }).pushFrame (.throwing q))) := by
  obtain ⟨mk, methM, hnamed, hmethM, hstM, habM⟩ := Cond.instanceMethod_spec hinst
  obtain ⟨methM', cM, hmethM', -, -, -, -, -, -, hsigM⟩ := Cond.code_spec hnamed hcode
  cases hmethM.symm.trans hmethM'
  obtain ⟨ps, dk, kp, hps, hdk, hkp, hsuper, -, -, hnid⟩ := Cond.superclass_spec hown hsup
  have hn : s.methodNamed? ⟨y.cls, y.name, y.desc⟩ = some mk := hnamed
  have hpm : ps = mk.cls := Option.some.inj (hps.symm.trans (findClass_of_methodNamed hnamed))
  have hsub : s.vm.isSubclass ps mk.cls = true := by rw [hpm]; simp [Vm.isSubclass, Vm.isSubclassAux]
  obtain ⟨vm₁, X₁, hstep₁⟩ := X.invokespecialUp hexec hown hlink hsame hn hmethM hstM habM hno hdk hnid hps hsuper hsub (a := b) (cell := cellB) hcell
    (fun z h => by rw [h] at hobj; cases hobj) hkB (g := g) hg (argsL := argsL) (rest := rest) (hlen _ hsigM) hstack hdg
  rcases hK m meth c ⟨T.setVm vm₁, locs, cells, slots⟩ { g with stack := rest } (.invokespecial index) mk (Value.ref b :: argsL).toArray X₁ hg hsize hdg hW (X₁.named hnamed) (hpre vm₁ X₁.warmed) with ⟨v, B, X', hpost, hsteps⟩ | ⟨q, B, X', hpost, hsteps⟩
  · exact Or.inl ⟨v, vm₁, B, X₁.warmed, X', hpost, fun target h => hstep₁ _ (by rw [doInvoke_state]; exact hsteps.trans h)⟩
  · exact Or.inr ⟨q, vm₁, B, X₁.warmed, X', hpost, hstep₁ _ (by rw [doInvoke_state]; exact hsteps)⟩
theorem vx_runSU {y : MethodName} {bytes cc : ByteArray} {maxL nL mc ms n index : Nat} {ret : Option FieldType} {ws : List Cond} {rm : Room} {Pc : Array Value → State → Prop} {Qc : Array Value → State → Outcome → State → Prop} {XC : String → State → State → Prop} {free : Addr → Prop} {Ts : List Cond} {own C : String} {cC : ClassId} {b : Addr} {As rest : List Value} {g : JFrame}
    (hat : ClassAt s C cC) (S : CallFix p m c cc nL s args Ts own) (hM : vx_Met l y ws rm Pc Qc XC mc ms free) (cw : va_CS R s args own index y bytes maxL ret ws rm mc ms n) (hp : PreV s H C b Pc As)
    (hg : g.method = m) (hn : As.length = n) (hsize : g.locals.size = nL) (hstack : g.stack = As.reverse ++ .ref b :: rest) (hW : 2 * g.monitorRoom + (rest.map fun v => v.category).sum ≤ 8) (hdg : decode cc g.pc = .ok (.invokespecial index, 3)) (hf : cells + mc ≤ R.cells ∧ slots + ms ≤ R.slots) :
    vx_Run p l e R s m args below meth c H locs cells slots mc ms g rest (Qc (Value.ref b :: As).toArray) XC free := by
  obtain ⟨⟨hrc, hrs, hfr, hlo, hws, hcw⟩, hl1, hl2, hl3, hl4, hini, hcode, hno, hlen⟩ := cw
  have hK : vx_Back l R p e below s args y 3 8 (PreOf R mc ms Pc) (PostOf Qc mc ms free) (vx_Post XC mc ms free) := vx_back (bytes := bytes) (maxL := maxL) (ret := ret) hM hp.1 hrc hrs hfr hlo hws hcw (fun a' U hW => word_at hW (Or.inl (by first | rfl | simp [Cond.onTables, Cond.keeps, Cond.steady])) hini)
  obtain ⟨hx, hb, hml, ho, -⟩ := S
  obtain ⟨-, ⟨cellB, hcB, hoB, hclB⟩, hPc⟩ := hp
  obtain ⟨hfc, kB, hkB, -⟩ := hat
  cases hfc.symm.trans hclB
  intro T hT X
  rcases vx_callSU X hx (bytes := bytes) (maxL := maxL) (ret := ret) ho hl1 hl2 hl3 hl4 hcode hno hK (by rw [hT]; exact hcB) hoB hkB hg (hsize.trans hml.symm) (argsL := As) (rest := rest) (fun sig h => hn.trans (hlen sig h)) hstack hW (by rw [hb]; exact hdg)
    (fun vm₁ hW₁ => ⟨hf.1, hf.2, hPc (T.setVm vm₁) hT hW₁⟩) with ⟨v, vm₁, ⟨U', l2, c2, s2⟩, hW₁, X', ⟨g', mk, t, L, e1, e2, hq, h1, hL, h2, h3⟩, st⟩ | ⟨q, vm₁, ⟨U', l2, c2, s2⟩, hW₁, X', ⟨g', mk, t, L, E, ce, e1, e2, hq, hce, hcv, hcl, h1, hL, h2, h3⟩, st⟩
  · dsimp only [Pt.U, Pt.locs, Pt.cells, Pt.slots] at X' e1 e2 h1 h2 h3 st
    subst h1; subst h2; subst h3
    exact Or.inl ⟨v, (T.setVm vm₁).calling g' mk (Value.ref b :: As).toArray, t, U', L, hT, X', hL, e1, e2, hq, st⟩
  · dsimp only [Pt.U, Pt.locs, Pt.cells, Pt.slots] at X' e1 e2 h1 h2 h3 st hcl
    subst h1; subst h2; subst h3
    exact Or.inr ⟨q, (T.setVm vm₁).calling g' mk (Value.ref b :: As).toArray, t, U', L, E, ce, hT, X', hL, e1, e2, hq, hce, hcv, vx_cls hW₁ hcl, st⟩
end
/-! ===== END ===== -/
/-! ===== BEGIN a private method of a nest mate that may throw (follows va_callVN, va_callSN, va_runVN, va_runSN) ===== -/
section
variable {p : Program} {l : Launch} {e : Env} {R : Room} {s : State} {m : MethodId} {args : Array Value} {below : List Frame} {meth : Method} {c : Code} {H : Heap} {locs : List Loc} {cells slots : Nat}
variable {T : State}
theorem vx_callVN (X : Stand p l e R s m args below meth c T locs cells slots) (hexec : p.tables.exec = Jvm.exec) {own C : String} {index : Nat} {host : String} {y : MethodName} {bytes : ByteArray} {maxL : Nat} {ret : Option FieldType}
    (hown : s.vm.findClass own = some m.cls) (hlink : (Cond.methodLinkNest own index y host).before args s = true) (hinst : (Cond.instanceMethod y).before args s = true) (hsel : (Cond.selects C y y).before args s = true)
    (hcode : (Cond.code y bytes maxL ret).before args s = true) (hy : y.cls ≠ "java/lang/invoke/MethodHandle" ∧ y.cls ≠ "java/lang/invoke/VarHandle")
    {W : Nat} {Pre : Pt → Array Value → Prop} {Post : Pt → Array Value → Option Value → Pt → Prop} {PostX : Pt → Array Value → Addr → Pt → Prop} (hK : vx_Back l R p e below s args y 3 W Pre Post PostX)
    {b : Addr} {cellB : Cell} (hcell : T.heap[b]? = some cellB) (hobj : cellB.vm.isStatics = false) (hcls : s.vm.findClass C = some cellB.cls)
    {g : JFrame} (hg : g.method = m) (hsize : g.locals.size = c.maxLocals) {argsL rest : List Value} (hlen : ∀ sig, parseMethodDescriptor y.desc = some sig → argsL.length = sig.parameters.length)
    (hstack : g.stack = argsL.reverse ++ .ref b :: rest) (hW : 2 * g.monitorRoom + (rest.map fun v => v.category).sum ≤ W) (hdg : decode c.code g.pc = .ok (.invokevirtual index, 3))
    (hpre : ∀ vm₁, s.WarmedH vm₁ → Pre ⟨T.setVm vm₁, locs, cells, slots⟩ (Value.ref b :: argsL).toArray) :
    (∃ (v : Option Value) (vm₁ : Vm) (B : Pt), s.WarmedH vm₁ ∧ Stand p l e R s m args below meth c B.U B.locs B.cells B.slots ∧ Post ⟨T.setVm vm₁, locs, cells, slots⟩ (Value.ref b :: argsL).toArray v B ∧
      ∀ target, Steps p.tables e below (B.U.setTop { g with pc := g.pc + 3, stack := v.toList ++ rest }) target → Steps p.tables e below (T.setTop g) target) ∨
    (∃ (q : Addr) (vm₁ : Vm) (B : Pt), s.WarmedH vm₁ ∧ Stand p l e R s m args below meth c B.U B.locs B.cells B.slots ∧ PostX ⟨T.setVm vm₁, locs, cells, slots⟩ (Value.ref b :: argsL).toArray q B ∧
      Steps p.tables e below (T.setTop g) ((B.U.setTop { g with stack := rest }).pushFrame (.throwing q))) := by
  obtain ⟨mk, methM, hnamed, hmethM, hstM, habM⟩ := Cond.instanceMethod_spec hinst
  obtain ⟨methM', cM, hmethM', -, -, -, -, -, -, hsigM⟩ := Cond.code_spec hnamed hcode
  cases hmethM.symm.trans hmethM'
  obtain ⟨c2, r2, m2, q1, q2, q3, q4, kP, hkP, hkPi⟩ := Cond.selects_spec hsel
  cases hcls.symm.trans q1
  cases (State.methodFound?_of_named hnamed hy).symm.trans q2
  cases hnamed.symm.trans q3
  have hselP : selectMethod e.platform s.vm cellB.cls mk = .method mk := by rw [Launch.admits_selectMethod X.admits]; exact q4
  obtain ⟨vm₁, X₁, hstep₁⟩ := X.invokevirtualNest hexec hown hlink hnamed hmethM hstM hkP hkPi hy (a := b) (cell := cellB) hcell
    (fun z h => by rw [h] at hobj; cases hobj) hselP hmethM habM hkP hkPi (g := g) hg (argsL := argsL) (rest := rest) (hlen _ hsigM) hstack hdg
  rcases hK m meth c ⟨T.setVm vm₁, locs, cells, slots⟩ { g with stack := rest } (.invokevirtual index) mk (Value.ref b :: argsL).toArray X₁ hg hsize hdg hW (X₁.named hnamed) (hpre vm₁ X₁.warmed) with ⟨v, B, X', hpost, hsteps⟩ | ⟨q, B, X', hpost, hsteps⟩
  · exact Or.inl ⟨v, vm₁, B, X₁.warmed, X', hpost, fun target h => hstep₁ _ fun acts => by rw [doInvoke_state]; exact hsteps.trans h⟩
  · exact Or.inr ⟨q, vm₁, B, X₁.warmed, X', hpost, hstep₁ _ fun acts => by rw [doInvoke_state]; exact hsteps⟩
theorem vx_callSN (X : Stand p l e R s m args below meth c T locs cells slots) (hexec : p.tables.exec = Jvm.exec) {own : String} {index : Nat} {host : String} {y : MethodName} {bytes : ByteArray} {maxL : Nat} {ret : Option FieldType}
    (hown : s.vm.findClass own = some m.cls) (hlink : (Cond.methodLinkNest own index y host).before args s = true) (hstat : (Cond.static y).before args s = true) (hinit : (Cond.initialized y.cls).before args s = true)
    (hcode : (Cond.code y bytes maxL ret).before args s = true) (hy : y.cls ≠ "java/lang/invoke/MethodHandle" ∧ y.cls ≠ "java/lang/invoke/VarHandle")
    {W : Nat} {Pre : Pt → Array Value → Prop} {Post : Pt → Array Value → Option Value → Pt → Prop} {PostX : Pt → Array Value → Addr → Pt → Prop} (hK : vx_Back l R p e below s args y 3 W Pre Post PostX)
    {g : JFrame} (hg : g.method = m) (hsize : g.locals.size = c.maxLocals) {argsL rest : List Value} (hlen : ∀ sig, parseMethodDescriptor y.desc = some sig → argsL.length = sig.parameters.length)
    (hstack : g.stack = argsL.reverse ++ rest) (hW : 2 * g.monitorRoom + (rest.map fun v => v.category).sum ≤ W) (hdg : decode c.code g.pc = .ok (.invokestatic index, 3))
    (hpre : ∀ vm₁, s.WarmedH vm₁ → Pre ⟨T.setVm vm₁, locs, cells, slots⟩ argsL.toArray) :
    (∃ (v : Option Value) (vm₁ : Vm) (B : Pt), s.WarmedH vm₁ ∧ Stand p l e R s m args below meth c B.U B.locs B.cells B.slots ∧ Post ⟨T.setVm vm₁, locs, cells, slots⟩ argsL.toArray v B ∧
      ∀ target, Steps p.tables e below (B.U.setTop { g with pc := g.pc + 3, stack := v.toList ++ rest }) target → Steps p.tables e below (T.setTop g) target) ∨
    (∃ (q : Addr) (vm₁ : Vm) (B : Pt), s.WarmedH vm₁ ∧ Stand p l e R s m args below meth c B.U B.locs B.cells B.slots ∧ PostX ⟨T.setVm vm₁, locs, cells, slots⟩ argsL.toArray q B ∧
      Steps p.tables e below (T.setTop g) ((B.U.setTop { g with stack := rest }).pushFrame (.throwing q))) := by
  obtain ⟨mk, hnamed⟩ := Cond.code_named hcode
  obtain ⟨methM, cM, hmethM, -, -, -, -, -, -, hsigM⟩ := Cond.code_spec hnamed hcode
  have hstatic : methM.isStatic = true := Cond.static_spec hnamed hmethM hstat
  obtain ⟨kP, hkP, -⟩ := className_of_methodNamed hnamed
  have hinitP : kP.init = .initialized := Cond.initialized_spec (findClass_of_methodNamed hnamed) hkP hinit
  obtain ⟨vm₁, X₁, hstep₁⟩ := X.invokestaticNest hexec hown hlink hnamed hmethM hstatic hkP hinitP hy (g := g) hg (argsL := argsL) (rest := rest) (hlen _ hsigM) hstack hdg
  rcases hK m meth c ⟨T.setVm vm₁, locs, cells, slots⟩ { g with stack := rest } (.invokestatic index) mk argsL.toArray X₁ hg hsize hdg hW (X₁.named hnamed) (hpre vm₁ X₁.warmed) with ⟨v, B, X', hpost, hsteps⟩ | ⟨q, B, X', hpost, hsteps⟩
  · exact Or.inl ⟨v, vm₁, B, X₁.warmed, X', hpost, fun target h => hstep₁ _ fun acts => by rw [doInvoke_state]; exact hsteps.trans h⟩
  · exact Or.inr ⟨q, vm₁, B, X₁.warmed, X', hpost, hstep₁ _ fun acts => by rw [doInvoke_state]; exact hsteps⟩
theorem vx_runVN {y : MethodName} {bytes cc : ByteArray} {maxL nL mc ms n index : Nat} {ret : Option FieldType} {ws : List Cond} {rm : Room} {Pc : Array Value → State → Prop} {Qc : Array Value → State → Outcome → State → Prop} {XC : String → State → State → Prop} {free : Addr → Prop} {Ts : List Cond} {own C host : String} {b : Addr} {As rest : List Value} {g : JFrame}
    (S : CallFix p m c cc nL s args Ts own) (hM : vx_Met l y ws rm Pc Qc XC mc ms free) (cw : va_CN R s args own index y host bytes maxL ret ws rm mc ms n ∧ (Cond.instanceMethod y).before args s = true ∧ (Cond.selects C y y).before args s = true) (hp : PreV s H C b Pc As)
    (hg : g.method = m) (hn : As.length = n) (hsize : g.locals.size = nL) (hstack : g.stack = As.reverse ++ .ref b :: rest) (hW : 2 * g.monitorRoom + (rest.map fun v => v.category).sum ≤ 8) (hdg : decode cc g.pc = .ok (.invokevirtual index, 3)) (hf : cells + mc ≤ R.cells ∧ slots + ms ≤ R.slots) :
    vx_Run p l e R s m args below meth c H locs cells slots mc ms g rest (Qc (Value.ref b :: As).toArray) XC free := by
  obtain ⟨⟨⟨hrc, hrs, hfr, hlo, hws, hcw⟩, hcode, hini, hy, hlen, hl⟩, hx1, hx2⟩ := cw
  have hK : vx_Back l R p e below s args y 3 8 (PreOf R mc ms Pc) (PostOf Qc mc ms free) (vx_Post XC mc ms free) := vx_back (bytes := bytes) (maxL := maxL) (ret := ret) hM hp.1 hrc hrs hfr hlo hws hcw (fun a' U hW => word_at hW (Or.inl (by first | rfl | simp [Cond.onTables, Cond.keeps, Cond.steady])) hini)
  obtain ⟨hx, hb, hml, ho, -⟩ := S
  obtain ⟨-, ⟨cellB, hcB, hoB, hclB⟩, hPc⟩ := hp
  intro T hT X
  rcases vx_callVN X hx (C := C) (bytes := bytes) (maxL := maxL) (ret := ret) ho hl hx1 hx2 hcode hy hK (by rw [hT]; exact hcB) hoB hclB hg (hsize.trans hml.symm) (argsL := As) (rest := rest) (fun sig h => hn.trans (hlen sig h)) hstack hW (by rw [hb]; exact hdg)
    (fun vm₁ hW₁ => ⟨hf.1, hf.2, hPc (T.setVm vm₁) hT hW₁⟩) with ⟨v, vm₁, ⟨U', l2, c2, s2⟩, hW₁, X', ⟨g', mk, t, L, e1, e2, hq, h1, hL, h2, h3⟩, st⟩ | ⟨q, vm₁, ⟨U', l2, c2, s2⟩, hW₁, X', ⟨g', mk, t, L, E, ce, e1, e2, hq, hce, hcv, hcl, h1, hL, h2, h3⟩, st⟩
  · dsimp only [Pt.U, Pt.locs, Pt.cells, Pt.slots] at X' e1 e2 h1 h2 h3 st
    subst h1; subst h2; subst h3
    exact Or.inl ⟨v, (T.setVm vm₁).calling g' mk (Value.ref b :: As).toArray, t, U', L, hT, X', hL, e1, e2, hq, st⟩
  · dsimp only [Pt.U, Pt.locs, Pt.cells, Pt.slots] at X' e1 e2 h1 h2 h3 st hcl
    subst h1; subst h2; subst h3
    exact Or.inr ⟨q, (T.setVm vm₁).calling g' mk (Value.ref b :: As).toArray, t, U', L, E, ce, hT, X', hL, e1, e2, hq, hce, hcv, vx_cls hW₁ hcl, st⟩
theorem vx_runSN {y : MethodName} {bytes cc : ByteArray} {maxL nL mc ms n index : Nat} {ret : Option FieldType} {ws : List Cond} {rm : Room} {Pc : Array Value → State → Prop} {Qc : Array Value → State → Outcome → State → Prop} {XC : String → State → State → Prop} {free : Addr → Prop} {Ts : List Cond} {own host : String} {As rest : List Value} {g : JFrame}
    (S : CallFix p m c cc nL s args Ts own) (hM : vx_Met l y ws rm Pc Qc XC mc ms free) (cw : va_CN R s args own index y host bytes maxL ret ws rm mc ms n ∧ (Cond.static y).before args s = true ∧ True) (hp : PreS s H Pc As)
    (hg : g.method = m) (hn : As.length = n) (hsize : g.locals.size = nL) (hstack : g.stack = As.reverse ++ rest) (hW : 2 * g.monitorRoom + (rest.map fun v => v.category).sum ≤ 8) (hdg : decode cc g.pc = .ok (.invokestatic index, 3)) (hf : cells + mc ≤ R.cells ∧ slots + ms ≤ R.slots) :
    vx_Run p l e R s m args below meth c H locs cells slots mc ms g rest (Qc As.toArray) XC free := by
  obtain ⟨⟨⟨hrc, hrs, hfr, hlo, hws, hcw⟩, hcode, hini, hy, hlen, hl⟩, hx1, hx2⟩ := cw
  have hK : vx_Back l R p e below s args y 3 8 (PreOf R mc ms Pc) (PostOf Qc mc ms free) (vx_Post XC mc ms free) := vx_back (bytes := bytes) (maxL := maxL) (ret := ret) hM hp.1 hrc hrs hfr hlo hws hcw (fun a' U hW => word_at hW (Or.inl (by first | rfl | simp [Cond.onTables, Cond.keeps, Cond.steady])) hini)
  obtain ⟨hx, hb, hml, ho, -⟩ := S
  have hPc := hp.2
  intro T hT X
  rcases vx_callSN X hx (bytes := bytes) (maxL := maxL) (ret := ret) ho hl hx1 hini hcode hy hK hg (hsize.trans hml.symm) (argsL := As) (rest := rest) (fun sig h => hn.trans (hlen sig h)) hstack hW (by rw [hb]; exact hdg)
    (fun vm₁ hW₁ => ⟨hf.1, hf.2, hPc (T.setVm vm₁) hT hW₁⟩) with ⟨v, vm₁, ⟨U', l2, c2, s2⟩, hW₁, X', ⟨g', mk, t, L, e1, e2, hq, h1, hL, h2, h3⟩, st⟩ | ⟨q, vm₁, ⟨U', l2, c2, s2⟩, hW₁, X', ⟨g', mk, t, L, E, ce, e1, e2, hq, hce, hcv, hcl, h1, hL, h2, h3⟩, st⟩
  · dsimp only [Pt.U, Pt.locs, Pt.cells, Pt.slots] at X' e1 e2 h1 h2 h3 st
    subst h1; subst h2; subst h3
    exact Or.inl ⟨v, (T.setVm vm₁).calling g' mk As.toArray, t, U', L, hT, X', hL, e1, e2, hq, st⟩
  · dsimp only [Pt.U, Pt.locs, Pt.cells, Pt.slots] at X' e1 e2 h1 h2 h3 st hcl
    subst h1; subst h2; subst h3
    exact Or.inr ⟨q, (T.setVm vm₁).calling g' mk As.toArray, t, U', L, E, ce, hT, X', hL, e1, e2, hq, hce, hcv, vx_cls hW₁ hcl, st⟩
end
/-! ===== END ===== -/
/-! ===== BEGIN calls by an interface of methods that may throw (vx_callIF, vx_runF follow va_callIF, va_runF of this kit) ===== -/
section
variable {p : Program} {l : Launch} {e : Env} {R : Room} {s : State} {m : MethodId} {args : Array Value} {below : List Frame} {meth : Method} {c : Code} {H : Heap} {locs : List Loc} {cells slots : Nat} {Q : State → Prop}
variable {mc ms : Nat} {free : Addr → Prop} {A0 A1 : Nat → Prop} {H0 : Heap} {a : Array Value} {pc : Nat} {ls : Array Slot} {st0 rest : List Value}
def vx_Run5 (p : Program) (l : Launch) (e : Env) (R : Room) (s : State) (m : MethodId) (args : Array Value) (below : List Frame) (meth : Method) (c : Code) (H : Heap) (locs : List Loc) (cells slots mc ms : Nat) (g : JFrame) (rest : List Value) (Qa : State → Outcome → State → Prop) (XC : String → State → State → Prop) (free : Addr → Prop) : Prop :=
  ∀ T : State, T.heap = H → Stand p l e R s m args below meth c T locs cells slots →
    (∃ (v : Option Value) (st₀ t T' : State) (L : List Loc), st₀.heap = H ∧ Stand p l e R s m args below meth c T' (locs ++ L) (cells + mc) (slots + ms) ∧ (∀ q ∈ L, free q.base) ∧ T'.heap = t.heap ∧ T'.vm = t.vm ∧ Qa st₀ (.returned v) t ∧
      Goes p e below T g T' { g with pc := g.pc + 5, stack := v.toList ++ rest }) ∨
    (∃ (q : Addr) (st₀ t T' : State) (L : List Loc) (E : String) (ce : Cell), st₀.heap = H ∧ Stand p l e R s m args below meth c T' (locs ++ L) (cells + mc) (slots + ms) ∧ (∀ z ∈ L, free z.base) ∧ T'.heap = t.heap ∧ T'.vm = t.vm ∧ XC E st₀ t ∧ t.heap[q]? = some ce ∧ ce.vm = .none ∧ s.vm.findClass E = some ce.cls ∧
      Steps p.tables e below (T.setTop g) ((T'.setTop { g with stack := rest }).pushFrame (.throwing q)))
theorem vx_callIF {T : State} (X : Stand p l e R s m args below meth c T locs cells slots) (hexec : p.tables.exec = Jvm.exec) {own C : String} {index count : Nat} {x y : MethodName} {bytes : ByteArray} {maxL : Nat} {ret : Option FieldType}
    (hown : s.vm.findClass own = some m.cls) (hlink : (Cond.methodLink own index x).before args s = true) (hdecl : (Cond.declares x).before args s = true) (hface : (Cond.interfaceMethod x.cls x.cls x.name x.desc).before args s = true)
    (hsel : (Cond.selects C x y).before args s = true) (hinst : (Cond.instanceMethod y).before args s = true) (hpub : (Cond.publicMethod y).before args s = true) (hunh : (Cond.unhidden C x.name x.desc).before args s = true)
    (hcast : (Cond.castable C x.cls).before args s = true) (hcode : (Cond.code y bytes maxL ret).before args s = true) (hx : x.cls ≠ "java/lang/invoke/MethodHandle" ∧ x.cls ≠ "java/lang/invoke/VarHandle")
    {W9 : Nat} {Pre : Pt → Array Value → Prop} {Post : Pt → Array Value → Option Value → Pt → Prop} {PostX : Pt → Array Value → Addr → Pt → Prop} (hK : vx_Back l R p e below s args y 5 W9 Pre Post PostX)
    {b : Addr} {cellB : Cell} {kB : Class} (hcell : T.heap[b]? = some cellB) (hobj : cellB.vm.isStatics = false) (hcls : s.vm.findClass C = some cellB.cls) (hkB : s.vm.classes[cellB.cls]? = some kB)
    {g : JFrame} (hg : g.method = m) (hsize : g.locals.size = c.maxLocals) {argsL rest : List Value} (hlen : ∀ sig, parseMethodDescriptor x.desc = some sig → argsL.length = sig.parameters.length)
    (hstack : g.stack = argsL.reverse ++ .ref b :: rest) (hW : 2 * g.monitorRoom + (rest.map fun v => v.category).sum ≤ W9) (hdg : decode c.code g.pc = .ok (.invokeinterface index count, 5))
    (hpre : ∀ vm₁, s.WarmedH vm₁ → Pre ⟨T.setVm vm₁, locs, cells, slots⟩ (Value.ref b :: argsL).toArray) :
    (∃ (v : Option Value) (vm₁ : Vm) (B : Pt), s.WarmedH vm₁ ∧ Stand p l e R s m args below meth c B.U B.locs B.cells B.slots ∧ Post ⟨T.setVm vm₁, locs, cells, slots⟩ (Value.ref b :: argsL).toArray v B ∧
      ∀ target, Steps p.tables e below (B.U.setTop { g with pc := g.pc + 5, stack := v.toList ++ rest }) target → Steps p.tables e below (T.setTop g) target) ∨
    (∃ (q : Addr) (vm₁ : Vm) (B : Pt), s.WarmedH vm₁ ∧ Stand p l e R s m args below meth c B.U B.locs B.cells B.slots ∧ PostX ⟨T.setVm vm₁, locs, cells, slots⟩ (Value.ref b :: argsL).toArray q B ∧
      Steps p.tables e below (T.setTop g) ((B.U.setTop { g with stack := rest }).pushFrame (.throwing q))) := by
  obtain ⟨r0, r, hn, hrm, hstR, hsigR⟩ := Cond.declares_spec hdecl
  obtain ⟨cL, kL, r1, hcL, hkL, hiL, hfoundL, hn1⟩ := Cond.interfaceMethod_spec hface
  cases hn.symm.trans hn1
  have hr0cls : r0.cls = cL := Option.some.inj ((findClass_of_methodNamed hn).symm.trans hcL)
  obtain ⟨hnameR, hdescR⟩ := name_of_methodNamed hn hrm
  obtain ⟨mk, methM, hnamed, hmethM, -, habM⟩ := Cond.instanceMethod_spec hinst
  obtain ⟨c2, r2, m2, q1, q2, q3, q4, -⟩ := Cond.selects_spec hsel
  cases hcls.symm.trans q1
  cases hfoundL.symm.trans q2
  cases hnamed.symm.trans q3
  have hselP : selectMethod e.platform s.vm cellB.cls r0 = .method mk := by rw [Launch.admits_selectMethod X.admits]; exact q4
  have hpubM : hasFlag methM.accessFlags Acc.public_ = true := Cond.publicMethod_spec hnamed hmethM hpub
  have hway : ((cellB.cls :: s.vm.superclasses cellB.cls).any fun k => (declaredIn s.vm r.name r.desc k).any fun (_, z) => z.isPrivate || z.isStatic) = false := by
    rw [hnameR, hdescR]; exact Cond.unhidden_spec hcls hunh
  obtain ⟨c3, t3, w1, w2, w3⟩ := Cond.castable_spec hcast
  cases hcls.symm.trans w1
  cases hcL.symm.trans w2
  obtain ⟨vm₁, X₁, hstep₁⟩ := X.invokeinterface hexec hown hlink hn hrm hstR (by rw [hr0cls]; exact hkL) hiL hx (a := b) (cell := cellB) (kcell := kB) hcell
    (fun z h => by rw [h] at hobj; cases hobj) hkB (by rw [hr0cls]; exact w3) hselP hmethM hway hpubM habM (g := g) hg (argsL := argsL) (rest := rest) (hlen _ hsigR) hstack hdg
  rcases hK m meth c ⟨T.setVm vm₁, locs, cells, slots⟩ { g with stack := rest } (.invokeinterface index count) mk (Value.ref b :: argsL).toArray X₁ hg hsize hdg hW (X₁.named hnamed) (hpre vm₁ X₁.warmed) with ⟨v, B, X', hpost, hsteps⟩ | ⟨q, B, X', hpost, hsteps⟩
  · exact Or.inl ⟨v, vm₁, B, X₁.warmed, X', hpost, fun target h => hstep₁ _ fun acts => by rw [doInvoke_state]; exact hsteps.trans h⟩
  · exact Or.inr ⟨q, vm₁, B, X₁.warmed, X', hpost, hstep₁ _ fun acts => by rw [doInvoke_state]; exact hsteps⟩
theorem vx_runF {x y : MethodName} {bytes cc : ByteArray} {maxL nL mc ms n index count : Nat} {ret : Option FieldType} {ws : List Cond} {rm : Room} {Pc : Array Value → State → Prop} {Qc : Array Value → State → Outcome → State → Prop} {XC : String → State → State → Prop} {free : Addr → Prop} {Ts : List Cond} {own C : String} {cC : ClassId} {b : Addr} {As rest : List Value} {g : JFrame}
    (hat : ClassAt s C cC) (S : CallFix p m c cc nL s args Ts own) (hM : vx_Met l y ws rm Pc Qc XC mc ms free) (cw : va_CI R s args own C index x y bytes maxL ret ws rm mc ms n) (hp : PreV s H C b Pc As)
    (hg : g.method = m) (hn : As.length = n) (hsize : g.locals.size = nL) (hstack : g.stack = As.reverse ++ .ref b :: rest) (hW : 2 * g.monitorRoom + (rest.map fun v => v.category).sum ≤ 8) (hdg : decode cc g.pc = .ok (.invokeinterface index count, 5)) (hf : cells + mc ≤ R.cells ∧ slots + ms ≤ R.slots) :
    vx_Run5 p l e R s m args below meth c H locs cells slots mc ms g rest (Qc (Value.ref b :: As).toArray) XC free := by
  obtain ⟨hrc, hrs, hfr, hlo, hws, hcw⟩ := cw.back
  have hini := cw.init
  have hK : vx_Back l R p e below s args y 5 8 (PreOf R mc ms Pc) (PostOf Qc mc ms free) (vx_Post XC mc ms free) := vx_back (bytes := bytes) (maxL := maxL) (ret := ret) hM hp.1 hrc hrs hfr hlo hws hcw (fun a' U hW => word_at hW (Or.inl (by first | rfl | simp [Cond.onTables, Cond.keeps, Cond.steady])) hini)
  obtain ⟨hx, hb, hml, ho, -⟩ := S
  obtain ⟨-, ⟨cellB, hcB, hoB, hclB⟩, hPc⟩ := hp
  obtain ⟨hfc, kB, hkB, -⟩ := hat
  cases hfc.symm.trans hclB
  intro T hT X
  rcases vx_callIF X hx (C := C) (bytes := bytes) (maxL := maxL) (ret := ret) ho cw.link cw.decl cw.face cw.sel cw.inst cw.pub cw.unh cw.cast cw.code cw.notMH hK (by rw [hT]; exact hcB) hoB hclB hkB hg (hsize.trans hml.symm) (argsL := As) (rest := rest) (fun sig h => hn.trans (cw.len sig h)) hstack hW (by rw [hb]; exact hdg)
    (fun vm₁ hW₁ => ⟨hf.1, hf.2, hPc (T.setVm vm₁) hT hW₁⟩) with ⟨v, vm₁, ⟨U', l2, c2, s2⟩, hW₁, X', ⟨g', mk, t, L, e1, e2, hq, h1, hL, h2, h3⟩, st⟩ | ⟨q, vm₁, ⟨U', l2, c2, s2⟩, hW₁, X', ⟨g', mk, t, L, E, ce, e1, e2, hq, hce, hcv, hcl, h1, hL, h2, h3⟩, st⟩
  · dsimp only [Pt.U, Pt.locs, Pt.cells, Pt.slots] at X' e1 e2 h1 h2 h3 st
    subst h1; subst h2; subst h3
    exact Or.inl ⟨v, (T.setVm vm₁).calling g' mk (Value.ref b :: As).toArray, t, U', L, hT, X', hL, e1, e2, hq, st⟩
  · dsimp only [Pt.U, Pt.locs, Pt.cells, Pt.slots] at X' e1 e2 h1 h2 h3 st hcl
    subst h1; subst h2; subst h3
    exact Or.inr ⟨q, (T.setVm vm₁).calling g' mk (Value.ref b :: As).toArray, t, U', L, E, ce, hT, X', hL, e1, e2, hq, hce, hcv, vx_cls hW₁ hcl, st⟩
theorem vx_callFv {S SX : Type} {post : S → Prop} {px : SX → Prop} {B : S → State → Prop} {BX : String → SX → State → Prop} {AX : Nat → Prop} (hr : vx_Run5 p l e R s m args below meth c H locs cells slots mc ms (F0 m pc ls st0) rest (va_Qv post B A1 a) (vx_X px BX AX) free) (hS : va_S A0 H0 H locs) (hA : ∀ q, q < H.size → A1 q → A0 q) (hf : ∀ q, free q → A0 q) (hAX : ∀ q, q < H.size → AX q → A0 q)
    (kx : ∀ (E : String) (ce : Cell) (q9 : Addr) (u : SX) (t : State) (H1 : Heap) (locs1 : List Loc), t.heap = H1 → s.vm.Alike t.vm → px u → BX E u t → H.size ≤ H1.size → (∀ q : Nat, q < H.size → ¬ AX q → H1[q]? = H[q]?) → va_S A0 H0 H1 locs1 → H1[q9]? = some ce → ce.vm = .none → s.vm.findClass E = some ce.cls → vx_W p l e R s m args below meth c H1 locs1 (cells + mc) (slots + ms) Q (F0 m pc ls rest) q9)
    (kk : ∀ (u : S) (t : State) (H1 : Heap) (locs1 : List Loc), t.heap = H1 → s.vm.Alike t.vm → post u → B u t → H.size ≤ H1.size → (∀ q : Nat, q < H.size → ¬ A1 q → H1[q]? = H[q]?) → va_S A0 H0 H1 locs1 → W p l e R s m args below meth c H1 locs1 (cells + mc) (slots + ms) Q (F0 m (pc + 5) ls (rest))) : W p l e R s m args below meth c H locs cells slots Q (F0 m pc ls st0) := by
  intro T hT X
  rcases hr T hT X with ⟨v, st₀, t, T', L, h0, X', hL, e1, e2, ⟨⟨u, hv, hp, hb⟩, hF⟩, st⟩ | ⟨q, st₀, t, T', L, E, ce, h0, X', hL, e1, e2, ⟨u, hp, hb, hF⟩, hce, hcv, hcl, st⟩
  · cases hv
    obtain ⟨k1, k2, k3⟩ := vx_keep h0 e1 hS hA hf hL hF
    obtain ⟨t2, a1, b1⟩ := kk u t T'.heap (locs ++ L) e1.symm (by rw [← e2]; exact X'.warmed.alike) hp hb k1 k2 k3 T' rfl X'
    exact ⟨t2, st t2 a1, b1⟩
  · obtain ⟨k1, k2, k3⟩ := vx_keep h0 e1 hS hAX hf hL hF
    obtain ⟨t2, a1, b1⟩ := kx E ce q u t T'.heap (locs ++ L) e1.symm (by rw [← e2]; exact X'.warmed.alike) hp hb k1 k2 k3 (by rw [e1]; exact hce) hcv hcl T' rfl X'
    exact ⟨t2, st.trans a1, b1⟩
theorem vx_callFi {S SX : Type} {post : Int32 → S → Prop} {px : SX → Prop} {B : S → State → Prop} {BX : String → SX → State → Prop} {AX : Nat → Prop} (hr : vx_Run5 p l e R s m args below meth c H locs cells slots mc ms (F0 m pc ls st0) rest (va_Qi post B A1 a) (vx_X px BX AX) free) (hS : va_S A0 H0 H locs) (hA : ∀ q, q < H.size → A1 q → A0 q) (hf : ∀ q, free q → A0 q) (hAX : ∀ q, q < H.size → AX q → A0 q)
    (kx : ∀ (E : String) (ce : Cell) (q9 : Addr) (u : SX) (t : State) (H1 : Heap) (locs1 : List Loc), t.heap = H1 → s.vm.Alike t.vm → px u → BX E u t → H.size ≤ H1.size → (∀ q : Nat, q < H.size → ¬ AX q → H1[q]? = H[q]?) → va_S A0 H0 H1 locs1 → H1[q9]? = some ce → ce.vm = .none → s.vm.findClass E = some ce.cls → vx_W p l e R s m args below meth c H1 locs1 (cells + mc) (slots + ms) Q (F0 m pc ls rest) q9)
    (kk : ∀ (r : Int32) (u : S) (t : State) (H1 : Heap) (locs1 : List Loc), t.heap = H1 → s.vm.Alike t.vm → post r u → B u t → H.size ≤ H1.size → (∀ q : Nat, q < H.size → ¬ A1 q → H1[q]? = H[q]?) → va_S A0 H0 H1 locs1 → W p l e R s m args below meth c H1 locs1 (cells + mc) (slots + ms) Q (F0 m (pc + 5) ls (.int r :: rest))) : W p l e R s m args below meth c H locs cells slots Q (F0 m pc ls st0) := by
  intro T hT X
  rcases hr T hT X with ⟨v, st₀, t, T', L, h0, X', hL, e1, e2, ⟨⟨r, u, hv, hp, hb⟩, hF⟩, st⟩ | ⟨q, st₀, t, T', L, E, ce, h0, X', hL, e1, e2, ⟨u, hp, hb, hF⟩, hce, hcv, hcl, st⟩
  · cases hv
    obtain ⟨k1, k2, k3⟩ := vx_keep h0 e1 hS hA hf hL hF
    obtain ⟨t2, a1, b1⟩ := kk r u t T'.heap (locs ++ L) e1.symm (by rw [← e2]; exact X'.warmed.alike) hp hb k1 k2 k3 T' rfl X'
    exact ⟨t2, st t2 a1, b1⟩
  · obtain ⟨k1, k2, k3⟩ := vx_keep h0 e1 hS hAX hf hL hF
    obtain ⟨t2, a1, b1⟩ := kx E ce q u t T'.heap (locs ++ L) e1.symm (by rw [← e2]; exact X'.warmed.alike) hp hb k1 k2 k3 (by rw [e1]; exact hce) hcv hcl T' rfl X'
    exact ⟨t2, st.trans a1, b1⟩
theorem vx_callFl {S SX : Type} {post : Int64 → S → Prop} {px : SX → Prop} {B : S → State → Prop} {BX : String → SX → State → Prop} {AX : Nat → Prop} (hr : vx_Run5 p l e R s m args below meth c H locs cells slots mc ms (F0 m pc ls st0) rest (va_Ql post B A1 a) (vx_X px BX AX) free) (hS : va_S A0 H0 H locs) (hA : ∀ q, q < H.size → A1 q → A0 q) (hf : ∀ q, free q → A0 q) (hAX : ∀ q, q < H.size → AX q → A0 q)
    (kx : ∀ (E : String) (ce : Cell) (q9 : Addr) (u : SX) (t : State) (H1 : Heap) (locs1 : List Loc), t.heap = H1 → s.vm.Alike t.vm → px u → BX E u t → H.size ≤ H1.size → (∀ q : Nat, q < H.size → ¬ AX q → H1[q]? = H[q]?) → va_S A0 H0 H1 locs1 → H1[q9]? = some ce → ce.vm = .none → s.vm.findClass E = some ce.cls → vx_W p l e R s m args below meth c H1 locs1 (cells + mc) (slots + ms) Q (F0 m pc ls rest) q9)
    (kk : ∀ (r : Int64) (u : S) (t : State) (H1 : Heap) (locs1 : List Loc), t.heap = H1 → s.vm.Alike t.vm → post r u → B u t → H.size ≤ H1.size → (∀ q : Nat, q < H.size → ¬ A1 q → H1[q]? = H[q]?) → va_S A0 H0 H1 locs1 → W p l e R s m args below meth c H1 locs1 (cells + mc) (slots + ms) Q (F0 m (pc + 5) ls (.long r :: rest))) : W p l e R s m args below meth c H locs cells slots Q (F0 m pc ls st0) := by
  intro T hT X
  rcases hr T hT X with ⟨v, st₀, t, T', L, h0, X', hL, e1, e2, ⟨⟨r, u, hv, hp, hb⟩, hF⟩, st⟩ | ⟨q, st₀, t, T', L, E, ce, h0, X', hL, e1, e2, ⟨u, hp, hb, hF⟩, hce, hcv, hcl, st⟩
  · cases hv
    obtain ⟨k1, k2, k3⟩ := vx_keep h0 e1 hS hA hf hL hF
    obtain ⟨t2, a1, b1⟩ := kk r u t T'.heap (locs ++ L) e1.symm (by rw [← e2]; exact X'.warmed.alike) hp hb k1 k2 k3 T' rfl X'
    exact ⟨t2, st t2 a1, b1⟩
  · obtain ⟨k1, k2, k3⟩ := vx_keep h0 e1 hS hAX hf hL hF
    obtain ⟨t2, a1, b1⟩ := kx E ce q u t T'.heap (locs ++ L) e1.symm (by rw [← e2]; exact X'.warmed.alike) hp hb k1 k2 k3 (by rw [e1]; exact hce) hcv hcl T' rfl X'
    exact ⟨t2, st.trans a1, b1⟩
theorem vx_callFf {S SX : Type} {post : UInt32 → S → Prop} {px : SX → Prop} {B : S → State → Prop} {BX : String → SX → State → Prop} {AX : Nat → Prop} (hr : vx_Run5 p l e R s m args below meth c H locs cells slots mc ms (F0 m pc ls st0) rest (va_Qf post B A1 a) (vx_X px BX AX) free) (hS : va_S A0 H0 H locs) (hA : ∀ q, q < H.size → A1 q → A0 q) (hf : ∀ q, free q → A0 q) (hAX : ∀ q, q < H.size → AX q → A0 q)
    (kx : ∀ (E : String) (ce : Cell) (q9 : Addr) (u : SX) (t : State) (H1 : Heap) (locs1 : List Loc), t.heap = H1 → s.vm.Alike t.vm → px u → BX E u t → H.size ≤ H1.size → (∀ q : Nat, q < H.size → ¬ AX q → H1[q]? = H[q]?) → va_S A0 H0 H1 locs1 → H1[q9]? = some ce → ce.vm = .none → s.vm.findClass E = some ce.cls → vx_W p l e R s m args below meth c H1 locs1 (cells + mc) (slots + ms) Q (F0 m pc ls rest) q9)
    (kk : ∀ (r : UInt32) (u : S) (t : State) (H1 : Heap) (locs1 : List Loc), t.heap = H1 → s.vm.Alike t.vm → post r u → B u t → H.size ≤ H1.size → (∀ q : Nat, q < H.size → ¬ A1 q → H1[q]? = H[q]?) → va_S A0 H0 H1 locs1 → W p l e R s m args below meth c H1 locs1 (cells + mc) (slots + ms) Q (F0 m (pc + 5) ls (.float r :: rest))) : W p l e R s m args below meth c H locs cells slots Q (F0 m pc ls st0) := by
  intro T hT X
  rcases hr T hT X with ⟨v, st₀, t, T', L, h0, X', hL, e1, e2, ⟨⟨r, u, hv, hp, hb⟩, hF⟩, st⟩ | ⟨q, st₀, t, T', L, E, ce, h0, X', hL, e1, e2, ⟨u, hp, hb, hF⟩, hce, hcv, hcl, st⟩
  · cases hv
    obtain ⟨k1, k2, k3⟩ := vx_keep h0 e1 hS hA hf hL hF
    obtain ⟨t2, a1, b1⟩ := kk r u t T'.heap (locs ++ L) e1.symm (by rw [← e2]; exact X'.warmed.alike) hp hb k1 k2 k3 T' rfl X'
    exact ⟨t2, st t2 a1, b1⟩
  · obtain ⟨k1, k2, k3⟩ := vx_keep h0 e1 hS hAX hf hL hF
    obtain ⟨t2, a1, b1⟩ := kx E ce q u t T'.heap (locs ++ L) e1.symm (by rw [← e2]; exact X'.warmed.alike) hp hb k1 k2 k3 (by rw [e1]; exact hce) hcv hcl T' rfl X'
    exact ⟨t2, st.trans a1, b1⟩
theorem vx_callFd {S SX : Type} {post : UInt64 → S → Prop} {px : SX → Prop} {B : S → State → Prop} {BX : String → SX → State → Prop} {AX : Nat → Prop} (hr : vx_Run5 p l e R s m args below meth c H locs cells slots mc ms (F0 m pc ls st0) rest (va_Qd post B A1 a) (vx_X px BX AX) free) (hS : va_S A0 H0 H locs) (hA : ∀ q, q < H.size → A1 q → A0 q) (hf : ∀ q, free q → A0 q) (hAX : ∀ q, q < H.size → AX q → A0 q)
    (kx : ∀ (E : String) (ce : Cell) (q9 : Addr) (u : SX) (t : State) (H1 : Heap) (locs1 : List Loc), t.heap = H1 → s.vm.Alike t.vm → px u → BX E u t → H.size ≤ H1.size → (∀ q : Nat, q < H.size → ¬ AX q → H1[q]? = H[q]?) → va_S A0 H0 H1 locs1 → H1[q9]? = some ce → ce.vm = .none → s.vm.findClass E = some ce.cls → vx_W p l e R s m args below meth c H1 locs1 (cells + mc) (slots + ms) Q (F0 m pc ls rest) q9)
    (kk : ∀ (r : UInt64) (u : S) (t : State) (H1 : Heap) (locs1 : List Loc), t.heap = H1 → s.vm.Alike t.vm → post r u → B u t → H.size ≤ H1.size → (∀ q : Nat, q < H.size → ¬ A1 q → H1[q]? = H[q]?) → va_S A0 H0 H1 locs1 → W p l e R s m args below meth c H1 locs1 (cells + mc) (slots + ms) Q (F0 m (pc + 5) ls (.double r :: rest))) : W p l e R s m args below meth c H locs cells slots Q (F0 m pc ls st0) := by
  intro T hT X
  rcases hr T hT X with ⟨v, st₀, t, T', L, h0, X', hL, e1, e2, ⟨⟨r, u, hv, hp, hb⟩, hF⟩, st⟩ | ⟨q, st₀, t, T', L, E, ce, h0, X', hL, e1, e2, ⟨u, hp, hb, hF⟩, hce, hcv, hcl, st⟩
  · cases hv
    obtain ⟨k1, k2, k3⟩ := vx_keep h0 e1 hS hA hf hL hF
    obtain ⟨t2, a1, b1⟩ := kk r u t T'.heap (locs ++ L) e1.symm (by rw [← e2]; exact X'.warmed.alike) hp hb k1 k2 k3 T' rfl X'
    exact ⟨t2, st t2 a1, b1⟩
  · obtain ⟨k1, k2, k3⟩ := vx_keep h0 e1 hS hAX hf hL hF
    obtain ⟨t2, a1, b1⟩ := kx E ce q u t T'.heap (locs ++ L) e1.symm (by rw [← e2]; exact X'.warmed.alike) hp hb k1 k2 k3 (by rw [e1]; exact hce) hcv hcl T' rfl X'
    exact ⟨t2, st.trans a1, b1⟩
end
/-! ===== END ===== -/
/-! ===== BEGIN by an interface, a method with a table of its own that may throw (follows va_callIFW, va_runFW) ===== -/
section
variable {p : Program} {l : Launch} {e : Env} {R : Room} {s : State} {m : MethodId} {args : Array Value} {below : List Frame} {meth : Method} {c : Code} {H : Heap} {locs : List Loc} {cells slots : Nat}
theorem vx_callIFW {T : State} (X : Stand p l e R s m args below meth c T locs cells slots) (hexec : p.tables.exec = Jvm.exec) {own C : String} {index count : Nat} {x y : MethodName} {bytes : ByteArray} {maxL : Nat} {ret : Option FieldType} {hh : List (Nat × Nat × Nat × Nat)}
    (hown : s.vm.findClass own = some m.cls) (hlink : (Cond.methodLink own index x).before args s = true) (hdecl : (Cond.declares x).before args s = true) (hface : (Cond.interfaceMethod x.cls x.cls x.name x.desc).before args s = true)
    (hsel : (Cond.selects C x y).before args s = true) (hinst : (Cond.instanceMethod y).before args s = true) (hpub : (Cond.publicMethod y).before args s = true) (hunh : (Cond.unhidden C x.name x.desc).before args s = true)
    (hcast : (Cond.castable C x.cls).before args s = true) (hcode : (Cond.codeWith y bytes maxL ret hh).before args s = true) (hx : x.cls ≠ "java/lang/invoke/MethodHandle" ∧ x.cls ≠ "java/lang/invoke/VarHandle")
    {W : Nat} {Pre : Pt → Array Value → Prop} {Post : Pt → Array Value → Option Value → Pt → Prop} {PostX : Pt → Array Value → Addr → Pt → Prop} (hK : vx_Back l R p e below s args y 5 W Pre Post PostX)
    {b : Addr} {cellB : Cell} {kB : Class} (hcell : T.heap[b]? = some cellB) (hobj : cellB.vm.isStatics = false) (hcls : s.vm.findClass C = some cellB.cls) (hkB : s.vm.classes[cellB.cls]? = some kB)
    {g : JFrame} (hg : g.method = m) (hsize : g.locals.size = c.maxLocals) {argsL rest : List Value} (hlen : ∀ sig, parseMethodDescriptor x.desc = some sig → argsL.length = sig.parameters.length)
    (hstack : g.stack = argsL.reverse ++ .ref b :: rest) (hW : 2 * g.monitorRoom + (rest.map fun v => v.category).sum ≤ W) (hdg : decode c.code g.pc = .ok (.invokeinterface index count, 5))
    (hpre : ∀ vm₁, s.WarmedH vm₁ → Pre ⟨T.setVm vm₁, locs, cells, slots⟩ (Value.ref b :: argsL).toArray) :
    (∃ (v : Option Value) (vm₁ : Vm) (B : Pt), s.WarmedH vm₁ ∧ Stand p l e R s m args below meth c B.U B.locs B.cells B.slots ∧ Post ⟨T.setVm vm₁, locs, cells, slots⟩ (Value.ref b :: argsL).toArray v B ∧
      ∀ target, Steps p.tables e below (B.U.setTop { g with pc := g.pc + 5, stack := v.toList ++ rest }) target → Steps p.tables e below (T.setTop g) target) ∨
    (∃ (q : Addr) (vm₁ : Vm) (B : Pt), s.WarmedH vm₁ ∧ Stand p l e R s m args below meth c B.U B.locs B.cells B.slots ∧ PostX ⟨T.setVm vm₁, locs, cells, slots⟩ (Value.ref b :: argsL).toArray q B ∧
      Steps p.tables e below (T.setTop g) ((B.U.setTop { g with stack := rest }).pushFrame (.throwing q))) := by
  obtain ⟨r0, r, hn, hrm, hstR, hsigR⟩ := Cond.declares_spec hdecl
  obtain ⟨cL, kL, r1, hcL, hkL, hiL, hfoundL, hn1⟩ := Cond.interfaceMethod_spec hface
  cases hn.symm.trans hn1
  have hr0cls : r0.cls = cL := Option.some.inj ((findClass_of_methodNamed hn).symm.trans hcL)
  obtain ⟨hnameR, hdescR⟩ := name_of_methodNamed hn hrm
  obtain ⟨mk, methM, hnamed, hmethM, -, habM⟩ := Cond.instanceMethod_spec hinst
  obtain ⟨c2, r2, m2, q1, q2, q3, q4, -⟩ := Cond.selects_spec hsel
  cases hcls.symm.trans q1
  cases hfoundL.symm.trans q2
  cases hnamed.symm.trans q3
  have hselP : selectMethod e.platform s.vm cellB.cls r0 = .method mk := by rw [Launch.admits_selectMethod X.admits]; exact q4
  have hpubM : hasFlag methM.accessFlags Acc.public_ = true := Cond.publicMethod_spec hnamed hmethM hpub
  have hway : ((cellB.cls :: s.vm.superclasses cellB.cls).any fun k => (declaredIn s.vm r.name r.desc k).any fun (_, z) => z.isPrivate || z.isStatic) = false := by
    rw [hnameR, hdescR]; exact Cond.unhidden_spec hcls hunh
  obtain ⟨c3, t3, w1, w2, w3⟩ := Cond.castable_spec hcast
  cases hcls.symm.trans w1
  cases hcL.symm.trans w2
  obtain ⟨vm₁, X₁, hstep₁⟩ := X.invokeinterface hexec hown hlink hn hrm hstR (by rw [hr0cls]; exact hkL) hiL hx (a := b) (cell := cellB) (kcell := kB) hcell
    (fun z h => by rw [h] at hobj; cases hobj) hkB (by rw [hr0cls]; exact w3) hselP hmethM hway hpubM habM (g := g) hg (argsL := argsL) (rest := rest) (hlen _ hsigR) hstack hdg
  rcases hK m meth c ⟨T.setVm vm₁, locs, cells, slots⟩ { g with stack := rest } (.invokeinterface index count) mk (Value.ref b :: argsL).toArray X₁ hg hsize hdg hW (X₁.named hnamed) (hpre vm₁ X₁.warmed) with ⟨v, B, X', hpost, hsteps⟩ | ⟨q, B, X', hpost, hsteps⟩
  · exact Or.inl ⟨v, vm₁, B, X₁.warmed, X', hpost, fun target h => hstep₁ _ fun acts => by rw [doInvoke_state]; exact hsteps.trans h⟩
  · exact Or.inr ⟨q, vm₁, B, X₁.warmed, X', hpost, hstep₁ _ fun acts => by rw [doInvoke_state]; exact hsteps⟩
theorem vx_runFW {x y : MethodName} {bytes cc : ByteArray} {maxL nL mc ms n index count : Nat} {ret : Option FieldType} {hh : List (Nat × Nat × Nat × Nat)} {ws : List Cond} {rm : Room} {Pc : Array Value → State → Prop} {Qc : Array Value → State → Outcome → State → Prop} {XC : String → State → State → Prop} {free : Addr → Prop} {Ts : List Cond} {own C : String} {cC : ClassId} {b : Addr} {As rest : List Value} {g : JFrame}
    (hat : ClassAt s C cC) (S : CallFix p m c cc nL s args Ts own) (hM : vx_Met l y ws rm Pc Qc XC mc ms free) (cw : va_CIW R s args own C index x y bytes maxL ret hh ws rm mc ms n) (hp : PreV s H C b Pc As)
    (hg : g.method = m) (hn : As.length = n) (hsize : g.locals.size = nL) (hstack : g.stack = As.reverse ++ .ref b :: rest) (hW : 2 * g.monitorRoom + (rest.map fun v => v.category).sum ≤ 8) (hdg : decode cc g.pc = .ok (.invokeinterface index count, 5)) (hf : cells + mc ≤ R.cells ∧ slots + ms ≤ R.slots) :
    vx_Run5 p l e R s m args below meth c H locs cells slots mc ms g rest (Qc (Value.ref b :: As).toArray) XC free := by
  obtain ⟨hrc, hrs, hfr, hlo, hws, hcw⟩ := cw.back
  have hini := cw.init
  have hK : vx_Back l R p e below s args y 5 8 (PreOf R mc ms Pc) (PostOf Qc mc ms free) (vx_Post XC mc ms free) := vx_backW (hh := hh) (bytes := bytes) (maxL := maxL) (ret := ret) hM hp.1 hrc hrs hfr hlo hws hcw (fun a' U hW => word_at hW (Or.inl (by first | rfl | simp [Cond.onTables, Cond.keeps, Cond.steady])) hini)
  obtain ⟨hx, hb, hml, ho, -⟩ := S
  obtain ⟨-, ⟨cellB, hcB, hoB, hclB⟩, hPc⟩ := hp
  obtain ⟨hfc, kB, hkB, -⟩ := hat
  cases hfc.symm.trans hclB
  intro T hT X
  rcases vx_callIFW X hx (C := C) (hh := hh) (bytes := bytes) (maxL := maxL) (ret := ret) ho cw.link cw.decl cw.face cw.sel cw.inst cw.pub cw.unh cw.cast cw.code cw.notMH hK (by rw [hT]; exact hcB) hoB hclB hkB hg (hsize.trans hml.symm) (argsL := As) (rest := rest) (fun sig h => hn.trans (cw.len sig h)) hstack hW (by rw [hb]; exact hdg)
    (fun vm₁ hW₁ => ⟨hf.1, hf.2, hPc (T.setVm vm₁) hT hW₁⟩) with ⟨v, vm₁, ⟨U', l2, c2, s2⟩, hW₁, X', ⟨g', mk, t, L, e1, e2, hq, h1, hL, h2, h3⟩, st⟩ | ⟨q, vm₁, ⟨U', l2, c2, s2⟩, hW₁, X', ⟨g', mk, t, L, E, ce, e1, e2, hq, hce, hcv, hcl, h1, hL, h2, h3⟩, st⟩
  · dsimp only [Pt.U, Pt.locs, Pt.cells, Pt.slots] at X' e1 e2 h1 h2 h3 st
    subst h1; subst h2; subst h3
    exact Or.inl ⟨v, (T.setVm vm₁).calling g' mk (Value.ref b :: As).toArray, t, U', L, hT, X', hL, e1, e2, hq, st⟩
  · dsimp only [Pt.U, Pt.locs, Pt.cells, Pt.slots] at X' e1 e2 h1 h2 h3 st hcl
    subst h1; subst h2; subst h3
    exact Or.inr ⟨q, (T.setVm vm₁).calling g' mk (Value.ref b :: As).toArray, t, U', L, E, ce, hT, X', hL, e1, e2, hq, hce, hcv, vx_cls hW₁ hcl, st⟩
end
/-! ===== END ===== -/
/-! ===== BEGIN .. of methods that hand back an object of the pool ===== -/
section
variable {p : Program} {l : Launch} {e : Env} {R : Room} {s : State} {m : MethodId} {args : Array Value} {below : List Frame} {meth : Method} {c : Code} {H : Heap} {locs : List Loc} {cells slots : Nat} {Q : State → Prop}
variable {mc ms : Nat} {free : Addr → Prop} {A0 A1 : Nat → Prop} {H0 : Heap} {a : Array Value} {pc : Nat} {ls : Array Slot} {st0 rest : List Value}
theorem vx_callq {S SX : Type} {post : Option Nat → S → Prop} {px : SX → Prop} {B : S → State → Prop} {BX : String → SX → State → Prop} {AX : Nat → Prop} (hr : vx_Run p l e R s m args below meth c H locs cells slots mc ms (F0 m pc ls st0) rest (va_Qq post B A1 a) (vx_X px BX AX) free) (hS : va_S A0 H0 H locs) (hA : ∀ q, q < H.size → A1 q → A0 q) (hf : ∀ q, free q → A0 q) (hAX : ∀ q, q < H.size → AX q → A0 q)
    (kx : ∀ (E : String) (ce : Cell) (q9 : Addr) (u : SX) (t : State) (H1 : Heap) (locs1 : List Loc), t.heap = H1 → s.vm.Alike t.vm → px u → BX E u t → H.size ≤ H1.size → (∀ q : Nat, q < H.size → ¬ AX q → H1[q]? = H[q]?) → va_S A0 H0 H1 locs1 → H1[q9]? = some ce → ce.vm = .none → s.vm.findClass E = some ce.cls → vx_W p l e R s m args below meth c H1 locs1 (cells + mc) (slots + ms) Q (F0 m pc ls rest) q9)
    (kk : ∀ (r : Option Nat) (u : S) (t : State) (H1 : Heap) (locs1 : List Loc), t.heap = H1 → s.vm.Alike t.vm → post r u → B u t → H.size ≤ H1.size → (∀ q : Nat, q < H.size → ¬ A1 q → H1[q]? = H[q]?) → va_S A0 H0 H1 locs1 → W p l e R s m args below meth c H1 locs1 (cells + mc) (slots + ms) Q (F0 m (pc + 3) ls (va_rf r :: rest))) : W p l e R s m args below meth c H locs cells slots Q (F0 m pc ls st0) := by
  intro T hT X
  rcases hr T hT X with ⟨v, st₀, t, T', L, h0, X', hL, e1, e2, ⟨⟨r, u, hv, hp, hb⟩, hF⟩, st⟩ | ⟨q, st₀, t, T', L, E, ce, h0, X', hL, e1, e2, ⟨u, hp, hb, hF⟩, hce, hcv, hcl, st⟩
  · cases hv
    obtain ⟨k1, k2, k3⟩ := vx_keep h0 e1 hS hA hf hL hF
    obtain ⟨t2, a1, b1⟩ := kk r u t T'.heap (locs ++ L) e1.symm (by rw [← e2]; exact X'.warmed.alike) hp hb k1 k2 k3 T' rfl X'
    exact ⟨t2, st t2 a1, b1⟩
  · obtain ⟨k1, k2, k3⟩ := vx_keep h0 e1 hS hAX hf hL hF
    obtain ⟨t2, a1, b1⟩ := kx E ce q u t T'.heap (locs ++ L) e1.symm (by rw [← e2]; exact X'.warmed.alike) hp hb k1 k2 k3 (by rw [e1]; exact hce) hcv hcl T' rfl X'
    exact ⟨t2, st.trans a1, b1⟩
end
/-! ===== END ===== -/
/-! ===== BEGIN .. a constant ===== -/
section
variable {p : Program} {l : Launch} {e : Env} {R : Room} {s : State} {m : MethodId} {args : Array Value} {below : List Frame} {meth : Method} {c : Code} {H : Heap} {locs : List Loc} {cells slots : Nat} {Q : State → Prop}
variable {mc ms : Nat} {free : Addr → Prop} {A0 A1 : Nat → Prop} {H0 : Heap} {a : Array Value} {pc : Nat} {ls : Array Slot} {st0 rest : List Value}
theorem vx_calle {ad : Nat → Nat} {S SX : Type} {post : Option Nat → S → Prop} {px : SX → Prop} {B : S → State → Prop} {BX : String → SX → State → Prop} {AX : Nat → Prop} (hr : vx_Run p l e R s m args below meth c H locs cells slots mc ms (F0 m pc ls st0) rest (va_Qe ad post B A1 a) (vx_X px BX AX) free) (hS : va_S A0 H0 H locs) (hA : ∀ q, q < H.size → A1 q → A0 q) (hf : ∀ q, free q → A0 q) (hAX : ∀ q, q < H.size → AX q → A0 q)
    (kx : ∀ (E : String) (ce : Cell) (q9 : Addr) (u : SX) (t : State) (H1 : Heap) (locs1 : List Loc), t.heap = H1 → s.vm.Alike t.vm → px u → BX E u t → H.size ≤ H1.size → (∀ q : Nat, q < H.size → ¬ AX q → H1[q]? = H[q]?) → va_S A0 H0 H1 locs1 → H1[q9]? = some ce → ce.vm = .none → s.vm.findClass E = some ce.cls → vx_W p l e R s m args below meth c H1 locs1 (cells + mc) (slots + ms) Q (F0 m pc ls rest) q9)
    (kk : ∀ (r : Option Nat) (u : S) (t : State) (H1 : Heap) (locs1 : List Loc), t.heap = H1 → s.vm.Alike t.vm → post r u → B u t → H.size ≤ H1.size → (∀ q : Nat, q < H.size → ¬ A1 q → H1[q]? = H[q]?) → va_S A0 H0 H1 locs1 → W p l e R s m args below meth c H1 locs1 (cells + mc) (slots + ms) Q (F0 m (pc + 3) ls (va_re ad r :: rest))) : W p l e R s m args below meth c H locs cells slots Q (F0 m pc ls st0) := by
  intro T hT X
  rcases hr T hT X with ⟨v, st₀, t, T', L, h0, X', hL, e1, e2, ⟨⟨r, u, hv, hp, hb⟩, hF⟩, st⟩ | ⟨q, st₀, t, T', L, E, ce, h0, X', hL, e1, e2, ⟨u, hp, hb, hF⟩, hce, hcv, hcl, st⟩
  · cases hv
    obtain ⟨k1, k2, k3⟩ := vx_keep h0 e1 hS hA hf hL hF
    obtain ⟨t2, a1, b1⟩ := kk r u t T'.heap (locs ++ L) e1.symm (by rw [← e2]; exact X'.warmed.alike) hp hb k1 k2 k3 T' rfl X'
    exact ⟨t2, st t2 a1, b1⟩
  · obtain ⟨k1, k2, k3⟩ := vx_keep h0 e1 hS hAX hf hL hF
    obtain ⟨t2, a1, b1⟩ := kx E ce q u t T'.heap (locs ++ L) e1.symm (by rw [← e2]; exact X'.warmed.alike) hp hb k1 k2 k3 (by rw [e1]; exact hce) hcv hcl T' rfl X'
    exact ⟨t2, st.trans a1, b1⟩
end
/-! ===== END ===== -/
/-! ===== BEGIN .. by an interface, an object ===== -/
section
variable {p : Program} {l : Launch} {e : Env} {R : Room} {s : State} {m : MethodId} {args : Array Value} {below : List Frame} {meth : Method} {c : Code} {H : Heap} {locs : List Loc} {cells slots : Nat} {Q : State → Prop}
variable {mc ms : Nat} {free : Addr → Prop} {A0 A1 : Nat → Prop} {H0 : Heap} {a : Array Value} {pc : Nat} {ls : Array Slot} {st0 rest : List Value}
theorem vx_callFq {S SX : Type} {post : Option Nat → S → Prop} {px : SX → Prop} {B : S → State → Prop} {BX : String → SX → State → Prop} {AX : Nat → Prop} (hr : vx_Run5 p l e R s m args below meth c H locs cells slots mc ms (F0 m pc ls st0) rest (va_Qq post B A1 a) (vx_X px BX AX) free) (hS : va_S A0 H0 H locs) (hA : ∀ q, q < H.size → A1 q → A0 q) (hf : ∀ q, free q → A0 q) (hAX : ∀ q, q < H.size → AX q → A0 q)
    (kx : ∀ (E : String) (ce : Cell) (q9 : Addr) (u : SX) (t : State) (H1 : Heap) (locs1 : List Loc), t.heap = H1 → s.vm.Alike t.vm → px u → BX E u t → H.size ≤ H1.size → (∀ q : Nat, q < H.size → ¬ AX q → H1[q]? = H[q]?) → va_S A0 H0 H1 locs1 → H1[q9]? = some ce → ce.vm = .none → s.vm.findClass E = some ce.cls → vx_W p l e R s m args below meth c H1 locs1 (cells + mc) (slots + ms) Q (F0 m pc ls rest) q9)
    (kk : ∀ (r : Option Nat) (u : S) (t : State) (H1 : Heap) (locs1 : List Loc), t.heap = H1 → s.vm.Alike t.vm → post r u → B u t → H.size ≤ H1.size → (∀ q : Nat, q < H.size → ¬ A1 q → H1[q]? = H[q]?) → va_S A0 H0 H1 locs1 → W p l e R s m args below meth c H1 locs1 (cells + mc) (slots + ms) Q (F0 m (pc + 5) ls (va_rf r :: rest))) : W p l e R s m args below meth c H locs cells slots Q (F0 m pc ls st0) := by
  intro T hT X
  rcases hr T hT X with ⟨v, st₀, t, T', L, h0, X', hL, e1, e2, ⟨⟨r, u, hv, hp, hb⟩, hF⟩, st⟩ | ⟨q, st₀, t, T', L, E, ce, h0, X', hL, e1, e2, ⟨u, hp, hb, hF⟩, hce, hcv, hcl, st⟩
  · cases hv
    obtain ⟨k1, k2, k3⟩ := vx_keep h0 e1 hS hA hf hL hF
    obtain ⟨t2, a1, b1⟩ := kk r u t T'.heap (locs ++ L) e1.symm (by rw [← e2]; exact X'.warmed.alike) hp hb k1 k2 k3 T' rfl X'
    exact ⟨t2, st t2 a1, b1⟩
  · obtain ⟨k1, k2, k3⟩ := vx_keep h0 e1 hS hAX hf hL hF
    obtain ⟨t2, a1, b1⟩ := kx E ce q u t T'.heap (locs ++ L) e1.symm (by rw [← e2]; exact X'.warmed.alike) hp hb k1 k2 k3 (by rw [e1]; exact hce) hcv hcl T' rfl X'
    exact ⟨t2, st.trans a1, b1⟩
end
/-! ===== END ===== -/
/-! ===== BEGIN .. by an interface, a constant ===== -/
section
variable {p : Program} {l : Launch} {e : Env} {R : Room} {s : State} {m : MethodId} {args : Array Value} {below : List Frame} {meth : Method} {c : Code} {H : Heap} {locs : List Loc} {cells slots : Nat} {Q : State → Prop}
variable {mc ms : Nat} {free : Addr → Prop} {A0 A1 : Nat → Prop} {H0 : Heap} {a : Array Value} {pc : Nat} {ls : Array Slot} {st0 rest : List Value}
theorem vx_callFe {ad : Nat → Nat} {S SX : Type} {post : Option Nat → S → Prop} {px : SX → Prop} {B : S → State → Prop} {BX : String → SX → State → Prop} {AX : Nat → Prop} (hr : vx_Run5 p l e R s m args below meth c H locs cells slots mc ms (F0 m pc ls st0) rest (va_Qe ad post B A1 a) (vx_X px BX AX) free) (hS : va_S A0 H0 H locs) (hA : ∀ q, q < H.size → A1 q → A0 q) (hf : ∀ q, free q → A0 q) (hAX : ∀ q, q < H.size → AX q → A0 q)
    (kx : ∀ (E : String) (ce : Cell) (q9 : Addr) (u : SX) (t : State) (H1 : Heap) (locs1 : List Loc), t.heap = H1 → s.vm.Alike t.vm → px u → BX E u t → H.size ≤ H1.size → (∀ q : Nat, q < H.size → ¬ AX q → H1[q]? = H[q]?) → va_S A0 H0 H1 locs1 → H1[q9]? = some ce → ce.vm = .none → s.vm.findClass E = some ce.cls → vx_W p l e R s m args below meth c H1 locs1 (cells + mc) (slots + ms) Q (F0 m pc ls rest) q9)
    (kk : ∀ (r : Option Nat) (u : S) (t : State) (H1 : Heap) (locs1 : List Loc), t.heap = H1 → s.vm.Alike t.vm → post r u → B u t → H.size ≤ H1.size → (∀ q : Nat, q < H.size → ¬ A1 q → H1[q]? = H[q]?) → va_S A0 H0 H1 locs1 → W p l e R s m args below meth c H1 locs1 (cells + mc) (slots + ms) Q (F0 m (pc + 5) ls (va_re ad r :: rest))) : W p l e R s m args below meth c H locs cells slots Q (F0 m pc ls st0) := by
  intro T hT X
  rcases hr T hT X with ⟨v, st₀, t, T', L, h0, X', hL, e1, e2, ⟨⟨r, u, hv, hp, hb⟩, hF⟩, st⟩ | ⟨q, st₀, t, T', L, E, ce, h0, X', hL, e1, e2, ⟨u, hp, hb, hF⟩, hce, hcv, hcl, st⟩
  · cases hv
    obtain ⟨k1, k2, k3⟩ := vx_keep h0 e1 hS hA hf hL hF
    obtain ⟨t2, a1, b1⟩ := kk r u t T'.heap (locs ++ L) e1.symm (by rw [← e2]; exact X'.warmed.alike) hp hb k1 k2 k3 T' rfl X'
    exact ⟨t2, st t2 a1, b1⟩
  · obtain ⟨k1, k2, k3⟩ := vx_keep h0 e1 hS hAX hf hL hF
    obtain ⟨t2, a1, b1⟩ := kx E ce q u t T'.heap (locs ++ L) e1.symm (by rw [← e2]; exact X'.warmed.alike) hp hb k1 k2 k3 (by rw [e1]; exact hce) hcv hcl T' rfl X'
    exact ⟨t2, st.trans a1, b1⟩
end
/-! ===== END ===== -/
/-! ===== BEGIN what the machine throws by itself: null at a field, at athrow ===== -/
section VXM2
variable {p : Program} {l : Launch} {e : Env} {R : Room} {s : State} {m : MethodId} {args : Array Value} {below : List Frame} {meth : Method} {c : Code} {H : Heap} {locs : List Loc} {cells slots : Nat}
variable {Q : State → Prop} {cc : ByteArray} {pc : Nat} {ls : Array Slot} {rest : List Value}
theorem vx_getfN {D cl tys} {own ref C : String} {T : u_T} {N ci index : Nat} {Ts : List Cond} (hexec : p.tables.exec = Jvm.exec) (hb : c.code = cc) (hts : ∀ w ∈ Ts, w.before args s = true) (hin : ∀ w ∈ u_ws C T N, w ∈ Ts) (hown : s.vm.findClass own = some m.cls) (hK : va_K D cl tys s) (hc : cl[ci]? = some (C, T, N)) (k : Nat) (hk : k < N) (hlink : (Cond.fieldLink own index ref (T k).2.1 (T k).2.2.1).before args s = true) (hsame : ∀ x, s.fieldFound? (T k).1 (T k).2.1 (T k).2.2.1 = some x → s.fieldFound? ref (T k).2.1 (T k).2.2.1 = some x) (hdg : decode cc pc = .ok (.getfield index, 3)) (kk : vx_NoteN p l e R s m args below meth c H locs cells slots Q (F0 m pc ls rest)) : W p l e R s m args below meth c H locs cells slots Q (F0 m pc ls (.null :: rest)) := by
  obtain ⟨hS, hfc, kC, hkC, -⟩ := hK.1 ci _ hc
  obtain ⟨cf, kf, fi, f, hi, -⟩ := hS k hk
  intro U hU X
  obtain ⟨vm', X1, st1⟩ := X.getfieldNull hexec hown hlink (hsame _ hi) (u_facts hfc hkC (u_lays hts hin hk) hi).1 (g := F0 m pc ls (.null :: rest)) rfl (rest := rest) rfl (by rw [hb]; exact hdg)
  obtain ⟨t, st, q⟩ := kk (U.setVm vm') hU X1
  exact ⟨t, st1 t st, q⟩
theorem vx_getfNN {D cl tys} {own ref C host : String} {T : u_T} {N ci index : Nat} {Ts : List Cond} (hexec : p.tables.exec = Jvm.exec) (hb : c.code = cc) (hts : ∀ w ∈ Ts, w.before args s = true) (hin : ∀ w ∈ u_ws C T N, w ∈ Ts) (hown : s.vm.findClass own = some m.cls) (hK : va_K D cl tys s) (hc : cl[ci]? = some (C, T, N)) (k : Nat) (hk : k < N) (hlink : (Cond.fieldLinkNest own index ref (T k).2.1 (T k).2.2.1 host).before args s = true) (hsame : ∀ x, s.fieldFound? (T k).1 (T k).2.1 (T k).2.2.1 = some x → s.fieldFound? ref (T k).2.1 (T k).2.2.1 = some x) (hdg : decode cc pc = .ok (.getfield index, 3)) (kk : vx_NoteN p l e R s m args below meth c H locs cells slots Q (F0 m pc ls rest)) : W p l e R s m args below meth c H locs cells slots Q (F0 m pc ls (.null :: rest)) := by
  obtain ⟨hS, hfc, kC, hkC, -⟩ := hK.1 ci _ hc
  obtain ⟨cf, kf, fi, f, hi, -⟩ := hS k hk
  intro U hU X
  obtain ⟨vm', X1, st1⟩ := X.getfieldNullNest hexec hown hlink (hsame _ hi) (u_facts hfc hkC (u_lays hts hin hk) hi).1 (g := F0 m pc ls (.null :: rest)) rfl (rest := rest) rfl (by rw [hb]; exact hdg)
  obtain ⟨t, st, q⟩ := kk (U.setVm vm') hU X1
  exact ⟨t, st1 t st, q⟩
theorem vx_putfN {D cl tys} {own ref C : String} {T : u_T} {N ci index : Nat} {Ts : List Cond} (hexec : p.tables.exec = Jvm.exec) (hb : c.code = cc) (hts : ∀ w ∈ Ts, w.before args s = true) (hin : ∀ w ∈ u_ws C T N, w ∈ Ts) (hown : s.vm.findClass own = some m.cls) (hK : va_K D cl tys s) (hc : cl[ci]? = some (C, T, N)) (k : Nat) (hk : k < N) (hlink : (Cond.fieldLink own index ref (T k).2.1 (T k).2.2.1).before args s = true) (hsame : ∀ x, s.fieldFound? (T k).1 (T k).2.1 (T k).2.2.1 = some x → s.fieldFound? ref (T k).2.1 (T k).2.2.1 = some x) (hfin : (T k).2.2.2 = false) {v : Value} (hdg : decode cc pc = .ok (.putfield index, 3)) (kk : vx_NoteN p l e R s m args below meth c H locs cells slots Q (F0 m pc ls rest)) : W p l e R s m args below meth c H locs cells slots Q (F0 m pc ls (v :: .null :: rest)) := by
  obtain ⟨hS, hfc, kC, hkC, -⟩ := hK.1 ci _ hc
  obtain ⟨cf, kf, fi, f, hi, -⟩ := hS k hk
  have hlay := hts _ (hin _ (u_in_lay hk))
  unfold u_lay at hlay
  rw [if_neg (by rw [hfin]; decide)] at hlay
  obtain ⟨c9, k9, cf9, kf9, fi9, f9, -, -, hi9, hst9, hnf9, -⟩ := Cond.lays_spec hlay
  cases hi.symm.trans hi9
  intro U hU X
  obtain ⟨vm', X1, st1⟩ := X.putfieldNull hexec hown hlink (hsame _ hi) hst9 hnf9 (g := F0 m pc ls (v :: .null :: rest)) rfl (v := v) (rest := rest) rfl (by rw [hb]; exact hdg)
  obtain ⟨t, st, q⟩ := kk (U.setVm vm') hU X1
  exact ⟨t, st1 t st, q⟩
theorem vx_putfNN {D cl tys} {own ref C host : String} {T : u_T} {N ci index : Nat} {Ts : List Cond} (hexec : p.tables.exec = Jvm.exec) (hb : c.code = cc) (hts : ∀ w ∈ Ts, w.before args s = true) (hin : ∀ w ∈ u_ws C T N, w ∈ Ts) (hown : s.vm.findClass own = some m.cls) (hK : va_K D cl tys s) (hc : cl[ci]? = some (C, T, N)) (k : Nat) (hk : k < N) (hlink : (Cond.fieldLinkNest own index ref (T k).2.1 (T k).2.2.1 host).before args s = true) (hsame : ∀ x, s.fieldFound? (T k).1 (T k).2.1 (T k).2.2.1 = some x → s.fieldFound? ref (T k).2.1 (T k).2.2.1 = some x) (hfin : (T k).2.2.2 = false) {v : Value} (hdg : decode cc pc = .ok (.putfield index, 3)) (kk : vx_NoteN p l e R s m args below meth c H locs cells slots Q (F0 m pc ls rest)) : W p l e R s m args below meth c H locs cells slots Q (F0 m pc ls (v :: .null :: rest)) := by
  obtain ⟨hS, hfc, kC, hkC, -⟩ := hK.1 ci _ hc
  obtain ⟨cf, kf, fi, f, hi, -⟩ := hS k hk
  have hlay := hts _ (hin _ (u_in_lay hk))
  unfold u_lay at hlay
  rw [if_neg (by rw [hfin]; decide)] at hlay
  obtain ⟨c9, k9, cf9, kf9, fi9, f9, -, -, hi9, hst9, hnf9, -⟩ := Cond.lays_spec hlay
  cases hi.symm.trans hi9
  intro U hU X
  obtain ⟨vm', X1, st1⟩ := X.putfieldNullNest hexec hown hlink (hsame _ hi) hst9 hnf9 (g := F0 m pc ls (v :: .null :: rest)) rfl (v := v) (rest := rest) rfl (by rw [hb]; exact hdg)
  obtain ⟨t, st, q⟩ := kk (U.setVm vm') hU X1
  exact ⟨t, st1 t st, q⟩
theorem vx_athrowN (hexec : p.tables.exec = Jvm.exec) (hb : c.code = cc) (hdg : decode cc pc = .ok (.athrow, 1)) (k : vx_NoteN p l e R s m args below meth c H locs cells slots Q (F0 m pc ls rest)) : W p l e R s m args below meth c H locs cells slots Q (F0 m pc ls (.null :: rest)) := by
  intro T hT X
  obtain ⟨t, st, q⟩ := k T hT X
  exact ⟨t, X.athrowNull hexec (g := F0 m pc ls (.null :: rest)) rfl (rest := rest) rfl (by rw [hb]; exact hdg) t st, q⟩
end VXM2
/-! ===== END ===== -/
end
section
/-! ===== BEGIN printed: names, fields, word lists, decode rows ===== -/
def RX0 : String := "MirrorJury$Box"
def TX0 : u_T := fun k => match k with
  | _ => ("", "", "", false)
def tyX0 : Nat → FieldType := fun k => match k with
  | _ => .int
abbrev wsX00 : List Cond := u_ws RX0 TX0 0
theorem nmX0 : ∀ a, a < 0 → ∀ b, b < 0 → a ≠ b → (TX0 a).2.1 ≠ (TX0 b).2.1 := by decide +kernel
theorem tyX0_ok : ∀ k, k < 0 → parseFieldDescriptor (TX0 k).2.2.1 = some (tyX0 k) := by decide +kernel
abbrev cX0_cellAt : ByteArray := prog_2_method_2_code
def yX0_cellAt : MethodName := ⟨RX0, "cellAt", "(I)I"⟩
abbrev cX0_directionAt : ByteArray := prog_2_method_3_code
def yX0_directionAt : MethodName := ⟨RX0, "directionAt", "(I)I"⟩
abbrev cX0_portAt : ByteArray := prog_2_method_4_code
def yX0_portAt : MethodName := ⟨RX0, "portAt", "(II)I"⟩
abbrev cX0_neighbour : ByteArray := prog_2_method_5_code
def yX0_neighbour : MethodName := ⟨RX0, "neighbour", "(II)I"⟩
abbrev cX0_reflected : ByteArray := prog_2_method_6_code
def yX0_reflected : MethodName := ⟨RX0, "reflected", "(CI)I"⟩
abbrev cX0_opposite : ByteArray := prog_2_method_7_code
def yX0_opposite : MethodName := ⟨RX0, "opposite", "(I)I"⟩
abbrev cX0_side : ByteArray := prog_2_method_8_code
def yX0_side : MethodName := ⟨RX0, "side", "(II)I"⟩
def RX1 : String := "MirrorJury$Courses"
def TX1 : u_T := fun k => match k with
  | 0 => ("MirrorJury$Courses", "efforts", "[I", true)
  | 1 => ("MirrorJury$Courses", "queue", "[I", true)
  | 2 => ("MirrorJury$Courses", "head", "I", false)
  | _ => ("MirrorJury$Courses", "waiting", "I", false)
def tyX1 : Nat → FieldType := fun k => match k with
  | 0 => .array .int
  | 1 => .array .int
  | 2 => .int
  | _ => .int
abbrev wsX10 : List Cond := u_ws RX1 TX1 4
theorem nmX1 : ∀ a, a < 4 → ∀ b, b < 4 → a ≠ b → (TX1 a).2.1 ≠ (TX1 b).2.1 := by decide +kernel
theorem tyX1_ok : ∀ k, k < 4 → parseFieldDescriptor (TX1 k).2.2.1 = some (tyX1 k) := by decide +kernel
abbrev cX1_init : ByteArray := prog_3_method_1_code
def yX1_init : MethodName := ⟨RX1, "<init>", "()V"⟩
abbrev cX1_start : ByteArray := prog_3_method_2_code
def yX1_start : MethodName := ⟨RX1, "start", "(I)I"⟩
abbrev cX1_effortInto : ByteArray := prog_3_method_3_code
def yX1_effortInto : MethodName := ⟨RX1, "effortInto", "(I)I"⟩
abbrev cX1_searchByQueue : ByteArray := prog_3_method_4_code
def yX1_searchByQueue : MethodName := ⟨RX1, "searchByQueue", "(LMirrorJury$Court;I)V"⟩
abbrev cX1_goOn : ByteArray := prog_3_method_5_code
def yX1_goOn : MethodName := ⟨RX1, "goOn", "(LMirrorJury$Court;I)V"⟩
abbrev cX1_reach : ByteArray := prog_3_method_6_code
def yX1_reach : MethodName := ⟨RX1, "reach", "(IIZ)V"⟩
abbrev cX1_putAhead : ByteArray := prog_3_method_7_code
def yX1_putAhead : MethodName := ⟨RX1, "putAhead", "(I)V"⟩
abbrev cX1_putBehind : ByteArray := prog_3_method_8_code
def yX1_putBehind : MethodName := ⟨RX1, "putBehind", "(I)V"⟩
abbrev cX1_takeFirst : ByteArray := prog_3_method_9_code
def yX1_takeFirst : MethodName := ⟨RX1, "takeFirst", "()I"⟩
abbrev cX1_searchByRounds : ByteArray := prog_3_method_10_code
def yX1_searchByRounds : MethodName := ⟨RX1, "searchByRounds", "(LMirrorJury$Court;I)V"⟩
abbrev cX1_lowerAll : ByteArray := prog_3_method_11_code
def yX1_lowerAll : MethodName := ⟨RX1, "lowerAll", "(LMirrorJury$Court;)Z"⟩
abbrev cX1_effortFromBehind : ByteArray := prog_3_method_12_code
def yX1_effortFromBehind : MethodName := ⟨RX1, "effortFromBehind", "(LMirrorJury$Court;I)I"⟩
def RX2 : String := "MirrorJury$Court"
def TX2 : u_T := fun k => match k with
  | 0 => ("MirrorJury$Court", "contents", "[C", true)
  | 1 => ("MirrorJury$Court", "cells", "[I", true)
  | 2 => ("MirrorJury$Court", "rankings", "[I", true)
  | 3 => ("MirrorJury$Court", "firstRankings", "[I", true)
  | 4 => ("MirrorJury$Court", "heard", "[I", true)
  | 5 => ("MirrorJury$Court", "verdicts", "[C", true)
  | 6 => ("MirrorJury$Court", "cats", "I", false)
  | 7 => ("MirrorJury$Court", "votingMethod", "C", false)
  | 8 => ("MirrorJury$Court", "held", "I", false)
  | 9 => ("MirrorJury$Court", "timesHung", "I", false)
  | 10 => ("MirrorJury$Court", "timesRetried", "I", false)
  | 11 => ("MirrorJury$Court", "given", "I", false)
  | 12 => ("MirrorJury$Court", "awaitsRetrial", "Z", false)
  | _ => ("MirrorJury$Court", "isAltered", "Z", false)
def tyX2 : Nat → FieldType := fun k => match k with
  | 0 => .array .char
  | 1 => .array .int
  | 2 => .array .int
  | 3 => .array .int
  | 4 => .array .int
  | 5 => .array .char
  | 6 => .int
  | 7 => .char
  | 8 => .int
  | 9 => .int
  | 10 => .int
  | 11 => .int
  | 12 => .boolean
  | _ => .boolean
abbrev wsX20 : List Cond := u_ws RX2 TX2 14
theorem nmX2 : ∀ a, a < 14 → ∀ b, b < 14 → a ≠ b → (TX2 a).2.1 ≠ (TX2 b).2.1 := by decide +kernel
theorem tyX2_ok : ∀ k, k < 14 → parseFieldDescriptor (TX2 k).2.2.1 = some (tyX2 k) := by decide +kernel
abbrev cX2_init : ByteArray := prog_4_method_1_code
def yX2_init : MethodName := ⟨RX2, "<init>", "()V"⟩
abbrev cX2_copyFrom : ByteArray := prog_4_method_2_code
def yX2_copyFrom : MethodName := ⟨RX2, "copyFrom", "(LMirrorJury$Court;)V"⟩
abbrev cX2_findCat : ByteArray := prog_4_method_3_code
def yX2_findCat : MethodName := ⟨RX2, "findCat", "(I)I"⟩
abbrev cX2_countMirrors : ByteArray := prog_4_method_4_code
def yX2_countMirrors : MethodName := ⟨RX2, "countMirrors", "()I"⟩
abbrev cX2_reasonAgainstCat : ByteArray := prog_4_method_5_code
def yX2_reasonAgainstCat : MethodName := ⟨RX2, "reasonAgainstCat", "(I)I"⟩
abbrev cX2_reasonAgainstMirror : ByteArray := prog_4_method_6_code
def yX2_reasonAgainstMirror : MethodName := ⟨RX2, "reasonAgainstMirror", "(I)I"⟩
abbrev cX2_seatCat : ByteArray := prog_4_method_7_code
def yX2_seatCat : MethodName := ⟨RX2, "seatCat", "(ICCC)V"⟩
abbrev cX2_rank : ByteArray := prog_4_method_8_code
def yX2_rank : MethodName := ⟨RX2, "rank", "(III)V"⟩
abbrev cX2_changeContent : ByteArray := prog_4_method_9_code
def yX2_changeContent : MethodName := ⟨RX2, "changeContent", "(IC)V"⟩
abbrev cX2_optionIn : ByteArray := prog_4_method_10_code
def yX2_optionIn : MethodName := ⟨RX2, "optionIn", "(II)I"⟩
abbrev cX2_placeIn : ByteArray := prog_4_method_11_code
def yX2_placeIn : MethodName := ⟨RX2, "placeIn", "(II)I"⟩
abbrev cX2_hear : ByteArray := prog_4_method_12_code
def yX2_hear : MethodName := ⟨RX2, "hear", "(II)V"⟩
abbrev cX2_conclude : ByteArray := prog_4_method_13_code
def yX2_conclude : MethodName := ⟨RX2, "conclude", "(C)V"⟩
abbrev cX2_mayRetry : ByteArray := prog_4_method_14_code
def yX2_mayRetry : MethodName := ⟨RX2, "mayRetry", "()Z"⟩
abbrev cX2_startAgain : ByteArray := prog_4_method_15_code
def yX2_startAgain : MethodName := ⟨RX2, "startAgain", "()I"⟩
abbrev cX2_resetRanking : ByteArray := prog_4_method_16_code
def yX2_resetRanking : MethodName := ⟨RX2, "resetRanking", "(I)Z"⟩
abbrev cX2_catsAhead : ByteArray := prog_4_method_17_code
def yX2_catsAhead : MethodName := ⟨RX2, "catsAhead", "(I)I"⟩
abbrev cX2_countHeard : ByteArray := prog_4_method_18_code
def yX2_countHeard : MethodName := ⟨RX2, "countHeard", "()I"⟩
def RX3 : String := "MirrorJury$History"
def TX3 : u_T := fun k => match k with
  | 0 => ("MirrorJury$History", "slots", "[LMirrorJury$Court;", true)
  | 1 => ("MirrorJury$History", "oldest", "I", false)
  | _ => ("MirrorJury$History", "kept", "I", false)
def tyX3 : Nat → FieldType := fun k => match k with
  | 0 => .array (.object "MirrorJury$Court")
  | 1 => .int
  | _ => .int
abbrev wsX30 : List Cond := u_ws RX3 TX3 3
theorem nmX3 : ∀ a, a < 3 → ∀ b, b < 3 → a ≠ b → (TX3 a).2.1 ≠ (TX3 b).2.1 := by decide +kernel
theorem tyX3_ok : ∀ k, k < 3 → parseFieldDescriptor (TX3 k).2.2.1 = some (tyX3 k) := by decide +kernel
abbrev cX3_init : ByteArray := prog_5_method_1_code
def yX3_init : MethodName := ⟨RX3, "<init>", "()V"⟩
abbrev cX3_slotOfMarked : ByteArray := prog_5_method_2_code
def yX3_slotOfMarked : MethodName := ⟨RX3, "slotOfMarked", "()LMirrorJury$Court;"⟩
abbrev cX3_mark : ByteArray := prog_5_method_3_code
def yX3_mark : MethodName := ⟨RX3, "mark", "(LMirrorJury$Court;)V"⟩
abbrev cX3_returnToMarked : ByteArray := prog_5_method_4_code
def yX3_returnToMarked : MethodName := ⟨RX3, "returnToMarked", "(LMirrorJury$Court;)V"⟩
abbrev cX3_keepMarked : ByteArray := prog_5_method_5_code
def yX3_keepMarked : MethodName := ⟨RX3, "keepMarked", "()V"⟩
abbrev cX3_keep : ByteArray := prog_5_method_6_code
def yX3_keep : MethodName := ⟨RX3, "keep", "(LMirrorJury$Court;)V"⟩
abbrev cX3_stepBack : ByteArray := prog_5_method_7_code
def yX3_stepBack : MethodName := ⟨RX3, "stepBack", "(LMirrorJury$Court;)V"⟩
def RX4 : String := "MirrorJury$Joining"
def TX4 : u_T := fun k => match k with
  | _ => ("MirrorJury$Joining", "parents", "[I", true)
def tyX4 : Nat → FieldType := fun k => match k with
  | _ => .array .int
abbrev wsX40 : List Cond := u_ws RX4 TX4 1
theorem nmX4 : ∀ a, a < 1 → ∀ b, b < 1 → a ≠ b → (TX4 a).2.1 ≠ (TX4 b).2.1 := by decide +kernel
theorem tyX4_ok : ∀ k, k < 1 → parseFieldDescriptor (TX4 k).2.2.1 = some (tyX4 k) := by decide +kernel
abbrev cX4_init : ByteArray := prog_6_method_1_code
def yX4_init : MethodName := ⟨RX4, "<init>", "()V"⟩
abbrev cX4_joinAll : ByteArray := prog_6_method_2_code
def yX4_joinAll : MethodName := ⟨RX4, "joinAll", "(LMirrorJury$Court;)V"⟩
abbrev cX4_joinToNeighbour : ByteArray := prog_6_method_3_code
def yX4_joinToNeighbour : MethodName := ⟨RX4, "joinToNeighbour", "(II)V"⟩
abbrev cX4_joinWithin : ByteArray := prog_6_method_4_code
def yX4_joinWithin : MethodName := ⟨RX4, "joinWithin", "(IC)V"⟩
abbrev cX4_join : ByteArray := prog_6_method_5_code
def yX4_join : MethodName := ⟨RX4, "join", "(II)V"⟩
abbrev cX4_rootOf : ByteArray := prog_6_method_6_code
def yX4_rootOf : MethodName := ⟨RX4, "rootOf", "(I)I"⟩
abbrev cX4_rootAt : ByteArray := prog_6_method_7_code
def yX4_rootAt : MethodName := ⟨RX4, "rootAt", "(I)I"⟩
abbrev cX4_otherEnd : ByteArray := prog_6_method_8_code
def yX4_otherEnd : MethodName := ⟨RX4, "otherEnd", "(I)I"⟩
def RX5 : String := "MirrorJury$Ray"
def TX5 : u_T := fun k => match k with
  | 0 => ("MirrorJury$Ray", "exit", "I", false)
  | 1 => ("MirrorJury$Ray", "cat", "I", false)
  | 2 => ("MirrorJury$Ray", "length", "I", false)
  | _ => ("MirrorJury$Ray", "bounces", "I", false)
def tyX5 : Nat → FieldType := fun k => match k with
  | 0 => .int
  | 1 => .int
  | 2 => .int
  | _ => .int
abbrev wsX50 : List Cond := u_ws RX5 TX5 4
theorem nmX5 : ∀ a, a < 4 → ∀ b, b < 4 → a ≠ b → (TX5 a).2.1 ≠ (TX5 b).2.1 := by decide +kernel
theorem tyX5_ok : ∀ k, k < 4 → parseFieldDescriptor (TX5 k).2.2.1 = some (tyX5 k) := by decide +kernel
abbrev cX5_init : ByteArray := prog_7_method_1_code
def yX5_init : MethodName := ⟨RX5, "<init>", "()V"⟩
abbrev cX5_follow : ByteArray := prog_7_method_2_code
def yX5_follow : MethodName := ⟨RX5, "follow", "(LMirrorJury$Court;I)V"⟩
def RX6 : String := "MirrorJury$Script"
def TX6 : u_T := fun k => match k with
  | 0 => ("MirrorJury$Script", "text", "Ljava/lang/StringBuilder;", true)
  | 1 => ("MirrorJury$Script", "position", "I", false)
  | 2 => ("MirrorJury$Script", "kind", "I", false)
  | 3 => ("MirrorJury$Script", "number", "I", false)
  | 4 => ("MirrorJury$Script", "first", "C", false)
  | 5 => ("MirrorJury$Script", "second", "C", false)
  | _ => ("MirrorJury$Script", "third", "C", false)
def tyX6 : Nat → FieldType := fun k => match k with
  | 0 => .object "java/lang/StringBuilder"
  | 1 => .int
  | 2 => .int
  | 3 => .int
  | 4 => .char
  | 5 => .char
  | _ => .char
abbrev wsX60 : List Cond := u_ws RX6 TX6 7
theorem nmX6 : ∀ a, a < 7 → ∀ b, b < 7 → a ≠ b → (TX6 a).2.1 ≠ (TX6 b).2.1 := by decide +kernel
theorem tyX6_ok : ∀ k, k < 7 → parseFieldDescriptor (TX6 k).2.2.1 = some (tyX6 k) := by decide +kernel
abbrev cX6_init : ByteArray := prog_8_method_1_code
def yX6_init : MethodName := ⟨RX6, "<init>", "()V"⟩
abbrev cX6_countCommands : ByteArray := prog_8_method_2_code
def yX6_countCommands : MethodName := ⟨RX6, "countCommands", "()I"⟩
abbrev cX6_skipSeparator : ByteArray := prog_8_method_3_code
def yX6_skipSeparator : MethodName := ⟨RX6, "skipSeparator", "()V"⟩
abbrev cX6_readCommand : ByteArray := prog_8_method_4_code
def yX6_readCommand : MethodName := ⟨RX6, "readCommand", "()Z"⟩
abbrev cX6_readMirrorOrMethod : ByteArray := prog_8_method_5_code
def yX6_readMirrorOrMethod : MethodName := ⟨RX6, "readMirrorOrMethod", "()Z"⟩
abbrev cX6_takeRanking : ByteArray := prog_8_method_6_code
def yX6_takeRanking : MethodName := ⟨RX6, "takeRanking", "()Z"⟩
abbrev cX6_peek : ByteArray := prog_8_method_7_code
def yX6_peek : MethodName := ⟨RX6, "peek", "()C"⟩
abbrev cX6_takeWord : ByteArray := prog_8_method_8_code
def yX6_takeWord : MethodName := ⟨RX6, "takeWord", "(Ljava/lang/String;)Z"⟩
abbrev cX6_isDigit : ByteArray := prog_8_method_9_code
def yX6_isDigit : MethodName := ⟨RX6, "isDigit", "(C)Z"⟩
abbrev cX6_takeNumber : ByteArray := prog_8_method_10_code
def yX6_takeNumber : MethodName := ⟨RX6, "takeNumber", "()Z"⟩
abbrev cX6_takeFirst : ByteArray := prog_8_method_11_code
def yX6_takeFirst : MethodName := ⟨RX6, "takeFirst", "(Ljava/lang/String;)Z"⟩
def RX7 : String := "MirrorJury$Votes"
def TX7 : u_T := fun k => match k with
  | 0 => ("MirrorJury$Votes", "pairs", "[I", true)
  | 1 => ("MirrorJury$Votes", "strengths", "[I", true)
  | 2 => ("MirrorJury$Votes", "ballots", "[I", true)
  | _ => ("MirrorJury$Votes", "roundsHeld", "I", false)
def tyX7 : Nat → FieldType := fun k => match k with
  | 0 => .array .int
  | 1 => .array .int
  | 2 => .array .int
  | _ => .int
abbrev wsX70 : List Cond := u_ws RX7 TX7 4
theorem nmX7 : ∀ a, a < 4 → ∀ b, b < 4 → a ≠ b → (TX7 a).2.1 ≠ (TX7 b).2.1 := by decide +kernel
theorem tyX7_ok : ∀ k, k < 4 → parseFieldDescriptor (TX7 k).2.2.1 = some (tyX7 k) := by decide +kernel
abbrev cX7_init : ByteArray := prog_9_method_1_code
def yX7_init : MethodName := ⟨RX7, "<init>", "()V"⟩
abbrev cX7_countPoints : ByteArray := prog_9_method_3_code
def yX7_countPoints : MethodName := ⟨RX7, "countPoints", "(LMirrorJury$Court;I)I"⟩
abbrev cX7_findMostPoints : ByteArray := prog_9_method_4_code
def yX7_findMostPoints : MethodName := ⟨RX7, "findMostPoints", "(LMirrorJury$Court;)I"⟩
abbrev cX7_voteInRounds : ByteArray := prog_9_method_5_code
def yX7_voteInRounds : MethodName := ⟨RX7, "voteInRounds", "(LMirrorJury$Court;)I"⟩
abbrev cX7_countBallots : ByteArray := prog_9_method_6_code
def yX7_countBallots : MethodName := ⟨RX7, "countBallots", "(LMirrorJury$Court;I)V"⟩
abbrev cX7_findFavourite : ByteArray := prog_9_method_7_code
def yX7_findFavourite : MethodName := ⟨RX7, "findFavourite", "(LMirrorJury$Court;II)I"⟩
abbrev cX7_findFewest : ByteArray := prog_9_method_8_code
def yX7_findFewest : MethodName := ⟨RX7, "findFewest", "(I)I"⟩
abbrev cX7_isIn : ByteArray := prog_9_method_9_code
def yX7_isIn : MethodName := ⟨RX7, "isIn", "(II)Z"⟩
abbrev cX7_pair : ByteArray := prog_9_method_10_code
def yX7_pair : MethodName := ⟨RX7, "pair", "(II)I"⟩
abbrev cX7_countPairs : ByteArray := prog_9_method_11_code
def yX7_countPairs : MethodName := ⟨RX7, "countPairs", "(LMirrorJury$Court;)V"⟩
abbrev cX7_preferring : ByteArray := prog_9_method_12_code
def yX7_preferring : MethodName := ⟨RX7, "preferring", "(II)I"⟩
abbrev cX7_victory : ByteArray := prog_9_method_13_code
def yX7_victory : MethodName := ⟨RX7, "victory", "(II)I"⟩
abbrev cX7_fillStrengths : ByteArray := prog_9_method_14_code
def yX7_fillStrengths : MethodName := ⟨RX7, "fillStrengths", "(LMirrorJury$Court;)V"⟩
abbrev cX7_tableStrength : ByteArray := prog_9_method_15_code
def yX7_tableStrength : MethodName := ⟨RX7, "tableStrength", "(II)I"⟩
abbrev cX7_triedStrength : ByteArray := prog_9_method_16_code
def yX7_triedStrength : MethodName := ⟨RX7, "triedStrength", "(III)I"⟩
abbrev cX7_reachedWith : ByteArray := prog_9_method_17_code
def yX7_reachedWith : MethodName := ⟨RX7, "reachedWith", "(II)I"⟩
abbrev cX7_findStrongest : ByteArray := prog_9_method_18_code
def yX7_findStrongest : MethodName := ⟨RX7, "findStrongest", "(LMirrorJury$Court;)I"⟩
abbrev cX7_holdsAgainstAll : ByteArray := prog_9_method_19_code
def yX7_holdsAgainstAll : MethodName := ⟨RX7, "holdsAgainstAll", "(I)Z"⟩
abbrev cX7_dominates : ByteArray := prog_9_method_20_code
def yX7_dominates : MethodName := ⟨RX7, "dominates", "(LMirrorJury$Court;I)Z"⟩
def RX8 : String := "MirrorJury"
def TX8 : u_T := fun k => match k with
  | 0 => ("MirrorJury", "court", "LMirrorJury$Court;", true)
  | 1 => ("MirrorJury", "snapshot", "LMirrorJury$Court;", true)
  | 2 => ("MirrorJury", "history", "LMirrorJury$History;", true)
  | 3 => ("MirrorJury", "ray", "LMirrorJury$Ray;", true)
  | 4 => ("MirrorJury", "joining", "LMirrorJury$Joining;", true)
  | 5 => ("MirrorJury", "queued", "LMirrorJury$Courses;", true)
  | 6 => ("MirrorJury", "lowered", "LMirrorJury$Courses;", true)
  | 7 => ("MirrorJury", "votes", "LMirrorJury$Votes;", true)
  | 8 => ("MirrorJury", "script", "LMirrorJury$Script;", true)
  | 9 => ("MirrorJury", "output", "Ljava/lang/StringBuilder;", true)
  | 10 => ("MirrorJury", "rayLengths", "[I", true)
  | 11 => ("MirrorJury", "snapshotIsSaved", "Z", false)
  | 12 => ("MirrorJury", "errorOffset", "I", false)
  | 13 => ("MirrorJury", "rejectedFor", "I", false)
  | 14 => ("MirrorJury", "rejectedWith", "I", false)
  | _ => ("MirrorJury", "rejectedCause", "I", false)
def tyX8 : Nat → FieldType := fun k => match k with
  | 0 => .object "MirrorJury$Court"
  | 1 => .object "MirrorJury$Court"
  | 2 => .object "MirrorJury$History"
  | 3 => .object "MirrorJury$Ray"
  | 4 => .object "MirrorJury$Joining"
  | 5 => .object "MirrorJury$Courses"
  | 6 => .object "MirrorJury$Courses"
  | 7 => .object "MirrorJury$Votes"
  | 8 => .object "MirrorJury$Script"
  | 9 => .object "java/lang/StringBuilder"
  | 10 => .array .int
  | 11 => .boolean
  | 12 => .int
  | 13 => .int
  | 14 => .int
  | _ => .int
abbrev wsX80 : List Cond := u_ws RX8 TX8 16
theorem nmX8 : ∀ a, a < 16 → ∀ b, b < 16 → a ≠ b → (TX8 a).2.1 ≠ (TX8 b).2.1 := by decide +kernel
theorem tyX8_ok : ∀ k, k < 16 → parseFieldDescriptor (TX8 k).2.2.1 = some (tyX8 k) := by decide +kernel
abbrev cX8_init : ByteArray := prog_1_method_1_code
def yX8_init : MethodName := ⟨RX8, "<init>", "()V"⟩
abbrev cX8_addCat : ByteArray := prog_1_method_2_code
def yX8_addCat : MethodName := ⟨RX8, "addCat", "(ICCC)I"⟩
abbrev cX8_setMirror : ByteArray := prog_1_method_3_code
def yX8_setMirror : MethodName := ⟨RX8, "setMirror", "(IC)I"⟩
abbrev cX8_catCount : ByteArray := prog_1_method_4_code
def yX8_catCount : MethodName := ⟨RX8, "catCount", "()I"⟩
abbrev cX8_cellOf : ByteArray := prog_1_method_5_code
def yX8_cellOf : MethodName := ⟨RX8, "cellOf", "(I)I"⟩
abbrev cX8_catIn : ByteArray := prog_1_method_6_code
def yX8_catIn : MethodName := ⟨RX8, "catIn", "(I)I"⟩
abbrev cX8_contentOf : ByteArray := prog_1_method_7_code
def yX8_contentOf : MethodName := ⟨RX8, "contentOf", "(I)C"⟩
abbrev cX8_optionAt : ByteArray := prog_1_method_8_code
def yX8_optionAt : MethodName := ⟨RX8, "optionAt", "(II)C"⟩
abbrev cX8_placeOf : ByteArray := prog_1_method_9_code
def yX8_placeOf : MethodName := ⟨RX8, "placeOf", "(IC)I"⟩
abbrev cX8_heardBy : ByteArray := prog_1_method_10_code
def yX8_heardBy : MethodName := ⟨RX8, "heardBy", "(I)I"⟩
abbrev cX8_rayEnd : ByteArray := prog_1_method_11_code
def yX8_rayEnd : MethodName := ⟨RX8, "rayEnd", "(I)I"⟩
abbrev cX8_rayEndByJoining : ByteArray := prog_1_method_12_code
def yX8_rayEndByJoining : MethodName := ⟨RX8, "rayEndByJoining", "(I)I"⟩
abbrev cX8_rayCat : ByteArray := prog_1_method_13_code
def yX8_rayCat : MethodName := ⟨RX8, "rayCat", "(I)I"⟩
abbrev cX8_rayLength : ByteArray := prog_1_method_14_code
def yX8_rayLength : MethodName := ⟨RX8, "rayLength", "(I)I"⟩
abbrev cX8_rayBounces : ByteArray := prog_1_method_15_code
def yX8_rayBounces : MethodName := ⟨RX8, "rayBounces", "(I)I"⟩
abbrev cX8_leastEffort : ByteArray := prog_1_method_16_code
def yX8_leastEffort : MethodName := ⟨RX8, "leastEffort", "(II)I"⟩
abbrev cX8_leastEffortByRounds : ByteArray := prog_1_method_17_code
def yX8_leastEffortByRounds : MethodName := ⟨RX8, "leastEffortByRounds", "(II)I"⟩
abbrev cX8_portByLength : ByteArray := prog_1_method_18_code
def yX8_portByLength : MethodName := ⟨RX8, "portByLength", "(I)I"⟩
abbrev cX8_testify : ByteArray := prog_1_method_19_code
def yX8_testify : MethodName := ⟨RX8, "testify", "(IC)I"⟩
abbrev cX8_prefer : ByteArray := prog_1_method_21_code
def yX8_prefer : MethodName := ⟨RX8, "prefer", "(CC)I"⟩
abbrev cX8_pointsWinner : ByteArray := prog_1_method_23_code
def yX8_pointsWinner : MethodName := ⟨RX8, "pointsWinner", "()C"⟩
abbrev cX8_roundsWinner : ByteArray := prog_1_method_24_code
def yX8_roundsWinner : MethodName := ⟨RX8, "roundsWinner", "()C"⟩
abbrev cX8_strengthOf : ByteArray := prog_1_method_26_code
def yX8_strengthOf : MethodName := ⟨RX8, "strengthOf", "(CC)I"⟩
abbrev cX8_strengthByTrying : ByteArray := prog_1_method_27_code
def yX8_strengthByTrying : MethodName := ⟨RX8, "strengthByTrying", "(CC)I"⟩
abbrev cX8_strengthWinner : ByteArray := prog_1_method_28_code
def yX8_strengthWinner : MethodName := ⟨RX8, "strengthWinner", "()C"⟩
abbrev cX8_isDominant : ByteArray := prog_1_method_29_code
def yX8_isDominant : MethodName := ⟨RX8, "isDominant", "(C)Z"⟩
abbrev cX8_setMethod : ByteArray := prog_1_method_30_code
def yX8_setMethod : MethodName := ⟨RX8, "setMethod", "(C)C"⟩
abbrev cX8_method : ByteArray := prog_1_method_31_code
def yX8_method : MethodName := ⟨RX8, "method", "()C"⟩
abbrev cX8_deliberate : ByteArray := prog_1_method_32_code
def yX8_deliberate : MethodName := ⟨RX8, "deliberate", "()C"⟩
abbrev cX8_retry : ByteArray := prog_1_method_33_code
def yX8_retry : MethodName := ⟨RX8, "retry", "()I"⟩
abbrev cX8_hasCause : ByteArray := prog_1_method_34_code
def yX8_hasCause : MethodName := ⟨RX8, "hasCause", "()Z"⟩
abbrev cX8_deliberations : ByteArray := prog_1_method_35_code
def yX8_deliberations : MethodName := ⟨RX8, "deliberations", "()I"⟩
abbrev cX8_verdictAt : ByteArray := prog_1_method_36_code
def yX8_verdictAt : MethodName := ⟨RX8, "verdictAt", "(I)C"⟩
abbrev cX8_hungCount : ByteArray := prog_1_method_37_code
def yX8_hungCount : MethodName := ⟨RX8, "hungCount", "()I"⟩
abbrev cX8_retrials : ByteArray := prog_1_method_38_code
def yX8_retrials : MethodName := ⟨RX8, "retrials", "()I"⟩
abbrev cX8_testimonies : ByteArray := prog_1_method_39_code
def yX8_testimonies : MethodName := ⟨RX8, "testimonies", "()I"⟩
abbrev cX8_catByHeard : ByteArray := prog_1_method_40_code
def yX8_catByHeard : MethodName := ⟨RX8, "catByHeard", "(I)I"⟩
abbrev cX8_isConsistent : ByteArray := prog_1_method_43_code
def yX8_isConsistent : MethodName := ⟨RX8, "isConsistent", "()Z"⟩
abbrev cX8_writeRow : ByteArray := prog_1_method_44_code
def yX8_writeRow : MethodName := ⟨RX8, "writeRow", "(I)I"⟩
abbrev cX8_appendInput : ByteArray := prog_1_method_47_code
def yX8_appendInput : MethodName := ⟨RX8, "appendInput", "(C)I"⟩
abbrev cX8_execute : ByteArray := prog_1_method_48_code
def yX8_execute : MethodName := ⟨RX8, "execute", "()I"⟩
abbrev cX8_undo : ByteArray := prog_1_method_53_code
def yX8_undo : MethodName := ⟨RX8, "undo", "()I"⟩
abbrev cX8_saveSnapshot : ByteArray := prog_1_method_54_code
def yX8_saveSnapshot : MethodName := ⟨RX8, "saveSnapshot", "()I"⟩
abbrev cX8_restoreSnapshot : ByteArray := prog_1_method_55_code
def yX8_restoreSnapshot : MethodName := ⟨RX8, "restoreSnapshot", "()I"⟩
abbrev cX8_isCell : ByteArray := prog_1_method_56_code
def yX8_isCell : MethodName := ⟨RX8, "isCell", "(I)Z"⟩
abbrev cX8_isPort : ByteArray := prog_1_method_57_code
def yX8_isPort : MethodName := ⟨RX8, "isPort", "(I)Z"⟩
abbrev cX8_isOption : ByteArray := prog_1_method_58_code
def yX8_isOption : MethodName := ⟨RX8, "isOption", "(C)Z"⟩
abbrev cX8_isContent : ByteArray := prog_1_method_59_code
def yX8_isContent : MethodName := ⟨RX8, "isContent", "(C)Z"⟩
abbrev cX8_isMethod : ByteArray := prog_1_method_60_code
def yX8_isMethod : MethodName := ⟨RX8, "isMethod", "(C)Z"⟩
abbrev cX8_areThreeOptions : ByteArray := prog_1_method_61_code
def yX8_areThreeOptions : MethodName := ⟨RX8, "areThreeOptions", "(CCC)Z"⟩
abbrev cX8_requireCell : ByteArray := prog_1_method_62_code
def yX8_requireCell : MethodName := ⟨RX8, "requireCell", "(I)V"⟩
abbrev cX8_requirePort : ByteArray := prog_1_method_63_code
def yX8_requirePort : MethodName := ⟨RX8, "requirePort", "(I)V"⟩
abbrev cX8_requireOption : ByteArray := prog_1_method_64_code
def yX8_requireOption : MethodName := ⟨RX8, "requireOption", "(C)V"⟩
abbrev cX8_requirePair : ByteArray := prog_1_method_65_code
def yX8_requirePair : MethodName := ⟨RX8, "requirePair", "(CC)V"⟩
abbrev cX8_requireCat : ByteArray := prog_1_method_66_code
def yX8_requireCat : MethodName := ⟨RX8, "requireCat", "(I)V"⟩
abbrev cX8_requireCats : ByteArray := prog_1_method_67_code
def yX8_requireCats : MethodName := ⟨RX8, "requireCats", "()V"⟩
abbrev cX8_reject : ByteArray := prog_1_method_69_code
def yX8_reject : MethodName := ⟨RX8, "reject", "(II)V"⟩
abbrev cX8_holdVote : ByteArray := prog_1_method_70_code
def yX8_holdVote : MethodName := ⟨RX8, "holdVote", "()V"⟩
abbrev cX8_portsAhead : ByteArray := prog_1_method_71_code
def yX8_portsAhead : MethodName := ⟨RX8, "portsAhead", "(I)I"⟩
abbrev cX8_raysAgree : ByteArray := prog_1_method_72_code
def yX8_raysAgree : MethodName := ⟨RX8, "raysAgree", "()Z"⟩
abbrev cX8_effortsAgree : ByteArray := prog_1_method_73_code
def yX8_effortsAgree : MethodName := ⟨RX8, "effortsAgree", "()Z"⟩
abbrev cX8_strengthsAgree : ByteArray := prog_1_method_74_code
def yX8_strengthsAgree : MethodName := ⟨RX8, "strengthsAgree", "()Z"⟩
abbrev cX8_runNextCommand : ByteArray := prog_1_method_75_code
def yX8_runNextCommand : MethodName := ⟨RX8, "runNextCommand", "()I"⟩
abbrev cX8_runCat : ByteArray := prog_1_method_76_code
def yX8_runCat : MethodName := ⟨RX8, "runCat", "()I"⟩
abbrev cX8_runMirror : ByteArray := prog_1_method_77_code
def yX8_runMirror : MethodName := ⟨RX8, "runMirror", "()I"⟩
abbrev cX8_runSay : ByteArray := prog_1_method_78_code
def yX8_runSay : MethodName := ⟨RX8, "runSay", "()I"⟩
abbrev cX8_indexOf : ByteArray := prog_1_method_79_code
def yX8_indexOf : MethodName := ⟨RX8, "indexOf", "(C)I"⟩
abbrev cX8_letterOf : ByteArray := prog_1_method_80_code
def yX8_letterOf : MethodName := ⟨RX8, "letterOf", "(I)C"⟩
abbrev cX8_digitOf : ByteArray := prog_1_method_81_code
def yX8_digitOf : MethodName := ⟨RX8, "digitOf", "(I)C"⟩
abbrev cX8_at : ByteArray := prog_1_method_82_code
def yX8_at : MethodName := ⟨RX8, "at", "([II)I"⟩
abbrev cX8_at_ : ByteArray := prog_1_method_83_code
def yX8_at_ : MethodName := ⟨RX8, "at", "([CI)C"⟩
abbrev cX8_put : ByteArray := prog_1_method_84_code
def yX8_put : MethodName := ⟨RX8, "put", "([III)V"⟩
abbrev cX8_put_ : ByteArray := prog_1_method_85_code
def yX8_put_ : MethodName := ⟨RX8, "put", "([CIC)V"⟩
abbrev cX8_copy : ByteArray := prog_1_method_86_code
def yX8_copy : MethodName := ⟨RX8, "copy", "([I[I)V"⟩
abbrev cX8_copy_ : ByteArray := prog_1_method_87_code
def yX8_copy_ : MethodName := ⟨RX8, "copy", "([C[C)V"⟩
def RX9 : String := "MirrorJuryModel"
def TX9 : u_T := fun k => match k with
  | _ => ("", "", "", false)
def tyX9 : Nat → FieldType := fun k => match k with
  | _ => .int
abbrev wsX90 : List Cond := u_ws RX9 TX9 0
theorem nmX9 : ∀ a, a < 0 → ∀ b, b < 0 → a ≠ b → (TX9 a).2.1 ≠ (TX9 b).2.1 := by decide +kernel
theorem tyX9_ok : ∀ k, k < 0 → parseFieldDescriptor (TX9 k).2.2.1 = some (tyX9 k) := by decide +kernel
def RJx145de : String := "java/io/Serializable"
def TJx145de : u_T := fun k => match k with
  | _ => ("", "", "", false)
def tyJx145de : Nat → FieldType := fun k => match k with
  | _ => .int
abbrev wsJx145de0 : List Cond := u_ws RJx145de TJx145de 0
theorem nmJx145de : ∀ a, a < 0 → ∀ b, b < 0 → a ≠ b → (TJx145de a).2.1 ≠ (TJx145de b).2.1 := by decide +kernel
theorem tyJx145de_ok : ∀ k, k < 0 → parseFieldDescriptor (TJx145de k).2.2.1 = some (tyJx145de k) := by decide +kernel
def RJ5 : String := "java/lang/AbstractStringBuilder"
def TJ5 : u_T := fun k => match k with
  | _ => ("", "", "", false)
def tyJ5 : Nat → FieldType := fun k => match k with
  | _ => .int
abbrev wsJ50 : List Cond := u_ws RJ5 TJ5 0
theorem nmJ5 : ∀ a, a < 0 → ∀ b, b < 0 → a ≠ b → (TJ5 a).2.1 ≠ (TJ5 b).2.1 := by decide +kernel
theorem tyJ5_ok : ∀ k, k < 0 → parseFieldDescriptor (TJ5 k).2.2.1 = some (tyJ5 k) := by decide +kernel
abbrev cJ5_init_d00df : ByteArray := prog_13_method_2_code
def yJ5_init_d00df : MethodName := ⟨RJ5, "<init>", "(I)V"⟩
abbrev cJ5_length_8abf5 : ByteArray := prog_13_method_6_code
def yJ5_length_8abf5 : MethodName := ⟨RJ5, "length", "()I"⟩
abbrev cJ5_ensureCapacityInternal_d00df : ByteArray := prog_13_method_9_code
def yJ5_ensureCapacityInternal_d00df : MethodName := ⟨RJ5, "ensureCapacityInternal", "(I)V"⟩
abbrev cJ5_newCapacity_0f7a4 : ByteArray := prog_13_method_10_code
def yJ5_newCapacity_0f7a4 : MethodName := ⟨RJ5, "newCapacity", "(I)I"⟩
abbrev cJ5_inflate_da8c8 : ByteArray := prog_13_method_11_code
def yJ5_inflate_da8c8 : MethodName := ⟨RJ5, "inflate", "()V"⟩
abbrev cJ5_setLength_d00df : ByteArray := prog_13_method_13_code
def yJ5_setLength_d00df : MethodName := ⟨RJ5, "setLength", "(I)V"⟩
abbrev cJ5_charAt_5068e : ByteArray := prog_13_method_14_code
def yJ5_charAt_5068e : MethodName := ⟨RJ5, "charAt", "(I)C"⟩
abbrev cJ5_append_cf1ce : ByteArray := prog_13_method_22_code
def yJ5_append_cf1ce : MethodName := ⟨RJ5, "append", "(Ljava/lang/String;)Ljava/lang/AbstractStringBuilder;"⟩
abbrev cJ5_appendNull_278bc : ByteArray := prog_13_method_26_code
def yJ5_appendNull_278bc : MethodName := ⟨RJ5, "appendNull", "()Ljava/lang/AbstractStringBuilder;"⟩
abbrev cJ5_append_3fe6f : ByteArray := prog_13_method_31_code
def yJ5_append_3fe6f : MethodName := ⟨RJ5, "append", "(C)Ljava/lang/AbstractStringBuilder;"⟩
abbrev cJ5_append_c97b9 : ByteArray := prog_13_method_32_code
def yJ5_append_c97b9 : MethodName := ⟨RJ5, "append", "(I)Ljava/lang/AbstractStringBuilder;"⟩
abbrev cJ5_getValue_6d5f1 : ByteArray := prog_13_method_64_code
def yJ5_getValue_6d5f1 : MethodName := ⟨RJ5, "getValue", "()[B"⟩
abbrev cJ5_isLatin1_aae02 : ByteArray := prog_13_method_68_code
def yJ5_isLatin1_aae02 : MethodName := ⟨RJ5, "isLatin1", "()Z"⟩
abbrev cJ5_inflateIfNeededFor_a7421 : ByteArray := prog_13_method_71_code
def yJ5_inflateIfNeededFor_a7421 : MethodName := ⟨RJ5, "inflateIfNeededFor", "(Ljava/lang/String;)V"⟩
abbrev cJ5_putStringAt_47b60 : ByteArray := prog_13_method_73_code
def yJ5_putStringAt_47b60 : MethodName := ⟨RJ5, "putStringAt", "(ILjava/lang/String;)V"⟩
def RJx2cfe8 : String := "java/lang/Appendable"
def TJx2cfe8 : u_T := fun k => match k with
  | _ => ("", "", "", false)
def tyJx2cfe8 : Nat → FieldType := fun k => match k with
  | _ => .int
abbrev wsJx2cfe80 : List Cond := u_ws RJx2cfe8 TJx2cfe8 0
theorem nmJx2cfe8 : ∀ a, a < 0 → ∀ b, b < 0 → a ≠ b → (TJx2cfe8 a).2.1 ≠ (TJx2cfe8 b).2.1 := by decide +kernel
theorem tyJx2cfe8_ok : ∀ k, k < 0 → parseFieldDescriptor (TJx2cfe8 k).2.2.1 = some (tyJx2cfe8 k) := by decide +kernel
def RJx00060 : String := "java/lang/ArrayIndexOutOfBoundsException"
def TJx00060 : u_T := fun k => match k with
  | 0 => ("java/lang/Throwable", "cause", "Ljava/lang/Throwable;", false)
  | 1 => ("java/lang/Throwable", "stackTrace", "[Ljava/lang/StackTraceElement;", false)
  | 2 => ("java/lang/Throwable", "suppressedExceptions", "Ljava/util/List;", false)
  | 3 => ("java/lang/Throwable", "detailMessage", "Ljava/lang/String;", false)
  | 4 => ("java/lang/Throwable", "backtrace", "Ljava/lang/Object;", false)
  | _ => ("java/lang/Throwable", "depth", "I", false)
def tyJx00060 : Nat → FieldType := fun k => match k with
  | 0 => .object "java/lang/Throwable"
  | 1 => .array (.object "java/lang/StackTraceElement")
  | 2 => .object "java/util/List"
  | 3 => .object "java/lang/String"
  | 4 => .object "java/lang/Object"
  | _ => .int
abbrev wsJx000600 : List Cond := u_ws RJx00060 TJx00060 6
theorem nmJx00060 : ∀ a, a < 6 → ∀ b, b < 6 → a ≠ b → (TJx00060 a).2.1 ≠ (TJx00060 b).2.1 := by decide +kernel
theorem tyJx00060_ok : ∀ k, k < 6 → parseFieldDescriptor (TJx00060 k).2.2.1 = some (tyJx00060 k) := by decide +kernel
abbrev cJx00060_init_a7421 : ByteArray := prog_15_method_2_code
def yJx00060_init_a7421 : MethodName := ⟨RJx00060, "<init>", "(Ljava/lang/String;)V"⟩
abbrev cJx00060_init_d00df : ByteArray := prog_15_method_3_code
def yJx00060_init_d00df : MethodName := ⟨RJx00060, "<init>", "(I)V"⟩
def RJx9f9b0 : String := "java/lang/CharSequence"
def TJx9f9b0 : u_T := fun k => match k with
  | _ => ("", "", "", false)
def tyJx9f9b0 : Nat → FieldType := fun k => match k with
  | _ => .int
abbrev wsJx9f9b00 : List Cond := u_ws RJx9f9b0 TJx9f9b0 0
theorem nmJx9f9b0 : ∀ a, a < 0 → ∀ b, b < 0 → a ≠ b → (TJx9f9b0 a).2.1 ≠ (TJx9f9b0 b).2.1 := by decide +kernel
theorem tyJx9f9b0_ok : ∀ k, k < 0 → parseFieldDescriptor (TJx9f9b0 k).2.2.1 = some (tyJx9f9b0 k) := by decide +kernel
def RJ11 : String := "java/lang/Character"
def TJ11 : u_T := fun k => match k with
  | _ => ("", "", "", false)
def tyJ11 : Nat → FieldType := fun k => match k with
  | _ => .int
abbrev wsJ110 : List Cond := u_ws RJ11 TJ11 0
theorem nmJ11 : ∀ a, a < 0 → ∀ b, b < 0 → a ≠ b → (TJ11 a).2.1 ≠ (TJ11 b).2.1 := by decide +kernel
theorem tyJ11_ok : ∀ k, k < 0 → parseFieldDescriptor (TJ11 k).2.2.1 = some (tyJ11 k) := by decide +kernel
abbrev cJ11_isValidCodePoint_9a6ad : ByteArray := prog_17_method_11_code
def yJ11_isValidCodePoint_9a6ad : MethodName := ⟨RJ11, "isValidCodePoint", "(I)Z"⟩
abbrev cJ11_highSurrogate_5068e : ByteArray := prog_17_method_28_code
def yJ11_highSurrogate_5068e : MethodName := ⟨RJ11, "highSurrogate", "(I)C"⟩
abbrev cJ11_lowSurrogate_5068e : ByteArray := prog_17_method_29_code
def yJ11_lowSurrogate_5068e : MethodName := ⟨RJ11, "lowSurrogate", "(I)C"⟩
def RJx8e188 : String := "java/lang/Cloneable"
def TJx8e188 : u_T := fun k => match k with
  | _ => ("", "", "", false)
def tyJx8e188 : Nat → FieldType := fun k => match k with
  | _ => .int
abbrev wsJx8e1880 : List Cond := u_ws RJx8e188 TJx8e188 0
theorem nmJx8e188 : ∀ a, a < 0 → ∀ b, b < 0 → a ≠ b → (TJx8e188 a).2.1 ≠ (TJx8e188 b).2.1 := by decide +kernel
theorem tyJx8e188_ok : ∀ k, k < 0 → parseFieldDescriptor (TJx8e188 k).2.2.1 = some (tyJx8e188 k) := by decide +kernel
def RJxb160c : String := "java/lang/Comparable"
def TJxb160c : u_T := fun k => match k with
  | _ => ("", "", "", false)
def tyJxb160c : Nat → FieldType := fun k => match k with
  | _ => .int
abbrev wsJxb160c0 : List Cond := u_ws RJxb160c TJxb160c 0
theorem nmJxb160c : ∀ a, a < 0 → ∀ b, b < 0 → a ≠ b → (TJxb160c a).2.1 ≠ (TJxb160c b).2.1 := by decide +kernel
theorem tyJxb160c_ok : ∀ k, k < 0 → parseFieldDescriptor (TJxb160c k).2.2.1 = some (tyJxb160c k) := by decide +kernel
def RJ6 : String := "java/lang/Integer"
def TJ6 : u_T := fun k => match k with
  | _ => ("", "", "", false)
def tyJ6 : Nat → FieldType := fun k => match k with
  | _ => .int
abbrev wsJ60 : List Cond := u_ws RJ6 TJ6 0
theorem nmJ6 : ∀ a, a < 0 → ∀ b, b < 0 → a ≠ b → (TJ6 a).2.1 ≠ (TJ6 b).2.1 := by decide +kernel
theorem tyJ6_ok : ∀ k, k < 0 → parseFieldDescriptor (TJ6 k).2.2.1 = some (tyJ6 k) := by decide +kernel
abbrev cJ6_getChars_ba4f3 : ByteArray := prog_24_method_12_code
def yJ6_getChars_ba4f3 : MethodName := ⟨RJ6, "getChars", "(II[B)I"⟩
abbrev cJ6_stringSize_0f7a4 : ByteArray := prog_24_method_13_code
def yJ6_stringSize_0f7a4 : MethodName := ⟨RJ6, "stringSize", "(I)I"⟩
def RJ9 : String := "java/lang/Math"
def TJ9 : u_T := fun k => match k with
  | _ => ("", "", "", false)
def tyJ9 : Nat → FieldType := fun k => match k with
  | _ => .int
abbrev wsJ90 : List Cond := u_ws RJ9 TJ9 0
theorem nmJ9 : ∀ a, a < 0 → ∀ b, b < 0 → a ≠ b → (TJ9 a).2.1 ≠ (TJ9 b).2.1 := by decide +kernel
theorem tyJ9_ok : ∀ k, k < 0 → parseFieldDescriptor (TJ9 k).2.2.1 = some (tyJ9 k) := by decide +kernel
abbrev cJ9_max_7cf53 : ByteArray := prog_25_method_65_code
def yJ9_max_7cf53 : MethodName := ⟨RJ9, "max", "(II)I"⟩
abbrev cJ9_min_7cf53 : ByteArray := prog_25_method_69_code
def yJ9_min_7cf53 : MethodName := ⟨RJ9, "min", "(II)I"⟩
def RJxd2413 : String := "java/lang/Number"
def TJxd2413 : u_T := fun k => match k with
  | _ => ("", "", "", false)
def tyJxd2413 : Nat → FieldType := fun k => match k with
  | _ => .int
abbrev wsJxd24130 : List Cond := u_ws RJxd2413 TJxd2413 0
theorem nmJxd2413 : ∀ a, a < 0 → ∀ b, b < 0 → a ≠ b → (TJxd2413 a).2.1 ≠ (TJxd2413 b).2.1 := by decide +kernel
theorem tyJxd2413_ok : ∀ k, k < 0 → parseFieldDescriptor (TJxd2413 k).2.2.1 = some (tyJxd2413 k) := by decide +kernel
def RJ0 : String := "java/lang/String"
def TJ0 : u_T := fun k => match k with
  | 0 => ("java/lang/String", "value", "[B", true)
  | 1 => ("java/lang/String", "coder", "B", true)
  | 2 => ("java/lang/String", "hash", "I", false)
  | _ => ("java/lang/String", "hashIsZero", "Z", false)
def tyJ0 : Nat → FieldType := fun k => match k with
  | 0 => .array .byte
  | 1 => .byte
  | 2 => .int
  | _ => .boolean
abbrev wsJ00 : List Cond := u_ws RJ0 TJ0 4
theorem nmJ0 : ∀ a, a < 4 → ∀ b, b < 4 → a ≠ b → (TJ0 a).2.1 ≠ (TJ0 b).2.1 := by decide +kernel
theorem tyJ0_ok : ∀ k, k < 4 → parseFieldDescriptor (TJ0 k).2.2.1 = some (tyJ0 k) := by decide +kernel
abbrev cJ0_init_81219 : ByteArray := prog_28_method_53_code
def yJ0_init_81219 : MethodName := ⟨RJ0, "<init>", "(Ljava/lang/StringBuilder;)V"⟩
abbrev cJ0_length_8abf5 : ByteArray := prog_28_method_54_code
def yJ0_length_8abf5 : MethodName := ⟨RJ0, "length", "()I"⟩
abbrev cJ0_charAt_5068e : ByteArray := prog_28_method_56_code
def yJ0_charAt_5068e : MethodName := ⟨RJ0, "charAt", "(I)C"⟩
abbrev cJ0_indexOf_0f7a4 : ByteArray := prog_28_method_79_code
def yJ0_indexOf_0f7a4 : MethodName := ⟨RJ0, "indexOf", "(I)I"⟩
abbrev cJ0_indexOf_7cf53 : ByteArray := prog_28_method_80_code
def yJ0_indexOf_7cf53 : MethodName := ⟨RJ0, "indexOf", "(II)I"⟩
abbrev cJ0_getBytes_840e7 : ByteArray := prog_28_method_147_code
def yJ0_getBytes_840e7 : MethodName := ⟨RJ0, "getBytes", "([BIB)V"⟩
abbrev cJ0_init_db425 : ByteArray := prog_28_method_150_code
def yJ0_init_db425 : MethodName := ⟨RJ0, "<init>", "(Ljava/lang/AbstractStringBuilder;Ljava/lang/Void;)V"⟩
abbrev cJ0_coder_7d493 : ByteArray := prog_28_method_152_code
def yJ0_coder_7d493 : MethodName := ⟨RJ0, "coder", "()B"⟩
abbrev cJ0_isLatin1_aae02 : ByteArray := prog_28_method_154_code
def yJ0_isLatin1_aae02 : MethodName := ⟨RJ0, "isLatin1", "()Z"⟩
abbrev cJ0_checkIndex_df160 : ByteArray := prog_28_method_155_code
def yJ0_checkIndex_df160 : MethodName := ⟨RJ0, "checkIndex", "(II)V"⟩
abbrev cJ0_checkBoundsOffCount_cabcc : ByteArray := prog_28_method_157_code
def yJ0_checkBoundsOffCount_cabcc : MethodName := ⟨RJ0, "checkBoundsOffCount", "(III)I"⟩
abbrev cJ0_checkBoundsBeginEnd_23922 : ByteArray := prog_28_method_158_code
def yJ0_checkBoundsBeginEnd_23922 : MethodName := ⟨RJ0, "checkBoundsBeginEnd", "(III)V"⟩
def RJ4 : String := "java/lang/StringBuilder"
def TJ4 : u_T := fun k => match k with
  | 0 => ("java/lang/AbstractStringBuilder", "value", "[B", false)
  | 1 => ("java/lang/AbstractStringBuilder", "coder", "B", false)
  | 2 => ("java/lang/AbstractStringBuilder", "maybeLatin1", "Z", false)
  | _ => ("java/lang/AbstractStringBuilder", "count", "I", false)
def tyJ4 : Nat → FieldType := fun k => match k with
  | 0 => .array .byte
  | 1 => .byte
  | 2 => .boolean
  | _ => .int
abbrev wsJ40 : List Cond := u_ws RJ4 TJ4 4
theorem nmJ4 : ∀ a, a < 4 → ∀ b, b < 4 → a ≠ b → (TJ4 a).2.1 ≠ (TJ4 b).2.1 := by decide +kernel
theorem tyJ4_ok : ∀ k, k < 4 → parseFieldDescriptor (TJ4 k).2.2.1 = some (tyJ4 k) := by decide +kernel
abbrev cJ4_init_da8c8 : ByteArray := prog_29_method_1_code
def yJ4_init_da8c8 : MethodName := ⟨RJ4, "<init>", "()V"⟩
abbrev cJ4_append_15ec4 : ByteArray := prog_29_method_7_code
def yJ4_append_15ec4 : MethodName := ⟨RJ4, "append", "(Ljava/lang/String;)Ljava/lang/StringBuilder;"⟩
abbrev cJ4_append_cf468 : ByteArray := prog_29_method_14_code
def yJ4_append_cf468 : MethodName := ⟨RJ4, "append", "(C)Ljava/lang/StringBuilder;"⟩
abbrev cJ4_append_bf812 : ByteArray := prog_29_method_15_code
def yJ4_append_bf812 : MethodName := ⟨RJ4, "append", "(I)Ljava/lang/StringBuilder;"⟩
abbrev cJ4_toString_0e30d : ByteArray := prog_29_method_42_code
def yJ4_toString_0e30d : MethodName := ⟨RJ4, "toString", "()Ljava/lang/String;"⟩
abbrev cJ4_charAt_5068e : ByteArray := prog_29_method_88_code
def yJ4_charAt_5068e : MethodName := ⟨RJ4, "charAt", "(I)C"⟩
abbrev cJ4_setLength_d00df : ByteArray := prog_29_method_89_code
def yJ4_setLength_d00df : MethodName := ⟨RJ4, "setLength", "(I)V"⟩
abbrev cJ4_length_8abf5 : ByteArray := prog_29_method_93_code
def yJ4_length_8abf5 : MethodName := ⟨RJ4, "length", "()I"⟩
def RJx7c733 : String := "java/lang/StringIndexOutOfBoundsException"
def TJx7c733 : u_T := fun k => match k with
  | 0 => ("java/lang/Throwable", "backtrace", "Ljava/lang/Object;", false)
  | 1 => ("java/lang/Throwable", "detailMessage", "Ljava/lang/String;", false)
  | 2 => ("java/lang/Throwable", "cause", "Ljava/lang/Throwable;", false)
  | 3 => ("java/lang/Throwable", "stackTrace", "[Ljava/lang/StackTraceElement;", false)
  | 4 => ("java/lang/Throwable", "depth", "I", false)
  | _ => ("java/lang/Throwable", "suppressedExceptions", "Ljava/util/List;", false)
def tyJx7c733 : Nat → FieldType := fun k => match k with
  | 0 => .object "java/lang/Object"
  | 1 => .object "java/lang/String"
  | 2 => .object "java/lang/Throwable"
  | 3 => .array (.object "java/lang/StackTraceElement")
  | 4 => .int
  | _ => .object "java/util/List"
abbrev wsJx7c7330 : List Cond := u_ws RJx7c733 TJx7c733 6
theorem nmJx7c733 : ∀ a, a < 6 → ∀ b, b < 6 → a ≠ b → (TJx7c733 a).2.1 ≠ (TJx7c733 b).2.1 := by decide +kernel
theorem tyJx7c733_ok : ∀ k, k < 6 → parseFieldDescriptor (TJx7c733 k).2.2.1 = some (tyJx7c733 k) := by decide +kernel
abbrev cJx7c733_init_d00df : ByteArray := prog_30_method_3_code
def yJx7c733_init_d00df : MethodName := ⟨RJx7c733, "<init>", "(I)V"⟩
def RJ1 : String := "java/lang/StringLatin1"
def TJ1 : u_T := fun k => match k with
  | _ => ("", "", "", false)
def tyJ1 : Nat → FieldType := fun k => match k with
  | _ => .int
abbrev wsJ10 : List Cond := u_ws RJ1 TJ1 0
theorem nmJ1 : ∀ a, a < 0 → ∀ b, b < 0 → a ≠ b → (TJ1 a).2.1 ≠ (TJ1 b).2.1 := by decide +kernel
theorem tyJ1_ok : ∀ k, k < 0 → parseFieldDescriptor (TJ1 k).2.2.1 = some (tyJ1 k) := by decide +kernel
abbrev cJ1_charAt_3b067 : ByteArray := prog_31_method_2_code
def yJ1_charAt_3b067 : MethodName := ⟨RJ1, "charAt", "([BI)C"⟩
abbrev cJ1_canEncode_fc78d : ByteArray := prog_31_method_3_code
def yJ1_canEncode_fc78d : MethodName := ⟨RJ1, "canEncode", "(C)Z"⟩
abbrev cJ1_canEncode_9a6ad : ByteArray := prog_31_method_4_code
def yJ1_canEncode_9a6ad : MethodName := ⟨RJ1, "canEncode", "(I)Z"⟩
abbrev cJ1_indexOf_4cfef : ByteArray := prog_31_method_22_code
def yJ1_indexOf_4cfef : MethodName := ⟨RJ1, "indexOf", "([BIII)I"⟩
abbrev cJ1_indexOfChar_4cfef : ByteArray := prog_31_method_23_code
def yJ1_indexOfChar_4cfef : MethodName := ⟨RJ1, "indexOfChar", "([BIII)I"⟩
abbrev cJ1_fillNull_b72d1 : ByteArray := prog_31_method_48_code
def yJ1_fillNull_b72d1 : MethodName := ⟨RJ1, "fillNull", "([BII)V"⟩
abbrev cJ1_inflate_0e8fd : ByteArray := prog_31_method_50_code
def yJ1_inflate_0e8fd : MethodName := ⟨RJ1, "inflate", "([BI[BII)V"⟩
def RJ2 : String := "java/lang/StringUTF16"
def TJ2 : u_T := fun k => match k with
  | _ => ("", "", "", false)
def tyJ2 : Nat → FieldType := fun k => match k with
  | _ => .int
abbrev wsJ20 : List Cond := u_ws RJ2 TJ2 0
theorem nmJ2 : ∀ a, a < 0 → ∀ b, b < 0 → a ≠ b → (TJ2 a).2.1 ≠ (TJ2 b).2.1 := by decide +kernel
theorem tyJ2_ok : ∀ k, k < 0 → parseFieldDescriptor (TJ2 k).2.2.1 = some (tyJ2 k) := by decide +kernel
abbrev cJ2_newBytesFor_77867 : ByteArray := prog_32_method_2_code
def yJ2_newBytesFor_77867 : MethodName := ⟨RJ2, "newBytesFor", "(I)[B"⟩
abbrev cJ2_newBytesLength_0f7a4 : ByteArray := prog_32_method_3_code
def yJ2_newBytesLength_0f7a4 : MethodName := ⟨RJ2, "newBytesLength", "(I)I"⟩
abbrev cJ2_putChar_b72d1 : ByteArray := prog_32_method_4_code
def yJ2_putChar_b72d1 : MethodName := ⟨RJ2, "putChar", "([BII)V"⟩
abbrev cJ2_getChar_3b067 : ByteArray := prog_32_method_5_code
def yJ2_getChar_3b067 : MethodName := ⟨RJ2, "getChar", "([BI)C"⟩
abbrev cJ2_length_9d52b : ByteArray := prog_32_method_6_code
def yJ2_length_9d52b : MethodName := ⟨RJ2, "length", "([B)I"⟩
abbrev cJ2_coderFromArrayLen_85cad : ByteArray := prog_32_method_15_code
def yJ2_coderFromArrayLen_85cad : MethodName := ⟨RJ2, "coderFromArrayLen", "([BI)B"⟩
abbrev cJ2_compress_39247 : ByteArray := prog_32_method_17_code
def yJ2_compress_39247 : MethodName := ⟨RJ2, "compress", "([BII)[B"⟩
abbrev cJ2_compress_5af95 : ByteArray := prog_32_method_22_code
def yJ2_compress_5af95 : MethodName := ⟨RJ2, "compress", "([BI[BII)I"⟩
abbrev cJ2_indexOf_4cfef : ByteArray := prog_32_method_40_code
def yJ2_indexOf_4cfef : MethodName := ⟨RJ2, "indexOf", "([BIII)I"⟩
abbrev cJ2_indexOfChar_4cfef : ByteArray := prog_32_method_47_code
def yJ2_indexOfChar_4cfef : MethodName := ⟨RJ2, "indexOfChar", "([BIII)I"⟩
abbrev cJ2_indexOfCharUnsafe_4cfef : ByteArray := prog_32_method_48_code
def yJ2_indexOfCharUnsafe_4cfef : MethodName := ⟨RJ2, "indexOfCharUnsafe", "([BIII)I"⟩
abbrev cJ2_indexOfSupplementary_4cfef : ByteArray := prog_32_method_49_code
def yJ2_indexOfSupplementary_4cfef : MethodName := ⟨RJ2, "indexOfSupplementary", "([BIII)I"⟩
abbrev cJ2_fillNull_b72d1 : ByteArray := prog_32_method_70_code
def yJ2_fillNull_b72d1 : MethodName := ⟨RJ2, "fillNull", "([BII)V"⟩
abbrev cJ2_putCharSB_b72d1 : ByteArray := prog_32_method_71_code
def yJ2_putCharSB_b72d1 : MethodName := ⟨RJ2, "putCharSB", "([BII)V"⟩
abbrev cJ2_getChars_46870 : ByteArray := prog_32_method_77_code
def yJ2_getChars_46870 : MethodName := ⟨RJ2, "getChars", "(III[B)I"⟩
abbrev cJ2_putCharsAt_cd4e5 : ByteArray := prog_32_method_81_code
def yJ2_putCharsAt_cd4e5 : MethodName := ⟨RJ2, "putCharsAt", "([BICCCC)I"⟩
abbrev cJ2_charAt_3b067 : ByteArray := prog_32_method_83_code
def yJ2_charAt_3b067 : MethodName := ⟨RJ2, "charAt", "([BI)C"⟩
abbrev cJ2_inflate_0e8fd : ByteArray := prog_32_method_86_code
def yJ2_inflate_0e8fd : MethodName := ⟨RJ2, "inflate", "([BI[BII)V"⟩
abbrev cJ2_getChars_ba4f3 : ByteArray := prog_32_method_89_code
def yJ2_getChars_ba4f3 : MethodName := ⟨RJ2, "getChars", "(II[B)I"⟩
abbrev cJ2_checkIndex_2214a : ByteArray := prog_32_method_91_code
def yJ2_checkIndex_2214a : MethodName := ⟨RJ2, "checkIndex", "(I[B)V"⟩
abbrev cJ2_checkBoundsBeginEnd_d044e : ByteArray := prog_32_method_93_code
def yJ2_checkBoundsBeginEnd_d044e : MethodName := ⟨RJ2, "checkBoundsBeginEnd", "(II[B)V"⟩
abbrev cJ2_checkBoundsOffCount_d044e : ByteArray := prog_32_method_94_code
def yJ2_checkBoundsOffCount_d044e : MethodName := ⟨RJ2, "checkBoundsOffCount", "(II[B)V"⟩
def RJ10 : String := "java/lang/System"
def TJ10 : u_T := fun k => match k with
  | _ => ("", "", "", false)
def tyJ10 : Nat → FieldType := fun k => match k with
  | _ => .int
abbrev wsJ100 : List Cond := u_ws RJ10 TJ10 0
theorem nmJ10 : ∀ a, a < 0 → ∀ b, b < 0 → a ≠ b → (TJ10 a).2.1 ≠ (TJ10 b).2.1 := by decide +kernel
theorem tyJ10_ok : ∀ k, k < 0 → parseFieldDescriptor (TJ10 k).2.2.1 = some (tyJ10 k) := by decide +kernel
def RJxfd54e : String := "java/lang/constant/Constable"
def TJxfd54e : u_T := fun k => match k with
  | _ => ("", "", "", false)
def tyJxfd54e : Nat → FieldType := fun k => match k with
  | _ => .int
abbrev wsJxfd54e0 : List Cond := u_ws RJxfd54e TJxfd54e 0
theorem nmJxfd54e : ∀ a, a < 0 → ∀ b, b < 0 → a ≠ b → (TJxfd54e a).2.1 ≠ (TJxfd54e b).2.1 := by decide +kernel
theorem tyJxfd54e_ok : ∀ k, k < 0 → parseFieldDescriptor (TJxfd54e k).2.2.1 = some (tyJxfd54e k) := by decide +kernel
def RJx3cf43 : String := "java/lang/constant/ConstantDesc"
def TJx3cf43 : u_T := fun k => match k with
  | _ => ("", "", "", false)
def tyJx3cf43 : Nat → FieldType := fun k => match k with
  | _ => .int
abbrev wsJx3cf430 : List Cond := u_ws RJx3cf43 TJx3cf43 0
theorem nmJx3cf43 : ∀ a, a < 0 → ∀ b, b < 0 → a ≠ b → (TJx3cf43 a).2.1 ≠ (TJx3cf43 b).2.1 := by decide +kernel
theorem tyJx3cf43_ok : ∀ k, k < 0 → parseFieldDescriptor (TJx3cf43 k).2.2.1 = some (tyJx3cf43 k) := by decide +kernel
def RJ7 : String := "java/util/Arrays"
def TJ7 : u_T := fun k => match k with
  | _ => ("", "", "", false)
def tyJ7 : Nat → FieldType := fun k => match k with
  | _ => .int
abbrev wsJ70 : List Cond := u_ws RJ7 TJ7 0
theorem nmJ7 : ∀ a, a < 0 → ∀ b, b < 0 → a ≠ b → (TJ7 a).2.1 ≠ (TJ7 b).2.1 := by decide +kernel
theorem tyJ7_ok : ∀ k, k < 0 → parseFieldDescriptor (TJ7 k).2.2.1 = some (tyJ7 k) := by decide +kernel
abbrev cJ7_rangeCheck_23922 : ByteArray := prog_38_method_30_code
def yJ7_rangeCheck_23922 : MethodName := ⟨RJ7, "rangeCheck", "(III)V"⟩
abbrev cJ7_fill_eb02e : ByteArray := prog_38_method_110_code
def yJ7_fill_eb02e : MethodName := ⟨RJ7, "fill", "([BIIB)V"⟩
abbrev cJ7_copyOf_9075b : ByteArray := prog_38_method_121_code
def yJ7_copyOf_9075b : MethodName := ⟨RJ7, "copyOf", "([BI)[B"⟩
abbrev cJ7_checkLength_df160 : ByteArray := prog_38_method_131_code
def yJ7_checkLength_df160 : MethodName := ⟨RJ7, "checkLength", "(II)V"⟩
abbrev cJ7_copyOfRange_39247 : ByteArray := prog_38_method_132_code
def yJ7_copyOfRange_39247 : MethodName := ⟨RJ7, "copyOfRange", "([BII)[B"⟩
abbrev cJ7_copyOfRangeByte_39247 : ByteArray := prog_38_method_133_code
def yJ7_copyOfRangeByte_39247 : MethodName := ⟨RJ7, "copyOfRangeByte", "([BII)[B"⟩
def RJ8 : String := "jdk/internal/util/ArraysSupport"
def TJ8 : u_T := fun k => match k with
  | _ => ("", "", "", false)
def tyJ8 : Nat → FieldType := fun k => match k with
  | _ => .int
abbrev wsJ80 : List Cond := u_ws RJ8 TJ8 0
theorem nmJ8 : ∀ a, a < 0 → ∀ b, b < 0 → a ≠ b → (TJ8 a).2.1 ≠ (TJ8 b).2.1 := by decide +kernel
theorem tyJ8_ok : ∀ k, k < 0 → parseFieldDescriptor (TJ8 k).2.2.1 = some (tyJ8 k) := by decide +kernel
abbrev cJ8_newLength_cabcc : ByteArray := prog_40_method_27_code
def yJ8_newLength_cabcc : MethodName := ⟨RJ8, "newLength", "(III)I"⟩
abbrev cJ8_hugeLength_7cf53 : ByteArray := prog_40_method_28_code
def yJ8_hugeLength_7cf53 : MethodName := ⟨RJ8, "hugeLength", "(II)I"⟩
def RJ3 : String := "jdk/internal/util/Preconditions"
def TJ3 : u_T := fun k => match k with
  | _ => ("", "", "", false)
def tyJ3 : Nat → FieldType := fun k => match k with
  | _ => .int
abbrev wsJ30 : List Cond := u_ws RJ3 TJ3 0
theorem nmJ3 : ∀ a, a < 0 → ∀ b, b < 0 → a ≠ b → (TJ3 a).2.1 ≠ (TJ3 b).2.1 := by decide +kernel
theorem tyJ3_ok : ∀ k, k < 0 → parseFieldDescriptor (TJ3 k).2.2.1 = some (tyJ3 k) := by decide +kernel
abbrev cJ3_checkIndex_8e157 : ByteArray := prog_41_method_11_code
def yJ3_checkIndex_8e157 : MethodName := ⟨RJ3, "checkIndex", "(IILjava/util/function/BiFunction;)I"⟩
abbrev cJ3_checkFromToIndex_8c36e : ByteArray := prog_41_method_12_code
def yJ3_checkFromToIndex_8c36e : MethodName := ⟨RJ3, "checkFromToIndex", "(IIILjava/util/function/BiFunction;)I"⟩
abbrev cJ3_checkFromIndexSize_8c36e : ByteArray := prog_41_method_13_code
def yJ3_checkFromIndexSize_8c36e : MethodName := ⟨RJ3, "checkFromIndexSize", "(IIILjava/util/function/BiFunction;)I"⟩
def RL : String := "MirrorJuryLaw"
abbrev cL_cell : ByteArray := method_2_code
def yL_cell : MethodName := ⟨RL, "cell", "([II)I"⟩
abbrev cL_addCat : ByteArray := method_3_code
def yL_addCat : MethodName := ⟨RL, "addCat", "(LMirrorJury;ICCC)I"⟩
abbrev cL_setMirror : ByteArray := method_4_code
def yL_setMirror : MethodName := ⟨RL, "setMirror", "(LMirrorJury;IC)I"⟩
abbrev cL_catIn : ByteArray := method_5_code
def yL_catIn : MethodName := ⟨RL, "catIn", "(LMirrorJury;I)I"⟩
abbrev cL_rayEnd : ByteArray := method_6_code
def yL_rayEnd : MethodName := ⟨RL, "rayEnd", "(LMirrorJury;I)I"⟩
abbrev cL_rayEndByJoining : ByteArray := method_7_code
def yL_rayEndByJoining : MethodName := ⟨RL, "rayEndByJoining", "(LMirrorJury;I)I"⟩
abbrev cL_rayCat : ByteArray := method_8_code
def yL_rayCat : MethodName := ⟨RL, "rayCat", "(LMirrorJury;I)I"⟩
abbrev cL_leastEffort : ByteArray := method_9_code
def yL_leastEffort : MethodName := ⟨RL, "leastEffort", "(LMirrorJury;II)I"⟩
abbrev cL_leastEffortByRounds : ByteArray := method_10_code
def yL_leastEffortByRounds : MethodName := ⟨RL, "leastEffortByRounds", "(LMirrorJury;II)I"⟩
abbrev cL_portByLength : ByteArray := method_11_code
def yL_portByLength : MethodName := ⟨RL, "portByLength", "(LMirrorJury;I)I"⟩
abbrev cL_testify : ByteArray := method_12_code
def yL_testify : MethodName := ⟨RL, "testify", "(LMirrorJury;IC)I"⟩
abbrev cL_retry : ByteArray := method_13_code
def yL_retry : MethodName := ⟨RL, "retry", "(LMirrorJury;)I"⟩
abbrev cL_catByHeard : ByteArray := method_14_code
def yL_catByHeard : MethodName := ⟨RL, "catByHeard", "(LMirrorJury;I)I"⟩
abbrev cL_execute : ByteArray := method_15_code
def yL_execute : MethodName := ⟨RL, "execute", "(LMirrorJury;)I"⟩
abbrev cL_undo : ByteArray := method_16_code
def yL_undo : MethodName := ⟨RL, "undo", "(LMirrorJury;)I"⟩
abbrev cL_restoreSnapshot : ByteArray := method_17_code
def yL_restoreSnapshot : MethodName := ⟨RL, "restoreSnapshot", "(LMirrorJury;)I"⟩
abbrev cL_deliberate : ByteArray := method_18_code
def yL_deliberate : MethodName := ⟨RL, "deliberate", "(LMirrorJury;)I"⟩
abbrev cL_setMethod : ByteArray := method_19_code
def yL_setMethod : MethodName := ⟨RL, "setMethod", "(LMirrorJury;C)I"⟩
abbrev cL_verdictAt : ByteArray := method_20_code
def yL_verdictAt : MethodName := ⟨RL, "verdictAt", "(LMirrorJury;I)I"⟩
abbrev cL_winner : ByteArray := method_21_code
def yL_winner : MethodName := ⟨RL, "winner", "(LMirrorJury;I)I"⟩
abbrev cL_in : ByteArray := method_22_code
def yL_in : MethodName := ⟨RL, "in", "([III)I"⟩
abbrev cL_does : ByteArray := method_23_code
def yL_does : MethodName := ⟨RL, "does", "(LMirrorJury;Ljava/lang/String;)I"⟩
abbrev cL_adds : ByteArray := method_24_code
def yL_adds : MethodName := ⟨RL, "adds", "(LMirrorJury;II)I"⟩
abbrev cL_begun : ByteArray := method_25_code
def yL_begun : MethodName := ⟨RL, "begun", "([I)LMirrorJury;"⟩
abbrev cL_acts : ByteArray := method_26_code
def yL_acts : MethodName := ⟨RL, "acts", "(LMirrorJury;[II)I"⟩
abbrev cL_seen : ByteArray := method_27_code
def yL_seen : MethodName := ⟨RL, "seen", "(LMirrorJury;)[I"⟩
abbrev cL_areAlike : ByteArray := method_28_code
def yL_areAlike : MethodName := ⟨RL, "areAlike", "([I[I)Z"⟩
abbrev cL_likes : ByteArray := method_29_code
def yL_likes : MethodName := ⟨RL, "likes", "(LMirrorJury;CC)I"⟩
abbrev cL_isWell : ByteArray := method_30_code
def yL_isWell : MethodName := ⟨RL, "isWell", "(LMirrorJury;)Z"⟩
abbrev cL_law : ByteArray := code
def yL_law : MethodName := ⟨RL, "law", "([I)Z"⟩
end
section
/-! A SMALL MACHINE OF ITS OWN: what the methods of this claim do, over cells that are told by their number (not by their address). It is shown below (05 ff.) that the real machine does the same. All else of the proof speaks of this one. -/
/-- locals: none is a local of which nothing is said -/
abbrev ev_VL : Type := List (Option Value)
/-- a cell: an array of ints (0), chars (1), bytes (2); an object of a class (below 90), an array of longs (100), doubles (101), references (102) -/
abbrev ev_AC : Type := (Nat × List Int32) ⊕ (Nat × List Value)
/-- the cells made by the run (cell i has the number 1000 + i); how many cells and slots were used -/
abbrev ev_AH : Type := List ev_AC × Nat × Nat
/-- a method: its class by number, its name, code, locals, answer, handlers, instructions -/
abbrev ev_MD : Type := Nat × MethodName × ByteArray × Nat × Option FieldType × List (Nat × Nat × Nat × Nat) × List (Nat × Instr × Nat)
/-- a method's end: returned, or threw an exception of a class told by number -/
abbrev ev_O : Type := Option Value ⊕ Nat
abbrev ev_G : Type := (Nat → Nat → Option (Nat × Nat)) × (Nat → Nat → Option (Nat × Nat × Nat × ev_MD)) × (Nat → Nat → Option Nat) × (Nat → Nat → Nat → Option Nat) × (Nat → Nat → Nat → Option Value) × (Nat → Option ev_AC) × (Nat → List (FieldType × Bool)) × (Nat → Nat → Option Nat)
/-- fields: class of the code, entry: class of the object, place -/
abbrev ev_fld (G : ev_G) := G.1
/-- calls: class of the code, entry: kind, arguments, receiver's class, method -/
abbrev ev_ct (G : ev_G) := G.2.1
/-- 'new' of a class of objects -/
abbrev ev_nw (G : ev_G) := G.2.2.1
/-- a throw of a new exception with a text, in class 0: entries of class, text, constructor: its number -/
abbrev ev_ex (G : ev_G) := G.2.2.2.1
/-- constants (0), statics (1), the class of references' arrays (2), of byte arrays (3), their clone (4): class of the code, entry -/
abbrev ev_sk (G : ev_G) := G.2.2.2.2.1
/-- cells that were there before, and stay -/
abbrev ev_cst (G : ev_G) := G.2.2.2.2.2.1
/-- fields of a class: type, final -/
abbrev ev_ft (G : ev_G) := G.2.2.2.2.2.2.1
/-- a handler's class entry in the law: which exceptions it takes: entry, exception: 1 yes, 0 no -/
abbrev ev_hc (G : ev_G) := G.2.2.2.2.2.2.2
def ev_lk {α : Type} : List (Nat × α) → Nat → Option α
  | [], _ => none
  | (k, v) :: r, i => bif Nat.beq k i then some v else ev_lk r i
def ev_rd (G : ev_G) (h : ev_AH) (a : Nat) : Option ev_AC := bif Nat.blt a 1000 then ev_cst G a else h.1[a - 1000]?
/-- a cell that may be written -/
def ev_wr (h : ev_AH) (a : Nat) (x : ev_AC) : ev_AH := (h.1.set (a - 1000) x, h.2)
def ev_in (i : Int32) (n : Nat) : Bool := !(decide (i < 0)) && Nat.blt i.toNatClampNeg n
def ev_i2 (f : Int32 → Int32 → Int32) : List Value → Option (List Value)
  | .int y :: .int x :: r => some (.int (f x y) :: r)
  | _ => none
def ev_i2n (f : Int32 → Int32 → Int32) : List Value → Option (List Value)
  | .int y :: .int x :: r => bif decide (y = 0) then none else some (.int (f x y) :: r)
  | _ => none
def ev_i1 (f : Int32 → Value) : List Value → Option (List Value)
  | .int x :: r => some (f x :: r)
  | _ => none
def ev_cnd : Jvm.ClassFile.Cond → Int32 → Int32 → Bool
  | .eq, x, y => decide (x = y)
  | .ne, x, y => !decide (x = y)
  | .lt, x, y => decide (x < y)
  | .ge, x, y => decide (y ≤ x)
  | .gt, x, y => decide (y < x)
  | .le, x, y => decide (x ≤ y)
/-- where a jump goes -/
def ev_tg (pc : Nat) (off : Int) : Nat := ((pc : Int) + off).toNat
/-- is it within the method's places -/
def ev_tok (pc : Nat) (off : Int) : Bool := decide (0 ≤ (pc : Int) + off)
def ev_c2 (L : ev_VL) (i : Nat) : Bool := match L[i]? with
  | some (some (.long _)) => true
  | some (some (.double _)) => true
  | _ => false
/-- may the place be written without cutting a long or double -/
def ev_sok (L : ev_VL) (i : Nat) : Bool := Nat.blt i L.length && (match i with
  | 0 => true
  | j + 1 => !(ev_c2 L j))
def ev_cat1 : Value → Bool
  | .long _ => false
  | .double _ => false
  | .retAddr _ => false
  | _ => true
def ev_okv (ty : FieldType) (v : Value) : Bool := decide (narrow ty v = v) && fits ty v
/-- loads: which place, of which sort (0 int, 1 reference, 2 float, 3 double) -/
def ev_ldi : Instr → Option (Nat × Nat)
  | .iload_n i => some (i.val, 0)
  | .iload i => some (i, 0)
  | .aload_n i => some (i.val, 1)
  | .aload i => some (i, 1)
  | .fload_n i => some (i.val, 2)
  | .fload i => some (i, 2)
  | .dload_n i => some (i.val, 3)
  | .dload i => some (i, 3)
  | _ => none
def ev_sti : Instr → Option (Nat × Nat)
  | .istore_n i => some (i.val, 0)
  | .istore i => some (i, 0)
  | .astore_n i => some (i.val, 1)
  | .astore i => some (i, 1)
  | .fstore_n i => some (i.val, 2)
  | .fstore i => some (i, 2)
  | .dstore_n i => some (i.val, 3)
  | .dstore i => some (i, 3)
  | _ => none
def ev_srt : Nat → Value → Bool
  | 0, .int _ => true
  | 1, .ref _ => true
  | 2, .float _ => true
  | 3, .double _ => true
  | _, _ => false
/-- how long an instruction is (switches: any) -/
def ev_len : Instr → Nat → Bool
  | .bipush _, n => Nat.beq n 2
  | .sipush _, n => Nat.beq n 3
  | .ldc _, n => Nat.beq n 2
  | .ldc_w _, n => Nat.beq n 3
  | .iload _, n => Nat.beq n 2
  | .aload _, n => Nat.beq n 2
  | .fload _, n => Nat.beq n 2
  | .dload _, n => Nat.beq n 2
  | .istore _, n => Nat.beq n 2
  | .astore _, n => Nat.beq n 2
  | .fstore _, n => Nat.beq n 2
  | .dstore _, n => Nat.beq n 2
  | .iinc _ _, n => Nat.beq n 3
  | .ifCond _ _, n => Nat.beq n 3
  | .if_icmp _ _, n => Nat.beq n 3
  | .goto _, n => Nat.beq n 3
  | .ifnull _, n => Nat.beq n 3
  | .ifnonnull _, n => Nat.beq n 3
  | .getfield _, n => Nat.beq n 3
  | .putfield _, n => Nat.beq n 3
  | .getstatic _, n => Nat.beq n 3
  | .new _, n => Nat.beq n 3
  | .checkcast _, n => Nat.beq n 3
  | .anewarray _, n => Nat.beq n 3
  | .newarray _, n => Nat.beq n 2
  | .invokevirtual _, n => Nat.beq n 3
  | .invokespecial _, n => Nat.beq n 3
  | .invokestatic _, n => Nat.beq n 3
  | .tableswitch _ _ _ _, _ => true
  | .lookupswitch _ _, _ => true
  | _, n => Nat.beq n 1
/-- the next pc, locals, stack, cells -/
abbrev ev_N : Type := Nat × ev_VL × List Value × ev_AH
/-- instructions that touch neither cells nor locals, and don't jump: the new stack -/
def ev_p (G : ev_G) (k : Nat) (S : List Value) : Instr → Option (List Value)
  | .iconst n => some (.int (Int32.ofInt n) :: S)
  | .bipush n => some (.int (Int8.ofInt n).toInt32 :: S)
  | .sipush n => some (.int (Int16.ofInt n).toInt32 :: S)
  | .lconst n => some (.long (Int64.ofNat n.val) :: S)
  | .fconst n => bif Nat.beq n.val 0 then some (.float FP.fconst0 :: S) else none
  | .dconst n => bif Nat.beq n.val 0 then some (.double FP.dconst0 :: S) else none
  | .aconst_null => some (.null :: S)
  | .ldc i => match ev_sk G 0 k i with
    | some v => some (v :: S)
    | none => none
  | .ldc_w i => match ev_sk G 0 k i with
    | some v => some (v :: S)
    | none => none
  | .getstatic i => match ev_sk G 1 k i with
    | some v => some (v :: S)
    | none => none
  | .dup => match S with
    | v :: r => bif ev_cat1 v then some (v :: v :: r) else none
    | _ => none
  | .pop => match S with
    | v :: r => bif ev_cat1 v then some r else none
    | _ => none
  | .dup_x1 => match S with
    | v :: w :: r => bif ev_cat1 v && ev_cat1 w then some (v :: w :: v :: r) else none
    | _ => none
  | .dup2 => match S with
    | v :: w :: r => bif ev_cat1 v && ev_cat1 w then some (v :: w :: v :: w :: r) else none
    | _ => none
  | .iadd => ev_i2 (fun x y => x + y) S
  | .isub => ev_i2 (fun x y => x - y) S
  | .imul => ev_i2 (fun x y => x * y) S
  | .idiv => ev_i2n (fun x y => x / y) S
  | .irem => ev_i2n (fun x y => x - x / y * y) S
  | .iand => ev_i2 (fun x y => x &&& y) S
  | .ior => ev_i2 (fun x y => x ||| y) S
  | .ixor => ev_i2 (fun x y => x ^^^ y) S
  | .ishl => ev_i2 (fun x y => x <<< (y &&& 31)) S
  | .ishr => ev_i2 (fun x y => x >>> (y &&& 31)) S
  | .iushr => ev_i2 (fun x y => (x.toUInt32 >>> (y.toUInt32 &&& Int32.toUInt32 31)).toInt32) S
  | .ineg => ev_i1 (fun x => .int (-x)) S
  | .i2l => ev_i1 (fun x => .long x.toInt64) S
  | .i2b => ev_i1 (fun x => .int x.toInt8.toInt32) S
  | .i2c => ev_i1 (fun x => .int (x.toUInt32 % 65536).toInt32) S
  | .i2f => ev_i1 (fun x => .float (FP.i2f x)) S
  | .i2d => ev_i1 (fun x => .double (FP.i2d x)) S
  | .fdiv => match S with
    | .float y :: .float x :: r => bif decide (FP.fdiv x y &&& 0x7fffffff ≤ 0x7f800000) then some (.float (FP.fdiv x y) :: r) else none
    | _ => none
  | .ddiv => match S with
    | .double y :: .double x :: r => bif decide (FP.ddiv x y &&& 0x7fffffffffffffff ≤ 0x7ff0000000000000) then some (.double (FP.ddiv x y) :: r) else none
    | _ => none
  | .f2d => match S with
    | .float x :: r => bif decide (FP.f2d x &&& 0x7fffffffffffffff ≤ 0x7ff0000000000000) then some (.double (FP.f2d x) :: r) else none
    | _ => none
  | .lcmp => match S with
    | .long y :: .long x :: r => some (.int (lg_cmp x y) :: r)
    | _ => none
  | .dcmp op => match S with
    | .double y :: .double x :: r => some (.int (Op.cmpValue (FP.dcmp x y) op) :: r)
    | _ => none
  | .fcmp op => match S with
    | .float y :: .float x :: r => some (.int (Op.cmpValue (FP.fcmp x y) op) :: r)
    | _ => none
  | _ => none
/-- reads of cells: the new stack -/
def ev_r (G : ev_G) (k : Nat) (S : List Value) (h : ev_AH) : Instr → Option (List Value)
  | .getfield i => match S with
    | .ref a :: r => match ev_fld G k i, ev_rd G h a with
      | some (ci, sl), some (.inr (cj, vs)) => bif Nat.beq ci cj then (match vs[sl]? with
        | some v => some (v :: r)
        | none => none) else none
      | _, _ => none
    | _ => none
  | .arraylength => match S with
    | .ref a :: r => match ev_rd G h a with
      | some (.inl (k0, l)) => bif Nat.ble k0 2 then some (.int (Int32.ofNat l.length) :: r) else none
      | some (.inr (cj, vs)) => bif Nat.ble 100 cj && Nat.ble cj 102 && Nat.ble 1000 a then some (.int (Int32.ofNat vs.length) :: r) else none
      | _ => none
    | _ => none
  | .iaload => match S with
    | .int i :: .ref a :: r => match ev_rd G h a with
      | some (.inl (0, l)) => bif ev_in i l.length then some (.int (l.getD i.toNatClampNeg 0) :: r) else none
      | _ => none
    | _ => none
  | .caload => match S with
    | .int i :: .ref a :: r => match ev_rd G h a with
      | some (.inl (1, l)) => bif ev_in i l.length && Nat.ble 1000 a then some (.int (l.getD i.toNatClampNeg 0) :: r) else none
      | _ => none
    | _ => none
  | .baload => match S with
    | .int i :: .ref a :: r => match ev_rd G h a with
      | some (.inl (2, l)) => bif ev_in i l.length then some (.int (l.getD i.toNatClampNeg 0) :: r) else none
      | _ => none
    | _ => none
  | .laload => match S with
    | .int i :: .ref a :: r => match ev_rd G h a with
      | some (.inr (100, vs)) => bif ev_in i vs.length && Nat.ble 1000 a then (match vs[i.toNatClampNeg]? with
        | some (.long x) => some (.long x :: r)
        | _ => none) else none
      | _ => none
    | _ => none
  | .daload => match S with
    | .int i :: .ref a :: r => match ev_rd G h a with
      | some (.inr (101, vs)) => bif ev_in i vs.length && Nat.ble 1000 a then (match vs[i.toNatClampNeg]? with
        | some (.double x) => some (.double x :: r)
        | _ => none) else none
      | _ => none
    | _ => none
  | .aaload => match S with
    | .int i :: .ref a :: r => match ev_rd G h a with
      | some (.inr (102, vs)) => bif ev_in i vs.length && Nat.ble 1000 a then (match vs[i.toNatClampNeg]? with
        | some (.ref x) => some (.ref x :: r)
        | some .null => some (.null :: r)
        | _ => none) else none
      | _ => none
    | _ => none
  | .checkcast i => match S with
    | .ref a :: r => match h.1[a - 1000]? with
      | some (.inl (2, _)) => bif Nat.ble 1000 a && (ev_sk G 3 k i).isSome then some (.ref a :: r) else none
      | _ => none
    | _ => none
  | _ => none
def ev_cs (S : List Value) : Bool := Nat.ble ((S.map fun v => v.category).sum) 8
/-- writes and makings: the new stack and cells -/
def ev_w (G : ev_G) (M : ev_MD) (S : List Value) (h : ev_AH) : Instr → Option (List Value × ev_AH)
  | .putfield i => match S with
    | v :: .ref a :: r => match ev_fld G M.1 i, h.1[a - 1000]? with
      | some (ci, sl), some (.inr (cj, vs)) => match (ev_ft G ci)[sl]? with
        | some (ty, fin) => bif Nat.beq ci cj && Nat.ble 1000 a && Nat.blt sl vs.length && ev_okv ty v && (!fin || (decide (M.2.1.name = "<init>") && Nat.beq ci M.1)) then some (r, ev_wr h a (.inr (cj, vs.set sl v))) else none
        | none => none
      | _, _ => none
    | _ => none
  | .iastore => match S with
    | .int x :: .int i :: .ref a :: r => match h.1[a - 1000]? with
      | some (.inl (0, l)) => bif ev_in i l.length && Nat.ble 1000 a then some (r, ev_wr h a (.inl (0, l.set i.toNatClampNeg x))) else none
      | _ => none
    | _ => none
  | .castore => match S with
    | .int x :: .int i :: .ref a :: r => match h.1[a - 1000]? with
      | some (.inl (1, l)) => bif ev_in i l.length && Nat.ble 1000 a then some (r, ev_wr h a (.inl (1, l.set i.toNatClampNeg (vp_nar .char x)))) else none
      | _ => none
    | _ => none
  | .bastore => match S with
    | .int x :: .int i :: .ref a :: r => match h.1[a - 1000]? with
      | some (.inl (2, l)) => bif ev_in i l.length && Nat.ble 1000 a then some (r, ev_wr h a (.inl (2, l.set i.toNatClampNeg (vp_nar .byte x)))) else none
      | _ => none
    | _ => none
  | .lastore => match S with
    | .long x :: .int i :: .ref a :: r => match h.1[a - 1000]? with
      | some (.inr (100, vs)) => bif ev_in i vs.length && Nat.ble 1000 a then some (r, ev_wr h a (.inr (100, vs.set i.toNatClampNeg (.long x)))) else none
      | _ => none
    | _ => none
  | .dastore => match S with
    | .double x :: .int i :: .ref a :: r => match h.1[a - 1000]? with
      | some (.inr (101, vs)) => bif ev_in i vs.length && Nat.ble 1000 a then some (r, ev_wr h a (.inr (101, vs.set i.toNatClampNeg (.double x)))) else none
      | _ => none
    | _ => none
  | .aastore => match S with
    | .ref x :: .int i :: .ref a :: r => match h.1[a - 1000]?, h.1[x - 1000]? with
      | some (.inr (102, vs)), some (.inr (1, _)) => bif ev_in i vs.length && Nat.ble 1000 a && Nat.ble 1000 x then some (r, ev_wr h a (.inr (102, vs.set i.toNatClampNeg (.ref x)))) else none
      | _, _ => none
    | _ => none
  | .newarray t => match S with
    | .int n :: r => bif decide (n < 0) || Nat.blt 1000000 n.toNatClampNeg then none else
      match newarray.typeOf t with
      | .int => some (.ref (1000 + h.1.length) :: r, (h.1 ++ [.inl (0, List.replicate n.toNatClampNeg 0)], h.2.1 + 1, h.2.2 + n.toNatClampNeg))
      | .char => some (.ref (1000 + h.1.length) :: r, (h.1 ++ [.inl (1, List.replicate n.toNatClampNeg 0)], h.2.1 + 1, h.2.2 + n.toNatClampNeg))
      | .byte => some (.ref (1000 + h.1.length) :: r, (h.1 ++ [.inl (2, List.replicate n.toNatClampNeg 0)], h.2.1 + 1, h.2.2 + n.toNatClampNeg))
      | .long => some (.ref (1000 + h.1.length) :: r, (h.1 ++ [.inr (100, List.replicate n.toNatClampNeg (.long 0))], h.2.1 + 1, h.2.2 + n.toNatClampNeg))
      | .double => some (.ref (1000 + h.1.length) :: r, (h.1 ++ [.inr (101, List.replicate n.toNatClampNeg (.double 0))], h.2.1 + 1, h.2.2 + n.toNatClampNeg))
      | _ => none
    | _ => none
  | .anewarray i => match S with
    | .int n :: r => bif decide (n < 0) || Nat.blt 1000000 n.toNatClampNeg || !(ev_sk G 2 M.1 i).isSome then none else
      some (.ref (1000 + h.1.length) :: r, (h.1 ++ [.inr (102, List.replicate n.toNatClampNeg .null)], h.2.1 + 1, h.2.2 + n.toNatClampNeg))
    | _ => none
  | .new i => match ev_nw G M.1 i with
    | some ci => some (.ref (1000 + h.1.length) :: S, (h.1 ++ [.inr (ci, (ev_ft G ci).map (fun q => defaultValue q.1))], h.2.1 + 1, h.2.2 + (ev_ft G ci).length))
    | none => none
  | .invokevirtual i => match ev_sk G 4 M.1 i with
    | some _ => (match S with
      | .ref a :: r => match h.1[a - 1000]? with
        | some (.inl (2, l)) => bif Nat.ble 1000 a && ev_cs r && l.all (fun x => fits .byte (.int x)) then some (.ref (1000 + h.1.length) :: r, (h.1 ++ [.inl (2, l)], h.2.1 + 1, h.2.2 + l.length)) else none
        | _ => none
      | _ => none)
    | none => none
  | _ => none
/-- jumps: where to, and the rest of the stack -/
def ev_j (pc : Nat) (S : List Value) : Instr → Option (Nat × List Value)
  | .ifCond c off => match S with
    | .int x :: r => bif ev_tok pc off then some (bif ev_cnd c x 0 then ev_tg pc off else pc + 3, r) else none
    | _ => none
  | .if_icmp c off => match S with
    | .int y :: .int x :: r => bif ev_tok pc off then some (bif ev_cnd c x y then ev_tg pc off else pc + 3, r) else none
    | _ => none
  | .goto off => bif ev_tok pc off then some (ev_tg pc off, S) else none
  | .ifnull off => match S with
    | .ref _ :: r => some (pc + 3, r)
    | .null :: r => bif ev_tok pc off then some (ev_tg pc off, r) else none
    | _ => none
  | .ifnonnull off => match S with
    | .ref _ :: r => bif ev_tok pc off then some (ev_tg pc off, r) else none
    | .null :: r => some (pc + 3, r)
    | _ => none
  | .tableswitch d lo hi offs => match S with
    | .int x :: r => bif decide (x.toInt < lo) || decide (hi < x.toInt) then (bif ev_tok pc d then some (ev_tg pc d, r) else none) else
      match offs[(x.toInt - lo).toNat]? with
      | some off => bif ev_tok pc off then some (ev_tg pc off, r) else none
      | none => none
    | _ => none
  | .lookupswitch d ps => match S with
    | .int x :: r => bif (ps.toList.zip (ps.toList.drop 1)).all (fun (a, next) => a.1 < next.1) && ev_tok pc (Op.lookupswitch.offset ps.toList d x.toInt) then some (ev_tg pc (Op.lookupswitch.offset ps.toList d x.toInt), r) else none
    | _ => none
  | _ => none
def ev_il : Instr → Nat
  | .bipush _ => 2
  | .sipush _ => 3
  | .ldc _ => 2
  | .getfield _ => 3
  | .putfield _ => 3
  | .getstatic _ => 3
  | .new _ => 3
  | .anewarray _ => 3
  | .newarray _ => 2
  | _ => 1
/-- one step that is no call and no end -/
def ev_s (G : ev_G) (M : ev_MD) (pc : Nat) (L : ev_VL) (S : List Value) (h : ev_AH) (i : Instr) (n : Nat) : Option ev_N :=
  match ev_ldi i with
  | some (j, t) => (match L[j]? with
    | some (some v) => bif ev_srt t v then some (pc + n, L, v :: S, h) else none
    | _ => none)
  | none => match ev_sti i with
    | some (j, t) => (match S with
      | v :: r => bif ev_srt t v && ev_sok L j then (bif Nat.beq t 3 then (bif Nat.blt (j + 1) L.length then some (pc + n, (L.set j (some v)).set (j + 1) none, r, h) else none) else some (pc + n, L.set j (some v), r, h)) else none
      | _ => none)
    | none => match i with
      | .iinc j d => (match L[j]? with
        | some (some (.int x)) => bif ev_sok L j then some (pc + 3, L.set j (some (.int (x + Int32.ofInt d))), S, h) else none
        | _ => none)
      | _ => match ev_p G M.1 S i with
        | some S' => some (pc + n, L, S', h)
        | none => match ev_r G M.1 S h i with
          | some S' => some (pc + n, L, S', h)
          | none => match ev_w G M S h i with
            | some (S', h') => some (pc + n, L, S', h')
            | none => match ev_j pc S i with
              | some (pc', S') => some (pc', L, S', h)
              | none => none
/-- the arguments of a call: the last one lies on top -/
def ev_pop : Nat → List Value → List Value → Option (List Value × List Value)
  | 0, acc, S => some (acc, S)
  | _ + 1, _, [] => none
  | n + 1, acc, v :: S => ev_pop n (v :: acc) S
/-- a thrown exception at pc: caught here (where the handler's next instruction stands, and the place where it keeps the exception), or not -/
def ev_hd (G : ev_G) (M : ev_MD) (pc E : Nat) : List (Nat × Nat × Nat × Nat) → Option (Option (Nat × Nat))
  | [] => some none
  | (lo, hi, tg, ct) :: r => bif Nat.ble lo pc && Nat.blt pc hi then (match ev_hc G ct E with
    | some 1 => (match ev_lk M.2.2.2.2.2.2 tg with
      | some (.astore_n j, 1) => some (some (tg + 1, j.val))
      | some (.astore j, 2) => some (some (tg + 2, j))
      | _ => none)
    | some 0 => ev_hd G M pc E r
    | _ => none) else ev_hd G M pc E r
/-- 'throw new E(text)' at pc: which exception -/
def ev_th (G : ev_G) (M : ev_MD) (pc i : Nat) : Option Nat :=
  match ev_lk M.2.2.2.2.2.2 (pc + 3), ev_lk M.2.2.2.2.2.2 (pc + 4) with
  | some (.dup, 1), some (.ldc is, 2) => (match ev_lk M.2.2.2.2.2.2 (pc + 6), ev_lk M.2.2.2.2.2.2 (pc + 9) with
    | some (.invokespecial ic, 3), some (.athrow, 1) => ev_ex G i is ic
    | _, _ => none)
  | some (.dup, 1), some (.ldc_w is, 3) => (match ev_lk M.2.2.2.2.2.2 (pc + 7), ev_lk M.2.2.2.2.2.2 (pc + 10) with
    | some (.invokespecial ic, 3), some (.athrow, 1) => ev_ex G i is ic
    | _, _ => none)
  | _, _ => none
/-- an end: the answer -/
def ev_e (M : ev_MD) (S : List Value) : Instr → Option (Option Value)
  | .return_ => match S, M.2.2.2.2.1 with
    | [], none => some none
    | _, _ => none
  | .ireturn => match S, M.2.2.2.2.1 with
    | [.int x], some ty => (match narrow ty (.int x) with
      | .int v => some (some (.int v))
      | _ => none)
    | _, _ => none
  | .areturn => match S, M.2.2.2.2.1 with
    | [.ref a], some (.object _) => some (some (.ref a))
    | [.ref a], some (.array _) => some (some (.ref a))
    | [.null], some (.object _) => some (some .null)
    | _, _ => none
  | .dreturn => match S, M.2.2.2.2.1 with
    | [.double x], some .double => some (some (.double x))
    | _, _ => none
  | .freturn => match S, M.2.2.2.2.1 with
    | [.float x], some .float => some (some (.float x))
    | _, _ => none
  | _ => none
/-- is a call's kind one of its instruction (0 virtual, 1 a nest mate's; 2 static, 3 a nest mate's, 8 with handlers; 4 <init>, 5 a nest mate's, 7 the superclass's) -/
def ev_ck : Instr → Nat → Bool
  | .invokevirtual _, k => Nat.beq k 0 || Nat.beq k 1 || Nat.beq k 6
  | .invokestatic _, k => Nat.beq k 2 || Nat.beq k 3 || Nat.beq k 8
  | .invokespecial _, k => Nat.beq k 4 || Nat.beq k 5 || Nat.beq k 7
  | _, _ => false
def ev_ix : Instr → Option Nat
  | .invokevirtual i => some i
  | .invokestatic i => some i
  | .invokespecial i => some i
  | _ => none
def ev_st : Nat → Bool := fun k => Nat.beq k 2 || Nat.beq k 3 || Nat.beq k 8
/-- the receiver: an object of the class of that number (for a constructor: any) -/
def ev_rc (G : ev_G) (h : ev_AH) (k rc : Nat) : Value → Bool
  | .ref a => Nat.beq k 4 || Nat.beq k 5 || (match ev_rd G h a with
    | some (.inr (ci, _)) => Nat.beq ci rc && Nat.blt ci 100
    | _ => false)
  | _ => false
/-- calls that aren't walked: kind 13: System.arraycopy between two byte arrays; 10: the constructor of Object; 11, 12: Math.min, Math.max of ints -/
def ev_na (G : ev_G) (i : Instr) (S : List Value) (h : ev_AH) : Nat → Option (List Value × ev_AH)
  | 10 => match S with
    | .ref _ :: r => bif ev_ck i 4 && ev_cs r then some (r, h) else none
    | _ => none
  | 13 => match S with
    | .int n :: .int dp :: .ref b :: .int sp :: .ref a :: r => match ev_rd G h a, h.1[b - 1000]? with
      | some (.inl (2, la)), some (.inl (2, lb)) =>
        bif ev_ck i 2 && Nat.ble 1000 b && !(decide (n < 0)) && !(decide (dp < 0)) && !(decide (sp < 0)) && Nat.ble (sp.toNatClampNeg + n.toNatClampNeg) la.length && Nat.ble (dp.toNatClampNeg + n.toNatClampNeg) lb.length && ((la.drop sp.toNatClampNeg).take n.toNatClampNeg).all (fun x => fits .byte (.int x)) && ev_cs r then
          some (r, ev_wr h b (.inl (2, lb.take dp.toNatClampNeg ++ (la.drop sp.toNatClampNeg).take n.toNatClampNeg ++ lb.drop (dp.toNatClampNeg + n.toNatClampNeg))))
        else none
      | _, _ => none
    | _ => none
  | 11 => match S with
    | .int y :: .int x :: r => bif ev_ck i 2 && ev_cs r then some (.int (if y < x then y else x) :: r, h) else none
    | _ => none
  | 12 => match S with
    | .int y :: .int x :: r => bif ev_ck i 2 && ev_cs r then some (.int (if x < y then y else x) :: r, h) else none
    | _ => none
  | _ => none
/-- may these be the arguments of a call of kind k, with r left on the stack -/
def ev_cok (G : ev_G) (h : ev_AH) (k rc : Nat) (M' : ev_MD) (A r : List Value) : Bool := ev_cs r && Nat.ble A.length M'.2.2.2.1 && Nat.ble M'.2.2.2.1 40 && A.all ev_cat1 && (ev_st k || (match A with
  | v :: _ => ev_rc G h k rc v
  | [] => false))
def ev_en (M : ev_MD) (A : List Value) : ev_VL := A.map some ++ List.replicate (M.2.2.2.1 - A.length) none
/-- THE MACHINE: n bounds the steps, d the depth of calls -/
def ev_F (G : ev_G) : Nat → Nat → ev_MD → Nat → ev_VL → List Value → ev_AH → Option (ev_O × ev_AH)
  | 0, _, _, _, _, _, _ => none
  | n + 1, d, M, pc, L, S, h => match ev_lk M.2.2.2.2.2.2 pc with
    | none => none
    | some (i, len) => bif ev_len i len then
      (match ev_s G M pc L S h i len with
      | some (pc', L', S', h') => ev_F G n d M pc' L' S' h'
      | none => match ev_e M S i with
        | some v => some (.inl v, h)
        | none => match i with
          | .new j => (match ev_th G M pc j, M.2.2.2.2.2.1 with
            | some E, [] => bif Nat.beq M.1 0 && ev_cs S then some (.inr E, (h.1, h.2.1 + 1, h.2.2 + 6)) else none
            | _, _ => none)
          | _ => match ev_ix i with
            | none => none
            | some j => match ev_ct G M.1 j with
              | none => none
              | some (k, a, rc, M') => match ev_na G i S h k with
                | some (S', h') => ev_F G n d M (pc + 3) L S' h'
                | none => match d with
                  | 0 => none
                  | d + 1 => bif ev_ck i k then
                    (match ev_pop (bif ev_st k then a else a + 1) [] S with
                    | none => none
                    | some (A, r) => bif ev_cok G h k rc M' A r then
                      (match ev_F G n d M' 0 (ev_en M' A) [] h with
                      | some (.inl v, h') => ev_F G n (d + 1) M (pc + 3) L (v.toList ++ r) h'
                      | some (.inr E, h') => (match ev_hd G M pc E M.2.2.2.2.2.1 with
                        | some none => some (.inr E, h')
                        | some (some (pc', j)) => bif ev_sok L j then ev_F G n (d + 1) M pc' (L.set j none) [] h' else none
                        | none => none)
                      | none => none) else none)
                    else none)
      else none
end
section
/-! THE SMALL MACHINE AND THE REAL ONE: how their states belong together, and that each of its steps is the real machine's -/
/-- a value, its cell's number turned to its address -/
def ev_cv (ρ : Nat → Nat) : Value → Value
  | .ref a => .ref (ρ a)
  | v => v
def ev_lg : Value → Int64
  | .long x => x
  | _ => 0
def ev_db : Value → UInt64
  | .double x => x
  | _ => 0
def ev_rf (ρ : Nat → Nat) : Value → Option Nat
  | .ref a => some (ρ a)
  | _ => none
def ev_at (T : Nat → ClassId) (ρ : Nat → Nat) : ev_AC → va_E
  | .inl (k, l) => .inl (T k, l.length, .inl (fun j => l.getD j 0))
  | .inr (100, vs) => .inl (T 3, vs.length, .inr (.inl (fun j => ev_lg (vs.getD j .null))))
  | .inr (101, vs) => .inl (T 4, vs.length, .inr (.inr (.inr (.inl (fun j => ev_db (vs.getD j .null))))))
  | .inr (102, vs) => .inl (T 5, vs.length, .inr (.inr (.inr (.inr (fun j => ev_rf ρ (vs.getD j .null))))))
  | .inr (ci, vs) => .inr (ci, vs.map (ev_cv ρ))
/-- the world that belongs to the cells -/
def ev_wl (T : Nat → ClassId) (ρ : Nat → Nat) (σ : List ev_AC) : va_W := σ.mapIdx (fun i c => (ρ (1000 + i), ev_at T ρ c))
def ev_tys (T : Nat → ClassId) (CN : String) : List (ClassId × FieldType) := [(T 0, .int), (T 1, .char), (T 2, .byte), (T 3, .long), (T 4, .double), (T 5, .object CN)]
/-- no number of a cell that isn't made yet -/
def ev_ok (n : Nat) : Value → Prop
  | .ref a => a < 1000 + n
  | _ => True
def ev_okc (n : Nat) : ev_AC → Prop
  | .inl _ => True
  | .inr (_, vs) => ∀ v ∈ vs, ev_ok n v
def ev_SR (ρ : Nat → Nat) (n : Nat) (S st : List Value) : Prop := st = S.map (ev_cv ρ) ∧ ∀ v ∈ S, ev_ok n v
def ev_LR (ρ : Nat → Nat) (n nL : Nat) (L : ev_VL) (ls : Array Slot) : Prop := ls.size = nL ∧ L.length = nL ∧ lv_wf ls ∧ ∀ (i : Nat) (v : Value), L[i]? = some (some v) → ls[i]? = some (.val (ev_cv ρ v)) ∧ ev_ok n v
def ev_HR (D : va_G) (T : Nat → ClassId) (cl : List vw_C) (A : Nat → Prop) (H0 : Heap) (κ ρ : Nat → Nat) (k0 s0 : Nat) (h : ev_AH) (H : Heap) (locs : List Loc) (cells slots : Nat) : Prop :=
  va_P D cl (ev_wl T ρ h.1) H ∧ va_D A (ev_wl T ρ h.1) ∧ va_S A H0 H locs ∧ (∀ a, a < 1000 → ρ a = κ a) ∧ (∀ c ∈ h.1, ev_okc h.1.length c) ∧ cells + k0 = h.2.1 ∧ slots + s0 = h.2.2
theorem ev_wl_get {T : Nat → ClassId} {ρ : Nat → Nat} {σ : List ev_AC} {i : Nat} {c : ev_AC} (h : σ[i]? = some c) : (ev_wl T ρ σ)[i]? = some (ρ (1000 + i), ev_at T ρ c) := by
  simp [ev_wl, List.getElem?_mapIdx, h]
theorem ev_wl_len {T : Nat → ClassId} {ρ : Nat → Nat} {σ : List ev_AC} : (ev_wl T ρ σ).length = σ.length := by simp [ev_wl]
theorem ev_wl_set {T : Nat → ClassId} {ρ : Nat → Nat} {σ : List ev_AC} {i : Nat} {c : ev_AC} : ev_wl T ρ (σ.set i c) = (ev_wl T ρ σ).set i (ρ (1000 + i), ev_at T ρ c) := by
  apply List.ext_getElem?
  intro j
  simp only [ev_wl, List.getElem?_mapIdx, List.getElem?_set, List.length_mapIdx]
  by_cases hj : i = j
  · subst hj
    by_cases hl : i < σ.length <;> simp [hl]
  · simp [hj]
theorem ev_ok_mono {n k : Nat} {v : Value} (h : ev_ok n v) (hk : n ≤ k) : ev_ok k v := by
  cases v <;> simp only [ev_ok] at h ⊢
  exact Nat.lt_of_lt_of_le h (Nat.add_le_add_left hk 1000)
theorem ev_okc_mono {n k : Nat} {c : ev_AC} (h : ev_okc n c) (hk : n ≤ k) : ev_okc k c := by
  rcases c with _ | ⟨ci, vs⟩
  · trivial
  · exact fun v hv => ev_ok_mono (h v hv) hk
/-- two namings that agree on what is there already -/
def ev_ex2 (ρ ρ' : Nat → Nat) (n : Nat) : Prop := ∀ a, a < 1000 + n → ρ' a = ρ a
theorem ev_cv_ext {ρ ρ' : Nat → Nat} {n : Nat} (h : ev_ex2 ρ ρ' n) {v : Value} (hv : ev_ok n v) : ev_cv ρ' v = ev_cv ρ v := by
  cases v <;> simp only [ev_cv]
  rw [h _ hv]
theorem ev_rf_ext {ρ ρ' : Nat → Nat} {n : Nat} (h : ev_ex2 ρ ρ' n) {v : Value} (hv : ev_ok n v) : ev_rf ρ' v = ev_rf ρ v := by
  cases v <;> simp only [ev_rf]
  rw [h _ hv]
theorem ev_at_obj {T : Nat → ClassId} {ρ : Nat → Nat} {ci : Nat} {vs : List Value} (h : ci < 100) : ev_at T ρ (.inr (ci, vs)) = .inr (ci, vs.map (ev_cv ρ)) := by
  unfold ev_at
  split <;> first | omega | simp_all
theorem ev_at_ext {T : Nat → ClassId} {ρ ρ' : Nat → Nat} {n : Nat} (h : ev_ex2 ρ ρ' n) {c : ev_AC} (hc : ev_okc n c) : ev_at T ρ' c = ev_at T ρ c := by
  rcases c with ⟨k, l⟩ | ⟨ci, vs⟩
  · rfl
  · unfold ev_at
    split
    · rfl
    · rfl
    · rfl
    · rename_i vs' e
      injection e with e
      injection e with e1 e2
      subst e2
      have : (fun j => ev_rf ρ' (vs.getD j .null)) = (fun j => ev_rf ρ (vs.getD j .null)) := by
        funext j
        apply ev_rf_ext h
        cases hj : vs[j]? with
        | none => simp [List.getD, hj, ev_ok]
        | some v => simp only [List.getD, hj, Option.getD]; exact hc v (List.mem_of_getElem? hj)
      rw [this]
    · rename_i e
      injection e with e
      injection e with e1 e2
      subst e1; subst e2
      have : vs.map (ev_cv ρ') = vs.map (ev_cv ρ) := List.map_congr_left (fun v hv => ev_cv_ext h (hc v hv))
      rw [this]
theorem ev_wl_ext {T : Nat → ClassId} {ρ ρ' : Nat → Nat} {σ : List ev_AC} (h : ev_ex2 ρ ρ' σ.length) (hc : ∀ c ∈ σ, ev_okc σ.length c) : ev_wl T ρ' σ = ev_wl T ρ σ := by
  apply List.ext_getElem?
  intro j
  simp only [ev_wl, List.getElem?_mapIdx]
  cases hj : σ[j]? with
  | none => rfl
  | some c =>
    have hlt : j < σ.length := (List.getElem?_eq_some_iff.mp hj).1
    simp only [Option.map]
    rw [h (1000 + j) (by omega), ev_at_ext h (hc c (List.mem_of_getElem? hj))]
theorem ev_wl_push {T : Nat → ClassId} {ρ : Nat → Nat} {σ : List ev_AC} {c : ev_AC} : ev_wl T ρ (σ ++ [c]) = ev_wl T ρ σ ++ [(ρ (1000 + σ.length), ev_at T ρ c)] := by
  simp [ev_wl, List.mapIdx_append]
theorem ev_SR_ext {ρ ρ' : Nat → Nat} {n k : Nat} {S st : List Value} (h : ev_SR ρ n S st) (he : ev_ex2 ρ ρ' n) (hk : n ≤ k) : ev_SR ρ' k S st :=
  ⟨by rw [h.1]; exact List.map_congr_left (fun v hv => (ev_cv_ext he (h.2 v hv)).symm), fun v hv => ev_ok_mono (h.2 v hv) hk⟩
theorem ev_LR_ext {ρ ρ' : Nat → Nat} {n k nL : Nat} {L : ev_VL} {ls : Array Slot} (h : ev_LR ρ n nL L ls) (he : ev_ex2 ρ ρ' n) (hk : n ≤ k) : ev_LR ρ' k nL L ls :=
  ⟨h.1, h.2.1, h.2.2.1, fun i v hv => by
    obtain ⟨h1, h2⟩ := h.2.2.2 i v hv
    exact ⟨by rw [h1, ev_cv_ext he h2], ev_ok_mono h2 hk⟩⟩
theorem ev_SR_cons {ρ : Nat → Nat} {n : Nat} {v : Value} {S st : List Value} (h : ev_SR ρ n (v :: S) st) : ∃ r, st = ev_cv ρ v :: r ∧ ev_SR ρ n S r ∧ ev_ok n v :=
  ⟨S.map (ev_cv ρ), h.1, ⟨rfl, fun w hw => h.2 w (List.mem_cons_of_mem _ hw)⟩, h.2 v List.mem_cons_self⟩
theorem ev_SR_push {ρ : Nat → Nat} {n : Nat} {v : Value} {S st : List Value} (h : ev_SR ρ n S st) (hv : ev_ok n v) : ev_SR ρ n (v :: S) (ev_cv ρ v :: st) :=
  ⟨by rw [h.1]; rfl, fun w hw => by
    rcases List.mem_cons.mp hw with rfl | hw
    · exact hv
    · exact h.2 w hw⟩
theorem ev_i2_some {f : Int32 → Int32 → Int32} {S S' : List Value} (h : ev_i2 f S = some S') : ∃ x y r, S = .int y :: .int x :: r ∧ S' = .int (f x y) :: r := by
  unfold ev_i2 at h
  split at h
  · exact ⟨_, _, _, rfl, (Option.some.inj h).symm⟩
  · cases h
theorem ev_i2n_some {f : Int32 → Int32 → Int32} {S S' : List Value} (h : ev_i2n f S = some S') : ∃ x y r, S = .int y :: .int x :: r ∧ S' = .int (f x y) :: r ∧ ¬ y = 0 := by
  unfold ev_i2n at h
  split at h
  · rename_i y x r
    by_cases hy : y = 0
    · simp [hy] at h
    · simp [hy] at h
      exact ⟨_, _, _, rfl, h.symm, hy⟩
  · cases h
theorem ev_i1_some {f : Int32 → Value} {S S' : List Value} (h : ev_i1 f S = some S') : ∃ x r, S = .int x :: r ∧ S' = f x :: r := by
  unfold ev_i1 at h
  split at h
  · exact ⟨_, _, rfl, (Option.some.inj h).symm⟩
  · cases h
theorem ev_cat1_ok {v : Value} (ρ : Nat → Nat) (h : ev_cat1 v = true) : (ev_cv ρ v).category = 1 := by
  cases v <;> first | rfl | cases h
end
section
/-! WHAT STANDS AROUND A METHOD: words of the tables, statics, texts; and which tables of the small machine are true -/
abbrev ev_B : Type := List Cond × List Cond × List (String × String × String × Value) × List (String × Nat × String × Nat) × (Nat → String) × List vw_C × String × List (String × String) × (Nat → String)
abbrev ev_Tb (B : ev_B) := B.1
abbrev ev_NG (B : ev_B) := B.2.1
abbrev ev_ST (B : ev_B) := B.2.2.1
abbrev ev_SS (B : ev_B) := B.2.2.2.1
abbrev ev_cn (B : ev_B) := B.2.2.2.2.1
abbrev ev_cl (B : ev_B) := B.2.2.2.2.2.1
abbrev ev_CN (B : ev_B) := B.2.2.2.2.2.2.1
/-- exceptions that a handler doesn't take -/
abbrev ev_NC (B : ev_B) := B.2.2.2.2.2.2.2.1
/-- the exceptions' names -/
abbrev ev_xn (B : ev_B) := B.2.2.2.2.2.2.2.2
def ev_ety : Nat → FieldType
  | 0 => .int
  | 1 => .char
  | _ => .byte
def ev_sfn : Nat → String × String
  | 0 => ("value", "[B")
  | _ => ("coder", "B")
def ev_cc (κ : Nat → Nat) (a : Nat) (x : ev_AC) (A : Nat → Prop) (U : State) (H : Heap) : Prop := match x with
  | .inl (k, l) => va_T (ev_ety k) (κ a) l.length (fun j => .int (l.getD j 0)) A U H
  | .inr (_, vs) => va_O "java/lang/String" (κ a) A U H ∧ ∀ (sl : Nat) (v : Value), vs[sl]? = some v → va_OF "java/lang/String" (ev_sfn sl).1 (ev_sfn sl).2 (ev_cv κ v) (κ a) A U H
def ev_En (G : ev_G) (B : ev_B) (κ : Nat → Nat) (A : Nat → Prop) (U : State) (H : Heap) : Prop :=
  (∀ q ∈ ev_SS B, vk_R q.1 q.2.1 q.2.2.1 (κ q.2.2.2) U) ∧ (∀ q ∈ ev_ST B, va_Z q.1 q.2.1 q.2.2.1 (ev_cv κ q.2.2.2) A U H) ∧ (∀ (a : Nat) (x : ev_AC), a < 1000 → ev_cst G a = some x → ev_cc κ a x A U H) ∧
  (∀ w ∈ ev_NG B, va_Nw w U) ∧ vx_Zq Bundle.tN "UNASSIGNED_STACK" Bundle.steD A U H ∧ vx_Zq Bundle.tN "SUPPRESSED_SENTINEL" Bundle.listD A U H ∧ va_AO (ev_CN B) U ∧ ∀ q ∈ ev_NC B, va_Nc q.1 q.2 U
/-- the words that are carried from a method to its callee one by one -/
def ev_ngk : Cond → Bool
  | .fieldLinkNest .. => true
  | .methodLinkNest .. => true
  | .declares .. => true
  | .castable .. => true
  | _ => false
theorem ev_nw_warm {w : Cond} (hw : ev_ngk w = true) {s U : State} (hW : s.WarmedH U.vm) (h : va_Nw w s) : va_Nw w U := by
  unfold ev_ngk at hw
  split at hw
  · exact va_Nw.warmF hW h
  · exact va_Nw.warmM hW h
  · exact va_Nw.warmD hW h
  · exact va_Nw.warmC hW h
  · cases hw
theorem ev_cc_moved {κ : Nat → Nat} {a : Nat} {x : ev_AC} {A : Nat → Prop} {u U : State} {H : Heap} (hvm : u.vm.Alike U.vm) (h : ev_cc κ a x A u H) : ev_cc κ a x A U H := by
  rcases x with ⟨k, l⟩ | ⟨ci, vs⟩
  · exact va_T.moved hvm h
  · exact ⟨va_O.moved hvm h.1, fun sl v hv => va_OF.moved hvm (h.2 sl v hv)⟩
theorem ev_cc_kept {κ : Nat → Nat} {a : Nat} {x : ev_AC} {A : Nat → Prop} {U : State} {H H1 : Heap} (h : ev_cc κ a x A U H) (hq : ∀ a : Nat, a < H.size → ¬ A a → H1[a]? = H[a]?) : ev_cc κ a x A U H1 := by
  rcases x with ⟨k, l⟩ | ⟨ci, vs⟩
  · exact va_T.kept h hq
  · exact ⟨va_O.kept h.1 hq, fun sl v hv => va_OF.kept (h.2 sl v hv) hq⟩
theorem ev_cc_narrow {κ : Nat → Nat} {a : Nat} {x : ev_AC} {A B : Nat → Prop} {U : State} {H : Heap} (h : ev_cc κ a x A U H) (hAB : ∀ q, B q → A q) : ev_cc κ a x B U H := by
  rcases x with ⟨k, l⟩ | ⟨ci, vs⟩
  · exact va_T.narrow h hAB
  · exact ⟨va_O.narrow h.1 hAB, fun sl v hv => va_OF.narrow (h.2 sl v hv) hAB⟩
/-- from a method's start to its callee's -/
theorem ev_En_call {G : ev_G} {B : ev_B} {κ : Nat → Nat} {A A' : Nat → Prop} {s U : State} {H0 H : Heap} (hng : ∀ w ∈ ev_NG B, ev_ngk w = true) (h : ev_En G B κ A s H0) (hW : s.WarmedH U.vm) (hS : ∀ a : Nat, a < H0.size → ¬ A a → H[a]? = H0[a]?) (hA : ∀ q, A' q → A q) : ev_En G B κ A' U H := by
  obtain ⟨h1, h2, h3, h4, h5, h6, h7, h8⟩ := h
  have hvm := hW.alike
  exact ⟨fun q hq => (h1 q hq).warm hW, fun q hq => (((h2 q hq).kept hS).moved hvm).narrow hA, fun a x ha hx => ev_cc_narrow (ev_cc_moved hvm (ev_cc_kept (h3 a x ha hx) hS)) hA,
    fun w hw => ev_nw_warm (hng w hw) hW (h4 w hw), ((h5.kept hS).moved hvm).narrow hA, ((h6.kept hS).moved hvm).narrow hA, h7.moved hvm, fun q hq => (h8 q hq).moved hvm⟩
/-- what holds while a method's frame stands: p, l, c .. as in the kit's rows -/
def ev_Fx (G : ev_G) (B : ev_B) (M : ev_MD) (D : va_G) (T : Nat → ClassId) (κ : Nat → Nat) (A : Nat → Prop) (p : Program) (l : Launch) (s : State) (m : MethodId) (args : Array Value) (meth : Method) (c : Code) : Prop :=
  p.tables.exec = Jvm.exec ∧ c.code = M.2.2.1 ∧ c.maxLocals = M.2.2.2.1 ∧ meth.sig.returnType = M.2.2.2.2.1 ∧ meth.locks = false ∧ meth.name = M.2.1.name ∧ s.vm.findClass M.2.1.cls = some m.cls ∧ (∀ w ∈ ev_Tb B, w.before args s = true) ∧
  va_K D (ev_cl B) (ev_tys T (ev_CN B)) s ∧ ev_En G B κ A s s.heap ∧ (∀ q, s.heap.size ≤ q → A q) ∧ l.stackTraces = false ∧ c.exceptionTable.toList = tableOf M.2.2.2.2.2.1 ∧ (M.2.2.2.2.2.1 = [] ∨ M.1 = 11) ∧
  (∀ q ∈ M.2.2.2.2.2.2, decode M.2.2.1 q.1 = .ok q.2) ∧ ev_cn B M.1 = M.2.1.cls
end
section
/-! the steps that touch the stack alone -/
def ev_V1 (G : ev_G) (B : ev_B) : Prop := ∀ (k i : Nat) (v : Value), ev_sk G 0 k i = some v → (∃ x : Int32, v = .int x ∧ Cond.constant (ev_cn B k) i x ∈ ev_Tb B) ∨ (∃ (a : Nat) (tx : String), v = .ref a ∧ a < 1000 ∧ (ev_cn B k, i, tx, a) ∈ ev_SS B)
def ev_V2 (G : ev_G) (B : ev_B) : Prop := ∀ (k i : Nat) (v : Value), ev_sk G 1 k i = some v → ev_ok 0 v ∧ ∃ C n d : String, (C, n, d, v) ∈ ev_ST B ∧ Cond.fieldLink (ev_cn B k) i C n d ∈ ev_Tb B
theorem ev_cv_const {κ ρ : Nat → Nat} (h : ∀ a, a < 1000 → ρ a = κ a) {v : Value} (hv : ev_ok 0 v) : ev_cv ρ v = ev_cv κ v := by
  cases v <;> simp only [ev_cv]
  rw [h _ hv]
section
variable {G : ev_G} {B : ev_B} {M : ev_MD} {D : va_G} {T : Nat → ClassId} {κ ρ : Nat → Nat} {A : Nat → Prop} {p : Program} {l : Launch} {e : Env} {R : Room} {s : State} {m : MethodId} {args : Array Value} {below : List Frame} {meth : Method} {c : Code} {H : Heap} {locs : List Loc} {cells slots : Nat} {Q : State → Prop} {pc n nn : Nat} {ls : Array Slot} {S S' st : List Value} {i : Instr}
theorem ev_ldcSW {cc : ByteArray} {rest : List Value} (hexec : p.tables.exec = Jvm.exec) (hb : c.code = cc) {own tx : String} {index q : Nat} (hown : s.vm.findClass own = some m.cls) (hZ : vk_R own index tx q s) (hdg : decode cc pc = .ok (.ldc_w index, 3))
    (k : W p l e R s m args below meth c H locs cells slots Q (F0 m (pc + 3) ls (.ref q :: rest))) : W p l e R s m args below meth c H locs cells slots Q (F0 m pc ls rest) := by
  intro T hT X
  obtain ⟨t, a1, b1⟩ := k T hT X
  exact ⟨t, X.ldcStringW hexec (own := own) (text := tx) (index := index) (a := q) hown hZ.1 hZ.2 (g := F0 m pc ls rest) rfl (by rw [hb]; exact hdg) t a1, b1⟩
theorem ev_p_ok (F : ev_Fx G B M D T κ A p l s m args meth c) (hV1 : ev_V1 G B) (hV2 : ev_V2 G B) (hd : decode M.2.2.1 pc = .ok (i, n)) (hl : ev_len i n = true) (hp : ev_p G M.1 S i = some S') (hR : ev_SR ρ nn S st) (hS : va_S A s.heap H locs) (hκ : ∀ a, a < 1000 → ρ a = κ a)
    (kk : ∀ st', ev_SR ρ nn S' st' → W p l e R s m args below meth c H locs cells slots Q (F0 m (pc + n) ls st')) : W p l e R s m args below meth c H locs cells slots Q (F0 m pc ls st) := by
  obtain ⟨hx, hb, hml, hr, hlocks, hnm, hown, hts, hK, hE, hA, htr, hex, hex2, hdec, hcn⟩ := F
  cases i with
  | iconst k =>
    obtain rfl : n = 1 := Nat.eq_of_beq_eq_true hl
    obtain rfl := Option.some.inj hp
    exact lv_iconst hx hb hd rfl (kk _ (ev_SR_push (v := .int (Int32.ofInt k)) hR trivial))
  | bipush k =>
    obtain rfl : n = 2 := Nat.eq_of_beq_eq_true hl
    obtain rfl := Option.some.inj hp
    exact lv_bipush hx hb hd rfl (kk _ (ev_SR_push (v := .int (Int8.ofInt k).toInt32) hR trivial))
  | sipush k =>
    obtain rfl : n = 3 := Nat.eq_of_beq_eq_true hl
    obtain rfl := Option.some.inj hp
    exact lv_sipush hx hb hd rfl (kk _ (ev_SR_push (v := .int (Int16.ofInt k).toInt32) hR trivial))
  | lconst k =>
    obtain rfl : n = 1 := Nat.eq_of_beq_eq_true hl
    obtain rfl := Option.some.inj hp
    exact lv_lconst hx hb hd rfl (kk _ (ev_SR_push (v := .long (Int64.ofNat k.val)) hR trivial))
  | fconst k =>
    obtain rfl : n = 1 := Nat.eq_of_beq_eq_true hl
    simp only [ev_p] at hp
    cases hk : Nat.beq k.val 0 with
    | false => rw [hk] at hp; cases hp
    | true =>
      rw [hk] at hp
      obtain rfl := Option.some.inj hp
      obtain rfl : k = 0 := Fin.ext (Nat.eq_of_beq_eq_true hk)
      exact lv_fconst0 hx hb hd (kk _ (ev_SR_push (v := .float FP.fconst0) hR trivial))
  | dconst k =>
    obtain rfl : n = 1 := Nat.eq_of_beq_eq_true hl
    simp only [ev_p] at hp
    cases hk : Nat.beq k.val 0 with
    | false => rw [hk] at hp; cases hp
    | true =>
      rw [hk] at hp
      obtain rfl := Option.some.inj hp
      obtain rfl : k = 0 := Fin.ext (Nat.eq_of_beq_eq_true hk)
      exact lv_dconst0 hx hb hd (kk _ (ev_SR_push (v := .double FP.dconst0) hR trivial))
  | aconst_null =>
    obtain rfl : n = 1 := Nat.eq_of_beq_eq_true hl
    obtain rfl := Option.some.inj hp
    exact lv_null hx hb hd (kk _ (ev_SR_push (v := .null) hR trivial))
  | ldc k =>
    obtain rfl : n = 2 := Nat.eq_of_beq_eq_true hl
    simp only [ev_p] at hp
    split at hp
    · rename_i v hv
      obtain rfl := Option.some.inj hp
      rcases hV1 _ _ _ hv with ⟨x, rfl, hc⟩ | ⟨a, tx, rfl, ha, hc⟩
      · exact lv_ldc hx hb hown (by rw [← hcn]; exact hts _ hc) hd (kk _ (ev_SR_push (v := .int x) hR trivial))
      · refine va_ldcS hx hb (own := M.2.1.cls) (tx := tx) (q := κ a) hown ?_ hd ?_
        · rw [← hcn]
          exact hE.1 (ev_cn B M.1, k, tx, a) hc
        · rw [← hκ a ha]
          exact kk _ (ev_SR_push (v := .ref a) hR (Nat.lt_of_lt_of_le ha (Nat.le_add_right _ _)))
    · cases hp
  | ldc_w k =>
    obtain rfl : n = 3 := Nat.eq_of_beq_eq_true hl
    simp only [ev_p] at hp
    split at hp
    · rename_i v hv
      obtain rfl := Option.some.inj hp
      rcases hV1 _ _ _ hv with ⟨x, rfl, hc⟩ | ⟨a, tx, rfl, ha, hc⟩
      · exact lv_ldcw hx hb hown (by rw [← hcn]; exact hts _ hc) hd (kk _ (ev_SR_push (v := .int x) hR trivial))
      · refine ev_ldcSW hx hb (own := M.2.1.cls) (tx := tx) (q := κ a) hown ?_ hd ?_
        · rw [← hcn]
          exact hE.1 (ev_cn B M.1, k, tx, a) hc
        · rw [← hκ a ha]
          exact kk _ (ev_SR_push (v := .ref a) hR (Nat.lt_of_lt_of_le ha (Nat.le_add_right _ _)))
    · cases hp
  | getstatic k =>
    obtain rfl : n = 3 := Nat.eq_of_beq_eq_true hl
    simp only [ev_p] at hp
    split at hp
    · rename_i v hv
      obtain rfl := Option.some.inj hp
      obtain ⟨hok, C, nm, d, hq, hw⟩ := hV2 _ _ _ hv
      refine va_gets hx hb (C := C) (n := nm) (d := d) (v := ev_cv κ v) (own := M.2.1.cls) (ref := C) (hE.2.1 (C, nm, d, v) hq) hS hown (by rw [← hcn]; exact hts _ hw) (fun _ h9 => h9) hd ?_
      rw [← ev_cv_const hκ hok]
      exact kk _ (ev_SR_push hR (ev_ok_mono hok (Nat.zero_le _)))
    · cases hp
  | dup =>
    obtain rfl : n = 1 := Nat.eq_of_beq_eq_true hl
    simp only [ev_p] at hp
    split at hp
    · rename_i v r
      cases hc : ev_cat1 v with
      | false => rw [hc] at hp; cases hp
      | true =>
        rw [hc] at hp
        obtain rfl := Option.some.inj hp
        obtain ⟨r', rfl, h1, h2⟩ := ev_SR_cons hR
        exact lv_dup hx hb hd (ev_cat1_ok ρ hc) (kk _ (ev_SR_push (ev_SR_push h1 h2) h2))
    · cases hp
  | pop =>
    obtain rfl : n = 1 := Nat.eq_of_beq_eq_true hl
    simp only [ev_p] at hp
    split at hp
    · rename_i v r
      cases hc : ev_cat1 v with
      | false => rw [hc] at hp; cases hp
      | true =>
        rw [hc] at hp
        obtain rfl := Option.some.inj hp
        obtain ⟨r', rfl, h1, h2⟩ := ev_SR_cons hR
        exact lv_pop hx hb hd (ev_cat1_ok ρ hc) (kk _ h1)
    · cases hp
  | dup_x1 =>
    obtain rfl : n = 1 := Nat.eq_of_beq_eq_true hl
    simp only [ev_p] at hp
    split at hp
    · rename_i v w r
      cases hc : (ev_cat1 v && ev_cat1 w) with
      | false => rw [hc] at hp; cases hp
      | true =>
        rw [hc] at hp
        obtain rfl := Option.some.inj hp
        rw [Bool.and_eq_true] at hc
        obtain ⟨r', rfl, h1, h2⟩ := ev_SR_cons hR
        obtain ⟨r', rfl, h3, h4⟩ := ev_SR_cons h1
        exact lv_dup_x1 hx hb hd (ev_cat1_ok ρ hc.1) (ev_cat1_ok ρ hc.2) (kk _ (ev_SR_push (ev_SR_push (ev_SR_push h3 h2) h4) h2))
    · cases hp
  | dup2 =>
    obtain rfl : n = 1 := Nat.eq_of_beq_eq_true hl
    simp only [ev_p] at hp
    split at hp
    · rename_i v w r
      cases hc : (ev_cat1 v && ev_cat1 w) with
      | false => rw [hc] at hp; cases hp
      | true =>
        rw [hc] at hp
        obtain rfl := Option.some.inj hp
        rw [Bool.and_eq_true] at hc
        obtain ⟨r', rfl, h1, h2⟩ := ev_SR_cons hR
        obtain ⟨r', rfl, h3, h4⟩ := ev_SR_cons h1
        exact lv_dup2_11 hx hb hd (ev_cat1_ok ρ hc.1) (ev_cat1_ok ρ hc.2) (kk _ (ev_SR_push (ev_SR_push (ev_SR_push (ev_SR_push h3 h4) h2) h4) h2))
    · cases hp
  | iadd =>
    obtain rfl : n = 1 := Nat.eq_of_beq_eq_true hl
    obtain ⟨x, y, r, rfl, rfl⟩ := ev_i2_some hp
    obtain ⟨r', rfl, h1, h2⟩ := ev_SR_cons hR
    obtain ⟨r', rfl, h3, h4⟩ := ev_SR_cons h1
    exact lv_iadd hx hb hd (kk _ (ev_SR_push (v := .int _) h3 trivial))
  | isub =>
    obtain rfl : n = 1 := Nat.eq_of_beq_eq_true hl
    obtain ⟨x, y, r, rfl, rfl⟩ := ev_i2_some hp
    obtain ⟨r', rfl, h1, h2⟩ := ev_SR_cons hR
    obtain ⟨r', rfl, h3, h4⟩ := ev_SR_cons h1
    exact lv_isub hx hb hd (kk _ (ev_SR_push (v := .int _) h3 trivial))
  | imul =>
    obtain rfl : n = 1 := Nat.eq_of_beq_eq_true hl
    obtain ⟨x, y, r, rfl, rfl⟩ := ev_i2_some hp
    obtain ⟨r', rfl, h1, h2⟩ := ev_SR_cons hR
    obtain ⟨r', rfl, h3, h4⟩ := ev_SR_cons h1
    exact lv_imul hx hb hd (kk _ (ev_SR_push (v := .int _) h3 trivial))
  | iand =>
    obtain rfl : n = 1 := Nat.eq_of_beq_eq_true hl
    obtain ⟨x, y, r, rfl, rfl⟩ := ev_i2_some hp
    obtain ⟨r', rfl, h1, h2⟩ := ev_SR_cons hR
    obtain ⟨r', rfl, h3, h4⟩ := ev_SR_cons h1
    exact lv_iand hx hb hd (kk _ (ev_SR_push (v := .int _) h3 trivial))
  | ior =>
    obtain rfl : n = 1 := Nat.eq_of_beq_eq_true hl
    obtain ⟨x, y, r, rfl, rfl⟩ := ev_i2_some hp
    obtain ⟨r', rfl, h1, h2⟩ := ev_SR_cons hR
    obtain ⟨r', rfl, h3, h4⟩ := ev_SR_cons h1
    exact lv_ior hx hb hd (kk _ (ev_SR_push (v := .int _) h3 trivial))
  | ixor =>
    obtain rfl : n = 1 := Nat.eq_of_beq_eq_true hl
    obtain ⟨x, y, r, rfl, rfl⟩ := ev_i2_some hp
    obtain ⟨r', rfl, h1, h2⟩ := ev_SR_cons hR
    obtain ⟨r', rfl, h3, h4⟩ := ev_SR_cons h1
    exact lv_ixor hx hb hd (kk _ (ev_SR_push (v := .int _) h3 trivial))
  | ishl =>
    obtain rfl : n = 1 := Nat.eq_of_beq_eq_true hl
    obtain ⟨x, y, r, rfl, rfl⟩ := ev_i2_some hp
    obtain ⟨r', rfl, h1, h2⟩ := ev_SR_cons hR
    obtain ⟨r', rfl, h3, h4⟩ := ev_SR_cons h1
    exact lv_ishl hx hb hd (kk _ (ev_SR_push (v := .int _) h3 trivial))
  | ishr =>
    obtain rfl : n = 1 := Nat.eq_of_beq_eq_true hl
    obtain ⟨x, y, r, rfl, rfl⟩ := ev_i2_some hp
    obtain ⟨r', rfl, h1, h2⟩ := ev_SR_cons hR
    obtain ⟨r', rfl, h3, h4⟩ := ev_SR_cons h1
    exact lv_ishr hx hb hd (kk _ (ev_SR_push (v := .int _) h3 trivial))
  | iushr =>
    obtain rfl : n = 1 := Nat.eq_of_beq_eq_true hl
    obtain ⟨x, y, r, rfl, rfl⟩ := ev_i2_some hp
    obtain ⟨r', rfl, h1, h2⟩ := ev_SR_cons hR
    obtain ⟨r', rfl, h3, h4⟩ := ev_SR_cons h1
    exact lv_iushr hx hb hd rfl (kk _ (ev_SR_push (v := .int _) h3 trivial))
  | idiv =>
    obtain rfl : n = 1 := Nat.eq_of_beq_eq_true hl
    obtain ⟨x, y, r, rfl, rfl, hy⟩ := ev_i2n_some hp
    obtain ⟨r', rfl, h1, h2⟩ := ev_SR_cons hR
    obtain ⟨r', rfl, h3, h4⟩ := ev_SR_cons h1
    exact lv_idiv hx hb hd hy (kk _ (ev_SR_push (v := .int _) h3 trivial))
  | irem =>
    obtain rfl : n = 1 := Nat.eq_of_beq_eq_true hl
    obtain ⟨x, y, r, rfl, rfl, hy⟩ := ev_i2n_some hp
    obtain ⟨r', rfl, h1, h2⟩ := ev_SR_cons hR
    obtain ⟨r', rfl, h3, h4⟩ := ev_SR_cons h1
    exact lv_irem hx hb hd hy (kk _ (ev_SR_push (v := .int _) h3 trivial))
  | ineg =>
    obtain rfl : n = 1 := Nat.eq_of_beq_eq_true hl
    obtain ⟨x, r, rfl, rfl⟩ := ev_i1_some hp
    obtain ⟨r', rfl, h1, h2⟩ := ev_SR_cons hR
    exact lv_ineg hx hb hd (kk _ (ev_SR_push (v := _) h1 trivial))
  | i2l =>
    obtain rfl : n = 1 := Nat.eq_of_beq_eq_true hl
    obtain ⟨x, r, rfl, rfl⟩ := ev_i1_some hp
    obtain ⟨r', rfl, h1, h2⟩ := ev_SR_cons hR
    exact lv_i2l hx hb hd rfl (kk _ (ev_SR_push (v := _) h1 trivial))
  | i2b =>
    obtain rfl : n = 1 := Nat.eq_of_beq_eq_true hl
    obtain ⟨x, r, rfl, rfl⟩ := ev_i1_some hp
    obtain ⟨r', rfl, h1, h2⟩ := ev_SR_cons hR
    exact lv_i2b hx hb hd rfl (kk _ (ev_SR_push (v := _) h1 trivial))
  | i2c =>
    obtain rfl : n = 1 := Nat.eq_of_beq_eq_true hl
    obtain ⟨x, r, rfl, rfl⟩ := ev_i1_some hp
    obtain ⟨r', rfl, h1, h2⟩ := ev_SR_cons hR
    exact lv_i2c hx hb hd rfl (kk _ (ev_SR_push (v := _) h1 trivial))
  | i2f =>
    obtain rfl : n = 1 := Nat.eq_of_beq_eq_true hl
    obtain ⟨x, r, rfl, rfl⟩ := ev_i1_some hp
    obtain ⟨r', rfl, h1, h2⟩ := ev_SR_cons hR
    exact lv_i2f hx hb hd (kk _ (ev_SR_push (v := _) h1 trivial))
  | i2d =>
    obtain rfl : n = 1 := Nat.eq_of_beq_eq_true hl
    obtain ⟨x, r, rfl, rfl⟩ := ev_i1_some hp
    obtain ⟨r', rfl, h1, h2⟩ := ev_SR_cons hR
    exact lv_i2d hx hb hd (kk _ (ev_SR_push (v := _) h1 trivial))
  | fdiv =>
    obtain rfl : n = 1 := Nat.eq_of_beq_eq_true hl
    simp only [ev_p] at hp
    split at hp
    · rename_i y x r
      by_cases hc : FP.fdiv x y &&& 0x7fffffff ≤ 0x7f800000
      · simp only [hc, decide_true, cond_true] at hp
        obtain rfl := Option.some.inj hp
        obtain ⟨r', rfl, h1, h2⟩ := ev_SR_cons hR
        obtain ⟨r', rfl, h3, h4⟩ := ev_SR_cons h1
        exact lv_fdiv hx hb hd hc (kk _ (ev_SR_push (v := .float _) h3 trivial))
      · simp [hc] at hp
    · cases hp
  | ddiv =>
    obtain rfl : n = 1 := Nat.eq_of_beq_eq_true hl
    simp only [ev_p] at hp
    split at hp
    · rename_i y x r
      by_cases hc : FP.ddiv x y &&& 0x7fffffffffffffff ≤ 0x7ff0000000000000
      · simp only [hc, decide_true, cond_true] at hp
        obtain rfl := Option.some.inj hp
        obtain ⟨r', rfl, h1, h2⟩ := ev_SR_cons hR
        obtain ⟨r', rfl, h3, h4⟩ := ev_SR_cons h1
        exact lv_ddiv hx hb hd hc (kk _ (ev_SR_push (v := .double _) h3 trivial))
      · simp [hc] at hp
    · cases hp
  | f2d =>
    obtain rfl : n = 1 := Nat.eq_of_beq_eq_true hl
    simp only [ev_p] at hp
    split at hp
    · rename_i x r
      by_cases hc : FP.f2d x &&& 0x7fffffffffffffff ≤ 0x7ff0000000000000
      · simp only [hc, decide_true, cond_true] at hp
        obtain rfl := Option.some.inj hp
        obtain ⟨r', rfl, h1, h2⟩ := ev_SR_cons hR
        exact lv_f2d hx hb hd hc (kk _ (ev_SR_push (v := .double _) h1 trivial))
      · simp [hc] at hp
    · cases hp
  | lcmp =>
    obtain rfl : n = 1 := Nat.eq_of_beq_eq_true hl
    simp only [ev_p] at hp
    split at hp
    · rename_i y x r
      obtain rfl := Option.some.inj hp
      obtain ⟨r', rfl, h1, h2⟩ := ev_SR_cons hR
      obtain ⟨r', rfl, h3, h4⟩ := ev_SR_cons h1
      exact W.lcmp hx hb hd (kk _ (ev_SR_push (v := .int _) h3 trivial))
    · cases hp
  | dcmp o =>
    obtain rfl : n = 1 := Nat.eq_of_beq_eq_true hl
    simp only [ev_p] at hp
    split at hp
    · rename_i y x r
      obtain rfl := Option.some.inj hp
      obtain ⟨r', rfl, h1, h2⟩ := ev_SR_cons hR
      obtain ⟨r', rfl, h3, h4⟩ := ev_SR_cons h1
      exact lv_dcmp hx hb hd (kk _ (ev_SR_push (v := .int _) h3 trivial))
    · cases hp
  | fcmp o =>
    obtain rfl : n = 1 := Nat.eq_of_beq_eq_true hl
    simp only [ev_p] at hp
    split at hp
    · rename_i y x r
      obtain rfl := Option.some.inj hp
      obtain ⟨r', rfl, h1, h2⟩ := ev_SR_cons hR
      obtain ⟨r', rfl, h3, h4⟩ := ev_SR_cons h1
      exact lv_fcmp hx hb hd (kk _ (ev_SR_push (v := .int _) h3 trivial))
    · cases hp
  | _ => simp [ev_p] at hp
end
end
section
/-! loads, stores, iinc -/
def ev_lvo (ρ : Nat → Nat) (L : ev_VL) : List (Nat × Value) := (List.range L.length).filterMap (fun i => match L[i]? with
  | some (some v) => some (i, ev_cv ρ v)
  | _ => none)
theorem ev_lvo_mem {ρ : Nat → Nat} {L : ev_VL} {q : Nat × Value} : q ∈ ev_lvo ρ L ↔ ∃ v, L[q.1]? = some (some v) ∧ q.2 = ev_cv ρ v := by
  unfold ev_lvo
  rw [List.mem_filterMap]
  constructor
  · rintro ⟨i, hi, h⟩
    split at h
    · rename_i v hv
      cases h
      exact ⟨v, hv, rfl⟩
    · cases h
  · rintro ⟨v, hv, h2⟩
    refine ⟨q.1, List.mem_range.mpr (List.getElem?_eq_some_iff.mp hv).1, ?_⟩
    rw [hv]
    obtain ⟨a, b⟩ := q
    simp only at h2 ⊢
    rw [h2]
theorem ev_LR_has {ρ : Nat → Nat} {n nL : Nat} {L : ev_VL} {ls : Array Slot} (h : ev_LR ρ n nL L ls) : lv_has ls nL (ev_lvo ρ L) :=
  ⟨h.1, h.2.2.1, fun q hq => by
    obtain ⟨v, hv, e⟩ := ev_lvo_mem.mp hq
    rw [e]
    exact (h.2.2.2 _ _ hv).1⟩
theorem ev_cv_cat (ρ : Nat → Nat) (v : Value) : (ev_cv ρ v).category = v.category := by cases v <;> rfl
theorem ev_c2_of {L : ev_VL} {i : Nat} {v : Value} (h : ev_c2 L i = false) (hv : L[i]? = some (some v)) : v.category ≠ 2 := by
  unfold ev_c2 at h
  rw [hv] at h
  cases v <;> first | (cases h; done) | (intro h9; cases h9)
theorem ev_sok_lt {L : ev_VL} {j : Nat} (h : ev_sok L j = true) : j < L.length := by
  unfold ev_sok at h
  rw [Bool.and_eq_true] at h
  exact Nat.le_of_ble_eq_true h.1
theorem ev_sok_cut {L : ev_VL} {i j : Nat} {w : Value} (h : ev_sok L j = true) (hw : L[i]? = some (some w)) : (i + 1 == j && w.category == 2) = false := by
  unfold ev_sok at h
  rw [Bool.and_eq_true] at h
  by_cases hij : i + 1 = j
  · subst hij
    have h2 : ev_c2 L i = false := by simpa using h.2
    have := ev_c2_of h2 hw
    simp [this]
  · simp [hij]
theorem ev_LR_st1 {ρ : Nat → Nat} {n nL j : Nat} {L : ev_VL} {ls ls' : Array Slot} {v : Value} (h : ev_LR ρ n nL L ls) (hj : ev_sok L j = true) (hv : ev_ok n v)
    (hl : lv_has ls' nL ((j, ev_cv ρ v) :: (ev_lvo ρ L).filter (fun q => !(q.1 == j) && !(q.1 + 1 == j && q.2.category == 2)))) : ev_LR ρ n nL (L.set j (some v)) ls' := by
  refine ⟨hl.1, by rw [List.length_set]; exact h.2.1, hl.2.1, fun i w hw => ?_⟩
  rw [List.getElem?_set] at hw
  by_cases hij : j = i
  · subst hij
    rw [if_pos rfl, if_pos (ev_sok_lt hj)] at hw
    cases hw
    exact ⟨hl.2.2 _ List.mem_cons_self, hv⟩
  · rw [if_neg hij] at hw
    refine ⟨hl.2.2 (i, ev_cv ρ w) (List.mem_cons_of_mem _ (List.mem_filter.mpr ⟨ev_lvo_mem.mpr ⟨w, hw, rfl⟩, ?_⟩)), (h.2.2.2 _ _ hw).2⟩
    have h1 := ev_sok_cut hj hw
    rw [ev_cv_cat]
    simp only [h1]
    simp [Ne.symm hij]
theorem ev_LR_st2 {ρ : Nat → Nat} {n nL j : Nat} {L : ev_VL} {ls ls' : Array Slot} {v : Value} (h : ev_LR ρ n nL L ls) (hj : ev_sok L j = true) (hv : ev_ok n v)
    (hl : lv_has ls' nL ((j, ev_cv ρ v) :: (ev_lvo ρ L).filter (fun q => !(q.1 == j) && (!(q.1 == j + 1) && !(q.1 + 1 == j && q.2.category == 2))))) : ev_LR ρ n nL ((L.set j (some v)).set (j + 1) none) ls' := by
  refine ⟨hl.1, by rw [List.length_set, List.length_set]; exact h.2.1, hl.2.1, fun i w hw => ?_⟩
  rw [List.getElem?_set] at hw
  by_cases hij1 : j + 1 = i
  · rw [if_pos hij1] at hw
    split at hw <;> cases hw
  rw [if_neg hij1, List.getElem?_set] at hw
  by_cases hij : j = i
  · subst hij
    rw [if_pos rfl, if_pos (ev_sok_lt hj)] at hw
    cases hw
    exact ⟨hl.2.2 _ List.mem_cons_self, hv⟩
  · rw [if_neg hij] at hw
    refine ⟨hl.2.2 (i, ev_cv ρ w) (List.mem_cons_of_mem _ (List.mem_filter.mpr ⟨ev_lvo_mem.mpr ⟨w, hw, rfl⟩, ?_⟩)), (h.2.2.2 _ _ hw).2⟩
    have h1 := ev_sok_cut hj hw
    rw [ev_cv_cat]
    simp only [h1]
    simp [Ne.symm hij, Ne.symm hij1]
theorem ev_LR_forget {ρ : Nat → Nat} {n nL j : Nat} {L : ev_VL} {ls : Array Slot} (h : ev_LR ρ n nL L ls) : ev_LR ρ n nL (L.set j none) ls := by
  refine ⟨h.1, by rw [List.length_set]; exact h.2.1, h.2.2.1, fun i w hw => ?_⟩
  rw [List.getElem?_set] at hw
  split at hw
  · split at hw <;> cases hw
  · exact h.2.2.2 i w hw
section
variable {G : ev_G} {B : ev_B} {M : ev_MD} {D : va_G} {T : Nat → ClassId} {κ ρ : Nat → Nat} {A : Nat → Prop} {p : Program} {l : Launch} {e : Env} {R : Room} {s : State} {m : MethodId} {args : Array Value} {below : List Frame} {meth : Method} {c : Code} {H : Heap} {locs : List Loc} {cells slots : Nat} {Q : State → Prop} {pc n nn nL : Nat} {ls : Array Slot} {S S' st : List Value} {i : Instr} {L : ev_VL}
theorem ev_l_ok (F : ev_Fx G B M D T κ A p l s m args meth c) {j t : Nat} {v : Value} (hd : decode M.2.2.1 pc = .ok (i, n)) (hl : ev_len i n = true) (hi : ev_ldi i = some (j, t)) (hj : L[j]? = some (some v)) (hv : ev_srt t v = true) (hR : ev_SR ρ nn S st) (hL : ev_LR ρ nn nL L ls)
    (kk : ∀ st', ev_SR ρ nn (v :: S) st' → W p l e R s m args below meth c H locs cells slots Q (F0 m (pc + n) ls st')) : W p l e R s m args below meth c H locs cells slots Q (F0 m pc ls st) := by
  obtain ⟨hx, hb, -⟩ := F
  obtain ⟨hg, hok⟩ := hL.2.2.2 _ _ hj
  have kk := kk _ (ev_SR_push hR hok)
  cases i with
  | iload_n k =>
    obtain rfl : n = 1 := Nat.eq_of_beq_eq_true hl
    cases hi
    cases v <;> first | (cases hv; done) | exact lv_iload_n hx hb hd rfl hg kk
  | iload k =>
    obtain rfl : n = 2 := Nat.eq_of_beq_eq_true hl
    cases hi
    cases v <;> first | (cases hv; done) | exact lv_iload hx hb hd hg kk
  | aload_n k =>
    obtain rfl : n = 1 := Nat.eq_of_beq_eq_true hl
    cases hi
    cases v <;> first | (cases hv; done) | exact lv_aload_n hx hb hd rfl hg kk
  | aload k =>
    obtain rfl : n = 2 := Nat.eq_of_beq_eq_true hl
    cases hi
    cases v <;> first | (cases hv; done) | exact lv_aload hx hb hd hg kk
  | fload_n k =>
    obtain rfl : n = 1 := Nat.eq_of_beq_eq_true hl
    cases hi
    cases v <;> first | (cases hv; done) | exact lv_fload_n hx hb hd rfl hg kk
  | fload k =>
    obtain rfl : n = 2 := Nat.eq_of_beq_eq_true hl
    cases hi
    cases v <;> first | (cases hv; done) | exact lv_fload hx hb hd hg kk
  | dload_n k =>
    obtain rfl : n = 1 := Nat.eq_of_beq_eq_true hl
    cases hi
    cases v <;> first | (cases hv; done) | exact lv_dload_n hx hb hd rfl hg kk
  | dload k =>
    obtain rfl : n = 2 := Nat.eq_of_beq_eq_true hl
    cases hi
    cases v <;> first | (cases hv; done) | exact lv_dload hx hb hd hg kk
  | _ => simp [ev_ldi] at hi
theorem ev_st_ok (F : ev_Fx G B M D T κ A p l s m args meth c) {j t : Nat} {v : Value} (hd : decode M.2.2.1 pc = .ok (i, n)) (hl : ev_len i n = true) (hi : ev_sti i = some (j, t)) (hv : ev_srt t v = true) (hj : ev_sok L j = true) (hj2 : Nat.beq t 3 = true → Nat.blt (j + 1) L.length = true) (hR : ev_SR ρ nn (v :: S) st) (hL : ev_LR ρ nn nL L ls)
    (kk : ∀ ls' st', ev_SR ρ nn S st' → ev_LR ρ nn nL (bif Nat.beq t 3 then (L.set j (some v)).set (j + 1) none else L.set j (some v)) ls' → W p l e R s m args below meth c H locs cells slots Q (F0 m (pc + n) ls' st')) : W p l e R s m args below meth c H locs cells slots Q (F0 m pc ls st) := by
  obtain ⟨hx, hb, -⟩ := F
  obtain ⟨st, rfl, hR2, hok⟩ := ev_SR_cons hR
  have hh := ev_LR_has hL
  have hlt : j < nL := by rw [← hL.2.1]; exact ev_sok_lt hj
  cases i with
  | istore_n k =>
    obtain rfl : n = 1 := Nat.eq_of_beq_eq_true hl
    cases hi
    cases v <;> first | (cases hv; done) | exact lv_istore_n hx hb hd rfl hh hlt rfl (fun ls' h' => kk ls' _ hR2 (ev_LR_st1 hL hj hok h'))
  | istore k =>
    obtain rfl : n = 2 := Nat.eq_of_beq_eq_true hl
    cases hi
    cases v <;> first | (cases hv; done) | exact lv_istore hx hb hd hh hlt rfl (fun ls' h' => kk ls' _ hR2 (ev_LR_st1 hL hj hok h'))
  | astore_n k =>
    obtain rfl : n = 1 := Nat.eq_of_beq_eq_true hl
    cases hi
    cases v <;> first | (cases hv; done) | exact lv_astore_n hx hb hd rfl hh hlt rfl (fun ls' h' => kk ls' _ hR2 (ev_LR_st1 hL hj hok h'))
  | astore k =>
    obtain rfl : n = 2 := Nat.eq_of_beq_eq_true hl
    cases hi
    cases v <;> first | (cases hv; done) | exact lv_astore hx hb hd hh hlt rfl (fun ls' h' => kk ls' _ hR2 (ev_LR_st1 hL hj hok h'))
  | fstore_n k =>
    obtain rfl : n = 1 := Nat.eq_of_beq_eq_true hl
    cases hi
    cases v <;> first | (cases hv; done) | exact lv_fstore_n hx hb hd rfl hh hlt rfl (fun ls' h' => kk ls' _ hR2 (ev_LR_st1 hL hj hok h'))
  | fstore k =>
    obtain rfl : n = 2 := Nat.eq_of_beq_eq_true hl
    cases hi
    cases v <;> first | (cases hv; done) | exact lv_fstore hx hb hd hh hlt rfl (fun ls' h' => kk ls' _ hR2 (ev_LR_st1 hL hj hok h'))
  | dstore_n k =>
    obtain rfl : n = 1 := Nat.eq_of_beq_eq_true hl
    cases hi
    cases v <;> first | (cases hv; done) | exact lv_dstore_n hx hb hd rfl hh (by rw [← hL.2.1]; exact Nat.le_of_ble_eq_true (hj2 rfl)) rfl (fun ls' h' => kk ls' _ hR2 (ev_LR_st2 hL hj hok h'))
  | dstore k =>
    obtain rfl : n = 2 := Nat.eq_of_beq_eq_true hl
    cases hi
    cases v <;> first | (cases hv; done) | exact lv_dstore hx hb hd hh (by rw [← hL.2.1]; exact Nat.le_of_ble_eq_true (hj2 rfl)) rfl (fun ls' h' => kk ls' _ hR2 (ev_LR_st2 hL hj hok h'))
  | _ => simp [ev_sti] at hi
theorem ev_inc_ok (F : ev_Fx G B M D T κ A p l s m args meth c) {j : Nat} {k : Int} {x : Int32} (hd : decode M.2.2.1 pc = .ok (.iinc j k, n)) (hl : ev_len (.iinc j k) n = true) (hg : L[j]? = some (some (.int x))) (hj : ev_sok L j = true) (hL : ev_LR ρ nn nL L ls)
    (kk : ∀ ls', ev_LR ρ nn nL (L.set j (some (.int (x + Int32.ofInt k)))) ls' → W p l e R s m args below meth c H locs cells slots Q (F0 m (pc + 3) ls' st)) : W p l e R s m args below meth c H locs cells slots Q (F0 m pc ls st) := by
  obtain ⟨hx, hb, -⟩ := F
  obtain rfl : n = 3 := Nat.eq_of_beq_eq_true hl
  have hh := ev_LR_has hL
  have hlt : j < nL := by rw [← hL.2.1]; exact ev_sok_lt hj
  obtain ⟨q, hq⟩ := List.getElem?_of_mem (ev_lvo_mem (ρ := ρ) (L := L) (q := (j, .int x)) |>.mpr ⟨.int x, hg, rfl⟩)
  exact lv_iinc hx hb hd hh hq rfl hlt rfl (fun ls' h' => kk ls' (ev_LR_st1 (v := .int _) hL hj trivial h'))
end
end
section
/-! reads of cells -/
def ev_V3b (B : ev_B) (k i ci sl : Nat) : Prop := (ci < 50 ∧ ∃ (C : String) (F : u_T) (N : Nat), (ev_cl B)[ci]? = some (C, F, N) ∧ sl < N ∧ (Cond.fieldLink (ev_cn B k) i (F sl).1 (F sl).2.1 (F sl).2.2.1 ∈ ev_Tb B ∨ (ci ≠ k ∧ ∃ host, Cond.fieldLinkNest (ev_cn B k) i (F sl).1 (F sl).2.1 (F sl).2.2.1 host ∈ ev_NG B))) ∧
  (ci = 8 → sl < 2 → Cond.fieldLink (ev_cn B k) i "java/lang/String" (ev_sfn sl).1 (ev_sfn sl).2 ∈ ev_Tb B)
def ev_V3 (G : ev_G) (B : ev_B) : Prop := ∀ (k i ci sl : Nat), ev_fld G k i = some (ci, sl) → ev_V3b B k i ci sl
def ev_V4 (G : ev_G) (B : ev_B) : Prop := ∀ (ci : Nat) (C : String) (F : u_T) (N : Nat), (ev_cl B)[ci]? = some (C, F, N) → (∀ w ∈ u_ws C F N, w ∈ ev_Tb B) ∧ (ev_ft G ci).length = N ∧ (∀ (j : Nat) (q : FieldType × Bool), (ev_ft G ci)[j]? = some q → parseFieldDescriptor (F j).2.2.1 = some q.1 ∧ (F j).2.2.2 = q.2 ∧ (q.2 = true → (F j).1 = C)) ∧
  (∀ a, a < N → ∀ b, b < N → a ≠ b → (F a).2.1 ≠ (F b).2.1) ∧ ev_cn B ci = C
/-- constant cells: only cells that nobody writes; the only objects among them are texts -/
def ev_V0 (G : ev_G) : Prop := ∀ (a : Nat) (x : ev_AC), ev_cst G a = some x → match x with
  | .inl (k, _) => k = 0 ∨ k = 2
  | .inr (ci, vs) => ci = 8 ∧ vs.length ≤ 2 ∧ ∀ v ∈ vs, ev_ok 0 v
/-- the class of byte arrays, in a checkcast -/
def ev_V13 (G : ev_G) (B : ev_B) : Prop := ∀ (k i : Nat) (v : Value), ev_sk G 3 k i = some v → Cond.classLink (ev_cn B k) i "[B" ∈ ev_Tb B
theorem ev_in_vp {i : Int32} {n : Nat} (h : ev_in i n = true) : vp_in i n := by
  unfold ev_in at h
  rw [Bool.and_eq_true] at h
  intro h2
  rcases h2 with h2 | h2
  · simp [h2] at h
  · exact absurd (Nat.le_of_ble_eq_true h.2) (by omega)
theorem ev_rd_lo {G : ev_G} {h : ev_AH} {a : Nat} {x : ev_AC} (hr : ev_rd G h a = some x) (ha : a < 1000) : ev_cst G a = some x := by
  have h1 : Nat.blt a 1000 = true := Nat.ble_eq_true_of_le ha
  unfold ev_rd at hr
  rw [h1] at hr
  exact hr
theorem ev_rd_hi {G : ev_G} {h : ev_AH} {a : Nat} {x : ev_AC} (hr : ev_rd G h a = some x) (ha : 1000 ≤ a) : h.1[a - 1000]? = some x := by
  have h1 : Nat.blt a 1000 = false := by
    cases hb : Nat.blt a 1000 with
    | false => rfl
    | true => exact absurd (Nat.le_of_ble_eq_true hb) (by omega)
  unfold ev_rd at hr
  rw [h1] at hr
  exact hr
theorem ev_wl_at {T : Nat → ClassId} {ρ : Nat → Nat} {σ : List ev_AC} {a : Nat} {x : ev_AC} (h : σ[a - 1000]? = some x) (ha : 1000 ≤ a) : (ev_wl T ρ σ)[a - 1000]? = some (ρ a, ev_at T ρ x) := by
  have h1 := ev_wl_get (T := T) (ρ := ρ) h
  rwa [show 1000 + (a - 1000) = a by omega] at h1
section
variable {G : ev_G} {B : ev_B} {M : ev_MD} {D : va_G} {T : Nat → ClassId} {κ ρ : Nat → Nat} {A : Nat → Prop} {p : Program} {l : Launch} {e : Env} {R : Room} {s : State} {m : MethodId} {args : Array Value} {below : List Frame} {meth : Method} {c : Code} {H : Heap} {locs : List Loc} {cells slots k0 s0 : Nat} {Q : State → Prop} {pc n : Nat} {ls : Array Slot} {S S' st : List Value} {i : Instr} {h : ev_AH}
theorem ev_alen_ok {cc : ByteArray} {rest : List Value} {ws : va_W} {x : ev_AC} {a : Nat} (hx : p.tables.exec = Jvm.exec) (hb : c.code = cc) (hK : va_K D (ev_cl B) (ev_tys T (ev_CN B)) s) (hP : va_P D (ev_cl B) ws H) (q0 : Nat) (ha : ws[q0]? = some (a, ev_at T ρ x)) (hx2 : (∃ cj vs, x = .inr (cj, vs) ∧ 100 ≤ cj ∧ cj ≤ 102) ∨ ∃ k lz, x = .inl (k, lz) ∧ k ≤ 2) (hd : decode cc pc = .ok (.arraylength, 1))
    (kk : W p l e R s m args below meth c H locs cells slots Q (F0 m (pc + 1) ls (.int (Int32.ofNat (match x with
      | .inl (_, lz) => lz.length
      | .inr (_, vs) => vs.length)) :: rest))) : W p l e R s m args below meth c H locs cells slots Q (F0 m pc ls (.ref a :: rest)) := by
  rcases hx2 with ⟨cj, vs, rfl, h1, h2⟩ | ⟨k, lz, rfl, h1⟩
  · rcases (show cj = 100 ∨ cj = 101 ∨ cj = 102 by omega) with rfl | rfl | rfl
    · exact va_alen hx hb hK hP q0 3 ha rfl rfl hd kk
    · exact va_alen hx hb hK hP q0 4 ha rfl rfl hd kk
    · exact va_alen hx hb hK hP q0 5 ha rfl rfl hd kk
  · rcases (show k = 0 ∨ k = 1 ∨ k = 2 by omega) with rfl | rfl | rfl
    · exact va_alen hx hb hK hP q0 0 ha rfl rfl hd kk
    · exact va_alen hx hb hK hP q0 1 ha rfl rfl hd kk
    · exact va_alen hx hb hK hP q0 2 ha rfl rfl hd kk
theorem ev_r_ok (F : ev_Fx G B M D T κ A p l s m args meth c) (hV0 : ev_V0 G) (hV3 : ev_V3 G B) (hV4 : ev_V4 G B) (hV5 : ev_V13 G B) (hd : decode M.2.2.1 pc = .ok (i, n)) (hl : ev_len i n = true) (hp : ev_r G M.1 S h i = some S') (hR : ev_SR ρ h.1.length S st) (hH : ev_HR D T (ev_cl B) A s.heap κ ρ k0 s0 h H locs cells slots)
    (kk : ∀ st', ev_SR ρ h.1.length S' st' → W p l e R s m args below meth c H locs cells slots Q (F0 m (pc + n) ls st')) : W p l e R s m args below meth c H locs cells slots Q (F0 m pc ls st) := by
  obtain ⟨hx, hb, hml, hr, hlocks, hnm, hown, hts, hK, hE, hA, htr, hex, hex2, hdec, hcn⟩ := F
  obtain ⟨hP, hD, hS, hκ, hok, hc1, hc2⟩ := hH
  cases i with
  | getfield k =>
    obtain rfl : n = 3 := Nat.eq_of_beq_eq_true hl
    simp only [ev_r] at hp
    split at hp
    · rename_i a r
      split at hp
      · rename_i ci sl cj vs hf hrd
        cases hcc : Nat.beq ci cj with
        | false => rw [hcc] at hp; cases hp
        | true =>
          rw [hcc] at hp
          obtain rfl := Nat.eq_of_beq_eq_true hcc
          simp only [cond_true] at hp
          split at hp
          · rename_i v hv
            obtain rfl := Option.some.inj hp
            obtain ⟨r', rfl, h1, h2⟩ := ev_SR_cons hR
            by_cases ha : a < 1000
            · have hcst := ev_rd_lo hrd ha
              have hcc2 : ev_cc κ a (.inr (ci, vs)) A s s.heap := hE.2.2.1 a _ ha hcst
              have h50 : ci = 8 ∧ vs.length ≤ 2 ∧ ∀ v ∈ vs, ev_ok 0 v := hV0 _ _ hcst
              obtain ⟨rfl, hvl, hoks⟩ := h50
              have hvok := hoks v (List.mem_of_getElem? hv)
              have hsl2 : sl < 2 := Nat.lt_of_lt_of_le (List.getElem?_eq_some_iff.mp hv).1 hvl
              obtain ⟨-, hw2⟩ := hV3 _ _ _ _ hf
              have hw := hw2 rfl hsl2
              · show W p l e R s m args below meth c H locs cells slots Q (F0 m pc ls (.ref (ρ a) :: r'))
                rw [hκ a ha]
                refine vk_getf hx hb (own := M.2.1.cls) (ref := "java/lang/String") (hcc2.2 sl v hv) hS hown (by rw [← hcn]; exact hts _ hw) (fun _ h9 => h9) hd ?_
                rw [← ev_cv_const hκ hvok]
                exact kk _ (ev_SR_push h1 (ev_ok_mono hvok (Nat.zero_le _)))
            · have hcell := ev_rd_hi hrd (Nat.le_of_not_lt ha)
              have hvok : ev_ok h.1.length v := (hok _ (List.mem_of_getElem? hcell)) v (List.mem_of_getElem? hv)
              obtain ⟨⟨hlt, C, F, N, hc, hsl, hw⟩, -⟩ := hV3 _ _ _ _ hf
              · have hgl := ev_wl_at (T := T) (ρ := ρ) hcell (Nat.le_of_not_lt ha)
                rw [ev_at_obj (by omega)] at hgl
                have hin := (hV4 _ _ _ _ hc).1
                rcases hw with hw | ⟨hnk, host, hw⟩
                · exact va_get hx hb hts hin hown hK hP (a - 1000) hgl hc sl hsl (by rw [← hcn]; exact hts _ hw) (fun _ h9 => h9) (by rw [List.getElem?_map, hv]; rfl) hd (kk _ (ev_SR_push h1 hvok))
                · exact va_getN hx hb hts hin hown hK hP (a - 1000) hgl hc sl hsl (by rw [← hcn]; exact va_Nw.use rfl (hE.2.2.2.1 _ hw)) (fun _ h9 => h9) (by rw [List.getElem?_map, hv]; rfl) hd (kk _ (ev_SR_push h1 hvok))
          · cases hp
      · cases hp
    · cases hp
  | arraylength =>
    obtain rfl : n = 1 := Nat.eq_of_beq_eq_true hl
    simp only [ev_r] at hp
    split at hp
    · rename_i a r
      split at hp
      · rename_i k0 lz hrd
        cases hk0 : Nat.ble k0 2 with
        | false => rw [hk0] at hp; cases hp
        | true =>
        rw [hk0] at hp
        obtain rfl := Option.some.inj hp
        obtain ⟨r', rfl, h1, h2⟩ := ev_SR_cons hR
        by_cases ha : a < 1000
        · have hcst := ev_rd_lo hrd ha
          have hcc2 : ev_cc κ a (.inl (k0, lz)) A s s.heap := hE.2.2.1 a _ ha hcst
          show W p l e R s m args below meth c H locs cells slots Q (F0 m pc ls (.ref (ρ a) :: r'))
          rw [hκ a ha]
          exact va_tlen hx hb hcc2 hS rfl hd (kk _ (ev_SR_push (v := .int _) h1 trivial))
        · have hcell := ev_rd_hi hrd (Nat.le_of_not_lt ha)
          have hgl := ev_wl_at (T := T) (ρ := ρ) hcell (Nat.le_of_not_lt ha)
          exact ev_alen_ok hx hb hK hP (a - 1000) hgl (Or.inr ⟨k0, lz, rfl, Nat.le_of_ble_eq_true hk0⟩) hd (kk _ (ev_SR_push (v := .int _) h1 trivial))
      · rename_i cj vs hrd
        cases hcc : (Nat.ble 100 cj && Nat.ble cj 102 && Nat.ble 1000 a) with
        | false => rw [hcc] at hp; cases hp
        | true =>
          rw [hcc] at hp
          rw [Bool.and_eq_true, Bool.and_eq_true] at hcc
          obtain rfl := Option.some.inj hp
          obtain ⟨r', rfl, h1, h2⟩ := ev_SR_cons hR
          have ha := Nat.le_of_ble_eq_true hcc.2
          have hcell := ev_rd_hi hrd ha
          have hgl := ev_wl_at (T := T) (ρ := ρ) hcell ha
          exact ev_alen_ok hx hb hK hP (a - 1000) hgl (Or.inl ⟨cj, vs, rfl, Nat.le_of_ble_eq_true hcc.1.1, Nat.le_of_ble_eq_true hcc.1.2⟩) hd (kk _ (ev_SR_push (v := .int _) h1 trivial))
      · cases hp
    · cases hp
  | iaload =>
    obtain rfl : n = 1 := Nat.eq_of_beq_eq_true hl
    simp only [ev_r] at hp
    split at hp
    · rename_i i a r
      split at hp
      · rename_i lz hrd
        cases hcc : ev_in i lz.length with
        | false => rw [hcc] at hp; cases hp
        | true =>
          rw [hcc] at hp
          obtain rfl := Option.some.inj hp
          obtain ⟨r', rfl, h1, h2⟩ := ev_SR_cons hR
          obtain ⟨r', rfl, h3, h4⟩ := ev_SR_cons h1
          by_cases ha : a < 1000
          · have hcst := ev_rd_lo hrd ha
            have hcc2 : ev_cc κ a (.inl (0, lz)) A s s.heap := hE.2.2.1 a _ ha hcst
            show W p l e R s m args below meth c H locs cells slots Q (F0 m pc ls (.int i :: .ref (ρ a) :: r'))
            rw [hκ a ha]
            exact va_ti hx hb hcc2 hS (ev_in_vp hcc) rfl hd (kk _ (ev_SR_push (v := .int _) h3 trivial))
          · have hcell := ev_rd_hi hrd (Nat.le_of_not_lt ha)
            have hgl := ev_wl_at (T := T) (ρ := ρ) hcell (Nat.le_of_not_lt ha)
            exact va_iald hx hb hK hP (a - 1000) 0 hgl rfl (ev_in_vp hcc) hd (kk _ (ev_SR_push (v := .int _) h3 trivial))
      · cases hp
    · cases hp
  | baload =>
    obtain rfl : n = 1 := Nat.eq_of_beq_eq_true hl
    simp only [ev_r] at hp
    split at hp
    · rename_i i a r
      split at hp
      · rename_i lz hrd
        cases hcc : ev_in i lz.length with
        | false => rw [hcc] at hp; cases hp
        | true =>
          rw [hcc] at hp
          obtain rfl := Option.some.inj hp
          obtain ⟨r', rfl, h1, h2⟩ := ev_SR_cons hR
          obtain ⟨r', rfl, h3, h4⟩ := ev_SR_cons h1
          by_cases ha : a < 1000
          · have hcst := ev_rd_lo hrd ha
            have hcc2 : ev_cc κ a (.inl (2, lz)) A s s.heap := hE.2.2.1 a _ ha hcst
            show W p l e R s m args below meth c H locs cells slots Q (F0 m pc ls (.int i :: .ref (ρ a) :: r'))
            rw [hκ a ha]
            exact va_tb hx hb hcc2 hS (ev_in_vp hcc) rfl hd (kk _ (ev_SR_push (v := .int _) h3 trivial))
          · have hcell := ev_rd_hi hrd (Nat.le_of_not_lt ha)
            have hgl := ev_wl_at (T := T) (ρ := ρ) hcell (Nat.le_of_not_lt ha)
            exact va_bald hx hb hK hP (a - 1000) 2 hgl rfl (ev_in_vp hcc) hd (kk _ (ev_SR_push (v := .int _) h3 trivial))
      · cases hp
    · cases hp
  | caload =>
    obtain rfl : n = 1 := Nat.eq_of_beq_eq_true hl
    simp only [ev_r] at hp
    split at hp
    · rename_i i a r
      split at hp
      · rename_i lz hrd
        cases hcc : (ev_in i lz.length && Nat.ble 1000 a) with
        | false => rw [hcc] at hp; cases hp
        | true =>
          rw [hcc] at hp
          rw [Bool.and_eq_true] at hcc
          obtain rfl := Option.some.inj hp
          obtain ⟨r', rfl, h1, h2⟩ := ev_SR_cons hR
          obtain ⟨r', rfl, h3, h4⟩ := ev_SR_cons h1
          have ha := Nat.le_of_ble_eq_true hcc.2
          have hcell := ev_rd_hi hrd ha
          have hgl := ev_wl_at (T := T) (ρ := ρ) hcell ha
          exact va_cald hx hb hK hP (a - 1000) 1 hgl rfl (ev_in_vp hcc.1) hd (kk _ (ev_SR_push (v := .int _) h3 trivial))
      · cases hp
    · cases hp
  | laload =>
    obtain rfl : n = 1 := Nat.eq_of_beq_eq_true hl
    simp only [ev_r] at hp
    split at hp
    · rename_i i a r
      split at hp
      · rename_i vs hrd
        cases hcc : (ev_in i vs.length && Nat.ble 1000 a) with
        | false => rw [hcc] at hp; cases hp
        | true =>
          rw [hcc] at hp
          rw [Bool.and_eq_true] at hcc
          simp only [cond_true] at hp
          split at hp
          · rename_i x hv
            obtain rfl := Option.some.inj hp
            obtain ⟨r', rfl, h1, h2⟩ := ev_SR_cons hR
            obtain ⟨r', rfl, h3, h4⟩ := ev_SR_cons h1
            have ha := Nat.le_of_ble_eq_true hcc.2
            have hcell := ev_rd_hi hrd ha
            have hgl := ev_wl_at (T := T) (ρ := ρ) hcell ha
            refine va_lald hx hb hK hP (a - 1000) 3 hgl rfl (ev_in_vp hcc.1) hd ?_
            have h9 : ev_lg (vs.getD i.toNatClampNeg .null) = x := by simp only [List.getD, hv, Option.getD, ev_lg]
            rw [h9]
            exact kk _ (ev_SR_push (v := .long _) h3 trivial)
          · cases hp
      · cases hp
    · cases hp
  | daload =>
    obtain rfl : n = 1 := Nat.eq_of_beq_eq_true hl
    simp only [ev_r] at hp
    split at hp
    · rename_i i a r
      split at hp
      · rename_i vs hrd
        cases hcc : (ev_in i vs.length && Nat.ble 1000 a) with
        | false => rw [hcc] at hp; cases hp
        | true =>
          rw [hcc] at hp
          rw [Bool.and_eq_true] at hcc
          simp only [cond_true] at hp
          split at hp
          · rename_i x hv
            obtain rfl := Option.some.inj hp
            obtain ⟨r', rfl, h1, h2⟩ := ev_SR_cons hR
            obtain ⟨r', rfl, h3, h4⟩ := ev_SR_cons h1
            have ha := Nat.le_of_ble_eq_true hcc.2
            have hcell := ev_rd_hi hrd ha
            have hgl := ev_wl_at (T := T) (ρ := ρ) hcell ha
            refine va_dald hx hb hK hP (a - 1000) 4 hgl rfl (ev_in_vp hcc.1) hd ?_
            have h9 : ev_db (vs.getD i.toNatClampNeg .null) = x := by simp only [List.getD, hv, Option.getD, ev_db]
            rw [h9]
            exact kk _ (ev_SR_push (v := .double _) h3 trivial)
          · cases hp
      · cases hp
    · cases hp
  | aaload =>
    obtain rfl : n = 1 := Nat.eq_of_beq_eq_true hl
    simp only [ev_r] at hp
    split at hp
    · rename_i i a r
      split at hp
      · rename_i vs hrd
        cases hcc : (ev_in i vs.length && Nat.ble 1000 a) with
        | false => rw [hcc] at hp; cases hp
        | true =>
          rw [hcc] at hp
          rw [Bool.and_eq_true] at hcc
          simp only [cond_true] at hp
          have ha := Nat.le_of_ble_eq_true hcc.2
          have hcell := ev_rd_hi hrd ha
          have hgl := ev_wl_at (T := T) (ρ := ρ) hcell ha
          split at hp
          · rename_i x hv
            obtain rfl := Option.some.inj hp
            obtain ⟨r', rfl, h1, h2⟩ := ev_SR_cons hR
            obtain ⟨r', rfl, h3, h4⟩ := ev_SR_cons h1
            refine va_aldq hx hb hK hP (a - 1000) 5 hgl rfl (ev_in_vp hcc.1) hd ?_
            have h9 : ev_rf ρ (vs.getD i.toNatClampNeg .null) = some (ρ x) := by simp only [List.getD, hv, Option.getD, ev_rf]
            rw [h9]
            exact kk _ (ev_SR_push (v := .ref x) h3 ((hok _ (List.mem_of_getElem? hcell)) _ (List.mem_of_getElem? hv)))
          · rename_i hv
            obtain rfl := Option.some.inj hp
            obtain ⟨r', rfl, h1, h2⟩ := ev_SR_cons hR
            obtain ⟨r', rfl, h3, h4⟩ := ev_SR_cons h1
            refine va_aldq hx hb hK hP (a - 1000) 5 hgl rfl (ev_in_vp hcc.1) hd ?_
            have h9 : ev_rf ρ (vs.getD i.toNatClampNeg .null) = none := by simp only [List.getD, hv, Option.getD, ev_rf]
            rw [h9]
            exact kk _ (ev_SR_push (v := .null) h3 trivial)
          · cases hp
      · cases hp
    · cases hp
  | checkcast k =>
    obtain rfl : n = 3 := Nat.eq_of_beq_eq_true hl
    simp only [ev_r] at hp
    split at hp
    · rename_i a r
      split at hp
      · rename_i lz hcell
        cases hcc : (Nat.ble 1000 a && (ev_sk G 3 M.1 k).isSome) with
        | false => rw [hcc] at hp; cases hp
        | true =>
          rw [hcc] at hp
          rw [Bool.and_eq_true] at hcc
          obtain rfl := Option.some.inj hp
          obtain ⟨r', rfl, h1, h2⟩ := ev_SR_cons hR
          have ha := Nat.le_of_ble_eq_true hcc.1
          obtain ⟨v9, hv9⟩ : ∃ v9, ev_sk G 3 M.1 k = some v9 := Option.isSome_iff_exists.mp hcc.2
          have hgl := ev_wl_at (T := T) (ρ := ρ) hcell ha
          exact va_castA hx hb (nm := "[B") hown (by rw [← hcn]; exact hts _ (hV5 _ _ _ hv9)) hP (a - 1000) hgl (hK.2 2 (T 2, .byte) rfl).2 hd (kk _ (ev_SR_push (v := .ref a) h1 h2))
      · cases hp
    · cases hp
  | _ => simp [ev_r] at hp
end
end
section
/-! writes, and cells that are made -/
def ev_V5 (G : ev_G) (B : ev_B) : Prop := ∀ (k i ci : Nat), ev_nw G k i = some ci → ∃ (C : String) (F : u_T) (N : Nat), ci < 50 ∧ (ev_cl B)[ci]? = some (C, F, N) ∧ Cond.classLink (ev_cn B k) i C ∈ ev_Tb B ∧ Cond.instantiable C N ∈ ev_Tb B ∧ Cond.initialized C ∈ ev_Tb B
/-- the clone of a byte array -/
def ev_V12 (G : ev_G) (B : ev_B) : Prop := ∀ (k i : Nat) (v : Value), ev_sk G 4 k i = some v → Cond.methodLink (ev_cn B k) i ⟨"[B", "clone", "()Ljava/lang/Object;"⟩ ∈ ev_Tb B ∧ Cond.sameMethod "[B" "java/lang/Object" "clone" "()Ljava/lang/Object;" ∈ ev_Tb B ∧ Cond.native ⟨"java/lang/Object", "clone", "()Ljava/lang/Object;"⟩ ∈ ev_Tb B ∧ Cond.instanceMethod ⟨"java/lang/Object", "clone", "()Ljava/lang/Object;"⟩ ∈ ev_Tb B ∧ Cond.selects "[B" ⟨"[B", "clone", "()Ljava/lang/Object;"⟩ ⟨"java/lang/Object", "clone", "()Ljava/lang/Object;"⟩ ∈ ev_Tb B ∧ Cond.castable "[B" "java/lang/Cloneable" ∈ ev_NG B
def ev_V6 (G : ev_G) (B : ev_B) : Prop := (∀ (k i : Nat) (v : Value), ev_sk G 2 k i = some v → Cond.classLink (ev_cn B k) i (ev_CN B) ∈ ev_Tb B) ∧ Cond.arrayClass .int ∈ ev_Tb B ∧ Cond.arrayClass .char ∈ ev_Tb B ∧ Cond.arrayClass .byte ∈ ev_Tb B ∧ Cond.arrayClass .long ∈ ev_Tb B ∧ Cond.arrayClass .double ∈ ev_Tb B ∧ ∃ (F : u_T) (N : Nat), (ev_cl B)[1]? = some (ev_CN B, F, N)
theorem ev_fupd {l : List Int32} {j : Nat} {x : Int32} (hj : j < l.length) : upd (fun k => l.getD k 0) j x = fun k => (l.set j x).getD k 0 := by
  funext k
  simp only [upd, List.getD, List.getElem?_set]
  by_cases h : k = j
  · subst h
    simp [hj]
  · simp [h, Ne.symm h]
theorem ev_fupdL {vs : List Value} {j : Nat} {x : Int64} (hj : j < vs.length) : vp_updL (fun k => ev_lg (vs.getD k .null)) j x = fun k => ev_lg ((vs.set j (.long x)).getD k .null) := by
  funext k
  simp only [vp_updL, List.getD, List.getElem?_set]
  by_cases h : k = j
  · subst h
    simp [hj, ev_lg]
  · simp [h, Ne.symm h]
theorem ev_fupdD {vs : List Value} {j : Nat} {x : UInt64} (hj : j < vs.length) : vf_upd (fun k => ev_db (vs.getD k .null)) j x = fun k => ev_db ((vs.set j (.double x)).getD k .null) := by
  funext k
  simp only [vf_upd, List.getD, List.getElem?_set]
  by_cases h : k = j
  · subst h
    simp [hj, ev_db]
  · simp [h, Ne.symm h]
theorem ev_fupdR {ρ : Nat → Nat} {vs : List Value} {j : Nat} {x : Nat} (hj : j < vs.length) : va_up (fun k => ev_rf ρ (vs.getD k .null)) j (some (ρ x)) = fun k => ev_rf ρ ((vs.set j (.ref x)).getD k .null) := by
  funext k
  simp only [va_up, List.getD, List.getElem?_set]
  by_cases h : k = j
  · subst h
    simp [hj, ev_rf]
  · simp [h, Ne.symm h]
theorem ev_in_lt {i : Int32} {n : Nat} (h : ev_in i n = true) : i.toNatClampNeg < n := by
  unfold ev_in at h
  rw [Bool.and_eq_true] at h
  exact Nat.le_of_ble_eq_true h.2
theorem ev_repl {α : Type} (n : Nat) (x d : α) (h : x = d) : (fun k => (List.replicate n x).getD k d) = fun _ => d := by
  funext k
  subst h
  simp [List.getD, List.getElem?_replicate]
  by_cases hk : k < n <;> simp [hk]
theorem ev_cA {D : va_G} {cl : List vw_C} {T : Nat → ClassId} {CN : String} {s : State} {cA : ClassId} {ty : FieldType} (k : Nat) (hk : (ev_tys T CN)[k]? = some (T k, ty)) (h : va_K D cl (ev_tys T CN ++ [(cA, ty)]) s) : cA = T k := by
  have h1 := (h.2 k (T k, ty) (by rw [List.getElem?_append_left (List.getElem?_eq_some_iff.mp hk).1]; exact hk)).2
  have h2 := (h.2 6 (cA, ty) rfl).2
  dsimp only at h1 h2
  cases ty with
  | object C =>
    obtain ⟨_, _, -, -, -, e1⟩ := h1
    obtain ⟨_, _, -, -, -, e2⟩ := h2
    exact Option.some.inj (e2.symm.trans e1)
  | _ => exact Option.some.inj (Eq.trans (Eq.symm h2) h1)
/-- the naming with one cell more -/
def ev_up (ρ : Nat → Nat) (n q : Nat) : Nat → Nat := fun a => if a = 1000 + n then q else ρ a
theorem ev_up_ext {ρ : Nat → Nat} {n q : Nat} : ev_ex2 ρ (ev_up ρ n q) n := fun a ha => by simp only [ev_up]; rw [if_neg (by omega)]
theorem ev_wr_HR {D : va_G} {T : Nat → ClassId} {cl : List vw_C} {A : Nat → Prop} {H0 : Heap} {κ ρ : Nat → Nat} {k0 s0 : Nat} {h : ev_AH} {H H1 : Heap} {locs locs1 : List Loc} {cells slots a : Nat} {x : ev_AC}
    (hH : ev_HR D T cl A H0 κ ρ k0 s0 h H locs cells slots) (ha : 1000 ≤ a) (hx : ev_okc h.1.length x) (hP : va_P D cl ((ev_wl T ρ h.1).set (a - 1000) (ρ a, ev_at T ρ x)) H1) (hD : va_D A ((ev_wl T ρ h.1).set (a - 1000) (ρ a, ev_at T ρ x))) (hS : va_S A H0 H1 locs1) : ev_HR D T cl A H0 κ ρ k0 s0 (ev_wr h a x) H1 locs1 cells slots := by
  obtain ⟨-, -, -, hκ, hok, hc1, hc2⟩ := hH
  have e : ev_wl T ρ (ev_wr h a x).1 = (ev_wl T ρ h.1).set (a - 1000) (ρ a, ev_at T ρ x) := by
    show ev_wl T ρ (h.1.set (a - 1000) x) = _
    rw [ev_wl_set, show 1000 + (a - 1000) = a by omega]
  refine ⟨by rw [e]; exact hP, by rw [e]; exact hD, hS, hκ, fun c hc => ?_, hc1, hc2⟩
  show ev_okc (h.1.set (a - 1000) x).length c
  rw [List.length_set]
  rcases List.mem_or_eq_of_mem_set hc with hc | rfl
  · exact hok c hc
  · exact hx
theorem ev_push_HR {D : va_G} {T : Nat → ClassId} {cl : List vw_C} {A : Nat → Prop} {H0 : Heap} {κ ρ : Nat → Nat} {k0 s0 : Nat} {h : ev_AH} {H H1 : Heap} {locs locs1 : List Loc} {cells slots q z : Nat} {x : ev_AC}
    (hH : ev_HR D T cl A H0 κ ρ k0 s0 h H locs cells slots) (hx : ev_okc 0 x) (hP : va_P D cl (ev_wl T ρ h.1 ++ [(q, ev_at T ρ x)]) H1) (hD : va_D A (ev_wl T ρ h.1 ++ [(q, ev_at T ρ x)])) (hS : va_S A H0 H1 locs1) :
    ev_HR D T cl A H0 κ (ev_up ρ h.1.length q) k0 s0 (h.1 ++ [x], h.2.1 + 1, h.2.2 + z) H1 locs1 (cells + 1) (slots + z) := by
  obtain ⟨-, -, -, hκ, hok, hc1, hc2⟩ := hH
  have e : ev_wl T (ev_up ρ h.1.length q) (h.1 ++ [x]) = ev_wl T ρ h.1 ++ [(q, ev_at T ρ x)] := by
    rw [ev_wl_push, ev_wl_ext ev_up_ext hok, ev_at_ext (ρ := ρ) (n := 0) (fun b hb => ev_up_ext b (by omega)) hx]
    simp [ev_up]
  refine ⟨by rw [e]; exact hP, by rw [e]; exact hD, hS, fun b hb => ?_, fun c hc => ?_, by simp only; omega, by simp only; omega⟩
  · rw [ev_up_ext b (by omega)]
    exact hκ b hb
  · rcases List.mem_append.mp hc with hc | hc
    · exact ev_okc_mono (hok c hc) (by simp)
    · rw [List.mem_singleton.mp hc]
      exact ev_okc_mono hx (Nat.zero_le _)
theorem ev_cv_default (ρ : Nat → Nat) (ty : FieldType) : ev_cv ρ (defaultValue ty) = defaultValue ty := by cases ty <;> rfl
theorem ev_ok_default (ty : FieldType) : ev_ok 0 (defaultValue ty) := by cases ty <;> trivial
theorem ev_blt_le {a b : Nat} (h : Nat.blt a b = false) : b ≤ a := by
  rcases Nat.lt_or_ge a b with h9 | h9
  · have h8 : Nat.blt a b = true := Nat.ble_eq_true_of_le h9
    rw [h] at h8
    cases h8
  · exact h9
theorem ev_replL (n : Nat) : (fun j => ev_lg ((List.replicate n (Value.long 0)).getD j .null)) = fun _ => (0 : Int64) := by
  funext k
  simp only [List.getD, List.getElem?_replicate]
  by_cases hk : k < n <;> simp [hk, ev_lg]
theorem ev_replD (n : Nat) : (fun j => ev_db ((List.replicate n (Value.double 0)).getD j .null)) = fun _ => (0 : UInt64) := by
  funext k
  simp only [List.getD, List.getElem?_replicate]
  by_cases hk : k < n <;> simp [hk, ev_db]
theorem ev_replR (ρ : Nat → Nat) (n : Nat) : (fun j => ev_rf ρ ((List.replicate n Value.null).getD j .null)) = fun _ => (none : Option Nat) := by
  funext k
  simp only [List.getD, List.getElem?_replicate]
  by_cases hk : k < n <;> simp [hk, ev_rf]
theorem ev_newSR {ρ : Nat → Nat} {h : ev_AH} (q : Nat) (r r' : List Value) (h1 : ev_SR ρ h.1.length r r') (n : Nat) (hn : n = h.1.length + 1) : ev_SR (ev_up ρ h.1.length q) n (.ref (1000 + h.1.length) :: r) (.ref q :: r') := by
  subst hn
  have h2 := ev_SR_push (v := .ref (1000 + h.1.length)) (ev_SR_ext (k := h.1.length + 1) h1 (ev_up_ext (q := q)) (Nat.le_succ _)) (show 1000 + h.1.length < 1000 + (h.1.length + 1) by omega)
  simpa [ev_cv, ev_up] using h2
section
variable {G : ev_G} {B : ev_B} {M : ev_MD} {D : va_G} {T : Nat → ClassId} {κ ρ : Nat → Nat} {A : Nat → Prop} {p : Program} {l : Launch} {e : Env} {R : Room} {s : State} {m : MethodId} {args : Array Value} {below : List Frame} {meth : Method} {c : Code} {H : Heap} {locs : List Loc} {cells slots k0 s0 : Nat} {Q : State → Prop} {pc n : Nat} {ls : Array Slot} {S S' st : List Value} {i : Instr} {h h' : ev_AH}
theorem ev_w_ok (F : ev_Fx G B M D T κ A p l s m args meth c) (hV3 : ev_V3 G B) (hV4 : ev_V4 G B) (hV5 : ev_V5 G B) (hV6 : ev_V6 G B) (hV7 : ev_V12 G B) (hRf : 20 ≤ R.frames) (hRl : 400 ≤ R.locals) (hsz : ls.size = M.2.2.2.1) (hd : decode M.2.2.1 pc = .ok (i, n)) (hl : ev_len i n = true) (hp : ev_w G M S h i = some (S', h')) (hR : ev_SR ρ h.1.length S st) (hH : ev_HR D T (ev_cl B) A s.heap κ ρ k0 s0 h H locs cells slots)
    (room : h'.2.1 ≤ k0 + R.cells ∧ h'.2.2 ≤ s0 + R.slots)
    (kk : ∀ ρ' st' H' locs' cells' slots', ev_ex2 ρ ρ' h.1.length → h.1.length ≤ h'.1.length → ev_SR ρ' h'.1.length S' st' → ev_HR D T (ev_cl B) A s.heap κ ρ' k0 s0 h' H' locs' cells' slots' → W p l e R s m args below meth c H' locs' cells' slots' Q (F0 m (pc + n) ls st')) : W p l e R s m args below meth c H locs cells slots Q (F0 m pc ls st) := by
  obtain ⟨hx, hb, hml, hr, hlocks, hnm, hown, hts, hK, hE, hA, htr, hex, hex2, hdec, hcn⟩ := F
  have hH0 := hH
  obtain ⟨hP, hD, hS, hκ, hok, hc1, hc2⟩ := hH
  cases i with
  | putfield k =>
    obtain rfl : n = 3 := Nat.eq_of_beq_eq_true hl
    simp only [ev_w] at hp
    split at hp
    · rename_i v a r
      split at hp
      · rename_i ci sl cj vs hf hcell
        split at hp
        · rename_i ty fin hft
          cases hcc : (Nat.beq ci cj && Nat.ble 1000 a && Nat.blt sl vs.length && ev_okv ty v && (!fin || (decide (M.2.1.name = "<init>") && Nat.beq ci M.1))) with
          | false => rw [hcc] at hp; cases hp
          | true =>
            rw [hcc] at hp
            rw [Bool.and_eq_true, Bool.and_eq_true, Bool.and_eq_true, Bool.and_eq_true] at hcc
            obtain ⟨⟨⟨⟨g1, g2⟩, g3⟩, g4⟩, g5⟩ := hcc
            obtain rfl := Nat.eq_of_beq_eq_true g1
            have ha := Nat.le_of_ble_eq_true g2
            have hsl := Nat.le_of_ble_eq_true g3
            unfold ev_okv at g4
            rw [Bool.and_eq_true, decide_eq_true_eq] at g4
            obtain ⟨e1, e2⟩ := Prod.mk.inj (Option.some.inj hp)
            subst e1; subst e2
            obtain ⟨r', rfl, h1, h2⟩ := ev_SR_cons hR
            obtain ⟨r', rfl, h3, h4⟩ := ev_SR_cons h1
            have hgl := ev_wl_at (T := T) (ρ := ρ) hcell ha
            obtain ⟨⟨hlt, C, F, N, hc, hslN, hw⟩, -⟩ := hV3 _ _ _ _ hf
            · rw [ev_at_obj (by omega)] at hgl
              obtain ⟨hin, hN, hft2, hnames, hcnc⟩ := hV4 _ _ _ _ hc
              obtain ⟨t1, t2, t3⟩ := hft2 _ _ hft
              have hnar : narrow ty (ev_cv ρ v) = ev_cv ρ v := by
                have := g4.1
                cases v <;> first | exact this | (simp only [ev_cv]; cases ty <;> rfl)
              have hfit : fits ty (ev_cv ρ v) = true := by
                have := g4.2
                cases v <;> first | exact this | (cases ty <;> first | rfl | exact this)
              have hty : ∀ j, j < N → parseFieldDescriptor (F j).2.2.1 = some ((ev_ft G ci).getD j (.int, false)).1 := fun j hj => by
                have hj2 : j < (ev_ft G ci).length := by omega
                have := (hft2 j _ (List.getElem?_eq_getElem hj2)).1
                rw [this, List.getD, List.getElem?_eq_getElem hj2]
                rfl
              have hxok : ev_okc h.1.length (.inr (ci, vs.set sl v)) := fun w hw => by
                rcases List.mem_or_eq_of_mem_set hw with hw | rfl
                · exact (hok _ (List.mem_of_getElem? hcell)) w hw
                · exact h2
              have hmap : (vs.map (ev_cv ρ)).set sl (ev_cv ρ v) = (vs.set sl v).map (ev_cv ρ) := List.map_set.symm
              cases hfin : fin with
              | true =>
                rw [hfin] at g5
                simp only [Bool.not_true, Bool.false_or, Bool.and_eq_true, decide_eq_true_eq] at g5
                have hkk : ci = M.1 := Nat.eq_of_beq_eq_true g5.2
                have hC : C = M.2.1.cls := by rw [← hcnc, hkk]; exact hcn
                rcases hw with hw | ⟨hnk, host, hw⟩
                · refine va_putF hx hb hts hin _ hty hnames hown hK hP hD hS (a - 1000) hgl hc sl hslN (by rw [← hcn]; exact hts _ hw) (fun _ h9 => h9) (t2.trans hfin) (hnm.trans g5.1) ((t3 hfin).trans hC) t1 hnar hfit (by rw [List.length_map]; exact hsl) hd (fun H1 locs1 hP1 hD1 hS1 => ?_)
                  rw [hmap, ← ev_at_obj (T := T) (by omega)] at hP1 hD1
                  exact kk ρ _ H1 locs1 cells slots (fun _ _ => rfl) (Nat.le_of_eq List.length_set.symm) ⟨h3.1, fun w9 hw9 => by rw [show (ev_wr h a (.inr (ci, vs.set sl v))).1.length = h.1.length from List.length_set]; exact h3.2 w9 hw9⟩ (ev_wr_HR hH0 ha hxok hP1 hD1 hS1)
                · exact absurd hkk hnk
              | false =>
                rcases hw with hw | ⟨hnk, host, hw⟩
                · refine va_put hx hb hts hin _ hty hnames hown hK hP hD hS (a - 1000) hgl hc sl hslN (by rw [← hcn]; exact hts _ hw) (fun _ h9 => h9) (t2.trans hfin) t1 hnar hfit (by rw [List.length_map]; exact hsl) hd (fun H1 locs1 hP1 hD1 hS1 => ?_)
                  rw [hmap, ← ev_at_obj (T := T) (by omega)] at hP1 hD1
                  exact kk ρ _ H1 locs1 cells slots (fun _ _ => rfl) (Nat.le_of_eq List.length_set.symm) ⟨h3.1, fun w9 hw9 => by rw [show (ev_wr h a (.inr (ci, vs.set sl v))).1.length = h.1.length from List.length_set]; exact h3.2 w9 hw9⟩ (ev_wr_HR hH0 ha hxok hP1 hD1 hS1)
                · refine va_putN hx hb hts hin _ hty hnames hown hK hP hD hS (a - 1000) hgl hc sl hslN (by rw [← hcn]; exact va_Nw.use rfl (hE.2.2.2.1 _ hw)) (fun _ h9 => h9) (t2.trans hfin) t1 hnar hfit (by rw [List.length_map]; exact hsl) hd (fun H1 locs1 hP1 hD1 hS1 => ?_)
                  rw [hmap, ← ev_at_obj (T := T) (by omega)] at hP1 hD1
                  exact kk ρ _ H1 locs1 cells slots (fun _ _ => rfl) (Nat.le_of_eq List.length_set.symm) ⟨h3.1, fun w9 hw9 => by rw [show (ev_wr h a (.inr (ci, vs.set sl v))).1.length = h.1.length from List.length_set]; exact h3.2 w9 hw9⟩ (ev_wr_HR hH0 ha hxok hP1 hD1 hS1)
        · cases hp
      · cases hp
    · cases hp
  | iastore =>
    obtain rfl : n = 1 := Nat.eq_of_beq_eq_true hl
    simp only [ev_w] at hp
    split at hp
    · rename_i x i a r
      split at hp
      · rename_i lz hcell
        cases hcc : (ev_in i lz.length && Nat.ble 1000 a) with
        | false => rw [hcc] at hp; cases hp
        | true =>
          rw [hcc] at hp
          rw [Bool.and_eq_true] at hcc
          have ha := Nat.le_of_ble_eq_true hcc.2
          obtain ⟨e1, e2⟩ := Prod.mk.inj (Option.some.inj hp)
          subst e1; subst e2
          obtain ⟨r', rfl, h1, h2⟩ := ev_SR_cons hR
          obtain ⟨r', rfl, h3, h4⟩ := ev_SR_cons h1
          obtain ⟨r', rfl, h5, h6⟩ := ev_SR_cons h3
          have hgl := ev_wl_at (T := T) (ρ := ρ) hcell ha
          refine va_iast hx hb hK hP hD hS (a - 1000) 0 hgl rfl (ev_in_vp hcc.1) hd (fun H1 locs1 hP1 hD1 hS1 => ?_)
          have hat : ev_at T ρ (.inl (0, lz.set i.toNatClampNeg x)) = .inl (T 0, lz.length, .inl (upd (fun k => lz.getD k 0) i.toNatClampNeg x)) := by
            rw [ev_fupd (ev_in_lt hcc.1)]
            simp only [ev_at, List.length_set]
          rw [← hat] at hP1 hD1
          exact kk ρ _ H1 locs1 cells slots (fun _ _ => rfl) (Nat.le_of_eq List.length_set.symm) ⟨h5.1, fun w9 hw9 => by rw [show (ev_wr h a (.inl (0, lz.set i.toNatClampNeg x))).1.length = h.1.length from List.length_set]; exact h5.2 w9 hw9⟩ (ev_wr_HR hH0 ha trivial hP1 hD1 hS1)
      · cases hp
    · cases hp
  | castore =>
    obtain rfl : n = 1 := Nat.eq_of_beq_eq_true hl
    simp only [ev_w] at hp
    split at hp
    · rename_i x i a r
      split at hp
      · rename_i lz hcell
        cases hcc : (ev_in i lz.length && Nat.ble 1000 a) with
        | false => rw [hcc] at hp; cases hp
        | true =>
          rw [hcc] at hp
          rw [Bool.and_eq_true] at hcc
          have ha := Nat.le_of_ble_eq_true hcc.2
          obtain ⟨e1, e2⟩ := Prod.mk.inj (Option.some.inj hp)
          subst e1; subst e2
          obtain ⟨r', rfl, h1, h2⟩ := ev_SR_cons hR
          obtain ⟨r', rfl, h3, h4⟩ := ev_SR_cons h1
          obtain ⟨r', rfl, h5, h6⟩ := ev_SR_cons h3
          have hgl := ev_wl_at (T := T) (ρ := ρ) hcell ha
          refine va_cast hx hb hK hP hD hS (a - 1000) 1 hgl rfl (ev_in_vp hcc.1) hd (fun H1 locs1 hP1 hD1 hS1 => ?_)
          have hat : ev_at T ρ (.inl (1, lz.set i.toNatClampNeg (vp_nar .char x))) = .inl (T 1, lz.length, .inl (upd (fun k => lz.getD k 0) i.toNatClampNeg (vp_nar .char x))) := by
            rw [ev_fupd (ev_in_lt hcc.1)]
            simp only [ev_at, List.length_set]
          rw [← hat] at hP1 hD1
          exact kk ρ _ H1 locs1 cells slots (fun _ _ => rfl) (Nat.le_of_eq List.length_set.symm) ⟨h5.1, fun w9 hw9 => by rw [show (ev_wr h a (.inl (1, lz.set i.toNatClampNeg (vp_nar .char x)))).1.length = h.1.length from List.length_set]; exact h5.2 w9 hw9⟩ (ev_wr_HR hH0 ha trivial hP1 hD1 hS1)
      · cases hp
    · cases hp
  | bastore =>
    obtain rfl : n = 1 := Nat.eq_of_beq_eq_true hl
    simp only [ev_w] at hp
    split at hp
    · rename_i x i a r
      split at hp
      · rename_i lz hcell
        cases hcc : (ev_in i lz.length && Nat.ble 1000 a) with
        | false => rw [hcc] at hp; cases hp
        | true =>
          rw [hcc] at hp
          rw [Bool.and_eq_true] at hcc
          have ha := Nat.le_of_ble_eq_true hcc.2
          obtain ⟨e1, e2⟩ := Prod.mk.inj (Option.some.inj hp)
          subst e1; subst e2
          obtain ⟨r', rfl, h1, h2⟩ := ev_SR_cons hR
          obtain ⟨r', rfl, h3, h4⟩ := ev_SR_cons h1
          obtain ⟨r', rfl, h5, h6⟩ := ev_SR_cons h3
          have hgl := ev_wl_at (T := T) (ρ := ρ) hcell ha
          refine va_bast hx hb hK hP hD hS (a - 1000) 2 hgl rfl (ev_in_vp hcc.1) hd (fun H1 locs1 hP1 hD1 hS1 => ?_)
          have hat : ev_at T ρ (.inl (2, lz.set i.toNatClampNeg (vp_nar .byte x))) = .inl (T 2, lz.length, .inl (upd (fun k => lz.getD k 0) i.toNatClampNeg (vp_nar .byte x))) := by
            rw [ev_fupd (ev_in_lt hcc.1)]
            simp only [ev_at, List.length_set]
          rw [← hat] at hP1 hD1
          exact kk ρ _ H1 locs1 cells slots (fun _ _ => rfl) (Nat.le_of_eq List.length_set.symm) ⟨h5.1, fun w9 hw9 => by rw [show (ev_wr h a (.inl (2, lz.set i.toNatClampNeg (vp_nar .byte x)))).1.length = h.1.length from List.length_set]; exact h5.2 w9 hw9⟩ (ev_wr_HR hH0 ha trivial hP1 hD1 hS1)
      · cases hp
    · cases hp
  | lastore =>
    obtain rfl : n = 1 := Nat.eq_of_beq_eq_true hl
    simp only [ev_w] at hp
    split at hp
    · rename_i x i a r
      split at hp
      · rename_i vs hcell
        cases hcc : (ev_in i vs.length && Nat.ble 1000 a) with
        | false => rw [hcc] at hp; cases hp
        | true =>
          rw [hcc] at hp
          rw [Bool.and_eq_true] at hcc
          have ha := Nat.le_of_ble_eq_true hcc.2
          obtain ⟨e1, e2⟩ := Prod.mk.inj (Option.some.inj hp)
          subst e1; subst e2
          obtain ⟨r', rfl, h1, h2⟩ := ev_SR_cons hR
          obtain ⟨r', rfl, h3, h4⟩ := ev_SR_cons h1
          obtain ⟨r', rfl, h5, h6⟩ := ev_SR_cons h3
          have hgl := ev_wl_at (T := T) (ρ := ρ) hcell ha
          refine va_last hx hb hK hP hD hS (a - 1000) 3 hgl rfl (ev_in_vp hcc.1) hd (fun H1 locs1 hP1 hD1 hS1 => ?_)
          have hat : ev_at T ρ (.inr (100, vs.set i.toNatClampNeg (.long x))) = .inl (T 3, vs.length, .inr (.inl (vp_updL (fun k => ev_lg (vs.getD k .null)) i.toNatClampNeg x))) := by
            rw [ev_fupdL (ev_in_lt hcc.1)]
            simp only [ev_at, List.length_set]
          rw [← hat] at hP1 hD1
          have hxok : ev_okc h.1.length (.inr (100, vs.set i.toNatClampNeg (.long x))) := fun w hw => by
            rcases List.mem_or_eq_of_mem_set hw with hw | rfl
            · exact (hok _ (List.mem_of_getElem? hcell)) w hw
            · trivial
          exact kk ρ _ H1 locs1 cells slots (fun _ _ => rfl) (Nat.le_of_eq List.length_set.symm) ⟨h5.1, fun w9 hw9 => by rw [show (ev_wr h a (.inr (100, vs.set i.toNatClampNeg (.long x)))).1.length = h.1.length from List.length_set]; exact h5.2 w9 hw9⟩ (ev_wr_HR hH0 ha hxok hP1 hD1 hS1)
      · cases hp
    · cases hp
  | dastore =>
    obtain rfl : n = 1 := Nat.eq_of_beq_eq_true hl
    simp only [ev_w] at hp
    split at hp
    · rename_i x i a r
      split at hp
      · rename_i vs hcell
        cases hcc : (ev_in i vs.length && Nat.ble 1000 a) with
        | false => rw [hcc] at hp; cases hp
        | true =>
          rw [hcc] at hp
          rw [Bool.and_eq_true] at hcc
          have ha := Nat.le_of_ble_eq_true hcc.2
          obtain ⟨e1, e2⟩ := Prod.mk.inj (Option.some.inj hp)
          subst e1; subst e2
          obtain ⟨r', rfl, h1, h2⟩ := ev_SR_cons hR
          obtain ⟨r', rfl, h3, h4⟩ := ev_SR_cons h1
          obtain ⟨r', rfl, h5, h6⟩ := ev_SR_cons h3
          have hgl := ev_wl_at (T := T) (ρ := ρ) hcell ha
          refine va_dast hx hb hK hP hD hS (a - 1000) 4 hgl rfl (ev_in_vp hcc.1) hd (fun H1 locs1 hP1 hD1 hS1 => ?_)
          have hat : ev_at T ρ (.inr (101, vs.set i.toNatClampNeg (.double x))) = .inl (T 4, vs.length, .inr (.inr (.inr (.inl (vf_upd (fun k => ev_db (vs.getD k .null)) i.toNatClampNeg x))))) := by
            rw [ev_fupdD (ev_in_lt hcc.1)]
            simp only [ev_at, List.length_set]
          rw [← hat] at hP1 hD1
          have hxok : ev_okc h.1.length (.inr (101, vs.set i.toNatClampNeg (.double x))) := fun w hw => by
            rcases List.mem_or_eq_of_mem_set hw with hw | rfl
            · exact (hok _ (List.mem_of_getElem? hcell)) w hw
            · trivial
          exact kk ρ _ H1 locs1 cells slots (fun _ _ => rfl) (Nat.le_of_eq List.length_set.symm) ⟨h5.1, fun w9 hw9 => by rw [show (ev_wr h a (.inr (101, vs.set i.toNatClampNeg (.double x)))).1.length = h.1.length from List.length_set]; exact h5.2 w9 hw9⟩ (ev_wr_HR hH0 ha hxok hP1 hD1 hS1)
      · cases hp
    · cases hp
  | aastore =>
    obtain rfl : n = 1 := Nat.eq_of_beq_eq_true hl
    simp only [ev_w] at hp
    split at hp
    · rename_i x i a r
      split at hp
      · rename_i vs fs9 hcell hcx
        cases hcc : (ev_in i vs.length && Nat.ble 1000 a && Nat.ble 1000 x) with
        | false => rw [hcc] at hp; cases hp
        | true =>
          rw [hcc] at hp
          rw [Bool.and_eq_true, Bool.and_eq_true] at hcc
          have ha := Nat.le_of_ble_eq_true hcc.1.2
          have hxa := Nat.le_of_ble_eq_true hcc.2
          obtain ⟨e1, e2⟩ := Prod.mk.inj (Option.some.inj hp)
          subst e1; subst e2
          obtain ⟨r', rfl, h1, h2⟩ := ev_SR_cons hR
          obtain ⟨r', rfl, h3, h4⟩ := ev_SR_cons h1
          obtain ⟨r', rfl, h5, h6⟩ := ev_SR_cons h3
          have hgl := ev_wl_at (T := T) (ρ := ρ) hcell ha
          have hgx := ev_wl_at (T := T) (ρ := ρ) hcx hxa
          rw [ev_at_obj (by omega)] at hgx
          obtain ⟨-, -, -, -, -, -, F, N, hc1⟩ := hV6
          refine va_astq hx hb hK hP hD hS (a - 1000) 5 (x - 1000) 1 hgl rfl hgx hc1 (ev_in_vp hcc.1.1) hd (fun H1 locs1 hP1 hD1 hS1 => ?_)
          have hat : ev_at T ρ (.inr (102, vs.set i.toNatClampNeg (.ref x))) = .inl (T 5, vs.length, .inr (.inr (.inr (.inr (va_up (fun k => ev_rf ρ (vs.getD k .null)) i.toNatClampNeg (some (ρ x))))))) := by
            rw [ev_fupdR (ev_in_lt hcc.1.1)]
            simp only [ev_at, List.length_set]
          rw [← hat] at hP1 hD1
          have hxok : ev_okc h.1.length (.inr (102, vs.set i.toNatClampNeg (.ref x))) := fun w hw => by
            rcases List.mem_or_eq_of_mem_set hw with hw | rfl
            · exact (hok _ (List.mem_of_getElem? hcell)) w hw
            · exact h2
          exact kk ρ _ H1 locs1 cells slots (fun _ _ => rfl) (Nat.le_of_eq List.length_set.symm) ⟨h5.1, fun w9 hw9 => by rw [show (ev_wr h a (.inr (102, vs.set i.toNatClampNeg (.ref x)))).1.length = h.1.length from List.length_set]; exact h5.2 w9 hw9⟩ (ev_wr_HR hH0 ha hxok hP1 hD1 hS1)
      · cases hp
    · cases hp
  | newarray t =>
    obtain rfl : n = 2 := Nat.eq_of_beq_eq_true hl
    simp only [ev_w] at hp
    split at hp
    · rename_i n0 r
      cases hcc : (decide (n0 < 0) || Nat.blt 1000000 n0.toNatClampNeg) with
      | true => rw [hcc] at hp; cases hp
      | false =>
        rw [hcc] at hp
        rw [Bool.or_eq_false_iff, decide_eq_false_iff_not] at hcc
        have g1 := hcc.1
        have g2 : n0.toNatClampNeg ≤ 1000000 := ev_blt_le hcc.2
        obtain ⟨r', rfl, h1, h2⟩ := ev_SR_cons hR
        simp only [cond_false] at hp
        have hkey := fun q => ev_newSR (ρ := ρ) (h := h) q
        split at hp
        · rename_i hty
          obtain ⟨e1, e2⟩ := Prod.mk.inj (Option.some.inj hp)
          subst e1; subst e2
          have hrc : h.2.1 + 1 ≤ k0 + R.cells := room.1
          have hrs : h.2.2 + n0.toNatClampNeg ≤ s0 + R.slots := room.2
          refine va_newa hx hb (atype := t) (by rw [hty]; exact hts _ hV6.2.1) hty hK hP hD hS hA (n := n0) (N' := n0.toNatClampNeg) (a0 := (n0.toNatClampNeg, .inl (fun _ => 0))) (fun _ => rfl) g1 rfl (Nat.le_trans (Nat.mul_le_mul_right _ g2) (by decide)) (by omega) (by omega) hd (fun q cA H1 hK1 hP1 hD1 hS1 => ?_)
          obtain rfl := ev_cA 0 rfl hK1
          have hat : ev_at T ρ (.inl (0, List.replicate n0.toNatClampNeg 0)) = .inl (T 0, n0.toNatClampNeg, .inl (fun _ => 0)) := by
            simp only [ev_at, List.length_replicate]
            rw [ev_repl _ (0 : Int32) 0 rfl]
          rw [← hat] at hP1 hD1
          have hxok : ev_okc 0 (.inl (0, List.replicate n0.toNatClampNeg 0)) := trivial
          exact kk (ev_up ρ h.1.length q) _ H1 _ _ _ ev_up_ext (by simp) (hkey q r r' h1 _ (by simp)) (ev_push_HR (z := n0.toNatClampNeg) hH0 hxok hP1 hD1 hS1)
        · rename_i hty
          obtain ⟨e1, e2⟩ := Prod.mk.inj (Option.some.inj hp)
          subst e1; subst e2
          have hrc : h.2.1 + 1 ≤ k0 + R.cells := room.1
          have hrs : h.2.2 + n0.toNatClampNeg ≤ s0 + R.slots := room.2
          refine va_newa hx hb (atype := t) (by rw [hty]; exact hts _ hV6.2.2.1) hty hK hP hD hS hA (n := n0) (N' := n0.toNatClampNeg) (a0 := (n0.toNatClampNeg, .inl (fun _ => 0))) (fun _ => rfl) g1 rfl (Nat.le_trans (Nat.mul_le_mul_right _ g2) (by decide)) (by omega) (by omega) hd (fun q cA H1 hK1 hP1 hD1 hS1 => ?_)
          obtain rfl := ev_cA 1 rfl hK1
          have hat : ev_at T ρ (.inl (1, List.replicate n0.toNatClampNeg 0)) = .inl (T 1, n0.toNatClampNeg, .inl (fun _ => 0)) := by
            simp only [ev_at, List.length_replicate]
            rw [ev_repl _ (0 : Int32) 0 rfl]
          rw [← hat] at hP1 hD1
          have hxok : ev_okc 0 (.inl (1, List.replicate n0.toNatClampNeg 0)) := trivial
          exact kk (ev_up ρ h.1.length q) _ H1 _ _ _ ev_up_ext (by simp) (hkey q r r' h1 _ (by simp)) (ev_push_HR (z := n0.toNatClampNeg) hH0 hxok hP1 hD1 hS1)
        · rename_i hty
          obtain ⟨e1, e2⟩ := Prod.mk.inj (Option.some.inj hp)
          subst e1; subst e2
          have hrc : h.2.1 + 1 ≤ k0 + R.cells := room.1
          have hrs : h.2.2 + n0.toNatClampNeg ≤ s0 + R.slots := room.2
          refine va_newa hx hb (atype := t) (by rw [hty]; exact hts _ hV6.2.2.2.1) hty hK hP hD hS hA (n := n0) (N' := n0.toNatClampNeg) (a0 := (n0.toNatClampNeg, .inl (fun _ => 0))) (fun _ => rfl) g1 rfl (Nat.le_trans (Nat.mul_le_mul_right _ g2) (by decide)) (by omega) (by omega) hd (fun q cA H1 hK1 hP1 hD1 hS1 => ?_)
          obtain rfl := ev_cA 2 rfl hK1
          have hat : ev_at T ρ (.inl (2, List.replicate n0.toNatClampNeg 0)) = .inl (T 2, n0.toNatClampNeg, .inl (fun _ => 0)) := by
            simp only [ev_at, List.length_replicate]
            rw [ev_repl _ (0 : Int32) 0 rfl]
          rw [← hat] at hP1 hD1
          have hxok : ev_okc 0 (.inl (2, List.replicate n0.toNatClampNeg 0)) := trivial
          exact kk (ev_up ρ h.1.length q) _ H1 _ _ _ ev_up_ext (by simp) (hkey q r r' h1 _ (by simp)) (ev_push_HR (z := n0.toNatClampNeg) hH0 hxok hP1 hD1 hS1)
        · rename_i hty
          obtain ⟨e1, e2⟩ := Prod.mk.inj (Option.some.inj hp)
          subst e1; subst e2
          have hrc : h.2.1 + 1 ≤ k0 + R.cells := room.1
          have hrs : h.2.2 + n0.toNatClampNeg ≤ s0 + R.slots := room.2
          refine va_newa hx hb (atype := t) (by rw [hty]; exact hts _ hV6.2.2.2.2.1) hty hK hP hD hS hA (n := n0) (N' := n0.toNatClampNeg) (a0 := (n0.toNatClampNeg, .inr (.inl (fun _ => 0)))) (fun _ => rfl) g1 rfl (Nat.le_trans (Nat.mul_le_mul_right _ g2) (by decide)) (by omega) (by omega) hd (fun q cA H1 hK1 hP1 hD1 hS1 => ?_)
          obtain rfl := ev_cA 3 rfl hK1
          have hat : ev_at T ρ (.inr (100, List.replicate n0.toNatClampNeg (.long 0))) = .inl (T 3, n0.toNatClampNeg, .inr (.inl (fun _ => 0))) := by
            simp only [ev_at, List.length_replicate]
            rw [show (fun j => ev_lg ((List.replicate n0.toNatClampNeg (Value.long 0)).getD j .null)) = fun _ => (0 : Int64) from ev_replL _]
          rw [← hat] at hP1 hD1
          have hxok : ev_okc 0 (.inr (100, List.replicate n0.toNatClampNeg (.long 0))) := fun w hw => by rw [(List.mem_replicate.mp hw).2]; trivial
          exact kk (ev_up ρ h.1.length q) _ H1 _ _ _ ev_up_ext (by simp) (hkey q r r' h1 _ (by simp)) (ev_push_HR (z := n0.toNatClampNeg) hH0 hxok hP1 hD1 hS1)
        · rename_i hty
          obtain ⟨e1, e2⟩ := Prod.mk.inj (Option.some.inj hp)
          subst e1; subst e2
          have hrc : h.2.1 + 1 ≤ k0 + R.cells := room.1
          have hrs : h.2.2 + n0.toNatClampNeg ≤ s0 + R.slots := room.2
          refine va_newa hx hb (atype := t) (by rw [hty]; exact hts _ hV6.2.2.2.2.2.1) hty hK hP hD hS hA (n := n0) (N' := n0.toNatClampNeg) (a0 := (n0.toNatClampNeg, .inr (.inr (.inr (.inl (fun _ => 0)))))) (fun _ => rfl) g1 rfl (Nat.le_trans (Nat.mul_le_mul_right _ g2) (by decide)) (by omega) (by omega) hd (fun q cA H1 hK1 hP1 hD1 hS1 => ?_)
          obtain rfl := ev_cA 4 rfl hK1
          have hat : ev_at T ρ (.inr (101, List.replicate n0.toNatClampNeg (.double 0))) = .inl (T 4, n0.toNatClampNeg, .inr (.inr (.inr (.inl (fun _ => 0))))) := by
            simp only [ev_at, List.length_replicate]
            rw [show (fun j => ev_db ((List.replicate n0.toNatClampNeg (Value.double 0)).getD j .null)) = fun _ => (0 : UInt64) from ev_replD _]
          rw [← hat] at hP1 hD1
          have hxok : ev_okc 0 (.inr (101, List.replicate n0.toNatClampNeg (.double 0))) := fun w hw => by rw [(List.mem_replicate.mp hw).2]; trivial
          exact kk (ev_up ρ h.1.length q) _ H1 _ _ _ ev_up_ext (by simp) (hkey q r r' h1 _ (by simp)) (ev_push_HR (z := n0.toNatClampNeg) hH0 hxok hP1 hD1 hS1)
        · cases hp
    · cases hp
  | anewarray k =>
    obtain rfl : n = 3 := Nat.eq_of_beq_eq_true hl
    simp only [ev_w] at hp
    split at hp
    · rename_i n0 r
      cases hcc : (decide (n0 < 0) || Nat.blt 1000000 n0.toNatClampNeg || !(ev_sk G 2 M.1 k).isSome) with
      | true => rw [hcc] at hp; cases hp
      | false =>
        rw [hcc] at hp
        rw [Bool.or_eq_false_iff, Bool.or_eq_false_iff, decide_eq_false_iff_not] at hcc
        have g1 := hcc.1.1
        have g2 : n0.toNatClampNeg ≤ 1000000 := ev_blt_le hcc.1.2
        obtain ⟨v9, hv9⟩ : ∃ v9, ev_sk G 2 M.1 k = some v9 := Option.isSome_iff_exists.mp (by simpa using hcc.2)
        obtain ⟨r', rfl, h1, h2⟩ := ev_SR_cons hR
        simp only [cond_false] at hp
        obtain ⟨e1, e2⟩ := Prod.mk.inj (Option.some.inj hp)
        subst e1; subst e2
        have hrc : h.2.1 + 1 ≤ k0 + R.cells := room.1
        have hrs : h.2.2 + n0.toNatClampNeg ≤ s0 + R.slots := room.2
        refine va_newq hx hb (C := ev_CN B) hown (by rw [← hcn]; exact hts _ (hV6.1 _ _ _ hv9)) hE.2.2.2.2.2.2.1 hK hP hD hS hA (n := n0) (N' := n0.toNatClampNeg) g1 rfl (by omega) (by omega) (by omega) hd (fun q cA H1 hK1 hP1 hD1 hS1 => ?_)
        obtain rfl := ev_cA 5 rfl hK1
        have hat : ev_at T ρ (.inr (102, List.replicate n0.toNatClampNeg .null)) = .inl (T 5, n0.toNatClampNeg, .inr (.inr (.inr (.inr (fun _ => none))))) := by
          simp only [ev_at, List.length_replicate]
          rw [show (fun j => ev_rf ρ ((List.replicate n0.toNatClampNeg Value.null).getD j .null)) = fun _ => (none : Option Nat) from ev_replR _ _]
        rw [← hat] at hP1 hD1
        have hxok : ev_okc 0 (.inr (102, List.replicate n0.toNatClampNeg .null)) := fun w hw => by rw [(List.mem_replicate.mp hw).2]; trivial
        exact kk (ev_up ρ h.1.length q) _ H1 _ _ _ ev_up_ext (by simp) (ev_newSR q r r' h1 _ (by simp)) (ev_push_HR (z := n0.toNatClampNeg) hH0 hxok hP1 hD1 hS1)
    · cases hp
  | new k =>
    obtain rfl : n = 3 := Nat.eq_of_beq_eq_true hl
    simp only [ev_w] at hp
    split at hp
    · rename_i ci hci
      obtain ⟨e1, e2⟩ := Prod.mk.inj (Option.some.inj hp)
      subst e1; subst e2
      have hrc : h.2.1 + 1 ≤ k0 + R.cells := room.1
      have hrs : h.2.2 + (ev_ft G ci).length ≤ s0 + R.slots := room.2
      obtain ⟨C, F, N, hlt, hc, hw1, hw2, hw3⟩ := hV5 _ _ _ hci
      obtain ⟨hin, hN, hft2, hnames, hcnc⟩ := hV4 _ _ _ _ hc
      have hty : ∀ j, j < N → parseFieldDescriptor (F j).2.2.1 = some ((ev_ft G ci).getD j (.int, false)).1 := fun j hj => by
        have hj2 : j < (ev_ft G ci).length := by omega
        have := (hft2 j _ (List.getElem?_eq_getElem hj2)).1
        rw [this, List.getD, List.getElem?_eq_getElem hj2]
        rfl
      refine va_new (c0 := c) hx hb hts hin _ hty hown (by rw [← hcn]; exact hts _ hw1) (hts _ hw2) (hts _ hw3) hK hP hD hS hA hc (fs := ((ev_ft G ci).map (fun q => defaultValue q.1)).map (ev_cv ρ)) (fun j hj => ?_) (by omega) (by omega) hd (fun q H1 hP1 hD1 hS1 => ?_)
      · have hj2 : j < (ev_ft G ci).length := by omega
        simp only [vp_V, List.getD, List.getElem?_map, List.getElem?_eq_getElem hj2, Option.map, Option.getD, ev_cv_default]
      · rw [← ev_at_obj (T := T) (ρ := ρ) (show ci < 100 by omega)] at hP1 hD1
        have hxok : ev_okc 0 (.inr (ci, (ev_ft G ci).map (fun q => defaultValue q.1))) := fun w hw => by
          obtain ⟨q9, -, rfl⟩ := List.mem_map.mp hw
          exact ev_ok_default _
        rw [← hN]
        exact kk (ev_up ρ h.1.length q) _ H1 _ _ _ ev_up_ext (by simp) (ev_newSR q S st hR _ (by simp)) (ev_push_HR (z := (ev_ft G ci).length) hH0 hxok hP1 hD1 hS1)
    · cases hp
  | invokevirtual k =>
    obtain rfl : n = 3 := Nat.eq_of_beq_eq_true hl
    simp only [ev_w] at hp
    split at hp
    · rename_i v9 hv9
      split at hp
      · rename_i a r
        split at hp
        · rename_i lz hcell
          cases hcc : (Nat.ble 1000 a && ev_cs r && lz.all (fun x => fits .byte (.int x))) with
          | false => rw [hcc] at hp; cases hp
          | true =>
            rw [hcc] at hp
            rw [Bool.and_eq_true, Bool.and_eq_true] at hcc
            obtain ⟨e1, e2⟩ := Prod.mk.inj (Option.some.inj hp)
            subst e1; subst e2
            obtain ⟨w1, w2, w3, w4, w5, w6⟩ := hV7 _ _ _ hv9
            obtain ⟨r', rfl, h1, h2⟩ := ev_SR_cons hR
            have ha := Nat.le_of_ble_eq_true hcc.1.1
            have hgl := ev_wl_at (T := T) (ρ := ρ) hcell ha
            have hrc : h.2.1 + 1 ≤ k0 + R.cells := room.1
            have hrs : h.2.2 + lz.length ≤ s0 + R.slots := room.2
            have hcat : (r'.map fun v => v.category).sum ≤ 8 := by
              rw [h1.1]
              have h9 := Nat.le_of_ble_eq_true hcc.1.2
              rw [List.map_map]
              have e9 : ((fun v => Value.category v) ∘ ev_cv ρ) = fun v => Value.category v := by
                funext v
                cases v <;> rfl
              rw [e9]
              exact h9
            refine va_clone hx hb (hml.trans hsz.symm) (ad := "[B") hown (by rw [← hcn]; exact hts _ w1) (hts _ w2) (hts _ w3) (hts _ w4) (hts _ w5) (hE.2.2.2.1 _ w6) hK hP hD hS hA (a - 1000) 2 hgl rfl (hK.2 2 (T 2, .byte) rfl).2 (fun i v hv => ?_) (by omega) (by omega) (by omega) (by show slots + lz.length ≤ R.slots; omega) hd (fun q H1 hK1 hP1 hD1 hS1 => ?_)
            · obtain ⟨hlt9, hv⟩ := Array.getElem?_eq_some_iff.mp hv
              have hlt8 : i < lz.length := by
                have := hlt9
                rw [show (vp_cell (T 2) (lz.length, .inl (fun j => lz.getD j 0))).slots.size = lz.length from arrV_size _ _ _] at this
                exact this
              have hr9 : (vp_cell (T 2) (lz.length, .inl (fun j => lz.getD j 0))).slots[i]? = some (.int (lz.getD i 0)) := by
                show (arrV (T 2) lz.length (fun j => .int (lz.getD j 0))).slots[i]? = _
                exact arrV_read _ _ hlt8
              have hr8 := Array.getElem?_eq_some_iff.mpr ⟨hlt9, hv⟩
              rw [hr9] at hr8
              cases hr8
              have h9 := List.all_eq_true.mp hcc.2 (lz.getD i 0) (by
                rw [List.getD, List.getElem?_eq_getElem hlt8]
                exact List.getElem_mem hlt8)
              exact h9
            · have hxok : ev_okc 0 (.inl (2, lz)) := trivial
              exact kk (ev_up ρ h.1.length q) _ H1 _ _ _ ev_up_ext (by simp) (ev_newSR q r r' h1 _ (by simp)) (ev_push_HR (z := lz.length) hH0 hxok hP1 hD1 hS1)
        · cases hp
      · cases hp
    · cases hp
  | _ => simp [ev_w] at hp
end
end
section
/-! jumps, and one step -/
theorem ev_tg_eq {pc : Nat} {off : Int} (h : ev_tok pc off = true) : (pc : Int) + off = ((ev_tg pc off : Nat) : Int) := by
  unfold ev_tok at h
  unfold ev_tg
  have := of_decide_eq_true h
  omega
section
variable {G : ev_G} {B : ev_B} {M : ev_MD} {D : va_G} {T : Nat → ClassId} {κ ρ : Nat → Nat} {A : Nat → Prop} {p : Program} {l : Launch} {e : Env} {R : Room} {s : State} {m : MethodId} {args : Array Value} {below : List Frame} {meth : Method} {c : Code} {H : Heap} {locs : List Loc} {cells slots k0 s0 : Nat} {Q : State → Prop} {pc pc' n nn nL : Nat} {ls : Array Slot} {S S' st : List Value} {i : Instr} {h h' : ev_AH} {L L' : ev_VL}
theorem ev_j_ok (F : ev_Fx G B M D T κ A p l s m args meth c) (hd : decode M.2.2.1 pc = .ok (i, n)) (hl : ev_len i n = true) (hp : ev_j pc S i = some (pc', S')) (hR : ev_SR ρ nn S st)
    (kk : ∀ st', ev_SR ρ nn S' st' → W p l e R s m args below meth c H locs cells slots Q (F0 m pc' ls st')) : W p l e R s m args below meth c H locs cells slots Q (F0 m pc ls st) := by
  obtain ⟨hx, hb, -⟩ := F
  cases i with
  | ifCond cd off =>
    obtain rfl : n = 3 := Nat.eq_of_beq_eq_true hl
    simp only [ev_j] at hp
    split at hp
    · rename_i x r
      cases ht : ev_tok pc off with
      | false => rw [ht] at hp; cases hp
      | true =>
        rw [ht] at hp
        simp only [cond_true] at hp
        obtain ⟨r', rfl, h1, h2⟩ := ev_SR_cons hR
        cases cd with
        | eq =>
          by_cases hc : x = 0
          · simp only [ev_cnd, hc, decide_true, decide_false, Bool.not_true, Bool.not_false, cond_true, cond_false] at hp
            exact lv_if_eq hx hb hd (ev_tg_eq ht) (fun g9 => by obtain ⟨rfl, rfl⟩ := Prod.mk.inj (Option.some.inj hp); exact kk _ h1) (fun g9 => absurd hc g9)
          · simp only [ev_cnd, hc, decide_true, decide_false, Bool.not_true, Bool.not_false, cond_true, cond_false] at hp
            exact lv_if_eq hx hb hd (ev_tg_eq ht) (fun g9 => absurd g9 hc) (fun g9 => by obtain ⟨rfl, rfl⟩ := Prod.mk.inj (Option.some.inj hp); exact kk _ h1)
        | ne =>
          by_cases hc : x = 0
          · simp only [ev_cnd, hc, decide_true, decide_false, Bool.not_true, Bool.not_false, cond_true, cond_false] at hp
            exact lv_if_ne hx hb hd (ev_tg_eq ht) (fun g9 => absurd hc g9) (fun g9 => by obtain ⟨rfl, rfl⟩ := Prod.mk.inj (Option.some.inj hp); exact kk _ h1)
          · simp only [ev_cnd, hc, decide_true, decide_false, Bool.not_true, Bool.not_false, cond_true, cond_false] at hp
            exact lv_if_ne hx hb hd (ev_tg_eq ht) (fun g9 => by obtain ⟨rfl, rfl⟩ := Prod.mk.inj (Option.some.inj hp); exact kk _ h1) (fun g9 => absurd g9 hc)
        | lt =>
          by_cases hc : x < 0
          · simp only [ev_cnd, hc, decide_true, decide_false, Bool.not_true, Bool.not_false, cond_true, cond_false] at hp
            exact lv_if_lt hx hb hd (ev_tg_eq ht) (fun g9 => by obtain ⟨rfl, rfl⟩ := Prod.mk.inj (Option.some.inj hp); exact kk _ h1) (fun g9 => absurd hc g9)
          · simp only [ev_cnd, hc, decide_true, decide_false, Bool.not_true, Bool.not_false, cond_true, cond_false] at hp
            exact lv_if_lt hx hb hd (ev_tg_eq ht) (fun g9 => absurd g9 hc) (fun g9 => by obtain ⟨rfl, rfl⟩ := Prod.mk.inj (Option.some.inj hp); exact kk _ h1)
        | ge =>
          by_cases hc : 0 ≤ x
          · simp only [ev_cnd, hc, decide_true, decide_false, Bool.not_true, Bool.not_false, cond_true, cond_false] at hp
            exact lv_if_ge hx hb hd (ev_tg_eq ht) (fun g9 => by obtain ⟨rfl, rfl⟩ := Prod.mk.inj (Option.some.inj hp); exact kk _ h1) (fun g9 => absurd hc g9)
          · simp only [ev_cnd, hc, decide_true, decide_false, Bool.not_true, Bool.not_false, cond_true, cond_false] at hp
            exact lv_if_ge hx hb hd (ev_tg_eq ht) (fun g9 => absurd g9 hc) (fun g9 => by obtain ⟨rfl, rfl⟩ := Prod.mk.inj (Option.some.inj hp); exact kk _ h1)
        | gt =>
          by_cases hc : 0 < x
          · simp only [ev_cnd, hc, decide_true, decide_false, Bool.not_true, Bool.not_false, cond_true, cond_false] at hp
            exact lv_if_gt hx hb hd (ev_tg_eq ht) (fun g9 => by obtain ⟨rfl, rfl⟩ := Prod.mk.inj (Option.some.inj hp); exact kk _ h1) (fun g9 => absurd hc g9)
          · simp only [ev_cnd, hc, decide_true, decide_false, Bool.not_true, Bool.not_false, cond_true, cond_false] at hp
            exact lv_if_gt hx hb hd (ev_tg_eq ht) (fun g9 => absurd g9 hc) (fun g9 => by obtain ⟨rfl, rfl⟩ := Prod.mk.inj (Option.some.inj hp); exact kk _ h1)
        | le =>
          by_cases hc : x ≤ 0
          · simp only [ev_cnd, hc, decide_true, decide_false, Bool.not_true, Bool.not_false, cond_true, cond_false] at hp
            exact lv_if_le hx hb hd (ev_tg_eq ht) (fun g9 => by obtain ⟨rfl, rfl⟩ := Prod.mk.inj (Option.some.inj hp); exact kk _ h1) (fun g9 => absurd hc g9)
          · simp only [ev_cnd, hc, decide_true, decide_false, Bool.not_true, Bool.not_false, cond_true, cond_false] at hp
            exact lv_if_le hx hb hd (ev_tg_eq ht) (fun g9 => absurd g9 hc) (fun g9 => by obtain ⟨rfl, rfl⟩ := Prod.mk.inj (Option.some.inj hp); exact kk _ h1)
    · cases hp
  | if_icmp cd off =>
    obtain rfl : n = 3 := Nat.eq_of_beq_eq_true hl
    simp only [ev_j] at hp
    split at hp
    · rename_i y x r
      cases ht : ev_tok pc off with
      | false => rw [ht] at hp; cases hp
      | true =>
        rw [ht] at hp
        simp only [cond_true] at hp
        obtain ⟨r', rfl, h1, h2⟩ := ev_SR_cons hR
        obtain ⟨r', rfl, h3, h4⟩ := ev_SR_cons h1
        cases cd with
        | eq =>
          by_cases hc : x = y
          · simp only [ev_cnd, hc, decide_true, decide_false, Bool.not_true, Bool.not_false, cond_true, cond_false] at hp
            exact lv_icmp_eq hx hb hd (ev_tg_eq ht) (fun g9 => by obtain ⟨rfl, rfl⟩ := Prod.mk.inj (Option.some.inj hp); exact kk _ h3) (fun g9 => absurd hc g9)
          · simp only [ev_cnd, hc, decide_true, decide_false, Bool.not_true, Bool.not_false, cond_true, cond_false] at hp
            exact lv_icmp_eq hx hb hd (ev_tg_eq ht) (fun g9 => absurd g9 hc) (fun g9 => by obtain ⟨rfl, rfl⟩ := Prod.mk.inj (Option.some.inj hp); exact kk _ h3)
        | ne =>
          by_cases hc : x = y
          · simp only [ev_cnd, hc, decide_true, decide_false, Bool.not_true, Bool.not_false, cond_true, cond_false] at hp
            exact lv_icmp_ne hx hb hd (ev_tg_eq ht) (fun g9 => absurd hc g9) (fun g9 => by obtain ⟨rfl, rfl⟩ := Prod.mk.inj (Option.some.inj hp); exact kk _ h3)
          · simp only [ev_cnd, hc, decide_true, decide_false, Bool.not_true, Bool.not_false, cond_true, cond_false] at hp
            exact lv_icmp_ne hx hb hd (ev_tg_eq ht) (fun g9 => by obtain ⟨rfl, rfl⟩ := Prod.mk.inj (Option.some.inj hp); exact kk _ h3) (fun g9 => absurd g9 hc)
        | lt =>
          by_cases hc : x < y
          · simp only [ev_cnd, hc, decide_true, decide_false, Bool.not_true, Bool.not_false, cond_true, cond_false] at hp
            exact lv_icmp_lt hx hb hd (ev_tg_eq ht) (fun g9 => by obtain ⟨rfl, rfl⟩ := Prod.mk.inj (Option.some.inj hp); exact kk _ h3) (fun g9 => absurd hc g9)
          · simp only [ev_cnd, hc, decide_true, decide_false, Bool.not_true, Bool.not_false, cond_true, cond_false] at hp
            exact lv_icmp_lt hx hb hd (ev_tg_eq ht) (fun g9 => absurd g9 hc) (fun g9 => by obtain ⟨rfl, rfl⟩ := Prod.mk.inj (Option.some.inj hp); exact kk _ h3)
        | ge =>
          by_cases hc : y ≤ x
          · simp only [ev_cnd, hc, decide_true, decide_false, Bool.not_true, Bool.not_false, cond_true, cond_false] at hp
            exact lv_icmp_ge hx hb hd (ev_tg_eq ht) (fun g9 => by obtain ⟨rfl, rfl⟩ := Prod.mk.inj (Option.some.inj hp); exact kk _ h3) (fun g9 => absurd hc g9)
          · simp only [ev_cnd, hc, decide_true, decide_false, Bool.not_true, Bool.not_false, cond_true, cond_false] at hp
            exact lv_icmp_ge hx hb hd (ev_tg_eq ht) (fun g9 => absurd g9 hc) (fun g9 => by obtain ⟨rfl, rfl⟩ := Prod.mk.inj (Option.some.inj hp); exact kk _ h3)
        | gt =>
          by_cases hc : y < x
          · simp only [ev_cnd, hc, decide_true, decide_false, Bool.not_true, Bool.not_false, cond_true, cond_false] at hp
            exact lv_icmp_gt hx hb hd (ev_tg_eq ht) (fun g9 => by obtain ⟨rfl, rfl⟩ := Prod.mk.inj (Option.some.inj hp); exact kk _ h3) (fun g9 => absurd hc g9)
          · simp only [ev_cnd, hc, decide_true, decide_false, Bool.not_true, Bool.not_false, cond_true, cond_false] at hp
            exact lv_icmp_gt hx hb hd (ev_tg_eq ht) (fun g9 => absurd g9 hc) (fun g9 => by obtain ⟨rfl, rfl⟩ := Prod.mk.inj (Option.some.inj hp); exact kk _ h3)
        | le =>
          by_cases hc : x ≤ y
          · simp only [ev_cnd, hc, decide_true, decide_false, Bool.not_true, Bool.not_false, cond_true, cond_false] at hp
            exact lv_icmp_le hx hb hd (ev_tg_eq ht) (fun g9 => by obtain ⟨rfl, rfl⟩ := Prod.mk.inj (Option.some.inj hp); exact kk _ h3) (fun g9 => absurd hc g9)
          · simp only [ev_cnd, hc, decide_true, decide_false, Bool.not_true, Bool.not_false, cond_true, cond_false] at hp
            exact lv_icmp_le hx hb hd (ev_tg_eq ht) (fun g9 => absurd g9 hc) (fun g9 => by obtain ⟨rfl, rfl⟩ := Prod.mk.inj (Option.some.inj hp); exact kk _ h3)
    · cases hp
  | goto off =>
    obtain rfl : n = 3 := Nat.eq_of_beq_eq_true hl
    simp only [ev_j] at hp
    cases ht : ev_tok pc off with
    | false => rw [ht] at hp; cases hp
    | true =>
      rw [ht] at hp
      obtain ⟨rfl, rfl⟩ := Prod.mk.inj (Option.some.inj hp)
      exact lv_goto hx hb hd (ev_tg_eq ht) (kk _ hR)
  | ifnull off =>
    obtain rfl : n = 3 := Nat.eq_of_beq_eq_true hl
    simp only [ev_j] at hp
    split at hp
    · obtain ⟨rfl, rfl⟩ := Prod.mk.inj (Option.some.inj hp)
      obtain ⟨r', rfl, h1, h2⟩ := ev_SR_cons hR
      exact lv_ifnull hx hb hd (kk _ h1)
    · cases ht : ev_tok pc off with
      | false => rw [ht] at hp; cases hp
      | true =>
        rw [ht] at hp
        obtain ⟨rfl, rfl⟩ := Prod.mk.inj (Option.some.inj hp)
        obtain ⟨r', rfl, h1, h2⟩ := ev_SR_cons hR
        exact lv_ifnullN hx hb hd (ev_tg_eq ht) (kk _ h1)
    · cases hp
  | ifnonnull off =>
    obtain rfl : n = 3 := Nat.eq_of_beq_eq_true hl
    simp only [ev_j] at hp
    split at hp
    · cases ht : ev_tok pc off with
      | false => rw [ht] at hp; cases hp
      | true =>
        rw [ht] at hp
        obtain ⟨rfl, rfl⟩ := Prod.mk.inj (Option.some.inj hp)
        obtain ⟨r', rfl, h1, h2⟩ := ev_SR_cons hR
        exact lv_ifnonnull hx hb hd (ev_tg_eq ht) (kk _ h1)
    · obtain ⟨rfl, rfl⟩ := Prod.mk.inj (Option.some.inj hp)
      obtain ⟨r', rfl, h1, h2⟩ := ev_SR_cons hR
      exact lv_ifnonnullN hx hb hd (kk _ h1)
    · cases hp
  | tableswitch d lo hi offs =>
    simp only [ev_j] at hp
    split at hp
    · rename_i x r
      obtain ⟨r', rfl, h1, h2⟩ := ev_SR_cons hR
      cases hc : (decide (x.toInt < lo) || decide (hi < x.toInt)) with
      | true =>
        rw [hc] at hp
        simp only [cond_true] at hp
        rw [Bool.or_eq_true, decide_eq_true_eq, decide_eq_true_eq] at hc
        cases ht : ev_tok pc d with
        | false => rw [ht] at hp; cases hp
        | true =>
          rw [ht] at hp
          obtain ⟨rfl, rfl⟩ := Prod.mk.inj (Option.some.inj hp)
          exact lv_tableOut hx hb hd hc (ev_tg_eq ht) (kk _ h1)
      | false =>
        rw [hc] at hp
        simp only [cond_false] at hp
        rw [Bool.or_eq_false_iff, decide_eq_false_iff_not, decide_eq_false_iff_not] at hc
        split at hp
        · rename_i off ho
          cases ht : ev_tok pc off with
          | false => rw [ht] at hp; cases hp
          | true =>
            rw [ht] at hp
            obtain ⟨rfl, rfl⟩ := Prod.mk.inj (Option.some.inj hp)
            exact lv_tableIn hx hb hd hc.1 hc.2 ho (ev_tg_eq ht) (kk _ h1)
        · cases hp
    · cases hp
  | lookupswitch d ps =>
    simp only [ev_j] at hp
    split at hp
    · rename_i x r
      obtain ⟨r', rfl, h1, h2⟩ := ev_SR_cons hR
      rw [Bool.cond_eq_ite] at hp
      split at hp
      · rename_i hc
        obtain ⟨rfl, rfl⟩ := Prod.mk.inj (Option.some.inj hp)
        rw [Bool.and_eq_true] at hc
        exact lv_lookup hx hb hd hc.1 rfl (ev_tg_eq hc.2) (kk _ h1)
      · cases hp
    · cases hp
  | _ => simp [ev_j] at hp
/-- the tables are true -/
def ev_V (G : ev_G) (B : ev_B) : Prop := ev_V0 G ∧ ev_V1 G B ∧ ev_V2 G B ∧ ev_V3 G B ∧ ev_V4 G B ∧ ev_V5 G B ∧ ev_V6 G B ∧ (ev_V12 G B ∧ ev_V13 G B) ∧ ∃ (F : u_T) (N : Nat), (ev_cl B)[8]? = some ("java/lang/String", F, N)
/-- ONE STEP of the small machine is the real one's -/
theorem ev_s_ok (F : ev_Fx G B M D T κ A p l s m args meth c) (hV : ev_V G B) (hd : decode M.2.2.1 pc = .ok (i, n)) (hl : ev_len i n = true) (hp : ev_s G M pc L S h i n = some (pc', L', S', h')) (hR : ev_SR ρ h.1.length S st) (hL : ev_LR ρ h.1.length nL L ls) (hH : ev_HR D T (ev_cl B) A s.heap κ ρ k0 s0 h H locs cells slots)
    (hRf : 20 ≤ R.frames) (hRl : 400 ≤ R.locals) (hsz : ls.size = M.2.2.2.1) (room : h'.2.1 ≤ k0 + R.cells ∧ h'.2.2 ≤ s0 + R.slots)
    (kk : ∀ ρ' ls' st' H' locs' cells' slots', ev_ex2 ρ ρ' h.1.length → h.1.length ≤ h'.1.length → ev_SR ρ' h'.1.length S' st' → ev_LR ρ' h'.1.length nL L' ls' → ev_HR D T (ev_cl B) A s.heap κ ρ' k0 s0 h' H' locs' cells' slots' → W p l e R s m args below meth c H' locs' cells' slots' Q (F0 m pc' ls' st')) : W p l e R s m args below meth c H locs cells slots Q (F0 m pc ls st) := by
  obtain ⟨hV0, hV1, hV2, hV3, hV4, hV5, hV6, ⟨hV12, hV13⟩, hV7⟩ := hV
  unfold ev_s at hp
  split at hp
  · rename_i j t hi
    split at hp
    · rename_i v hj
      cases hv : ev_srt t v with
      | false => rw [hv] at hp; cases hp
      | true =>
        rw [hv] at hp
        cases hp
        exact ev_l_ok F hd hl hi hj hv hR hL (fun st' h' => kk ρ ls st' H locs cells slots (fun _ _ => rfl) (Nat.le_refl _) h' hL hH)
    · cases hp
  · split at hp
    · rename_i j t hi
      split at hp
      · rename_i v r
        cases hv : (ev_srt t v && ev_sok L j) with
        | false => rw [hv] at hp; cases hp
        | true =>
          rw [hv] at hp
          simp only [cond_true] at hp
          rw [Bool.and_eq_true] at hv
          cases ht : Nat.beq t 3 with
          | true =>
            rw [ht] at hp
            simp only [cond_true] at hp
            cases h2 : Nat.blt (j + 1) L.length with
            | false => rw [h2] at hp; cases hp
            | true =>
              rw [h2] at hp
              cases hp
              exact ev_st_ok F hd hl hi hv.1 hv.2 (fun _ => h2) hR hL (fun ls' st' g1 g2 => kk ρ ls' st' H locs cells slots (fun _ _ => rfl) (Nat.le_refl _) g1 (by rw [ht] at g2; exact g2) hH)
          | false =>
            rw [ht] at hp
            cases hp
            exact ev_st_ok F hd hl hi hv.1 hv.2 (fun h9 => by rw [ht] at h9; cases h9) hR hL (fun ls' st' g1 g2 => kk ρ ls' st' H locs cells slots (fun _ _ => rfl) (Nat.le_refl _) g1 (by rw [ht] at g2; exact g2) hH)
      · cases hp
    · split at hp
      · rename_i j k hq1 hq2
        split at hp
        · rename_i x hg
          cases hj : ev_sok L j with
          | false => rw [hj] at hp; cases hp
          | true =>
            rw [hj] at hp
            cases hp
            exact ev_inc_ok F hd hl hg hj hL (fun ls' g => kk ρ ls' st H locs cells slots (fun _ _ => rfl) (Nat.le_refl _) hR g hH)
        · cases hp
      · split at hp
        · rename_i S9 h9
          cases hp
          exact ev_p_ok F hV1 hV2 hd hl h9 hR hH.2.2.1 hH.2.2.2.1 (fun st' g => kk ρ ls st' H locs cells slots (fun _ _ => rfl) (Nat.le_refl _) g hL hH)
        · split at hp
          · rename_i S9 h9
            cases hp
            exact ev_r_ok F hV0 hV3 hV4 hV13 hd hl h9 hR hH (fun st' g => kk ρ ls st' H locs cells slots (fun _ _ => rfl) (Nat.le_refl _) g hL hH)
          · split at hp
            · rename_i S9 h8 h9
              cases hp
              exact ev_w_ok F hV3 hV4 hV5 hV6 hV12 hRf hRl hsz hd hl h9 hR hH room (fun ρ' st' H' locs' cells' slots' g1 g2 g3 g4 => kk ρ' ls st' H' locs' cells' slots' g1 g2 g3 (ev_LR_ext hL g1 g2) g4)
            · split at hp
              · rename_i pc9 S9 h9
                cases hp
                exact ev_j_ok F hd hl h9 hR (fun st' g => kk ρ ls st' H locs cells slots (fun _ _ => rfl) (Nat.le_refl _) g hL hH)
              · cases hp
end
end
section
/-! the used room never falls -/
def ev_le (h h' : ev_AH) : Prop := h.1.length ≤ h'.1.length ∧ h.2.1 ≤ h'.2.1 ∧ h.2.2 ≤ h'.2.2
theorem ev_le_rf {h : ev_AH} : ev_le h h := ⟨Nat.le_refl _, Nat.le_refl _, Nat.le_refl _⟩
theorem ev_le_tr {a b c : ev_AH} (h1 : ev_le a b) (h2 : ev_le b c) : ev_le a c := ⟨Nat.le_trans h1.1 h2.1, Nat.le_trans h1.2.1 h2.2.1, Nat.le_trans h1.2.2 h2.2.2⟩
theorem ev_le_wr {h : ev_AH} {a : Nat} {x : ev_AC} : ev_le h (ev_wr h a x) := ⟨Nat.le_of_eq List.length_set.symm, Nat.le_refl _, Nat.le_refl _⟩
theorem ev_le_push {h : ev_AH} {x : ev_AC} {z : Nat} : ev_le h (h.1 ++ [x], h.2.1 + 1, h.2.2 + z) := ⟨by simp, Nat.le_succ _, Nat.le_add_right _ _⟩
theorem ev_w_le {G : ev_G} {M : ev_MD} {S S' : List Value} {h h' : ev_AH} {i : Instr} (hp : ev_w G M S h i = some (S', h')) : ev_le h h' := by
  unfold ev_w at hp
  repeat' split at hp
  all_goals first
    | (cases hp; done)
    | (cases hp; exact ev_le_wr)
    | (cases hp; exact ev_le_push)
    | (rw [Bool.cond_eq_ite] at hp; split at hp <;> first | (cases hp; done) | (cases hp; exact ev_le_wr) | (cases hp; exact ev_le_push) | (split at hp <;> first | (cases hp; done) | (cases hp; exact ev_le_push)))
theorem ev_s_le {G : ev_G} {M : ev_MD} {pc pc' n : Nat} {L L' : ev_VL} {S S' : List Value} {h h' : ev_AH} {i : Instr} (hp : ev_s G M pc L S h i n = some (pc', L', S', h')) : ev_le h h' := by
  unfold ev_s at hp
  split at hp
  · split at hp
    · rw [Bool.cond_eq_ite] at hp
      split at hp <;> cases hp
      exact ev_le_rf
    · cases hp
  · split at hp
    · split at hp
      · rw [Bool.cond_eq_ite, Bool.cond_eq_ite, Bool.cond_eq_ite] at hp
        split at hp
        · split at hp
          · split at hp <;> cases hp
            exact ev_le_rf
          · cases hp
            exact ev_le_rf
        · cases hp
      · cases hp
    · split at hp
      · split at hp
        · rw [Bool.cond_eq_ite] at hp
          split at hp <;> cases hp
          exact ev_le_rf
        · cases hp
      · split at hp
        · cases hp
          exact ev_le_rf
        · split at hp
          · cases hp
            exact ev_le_rf
          · split at hp
            · rename_i S9 h8 h9
              cases hp
              exact ev_w_le h9
            · split at hp <;> cases hp
              exact ev_le_rf
theorem ev_na_le {G : ev_G} {S S' : List Value} {h h' : ev_AH} {k : Nat} {i : Instr} (hp : ev_na G i S h k = some (S', h')) : ev_le h h' := by
  unfold ev_na at hp
  repeat' split at hp
  all_goals first
    | (cases hp; done)
    | (rw [Bool.cond_eq_ite] at hp; split at hp <;> cases hp; first | exact ev_le_wr | exact ev_le_rf)
theorem ev_F_le {G : ev_G} : ∀ (n d : Nat) (M : ev_MD) (pc : Nat) (L : ev_VL) (S : List Value) (h h' : ev_AH) (o : ev_O), ev_F G n d M pc L S h = some (o, h') → ev_le h h' := by
  intro n
  induction n with
  | zero => intro d M pc L S h h' o hp; simp [ev_F] at hp
  | succ n ih =>
    intro d M pc L S h h' o hp
    unfold ev_F at hp
    split at hp
    · cases hp
    · rename_i i len hlk
      rw [Bool.cond_eq_ite] at hp
      split at hp
      · split at hp
        · rename_i pc9 L9 S9 h9 hs
          exact ev_le_tr (ev_s_le hs) (ih _ _ _ _ _ _ _ _ hp)
        · split at hp
          · cases hp
            exact ev_le_rf
          · split at hp
            · split at hp
              · rw [Bool.cond_eq_ite] at hp
                split at hp <;> cases hp
                exact ⟨Nat.le_refl _, Nat.le_succ _, Nat.le_add_right _ _⟩
              · cases hp
            · split at hp
              · cases hp
              · split at hp
                · cases hp
                · split at hp
                  · rename_i S9 h9 hna
                    exact ev_le_tr (ev_na_le hna) (ih _ _ _ _ _ _ _ _ hp)
                  · split at hp
                    · cases hp
                    · rw [Bool.cond_eq_ite] at hp
                      split at hp
                      · split at hp
                        · cases hp
                        · rw [Bool.cond_eq_ite] at hp
                          split at hp
                          · split at hp
                            · rename_i v h9 hc
                              exact ev_le_tr (ih _ _ _ _ _ _ _ _ hc) (ih _ _ _ _ _ _ _ _ hp)
                            · rename_i E h9 hc
                              split at hp
                              · cases hp
                                exact ih _ _ _ _ _ _ _ _ hc
                              · rw [Bool.cond_eq_ite] at hp
                                split at hp
                                · exact ev_le_tr (ih _ _ _ _ _ _ _ _ hc) (ih _ _ _ _ _ _ _ _ hp)
                                · cases hp
                              · cases hp
                            · cases hp
                          · cases hp
                      · cases hp
      · cases hp
end
section
/-! EXCEPTIONS whose constructor calls the one above by a constant of its own (NoSuchElementException's is 13): vx_ctorMadeX, vx_throwX, vx_throwXW are turned out of vx_ctorMadeS, vx_throwS, vx_throwSW (starting texts of kit/laws) -/
def vx_chain (X : String) (ix : Nat) (rx : ByteArray) : List String → List Cond
  | [] => Bundle.passSAtoms X Bundle.tN ix rx
  | Y :: r => Bundle.passSAtoms X Y ix rx ++ Bundle.chainSAtoms Y r
def vx_rest (own : String) (ic : Nat) (X : String) : List Cond :=
  [.methodLink own ic (Bundle.initS X), .instantiable X 6, .castable X X, .selects X Bundle.tFill0 Bundle.tFill0, .selects X Bundle.tFill Bundle.tFill,
   .lays X Bundle.tN "cause" "Ljava/lang/Throwable;", .lays X Bundle.tN "stackTrace" Bundle.steD, .lays X Bundle.tN "suppressedExceptions" Bundle.listD, .lays X Bundle.tN "detailMessage" "Ljava/lang/String;",
   .isRef (.static Bundle.tN "UNASSIGNED_STACK" Bundle.steD), .isRef (.static Bundle.tN "SUPPRESSED_SENTINEL" Bundle.listD),
   .fieldLink Bundle.tN 198 Bundle.tN "backtrace" "Ljava/lang/Object;", .lays Bundle.tN Bundle.tN "backtrace" "Ljava/lang/Object;", .lays X Bundle.tN "backtrace" "Ljava/lang/Object;"]
def vx_own9 (own : String) (ic : Nat) (X : String) (ix : Nat) (rx : ByteArray) (names : List String) : List Cond := Bundle.throwableAtoms ++ Bundle.throwableSAtoms ++ vx_chain X ix rx names ++ vx_rest own ic X
def vx_at9 (own : String) (ic : Nat) (X : String) (ix : Nat) (rx : ByteArray) (names : List String) : List Cond := (vx_own9 own ic X ix rx names).filter vx_no
theorem vx_chainS {args : Array Value} {s : State} {pl : Platform} (hpl : pl.magicAccessors = ({} : Platform).magicAccessors) {top : MethodId} (htop : s.methodNamed? (Bundle.initS Bundle.tN) = some top)
    {ix : Nat} {rx : ByteArray} (x0 : decode rx 0 = .ok (.aload_n 0, 1)) (x1 : decode rx 1 = .ok (.aload_n 1, 1)) (x2 : decode rx 2 = .ok (.invokespecial ix, 3)) (x5 : decode rx 5 = .ok (.return_, 1)) :
    ∀ (names : List String) (X : String), Bundle.fit X = true → (∀ n ∈ names, Bundle.fit n = true) → (∀ c ∈ vx_chain X ix rx names, c.before args s = true) →
      ∃ (P1 : PassC) (Ps : List PassC), Ps.length = names.length ∧ P1.LinksS pl s ∧ (∀ P, P ∈ Ps → P.LinksS pl s) ∧ s.methodNamed? (Bundle.initS X) = some P1.m ∧
        P1.sup = firstOf top (Ps.map (·.toPassT)) ∧ PassesOn top (Ps.map (·.toPassT))
  | [], X, hX, _, h => by
    obtain ⟨P, L, hm, hs⟩ := PassC.ofS_atoms (args := args) (s := s) hpl (X := X) (Y := Bundle.tN) (Bundle.fit_spec hX).1 (by decide) x0 x1 x2 x5 h
    exact ⟨P, [], rfl, L, fun _ hP => (by cases hP), hm, Option.some.inj (hs.symm.trans htop), trivial⟩
  | Y :: r, X, hX, hn, h => by
    have hY := hn Y List.mem_cons_self
    obtain ⟨P, L, hm, hs⟩ := PassC.ofS_atoms (args := args) (s := s) hpl (X := X) (Y := Y) (Bundle.fit_spec hX).1 (Bundle.fit_spec hY).2 x0 x1 x2 x5 (fun c hc => h c (List.mem_append_left _ hc))
    obtain ⟨Q, Ps, q1, q2, q3, q4, q5, q6⟩ := Bundle.chainS (args := args) hpl htop r Y hY (fun n hn' => hn n (List.mem_cons_of_mem _ hn')) (fun c hc => h c (List.mem_append_right _ hc))
    exact ⟨P, Q :: Ps, congrArg (· + 1) q1, L, List.forall_mem_cons.mpr ⟨q2, q3⟩, hm, Option.some.inj (hs.symm.trans q4), q5, q6⟩
section
variable {p : Program} {l : Launch} {e : Env} {R : Room} {s : State} {m₀ : MethodId} {args : Array Value} {below : List Frame} {meth : Method} {c : Code} {W : State} {locs : List Loc} {cells slots : Nat}
set_option maxHeartbeats 1000000 in
theorem vx_ctorMadeX (X : Stand p l e R s m₀ args below meth c W locs cells slots) (hexec : p.tables.exec = Jvm.exec) (htr : e.platform.stackTraces = false) {own cls : String} {names : List String} {ic : Nat}
    {ix : Nat} {rx : ByteArray} (x0 : decode rx 0 = .ok (.aload_n 0, 1)) (x1 : decode rx 1 = .ok (.aload_n 1, 1)) (x2 : decode rx 2 = .ok (.invokespecial ix, 3)) (x5 : decode rx 5 = .ok (.return_, 1))
    (hown : s.vm.findClass own = some m₀.cls) (hcls : Bundle.fit cls = true) (hnames : ∀ n ∈ names, Bundle.fit n = true)
    (h : ∀ a ∈ vx_own9 own ic cls ix rx names, a.before args s = true)
    (hlocs : ∀ x ∈ locs, ∀ cell, s.heap[x.base]? = some cell → cell.vm.isStatics = false)
    {a : Addr} {cX : ClassId} {kX : Class} (hfoundX : s.vm.findClass cls = some cX) (hkX : s.vm.classes[cX]? = some kX) (hcell : W.heap[a]? = some (freshCell cX kX)) (hnew : s.heap.size ≤ a)
    {msg : Value} (hmsg : msg.isRef = true)
    {g : JFrame} (hg : g.method = m₀) (hsize : g.locals.size = c.maxLocals) {rest : List Value} (hstack : g.stack = msg :: .ref a :: .ref a :: rest)
    (hd6 : decode c.code g.pc = .ok (.invokespecial ic, 3))
    (hRframes : names.length + 3 < R.frames) (hRlocals : 2 * g.monitorRoom + ((Value.ref a :: rest).map fun v => v.category).sum + (13 * (names.length + 1) + 42) ≤ R.locals) :
    ∃ (V : State) (ce : Cell) (L : List Loc), Stand p l e R s m₀ args below meth c (V.setCell a ce) (locs ++ L) cells slots ∧ (∀ y ∈ L, y.base = a) ∧ a < V.heap.size ∧ ce.cls = cX ∧ ce.vm = .none ∧
      ∀ target, Steps p.tables e below ((V.setCell a ce).setTop { g with stack := .ref a :: rest, pc := g.pc + 3 }) target → Steps p.tables e below (W.setTop g) target := by
  have howns : e.platform.frameOwnsMonitors = true := by rw [X.admits.platform]
  have hfin : e.platform.finalization = false := by rw [X.admits.platform]
  have hpl : e.platform.magicAccessors = ({} : Platform).magicAccessors := by rw [X.admits.platform]
  have a' : ∀ x, x ∈ vx_own9 own ic cls ix rx names → x.holds args s none s [] = true := fun x hx => h x hx
  obtain ⟨T, Z0, L, -, Y⟩ := ThrowableC.of_atoms (args := args) howns hfin hpl (fun x hx => h x (by simp [vx_own9, hx]))
  obtain ⟨Z, M, LZ, LM, hnZ⟩ := Init0T.ofS_atoms (args := args) hpl L Y (fun x hx => h x (by simp [vx_own9, hx]))
  obtain ⟨P1, Ps, hlen, L1, hL, hP1m, hlink1, hlink⟩ := vx_chainS (args := args) hpl hnZ x0 x1 x2 x5 names cls hcls hnames (fun x hx => h x (by simp [vx_own9, hx]))
  have hfound : s.vm.findClass cls = some P1.m.cls := findClass_of_methodNamed hP1m
  cases Option.some.inj (hfoundX.symm.trans hfound)
  obtain ⟨c1, kX', hc1, hk, hord, -, -, hn6⟩ := Cond.instantiable_spec (a' (.instantiable cls 6) (by simp [vx_own9, vx_rest]))
  cases Option.some.inj (hc1.symm.trans hfound)
  cases Option.some.inj (hkX.symm.trans hk)
  have hsel0 : selectMethod e.platform s.vm P1.m.cls T.fill0 = .method T.fill0 := by
    obtain ⟨c2, r2, m2, q1, q2, q3, q4, -⟩ := Cond.selects_spec (a' (.selects cls Bundle.tFill0 Bundle.tFill0) (by simp [vx_own9, vx_rest]))
    cases Option.some.inj (q1.symm.trans hfound)
    cases Option.some.inj (q2.symm.trans (State.methodFound?_of_named Y.fill0 (by decide)))
    cases Option.some.inj (q3.symm.trans Y.fill0)
    rw [Launch.admits_selectMethod X.admits]; exact q4
  have hselF : selectMethod e.platform s.vm P1.m.cls T.fill = .method T.fill := by
    obtain ⟨c2, r2, m2, q1, q2, q3, q4, -⟩ := Cond.selects_spec (a' (.selects cls Bundle.tFill Bundle.tFill) (by simp [vx_own9, vx_rest]))
    cases Option.some.inj (q1.symm.trans hfound)
    cases Option.some.inj (q2.symm.trans (State.methodFound?_of_named Y.fill (by decide)))
    cases Option.some.inj (q3.symm.trans Y.fill)
    rw [Launch.admits_selectMethod X.admits]; exact q4
  obtain ⟨cellS0, hcS0, hiss⟩ := Y.statics
  obtain ⟨u0, hu0⟩ := Cond.staticRefV Y.unassigned L.unassignedStatic L.statics hcS0 hiss (a' (.isRef (.static Bundle.tN "UNASSIGNED_STACK" Bundle.steD)) (by simp [vx_own9, vx_rest]))
  obtain ⟨sen, hsen⟩ := Cond.staticRefV Y.sentinel L.sentinelStatic L.statics hcS0 hiss (a' (.isRef (.static Bundle.tN "SUPPRESSED_SENTINEL" Bundle.listD)) (by simp [vx_own9, vx_rest]))
  obtain ⟨ci198, i198, fB, hk198, hg198, ha198, hsB, -, hnB, htB, hffB⟩ := Cond.ownField (t := .object "java/lang/Object") Y.found L.cls (by decide +kernel) (a' (.fieldLink Bundle.tN 198 Bundle.tN "backtrace" "Ljava/lang/Object;") (by simp [vx_own9, vx_rest])) (a' (.lays Bundle.tN Bundle.tN "backtrace" "Ljava/lang/Object;") (by simp [vx_own9, vx_rest])) e.platform hpl
  obtain ⟨cellS, hcS', heS, -, hkeep⟩ := X.same.2.2.2.2.2 T.aS cellS0 hcS0
  have hcellS : W.heap[T.aS]? = some cellS := hcS'
  have hout' : ∀ i, (⟨T.aS, i⟩ : Loc) ∉ locs := fun i hmem => by
    have := hlocs _ hmem cellS0 hcS0
    rw [hiss] at this; cases this
  have hknownS : cellS.vm ≠ .unknown := by
    rw [heS]; intro hu
    rw [show cellS0.vm = .unknown from hu] at hiss
    cases hiss
  have hneS : T.aS ≠ a := Nat.ne_of_lt (Nat.lt_of_lt_of_le (Array.getElem?_eq_some_iff.mp hcS0).1 hnew)
  obtain ⟨iM, hffM⟩ := Y.msg
  obtain ⟨tyC, dC, hdC, hdnC⟩ := Cond.laysAt hfound hk Y.cause (a' (.lays cls Bundle.tN "cause" "Ljava/lang/Throwable;") (by simp [vx_own9, vx_rest]))
  obtain ⟨tyS, dS, hdS, hdnS⟩ := Cond.laysAt hfound hk Y.stack (a' (.lays cls Bundle.tN "stackTrace" Bundle.steD) (by simp [vx_own9, vx_rest]))
  obtain ⟨tyP, dP, hdP, hdnP⟩ := Cond.laysAt hfound hk Y.supp (a' (.lays cls Bundle.tN "suppressedExceptions" Bundle.listD) (by simp [vx_own9, vx_rest]))
  obtain ⟨tyM, dM, hdM, hdnM⟩ := Cond.laysAt hfound hk hffM (a' (.lays cls Bundle.tN "detailMessage" "Ljava/lang/String;") (by simp [vx_own9, vx_rest]))
  obtain ⟨tyB, dB, hdB, hdnB⟩ := Cond.laysAt hfound hk hffB (a' (.lays cls Bundle.tN "backtrace" "Ljava/lang/Object;") (by simp [vx_own9, vx_rest]))
  have bC := Cond.laysApart hdB hdC hdnB hdnC (by rw [hnB, Y.causeName]; decide)
  have bS := Cond.laysApart hdB hdS hdnB hdnS (by rw [hnB, Y.stackName]; decide)
  have bP := Cond.laysApart hdB hdP hdnB hdnP (by rw [hnB, Y.suppName]; decide)
  have hskip : SkipFacts T e.platform s (fun u => u) u0 ((preparedCellV T.toThrowableT (freshCell P1.m.cls kX) a u0 sen).withEntry W.cur) :=
    ⟨{ ci198 := ci198, i198 := i198, fBack := fB }, ⟨hk198, hg198, ha198, hsB⟩, by
      have := fresh_default (c := P1.m.cls) tyB
      rw [htB] at this
      simpa [preparedCellV, Cell.setSlot, Cell.withEntry, Array.getElem?_setIfInBounds, bC, bS, bP, bC.symm, bS.symm, bP.symm, defaultValue] using this, fun _ _ => rfl⟩
  obtain ⟨tm, methC, cdC, kC, vm₁, hnC, -, -, -, -, -, -, -, hW₁, st1⟩ := Steps.initColdS (tb := p.tables) (e := e) (below := below) (s := s) (U := W) X.here hexec X.warmed hpl hown (t := Bundle.initS cls) rfl rfl (Bundle.fit_spec hcls).2
    (a' (.methodLink own ic (Bundle.initS cls)) (by simp [vx_own9, vx_rest])) (h (.instanceMethod (Bundle.initS cls)) (by cases names <;> simp [vx_own9, vx_chain, Bundle.passSAtoms])) (bytes := rx) (maxL := 2) (h (.code (Bundle.initS cls) rx 2 none) (by cases names <;> simp [vx_own9, vx_chain, Bundle.passSAtoms]))
    (f := g) hg (a := a) (msg := msg) (rest := .ref a :: rest) hstack hd6
  cases Option.some.inj (hnC.symm.trans hP1m)
  have X₁ := X.noted hW₁
  obtain ⟨vm₂, X₂, st2⟩ := X₁.ctorMessageOffV hexec (g := { g with stack := .ref a :: rest }) hg hsize T L Z LZ M LM (P1 :: Ps)
    (fun P hP => by rcases List.mem_cons.mp hP with rfl | hP; exact L1; exact hL P hP) ⟨hlink1, hlink⟩ (u0 := u0) (sen := sen) (self := a) hmsg (cell := freshCell P1.m.cls kX) (cellS := cellS)
    hcell (fun _ => by simp) (by simp) rfl rfl hsel0 hselF hcellS hneS hknownS (by rw [hkeep _ (hout' _)]; exact hu0) (by rw [hkeep _ (hout' _)]; exact hsen)
    (Takes.of_laid hk hord tyC (by rw [Y.causeType]; rfl)) (Takes.of_laid hk hord tyS (by rw [Y.stackType]; exact fits_refV_array _ u0)) (Takes.of_laid hk hord tyP (by rw [Y.suppType]; exact fits_refV_object _ sen))
    (Takes.of_laid hk hord tyM (by rw [Y.msgType]; exact fits_refV_object _ ⟨msg, hmsg⟩)) Y.objLocals hskip htr [] hd6
    (by simp only [List.length_cons, hlen]; omega) (by simp only [List.length_cons, hlen]; exact hRlocals)
  have hlt : a < ((W.setVm vm₁).setVm vm₂).heap.size := (Array.getElem?_eq_some_iff.mp hcell).1
  refine ⟨(W.setVm vm₁).setVm vm₂, _, _, X₂, fun y hy => ?_, hlt, rfl, rfl, fun target hwalk => st1 _ (fun acts => ?_)⟩
  · simp only [List.mem_cons, List.not_mem_nil, or_false] at hy
    rcases hy with rfl | rfl | rfl | rfl | rfl <;> rfl
  · rw [doInvoke_state]
    exact st2 _ hwalk
theorem vx_ctorThrowX (X : Stand p l e R s m₀ args below meth c W locs cells slots) (hexec : p.tables.exec = Jvm.exec) (htr : e.platform.stackTraces = false) {own cls : String} {names : List String} {ic : Nat}
    {ix : Nat} {rx : ByteArray} (x0 : decode rx 0 = .ok (.aload_n 0, 1)) (x1 : decode rx 1 = .ok (.aload_n 1, 1)) (x2 : decode rx 2 = .ok (.invokespecial ix, 3)) (x5 : decode rx 5 = .ok (.return_, 1))
    (hown : s.vm.findClass own = some m₀.cls) (hcls : Bundle.fit cls = true) (hnames : ∀ n ∈ names, Bundle.fit n = true) (h : ∀ a ∈ vx_own9 own ic cls ix rx names, a.before args s = true)
    (hlocs : ∀ x ∈ locs, ∀ cell, s.heap[x.base]? = some cell → cell.vm.isStatics = false)
    {a : Addr} {cX : ClassId} {kX : Class} (hfoundX : s.vm.findClass cls = some cX) (hkX : s.vm.classes[cX]? = some kX) (hcell : W.heap[a]? = some (freshCell cX kX)) (hnew : s.heap.size ≤ a)
    {msg : Value} (hmsg : msg.isRef = true) {g : JFrame} (hg : g.method = m₀) (hsize : g.locals.size = c.maxLocals) (hlocked : g.locked = none) (hentered : g.entered = []) {rest : List Value} (hstack : g.stack = msg :: .ref a :: .ref a :: rest)
    (hd6 : decode c.code g.pc = .ok (.invokespecial ic, 3)) (hd9 : decode c.code (g.pc + 3) = .ok (.athrow, 1)) (hout : ∀ x ∈ c.exceptionTable.toList, covers x (g.pc + 3) = false)
    (hRframes : names.length + 3 < R.frames) (hRlocals : 2 * g.monitorRoom + ((Value.ref a :: rest).map fun v => v.category).sum + (13 * (names.length + 1) + 42) ≤ R.locals) (hlocks : meth.locks = false) :
    ∃ U : State, Steps p.tables e below (W.setTop g) U ∧ U.status = .running ∧ Ended U below (.threw a) ∧ s.WarmedH U.vm ∧ s.sameButNew ({ U with vm := s.vm } : State) locs cells slots ∧ ∃ ce : Cell, U.heap[a]? = some ce ∧ s.vm.findClass cls = some ce.cls ∧ ce.vm = .none := by
  obtain ⟨V, ce, L, X₂, hL, hlt, h1, h2, st⟩ := vx_ctorMadeX X hexec htr x0 x1 x2 x5 hown hcls hnames h hlocs hfoundX hkX hcell hnew hmsg hg hsize hstack hd6 hRframes hRlocals
  obtain ⟨hwalk, hrun, hended, hWU, hsame⟩ := X₂.athrowLeaves hexec (g := { g with stack := .ref a :: rest, pc := g.pc + 3 }) hg hlocked hentered hout (a := a) (rest := rest) rfl hd9
  refine ⟨_, st _ hwalk, hrun, hended, hWU, hsame.weaken (fun y hy hlt' => ?_) (Nat.le_refl _) (Nat.le_refl _), ce, heapAt_setCell_self ce hlt, by rw [h1]; exact hfoundX, h2⟩
  rcases List.mem_append.mp hy with q | q
  · exact q
  · rw [hL y q] at hlt'
    exact absurd hlt' (Nat.not_lt.mpr hnew)
end
section
variable {p : Program} {l : Launch} {e : Env} {R : Room} {s : State} {m : MethodId} {args : Array Value} {below : List Frame} {meth : Method} {c : Code} {H : Heap} {locs : List Loc} {cells slots : Nat} {Q : State → Prop}
variable {mc ms : Nat} {free : Addr → Prop} {A0 A1 : Nat → Prop} {H0 : Heap} {a : Array Value} {ls : Array Slot} {st0 rest : List Value}
variable {Qc : Array Value → State → Outcome → State → Prop} {XC : String → State → State → Prop}
theorem vx_throwX {cc : ByteArray} {pc : Nat} (hexec : p.tables.exec = Jvm.exec) (hb : c.code = cc) (hl : l.stackTraces = false) {own cls text : String} {names : List String} {ik is ic mc ms sa : Nat} {A : Nat → Prop}
    {ix : Nat} {rx : ByteArray} (x0 : decode rx 0 = .ok (.aload_n 0, 1)) (x1 : decode rx 1 = .ok (.aload_n 1, 1)) (x2 : decode rx 2 = .ok (.invokespecial ix, 3)) (x5 : decode rx 5 = .ok (.return_, 1))
    (hown : s.vm.findClass own = some m.cls) (hcls : Bundle.fit cls = true) (hnames : ∀ n ∈ names, Bundle.fit n = true)
    (hk : (Cond.classLink own ik cls).before args s = true) (hini : (Cond.initialized cls).before args s = true) (hstr : vk_R own is text sa s) (hat : ∀ w ∈ vx_at9 own ic cls ix rx names, w.before args s = true)
    (hgood : ∀ w ∈ Cond.classLink own ik cls :: Cond.initialized cls :: vx_at9 own ic cls ix rx names, vx_ot w = true)
    (hU : vx_Zq Bundle.tN "UNASSIGNED_STACK" Bundle.steD A s s.heap) (hN : vx_Zq Bundle.tN "SUPPRESSED_SENTINEL" Bundle.listD A s s.heap) (hS : va_S A s.heap H locs) (hsize : ls.size = c.maxLocals)
    (d0 : decode cc pc = .ok (.new ik, 3)) (d3 : decode cc (pc + 3) = .ok (.dup, 1)) (d4 : decode cc (pc + 4) = .ok (.ldc is, 2)) (d6 : decode cc (pc + 6) = .ok (.invokespecial ic, 3)) (d9 : decode cc (pc + 9) = .ok (.athrow, 1))
    (hout : ∀ x ∈ c.exceptionTable.toList, covers x (pc + 9) = false)
    (hRframes : names.length + 3 < R.frames) (hRlocals : (rest.map fun v => v.category).sum + (13 * (names.length + 1) + 43) ≤ R.locals) (hRcells : cells + 1 ≤ R.cells) (hRslots : slots + 6 ≤ R.slots) (hlocks : meth.locks = false)
    (hx : ∀ t : State, s.vm.Alike t.vm → H.size ≤ t.heap.size → (∀ q : Nat, q < H.size → t.heap[q]? = H[q]?) → XC cls s t)
    (hf : ∀ z ∈ locs, free z.base) (hc : cells + 1 ≤ mc) (hs : slots + 6 ≤ ms) :
    W p l e R s m args below meth c H locs cells slots (vx_MQ below Qc XC args s mc ms free) (F0 m pc ls rest) := by
  intro T hT X
  have htr : e.platform.stackTraces = false := (show e.platform.stackTraces = l.stackTraces by rw [X.admits.platform]).trans hl
  have Y := vx_rebase X (R' := { frames := R.frames, locals := R.locals, cells := 1, slots := 6 }) (Nat.le_refl _) (Nat.le_refl _) hRcells hRslots
  obtain ⟨s', hA⟩ : ∃ z, z = (T.setVm s.vm).setFrames (.invoking m args :: below) := ⟨_, rfl⟩
  rw [← hA] at Y
  have hvm : s'.vm = s.vm := by rw [hA]; rfl
  have hhp : s'.heap = H := by rw [hA]; exact hT
  have hW0 : s.WarmedH s'.vm := by rw [hvm]; exact State.WarmedH.refl s
  have hat' : ∀ w ∈ vx_at9 own ic cls ix rx names, w.before args s' = true := fun w hw => vx_ot_at hW0 hvm.symm (hgood w (List.mem_cons_of_mem _ (List.mem_cons_of_mem _ hw))) (hat w hw)
  have hk' : (Cond.classLink own ik cls).before args s' = true := vx_ot_at hW0 hvm.symm (hgood _ List.mem_cons_self) hk
  have hini' : (Cond.initialized cls).before args s' = true := vx_ot_at hW0 hvm.symm (hgood _ (List.mem_cons_of_mem _ List.mem_cons_self)) hini
  have hU' : vx_Zq Bundle.tN "UNASSIGNED_STACK" Bundle.steD A s' s'.heap := by rw [hhp]; exact vx_Zq.moved hW0.alike (hU.kept hS.2.1)
  have hN' : vx_Zq Bundle.tN "SUPPRESSED_SENTINEL" Bundle.listD A s' s'.heap := by rw [hhp]; exact vx_Zq.moved hW0.alike (hN.kept hS.2.1)
  have h : ∀ w ∈ vx_own9 own ic cls ix rx names, w.before args s' = true := vx_own hat' (vx_isRefq hU'.1) (vx_isRefq hN'.1) hU'.2.word hN'.2.word
  have hown' : s'.vm.findClass own = some m.cls := by rw [hvm]; exact hown
  have hins : (Cond.instantiable cls 6).before args s' = true := h _ (by simp [vx_own9, vx_rest])
  obtain ⟨vm₁, cX, kX, hfX, hkX, -, -, X₁, st1⟩ := Y.newCold hexec (own := own) (C := cls) (index := ik) (n := 6) hown' hk' hins hini'
    (g := F0 m pc ls rest) rfl (by rw [hb]; exact d0) (Nat.le_refl _) (Nat.le_refl _)
  generalize hT1 : (T.setVm vm₁).pushCell { cls := cX, slots := kX.instanceTypes.map defaultValue, vm := .none } = T1 at X₁ st1
  have hcat : (Value.ref T.heap.size).category = 1 := rfl
  have hcellA : T1.heap[T.heap.size]? = some (freshCell cX kX) := by rw [← hT1]; exact State.heap_pushCell_size _ _
  have d3' : decode c.code (pc + 3) = .ok (.dup, 1) := by rw [hb]; exact d3
  have d4' : decode c.code (pc + 4) = .ok (.ldc is, 2) := by rw [hb]; exact d4
  have hstr' : vk_R own is text sa s' := vk_R.warm hW0 hstr
  obtain ⟨U, hsteps, hrun, hend, hW, hsame, ce, hce, hO⟩ := vx_ctorThrowX X₁ hexec htr x0 x1 x2 x5 (own := own) (cls := cls) (names := names) (ic := ic) hown' hcls hnames h (fun x hx => nomatch hx) hfX hkX hcellA (by rw [hhp, hT]; exact Nat.le_refl _) (msg := .ref sa) rfl
    (g := { method := m, pc := pc + 6, locals := ls, stack := .ref sa :: .ref T.heap.size :: .ref T.heap.size :: rest, locked := none }) rfl hsize rfl rfl (rest := rest) rfl
    (by rw [hb]; exact d6) (by rw [hb]; exact d9) hout hRframes (by simp only [List.map_cons, List.sum_cons, hcat]; omega) hlocks
  obtain ⟨f1, f2⟩ := vx_frame hsame
  rw [hhp] at f1 f2
  have hWs : s.WarmedH U.vm := State.WarmedH.trans hW0 hW
  have hcl : s.vm.findClass cls = some ce.cls := by
    have h9 := hO.1
    rw [hvm] at h9
    exact h9
  have hall : s.sameButNew ({ U with vm := s.vm } : State) locs mc ms := by
    subst hA
    obtain ⟨e1, e2⟩ := hsame
    rw [State.setFrames_setFrames] at e1
    have h2 : (T.setVm s.vm).sameButNew ({ U with vm := s.vm } : State) [] (0 + 1) (0 + 6) := ⟨e1, e2⟩
    have h3 := X.same.trans h2
    rw [List.append_nil] at h3
    exact h3.mono hc hs
  refine ⟨U, ?_, .threw T.heap.size, hrun, hend, Or.inr ⟨T.heap.size, rfl, cls, ce, locs, hx U hWs.alike f1 (fun q hq => f2 q hq (fun z hz => nomatch hz)), hce, hO.2, hcl, hWs, hall, hf⟩⟩
  refine st1 _ ?_
  show Steps p.tables e below (T1.setTop { method := m, pc := pc + 3, locals := ls, stack := .ref T.heap.size :: rest, locked := none }) _
  jvm_step X₁.here [X₁.here.top, hexec, d3', Value.category]
  exact X₁.ldcString hexec (own := own) (text := text) (index := is) (a := sa) hown' hstr'.1 hstr'.2
    (g := { method := m, pc := pc + 4, locals := ls, stack := .ref T.heap.size :: .ref T.heap.size :: rest, locked := none }) rfl d4' _ hsteps
theorem vx_throwXW {cc : ByteArray} {pc : Nat} (hexec : p.tables.exec = Jvm.exec) (hb : c.code = cc) (hl : l.stackTraces = false) {own cls text : String} {names : List String} {ik is ic mc ms sa : Nat} {A : Nat → Prop}
    {ix : Nat} {rx : ByteArray} (x0 : decode rx 0 = .ok (.aload_n 0, 1)) (x1 : decode rx 1 = .ok (.aload_n 1, 1)) (x2 : decode rx 2 = .ok (.invokespecial ix, 3)) (x5 : decode rx 5 = .ok (.return_, 1))
    (hown : s.vm.findClass own = some m.cls) (hcls : Bundle.fit cls = true) (hnames : ∀ n ∈ names, Bundle.fit n = true)
    (hk : (Cond.classLink own ik cls).before args s = true) (hini : (Cond.initialized cls).before args s = true) (hstr : vk_R own is text sa s) (hat : ∀ w ∈ vx_at9 own ic cls ix rx names, w.before args s = true)
    (hgood : ∀ w ∈ Cond.classLink own ik cls :: Cond.initialized cls :: vx_at9 own ic cls ix rx names, vx_ot w = true)
    (hU : vx_Zq Bundle.tN "UNASSIGNED_STACK" Bundle.steD A s s.heap) (hN : vx_Zq Bundle.tN "SUPPRESSED_SENTINEL" Bundle.listD A s s.heap) (hS : va_S A s.heap H locs) (hsize : ls.size = c.maxLocals)
    (d0 : decode cc pc = .ok (.new ik, 3)) (d3 : decode cc (pc + 3) = .ok (.dup, 1)) (d4 : decode cc (pc + 4) = .ok (.ldc_w is, 3)) (d7 : decode cc (pc + 7) = .ok (.invokespecial ic, 3)) (d10 : decode cc (pc + 10) = .ok (.athrow, 1))
    (hout : ∀ x ∈ c.exceptionTable.toList, covers x (pc + 10) = false)
    (hRframes : names.length + 3 < R.frames) (hRlocals : (rest.map fun v => v.category).sum + (13 * (names.length + 1) + 43) ≤ R.locals) (hRcells : cells + 1 ≤ R.cells) (hRslots : slots + 6 ≤ R.slots) (hlocks : meth.locks = false)
    (hx : ∀ t : State, s.vm.Alike t.vm → H.size ≤ t.heap.size → (∀ q : Nat, q < H.size → t.heap[q]? = H[q]?) → XC cls s t)
    (hf : ∀ z ∈ locs, free z.base) (hc : cells + 1 ≤ mc) (hs : slots + 6 ≤ ms) :
    W p l e R s m args below meth c H locs cells slots (vx_MQ below Qc XC args s mc ms free) (F0 m pc ls rest) := by
  intro T hT X
  have htr : e.platform.stackTraces = false := (show e.platform.stackTraces = l.stackTraces by rw [X.admits.platform]).trans hl
  have Y := vx_rebase X (R' := { frames := R.frames, locals := R.locals, cells := 1, slots := 6 }) (Nat.le_refl _) (Nat.le_refl _) hRcells hRslots
  obtain ⟨s', hA⟩ : ∃ z, z = (T.setVm s.vm).setFrames (.invoking m args :: below) := ⟨_, rfl⟩
  rw [← hA] at Y
  have hvm : s'.vm = s.vm := by rw [hA]; rfl
  have hhp : s'.heap = H := by rw [hA]; exact hT
  have hW0 : s.WarmedH s'.vm := by rw [hvm]; exact State.WarmedH.refl s
  have hat' : ∀ w ∈ vx_at9 own ic cls ix rx names, w.before args s' = true := fun w hw => vx_ot_at hW0 hvm.symm (hgood w (List.mem_cons_of_mem _ (List.mem_cons_of_mem _ hw))) (hat w hw)
  have hk' : (Cond.classLink own ik cls).before args s' = true := vx_ot_at hW0 hvm.symm (hgood _ List.mem_cons_self) hk
  have hini' : (Cond.initialized cls).before args s' = true := vx_ot_at hW0 hvm.symm (hgood _ (List.mem_cons_of_mem _ List.mem_cons_self)) hini
  have hU' : vx_Zq Bundle.tN "UNASSIGNED_STACK" Bundle.steD A s' s'.heap := by rw [hhp]; exact vx_Zq.moved hW0.alike (hU.kept hS.2.1)
  have hN' : vx_Zq Bundle.tN "SUPPRESSED_SENTINEL" Bundle.listD A s' s'.heap := by rw [hhp]; exact vx_Zq.moved hW0.alike (hN.kept hS.2.1)
  have h : ∀ w ∈ vx_own9 own ic cls ix rx names, w.before args s' = true := vx_own hat' (vx_isRefq hU'.1) (vx_isRefq hN'.1) hU'.2.word hN'.2.word
  have hown' : s'.vm.findClass own = some m.cls := by rw [hvm]; exact hown
  have hins : (Cond.instantiable cls 6).before args s' = true := h _ (by simp [vx_own9, vx_rest])
  obtain ⟨vm₁, cX, kX, hfX, hkX, -, -, X₁, st1⟩ := Y.newCold hexec (own := own) (C := cls) (index := ik) (n := 6) hown' hk' hins hini'
    (g := F0 m pc ls rest) rfl (by rw [hb]; exact d0) (Nat.le_refl _) (Nat.le_refl _)
  generalize hT1 : (T.setVm vm₁).pushCell { cls := cX, slots := kX.instanceTypes.map defaultValue, vm := .none } = T1 at X₁ st1
  have hcat : (Value.ref T.heap.size).category = 1 := rfl
  have hcellA : T1.heap[T.heap.size]? = some (freshCell cX kX) := by rw [← hT1]; exact State.heap_pushCell_size _ _
  have d3' : decode c.code (pc + 3) = .ok (.dup, 1) := by rw [hb]; exact d3
  have d4' : decode c.code (pc + 4) = .ok (.ldc_w is, 3) := by rw [hb]; exact d4
  have hstr' : vk_R own is text sa s' := vk_R.warm hW0 hstr
  obtain ⟨U, hsteps, hrun, hend, hW, hsame, ce, hce, hO⟩ := vx_ctorThrowX X₁ hexec htr x0 x1 x2 x5 (own := own) (cls := cls) (names := names) (ic := ic) hown' hcls hnames h (fun x hx => nomatch hx) hfX hkX hcellA (by rw [hhp, hT]; exact Nat.le_refl _) (msg := .ref sa) rfl
    (g := { method := m, pc := pc + 7, locals := ls, stack := .ref sa :: .ref T.heap.size :: .ref T.heap.size :: rest, locked := none }) rfl hsize rfl rfl (rest := rest) rfl
    (by rw [hb]; exact d7) (by rw [hb]; exact d10) hout hRframes (by simp only [List.map_cons, List.sum_cons, hcat]; omega) hlocks
  obtain ⟨f1, f2⟩ := vx_frame hsame
  rw [hhp] at f1 f2
  have hWs : s.WarmedH U.vm := State.WarmedH.trans hW0 hW
  have hcl : s.vm.findClass cls = some ce.cls := by
    have h9 := hO.1
    rw [hvm] at h9
    exact h9
  have hall : s.sameButNew ({ U with vm := s.vm } : State) locs mc ms := by
    subst hA
    obtain ⟨e1, e2⟩ := hsame
    rw [State.setFrames_setFrames] at e1
    have h2 : (T.setVm s.vm).sameButNew ({ U with vm := s.vm } : State) [] (0 + 1) (0 + 6) := ⟨e1, e2⟩
    have h3 := X.same.trans h2
    rw [List.append_nil] at h3
    exact h3.mono hc hs
  refine ⟨U, ?_, .threw T.heap.size, hrun, hend, Or.inr ⟨T.heap.size, rfl, cls, ce, locs, hx U hWs.alike f1 (fun q hq => f2 q hq (fun z hz => nomatch hz)), hce, hO.2, hcl, hWs, hall, hf⟩⟩
  refine st1 _ ?_
  show Steps p.tables e below (T1.setTop { method := m, pc := pc + 3, locals := ls, stack := .ref T.heap.size :: rest, locked := none }) _
  jvm_step X₁.here [X₁.here.top, hexec, d3', Value.category]
  exact X₁.ldcStringW hexec (own := own) (text := text) (index := is) (a := sa) hown' hstr'.1 hstr'.2
    (g := { method := m, pc := pc + 4, locals := ls, stack := .ref T.heap.size :: .ref T.heap.size :: rest, locked := none }) rfl d4' _ hsteps
end
end
section
/-! a method's contract: what the small machine says of it holds on the real one -/
def ev_rm (d mc ms : Nat) : Room := { frames := d + 20, cells := mc, slots := ms, locals := 60 * d + 400 }
theorem ev_rm_f {d mc ms : Nat} : (ev_rm d mc ms).frames = d + 20 := rfl
theorem ev_rm_l {d mc ms : Nat} : (ev_rm d mc ms).locals = 60 * d + 400 := rfl
def ev_cw (M : ev_MD) : Cond := match M.2.2.2.2.2.1 with
  | [] => .code M.2.1 M.2.2.1 M.2.2.2.1 M.2.2.2.2.1
  | q :: r => .codeWith M.2.1 M.2.2.1 M.2.2.2.1 M.2.2.2.2.1 (q :: r)
def ev_wd (B : ev_B) (M : ev_MD) : List Cond := ev_cw M :: ev_Tb B
/-- a method that stands in the tables -/
def ev_MK (B : ev_B) (M : ev_MD) : Prop := plainName M.2.1.cls = true ∧ (∀ q ∈ M.2.2.2.2.2.2, decode M.2.2.1 q.1 = .ok q.2) ∧ ev_cn B M.1 = M.2.1.cls ∧ (M.2.2.2.2.2.1 = [] ∨ M.1 = 11) ∧ ev_cw M ∈ ev_Tb B
def ev_Pc (G : ev_G) (B : ev_B) (D : va_G) (T : Nat → ClassId) (κ ρ : Nat → Nat) (sz : Nat) (h : ev_AH) (A : List Value) : Array Value → State → Prop :=
  va_Pc (A.map (ev_cv ρ)) (fun U => U.heap.size = sz ∧ va_P D (ev_cl B) (ev_wl T ρ h.1) U.heap ∧ va_K D (ev_cl B) (ev_tys T (ev_CN B)) U ∧ va_D (fun _ => True) (ev_wl T ρ h.1) ∧ ev_En G B κ (va_A (ev_wl T ρ h.1) sz) U U.heap)
def ev_aft (B : ev_B) (D : va_G) (T : Nat → ClassId) (ρ : Nat → Nat) (sz : Nat) (h : ev_AH) (ρ' : Nat → Nat) (h' : ev_AH) (Hh : Heap) : Prop :=
  ev_ex2 ρ ρ' h.1.length ∧ va_P D (ev_cl B) (ev_wl T ρ' h'.1) Hh ∧ va_D (va_A (ev_wl T ρ h.1) sz) (ev_wl T ρ' h'.1) ∧ ∀ c ∈ h'.1, ev_okc h'.1.length c
def ev_Qc (B : ev_B) (D : va_G) (T : Nat → ClassId) (ρ : Nat → Nat) (sz : Nat) (h h' : ev_AH) (o : ev_O) : Array Value → State → Outcome → State → Prop := fun _ st oc t =>
  (∃ (ρ' : Nat → Nat) (v : Option Value), o = .inl v ∧ oc = .returned (v.map (ev_cv ρ')) ∧ (∀ w, v = some w → ev_ok h'.1.length w) ∧ ev_aft B D T ρ sz h ρ' h' t.heap) ∧ va_F (va_A (ev_wl T ρ h.1) sz) st t
def ev_Xc (B : ev_B) (D : va_G) (T : Nat → ClassId) (ρ : Nat → Nat) (sz : Nat) (h h' : ev_AH) (o : ev_O) : String → State → State → Prop := fun E st t =>
  (∃ (ρ' : Nat → Nat) (x : Nat), o = .inr x ∧ E = ev_xn B x ∧ ev_aft B D T ρ sz h ρ' h' t.heap) ∧ va_F (va_A (ev_wl T ρ h.1) sz) st t
theorem ev_En_same {G : ev_G} {B : ev_B} {κ : Nat → Nat} {A : Nat → Prop} {u U : State} {H : Heap} (hng : ∀ w ∈ ev_NG B, w.onTables = true) (hv : u.vm = U.vm) (h : ev_En G B κ A u H) : ev_En G B κ A U H := by
  obtain ⟨h1, h2, h3, h4, h5, h6, h7, h8⟩ := h
  have hvm : u.vm.Alike U.vm := by rw [hv]; exact Vm.Alike.refl U.vm
  exact ⟨fun q hq => (h1 q hq).same hv.symm, fun q hq => (h2 q hq).moved hvm, fun a x ha hx => ev_cc_moved hvm (h3 a x ha hx), fun w hw => va_Nw.same (hng w hw) hv (h4 w hw), h5.moved hvm, h6.moved hvm, h7.moved hvm, fun q hq => (h8 q hq).moved hvm⟩
theorem ev_Pc_blind {G : ev_G} {B : ev_B} {D : va_G} {T : Nat → ClassId} {κ ρ : Nat → Nat} {sz : Nat} {h : ev_AH} {A : List Value} (hng : ∀ w ∈ ev_NG B, w.onTables = true) : FrameBlind (ev_Pc G B D T κ ρ sz h A) := by
  intro a U g mk q
  obtain ⟨q0, q1, qP, qK, qD, qE⟩ := q
  exact ⟨q0, q1, qP, va_K.moved (u := U) (U := U.calling g mk a) (Vm.Alike.refl U.vm) qK, qD, ev_En_same (u := U) (U := U.calling g mk a) hng rfl qE⟩
theorem ev_largs : ∀ (vs : List Value) (k i : Nat) (v : Value), (∀ w ∈ vs, w.category = 1) → vs[i]? = some v → (k + i, v) ∈ lv_args k vs
  | [], _, _, _, _, h => by simp at h
  | w :: vs, k, 0, v, hc, h => by
    simp at h
    subst h
    exact List.mem_cons_self
  | w :: vs, k, i + 1, v, hc, h => by
    simp only [lv_args]
    rw [if_neg (by rw [hc w List.mem_cons_self]; decide)]
    have := ev_largs vs (k + 1) i v (fun x hx => hc x (List.mem_cons_of_mem _ hx)) (by simpa using h)
    rw [show k + (i + 1) = k + 1 + i by omega]
    exact List.mem_cons_of_mem _ this
theorem ev_sl_len : ∀ (vs : List Value), (∀ w ∈ vs, w.category = 1) → (lg_sl vs).length = vs.length
  | [], _ => rfl
  | w :: vs, hc => by
    have := ev_sl_len vs (fun x hx => hc x (List.mem_cons_of_mem _ hx))
    simp only [lg_sl, List.flatMap_cons, List.length_append, List.length_cons] at this ⊢
    rw [if_neg (by rw [hc w List.mem_cons_self]; decide), this]
    simp
    omega
theorem ev_entry {ρ : Nat → Nat} {n : Nat} {M : ev_MD} {A : List Value} (m : MethodId) (h1 : A.all ev_cat1 = true) (h2 : A.length ≤ M.2.2.2.1) (hok : ∀ v ∈ A, ev_ok n v) : ∃ ls, entryFrame m (A.map (ev_cv ρ)).toArray M.2.2.2.1 = F0 m 0 ls [] ∧ ev_LR ρ n M.2.2.2.1 (ev_en M A) ls := by
  have hc : ∀ w ∈ A.map (ev_cv ρ), w.category = 1 := fun w hw => by
    obtain ⟨v, hv, rfl⟩ := List.mem_map.mp hw
    exact ev_cat1_ok ρ (List.all_eq_true.mp h1 v hv)
  have hlen := ev_sl_len _ hc
  rw [List.length_map] at hlen
  have hl := lv_entry (A.map (ev_cv ρ)) (n := M.2.2.2.1) (by rw [hlen]; exact h2)
  refine ⟨_, lg_entry_eq _ _ _, hl.1, by simp [ev_en]; omega, hl.2.1, fun i v hv => ?_⟩
  unfold ev_en at hv
  rcases Nat.lt_or_ge i A.length with hi | hi
  · rw [List.getElem?_append_left (by simpa using hi), List.getElem?_map] at hv
    cases hA : A[i]? with
    | none => rw [hA] at hv; cases hv
    | some w =>
      rw [hA] at hv
      cases hv
      refine ⟨hl.2.2 (i, ev_cv ρ v) ?_, hok v (List.mem_of_getElem? hA)⟩
      have := ev_largs (A.map (ev_cv ρ)) 0 i (ev_cv ρ v) hc (by rw [List.getElem?_map, hA]; rfl)
      rwa [Nat.zero_add] at this
  · rw [List.getElem?_append_right (by simpa using hi)] at hv
    rw [List.getElem?_replicate] at hv
    split at hv <;> cases hv
theorem ev_vA {A0 : Nat → Prop} {ws : va_W} {H0 H : Heap} {locs : List Loc} (hD : va_D A0 ws) (hS : va_S A0 H0 H locs) (hA : ∀ q, H0.size ≤ q → A0 q) : ∀ q, va_A ws H.size q → A0 q := by
  intro q h
  rcases h with ⟨k, e, h⟩ | h
  · exact hD.2 k (q, e) h
  · exact hA q (Nat.le_trans hS.1 h)
/-- a handler's class entry: it takes the exception (1), or doesn't (0) -/
def ev_V10 (G : ev_G) (B : ev_B) : Prop := ∀ (ct E : Nat), (ev_hc G ct E = some 1 → ct ≠ 0 ∧ ∃ nm : String, Cond.classLink (ev_cn B 11) ct nm ∈ ev_Tb B ∧ Cond.castable (ev_xn B E) nm ∈ ev_NG B) ∧ (ev_hc G ct E = some 0 → ct ≠ 0 ∧ ∃ nm : String, Cond.classLink (ev_cn B 11) ct nm ∈ ev_Tb B ∧ (ev_xn B E, nm) ∈ ev_NC B)
/-- the words of 'throw new E(text)' -/
def ev_V11 (G : ev_G) (B : ev_B) : Prop := ∀ (i is ic E : Nat), ev_ex G i is ic = some E → ∃ (names : List String) (tx : String) (a ix : Nat) (rx : ByteArray), Bundle.fit (ev_xn B E) = true ∧ (∀ n ∈ names, Bundle.fit n = true) ∧ names.length ≤ 5 ∧ Cond.classLink (ev_cn B 0) i (ev_xn B E) ∈ ev_Tb B ∧ Cond.initialized (ev_xn B E) ∈ ev_Tb B ∧ (ev_cn B 0, is, tx, a) ∈ ev_SS B ∧
  (∀ w ∈ vx_at9 (ev_cn B 0) ic (ev_xn B E) ix rx names, w ∈ ev_Tb B ∨ w ∈ ev_NG B) ∧ (∀ w ∈ Cond.classLink (ev_cn B 0) i (ev_xn B E) :: Cond.initialized (ev_xn B E) :: vx_at9 (ev_cn B 0) ic (ev_xn B E) ix rx names, vx_ot w = true) ∧
  decode rx 0 = .ok (.aload_n 0, 1) ∧ decode rx 1 = .ok (.aload_n 1, 1) ∧ decode rx 2 = .ok (.invokespecial ix, 3) ∧ decode rx 5 = .ok (.return_, 1)
def ev_Vn (B : ev_B) : Prop := (∀ w ∈ ev_NG B, w.onTables = true) ∧ (∀ w ∈ ev_NG B, ev_ngk w = true) ∧ (∀ w ∈ ev_Tb B, goodWord w = true)
theorem ev_hd_none {G : ev_G} {B : ev_B} {M : ev_MD} {s : State} {args : Array Value} {pc E : Nat} (hV : ev_V10 G B) (hts : ∀ w ∈ ev_Tb B, w.before args s = true) (hnc : ∀ q ∈ ev_NC B, va_Nc q.1 q.2 s) : ∀ (hh : List (Nat × Nat × Nat × Nat)), ev_hd G M pc E hh = some none →
    ∀ z ∈ tableOf hh, covers z pc = false ∨ (z.catchType ≠ 0 ∧ ∃ nm : String, (Cond.classLink (ev_cn B 11) z.catchType nm).before args s = true ∧ va_Nc (ev_xn B E) nm s)
  | [], _, z, hz => by cases hz
  | (lo, hi, tg, ct) :: r, h, z, hz => by
    unfold ev_hd at h
    rw [Bool.cond_eq_ite] at h
    have hz' : z = ⟨lo, hi, tg, ct⟩ ∨ z ∈ tableOf r := by simpa [tableOf] using hz
    split at h
    · split at h
      · split at h <;> cases h
      · rename_i hhc
        rcases hz' with rfl | hz'
        · obtain ⟨h0, nm, h1, h2⟩ := (hV ct E).2 hhc
          exact Or.inr ⟨h0, nm, hts _ h1, hnc _ h2⟩
        · exact ev_hd_none hV hts hnc r h z hz'
      · cases h
    · rename_i hcov
      rcases hz' with rfl | hz'
      · left
        rw [Bool.and_eq_true] at hcov
        show (decide (lo ≤ pc) && decide (pc < hi)) = false
        cases h1 : decide (lo ≤ pc) with
        | false => rfl
        | true =>
          cases h2 : decide (pc < hi) with
          | false => rfl
          | true => exact absurd ⟨Nat.ble_eq_true_of_le (of_decide_eq_true h1), Nat.ble_eq_true_of_le (of_decide_eq_true h2)⟩ hcov
      · exact ev_hd_none hV hts hnc r h z hz'
def ev_CT (B : ev_B) (M : ev_MD) (s : State) (args : Array Value) (pc E pc' j : Nat) (hh : List (Nat × Nat × Nat × Nat)) : Prop :=
  ∃ (pre : List ExceptionTableEntry) (x : ExceptionTableEntry) (suf : List ExceptionTableEntry) (nm : String), tableOf hh = pre ++ x :: suf ∧ (∀ z ∈ pre, covers z pc = false ∨ (z.catchType ≠ 0 ∧ ∃ nm : String, (Cond.classLink (ev_cn B 11) z.catchType nm).before args s = true ∧ va_Nc (ev_xn B E) nm s)) ∧ covers x pc = true ∧ x.catchType ≠ 0 ∧ Cond.classLink (ev_cn B 11) x.catchType nm ∈ ev_Tb B ∧ Cond.castable (ev_xn B E) nm ∈ ev_NG B ∧
      ((∃ k : Fin 4, ev_lk M.2.2.2.2.2.2 x.handlerPc = some (.astore_n k, 1) ∧ pc' = x.handlerPc + 1 ∧ j = k.val) ∨ (ev_lk M.2.2.2.2.2.2 x.handlerPc = some (.astore j, 2) ∧ pc' = x.handlerPc + 2))
theorem ev_hd_some {G : ev_G} {B : ev_B} {M : ev_MD} {s : State} {args : Array Value} {pc E pc' j : Nat} (hV : ev_V10 G B) (hts : ∀ w ∈ ev_Tb B, w.before args s = true) (hnc : ∀ q ∈ ev_NC B, va_Nc q.1 q.2 s) : ∀ (hh : List (Nat × Nat × Nat × Nat)), ev_hd G M pc E hh = some (some (pc', j)) →
    ev_CT B M s args pc E pc' j hh
  | [], h => by simp [ev_hd] at h
  | (lo, hi, tg, ct) :: r, h => by
    have hrest : (covers ⟨lo, hi, tg, ct⟩ pc = false ∨ (ct ≠ 0 ∧ ∃ nm : String, (Cond.classLink (ev_cn B 11) ct nm).before args s = true ∧ va_Nc (ev_xn B E) nm s)) → ev_hd G M pc E r = some (some (pc', j)) → ev_CT B M s args pc E pc' j ((lo, hi, tg, ct) :: r) := fun hp hr => by
      obtain ⟨pre, x, suf, nm, e1, e2, e3⟩ := ev_hd_some hV hts hnc r hr
      refine ⟨⟨lo, hi, tg, ct⟩ :: pre, x, suf, nm, ?_, ?_, e3⟩
      · show (⟨lo, hi, tg, ct⟩ : ExceptionTableEntry) :: tableOf r = _
        rw [e1]
        rfl
      · intro z hz
        rcases List.mem_cons.mp hz with rfl | hz
        · exact hp
        · exact e2 z hz
    unfold ev_hd at h
    rw [Bool.cond_eq_ite] at h
    split at h
    · rename_i hcov
      rw [Bool.and_eq_true] at hcov
      split at h
      · rename_i hhc
        obtain ⟨h0, nm, h1, h2⟩ := (hV ct E).1 hhc
        have hcv : covers (⟨lo, hi, tg, ct⟩ : ExceptionTableEntry) pc = true := by
          show (decide (lo ≤ pc) && decide (pc < hi)) = true
          rw [Bool.and_eq_true]
          exact ⟨decide_eq_true (Nat.le_of_ble_eq_true hcov.1), decide_eq_true (Nat.le_of_ble_eq_true hcov.2)⟩
        split at h
        · rename_i k hk
          cases h
          exact ⟨[], ⟨lo, hi, tg, ct⟩, tableOf r, nm, rfl, (fun z hz => absurd hz List.not_mem_nil), hcv, h0, h1, h2, Or.inl ⟨k, hk, rfl, rfl⟩⟩
        · rename_i k hk
          cases h
          exact ⟨[], ⟨lo, hi, tg, ct⟩, tableOf r, nm, rfl, (fun z hz => absurd hz List.not_mem_nil), hcv, h0, h1, h2, Or.inr ⟨hk, rfl⟩⟩
        · cases h
      · rename_i hhc
        obtain ⟨h0, nm, h1, h2⟩ := (hV ct E).2 hhc
        exact hrest (Or.inr ⟨h0, nm, hts _ h1, hnc _ h2⟩) h
      · cases h
    · rename_i hcov
      refine hrest (Or.inl ?_) h
      rw [Bool.and_eq_true] at hcov
      show (decide (lo ≤ pc) && decide (pc < hi)) = false
      cases h1 : decide (lo ≤ pc) with
      | false => rfl
      | true =>
        cases h2 : decide (pc < hi) with
        | false => rfl
        | true => exact absurd ⟨Nat.ble_eq_true_of_le (of_decide_eq_true h1), Nat.ble_eq_true_of_le (of_decide_eq_true h2)⟩ hcov
theorem ev_lk_mem {α : Type} {l : List (Nat × α)} {i : Nat} {v : α} (h : ev_lk l i = some v) : (i, v) ∈ l := by
  induction l with
  | nil => cases h
  | cons q r ih =>
    obtain ⟨k, w⟩ := q
    unfold ev_lk at h
    rw [Bool.cond_eq_ite] at h
    split at h
    · rename_i hk
      cases h
      rw [Nat.eq_of_beq_eq_true hk]
      exact List.mem_cons_self
    · exact List.mem_cons_of_mem _ (ih h)
end
section
/-! THE SMALL MACHINE'S RUNS ARE THE REAL ONE'S -/
/-- calls, class of the code and entry: what the tables must say -/
def ev_V9b (B : ev_B) (k i kd n rc : Nat) (M : ev_MD) : Prop :=
  (kd = 10 → Cond.methodLink (ev_cn B k) i objectInit ∈ ev_Tb B ∧ Cond.instanceMethod objectInit ∈ ev_Tb B ∧ Cond.code objectInit ⟨#[0xb1]⟩ 1 none ∈ ev_Tb B) ∧
  (kd = 13 → Cond.methodLink (ev_cn B k) i arraycopyName ∈ ev_Tb B ∧ Cond.native arraycopyName ∈ ev_Tb B ∧ Cond.static arraycopyName ∈ ev_Tb B ∧ Cond.initialized "java/lang/System" ∈ ev_Tb B) ∧
  (kd ≠ 13 → kd ≠ 10 → kd ≠ 11 → kd ≠ 12 → ev_MK B M ∧ Cond.initialized M.2.1.cls ∈ ev_Tb B ∧ (M.2.1.cls ≠ "java/lang/invoke/MethodHandle" ∧ M.2.1.cls ≠ "java/lang/invoke/VarHandle") ∧ (parseMethodDescriptor M.2.1.desc).map (fun d => d.parameters.length) = some n ∧
    (kd = 8 ↔ M.2.2.2.2.2.1 ≠ []) ∧
    (kd = 0 ∨ kd = 2 ∨ kd = 4 ∨ kd = 7 ∨ kd = 8 → Cond.methodLink (ev_cn B k) i M.2.1 ∈ ev_Tb B) ∧
    (kd = 1 ∨ kd = 3 ∨ kd = 5 → ∃ host, Cond.methodLinkNest (ev_cn B k) i M.2.1 host ∈ ev_NG B) ∧
    (kd = 2 ∨ kd = 3 ∨ kd = 8 → Cond.static M.2.1 ∈ ev_Tb B) ∧
    (kd = 0 ∨ kd = 1 ∨ kd = 4 ∨ kd = 5 ∨ kd = 6 ∨ kd = 7 → Cond.instanceMethod M.2.1 ∈ ev_Tb B) ∧
    (kd = 0 ∨ kd = 1 → ∃ (C : String) (F : u_T) (N : Nat), (ev_cl B)[rc]? = some (C, F, N) ∧ Cond.selects C M.2.1 M.2.1 ∈ ev_Tb B) ∧
    (kd = 4 ∨ kd = 5 → M.2.1.name = "<init>" ∧ M.2.2.2.2.1 = none) ∧
    (kd = 7 → M.2.1.name ≠ "<init>" ∧ Cond.sameMethod M.2.1.cls M.2.1.cls M.2.1.name M.2.1.desc ∈ ev_Tb B ∧ Cond.superclass (ev_cn B k) M.2.1.cls ∈ ev_Tb B ∧ ∃ (C : String) (F : u_T) (N : Nat), (ev_cl B)[rc]? = some (C, F, N) ∧ C = ev_cn B k) ∧
    (kd = 6 → ∃ (y0 : MethodName) (b0 : ByteArray) (m0 : Nat) (r0 : Option FieldType), Cond.methodLink (ev_cn B k) i y0 ∈ ev_Tb B ∧ (y0.cls ≠ "java/lang/invoke/MethodHandle" ∧ y0.cls ≠ "java/lang/invoke/VarHandle") ∧ (parseMethodDescriptor y0.desc).map (fun d => d.parameters.length) = some n ∧ Cond.sameMethod y0.cls y0.cls y0.name y0.desc ∈ ev_Tb B ∧ Cond.instanceMethod y0 ∈ ev_Tb B ∧ Cond.code y0 b0 m0 r0 ∈ ev_Tb B ∧ ∃ (C : String) (F : u_T) (N : Nat), (ev_cl B)[rc]? = some (C, F, N) ∧ Cond.selects C y0 M.2.1 ∈ ev_Tb B)) ∧
  (kd = 11 → Cond.methodLink (ev_cn B k) i Lib.Math.min.name ∈ ev_Tb B ∧ Cond.static Lib.Math.min.name ∈ ev_Tb B ∧ Cond.initialized "java/lang/Math" ∈ ev_Tb B ∧ Cond.code Lib.Math.min.name Lib.Math.min.code 2 (some .int) ∈ ev_Tb B) ∧
  (kd = 12 → Cond.methodLink (ev_cn B k) i Lib.Math.max.name ∈ ev_Tb B ∧ Cond.static Lib.Math.max.name ∈ ev_Tb B ∧ Cond.initialized "java/lang/Math" ∈ ev_Tb B ∧ Cond.code Lib.Math.max.name Lib.Math.max.code 2 (some .int) ∈ ev_Tb B)
def ev_V9 (G : ev_G) (B : ev_B) : Prop := ∀ (k i kd n rc : Nat) (M : ev_MD), ev_ct G k i = some (kd, n, rc, M) → ev_V9b B k i kd n rc M
def ev_VV (G : ev_G) (B : ev_B) : Prop := ev_V G B ∧ ev_V9 G B ∧ ev_V10 G B ∧ ev_V11 G B ∧ ev_Vn B
/-- a run of n steps is the real machine's, up to its end: kret at a return, kthr where an exception leaves the method, kth where one is made and thrown -/
def ev_Snd (G : ev_G) (B : ev_B) (n : Nat) : Prop := ∀ (d : Nat) (M : ev_MD) (pc : Nat) (L : ev_VL) (S : List Value) (h : ev_AH) (o : ev_O) (h' : ev_AH), ev_F G n d M pc L S h = some (o, h') →
  ∀ (D : va_G) (T : Nat → ClassId) (κ ρ : Nat → Nat) (A : Nat → Prop) (p : Program) (l : Launch) (e : Env) (R : Room) (s : State) (m : MethodId) (args : Array Value) (below : List Frame) (meth : Method) (c : Code) (H : Heap) (locs : List Loc) (cells slots k0 s0 : Nat) (Q : State → Prop) (ls : Array Slot) (st : List Value),
  ev_Fx G B M D T κ A p l s m args meth c → ev_SR ρ h.1.length S st → ev_LR ρ h.1.length M.2.2.2.1 L ls → ev_HR D T (ev_cl B) A s.heap κ ρ k0 s0 h H locs cells slots → d + 20 ≤ R.frames → 60 * d + 400 ≤ R.locals → h'.2.1 ≤ k0 + R.cells → h'.2.2 ≤ s0 + R.slots →
  (∀ (v : Option Value) (i : Instr) (pc' : Nat) (S' st' : List Value) (ls' : Array Slot) (ρ' : Nat → Nat) (H' : Heap) (locs' : List Loc) (cells' slots' : Nat), o = .inl v → decode M.2.2.1 pc' = .ok (i, 1) → ev_e M S' i = some v → ev_SR ρ' h'.1.length S' st' → ev_HR D T (ev_cl B) A s.heap κ ρ' k0 s0 h' H' locs' cells' slots' → ev_ex2 ρ ρ' h.1.length → W p l e R s m args below meth c H' locs' cells' slots' Q (F0 m pc' ls' st')) →
  (∀ (E q : Nat) (ce : Cell) (pc' : Nat) (ls' : Array Slot) (rest : List Value) (ρ' : Nat → Nat) (H' : Heap) (locs' : List Loc) (cells' slots' : Nat), o = .inr E → ev_hd G M pc' E M.2.2.2.2.2.1 = some none → ev_HR D T (ev_cl B) A s.heap κ ρ' k0 s0 h' H' locs' cells' slots' → ev_ex2 ρ ρ' h.1.length → H'[q]? = some ce → ce.vm = .none → s.vm.findClass (ev_xn B E) = some ce.cls → vx_W p l e R s m args below meth c H' locs' cells' slots' Q (F0 m pc' ls' rest) q) →
  (∀ (E j pc' : Nat) (S' st' : List Value) (ls' : Array Slot) (ρ' : Nat → Nat) (h1 : ev_AH) (H' : Heap) (locs' : List Loc) (cells' slots' : Nat), o = .inr E → decode M.2.2.1 pc' = .ok (.new j, 3) → ev_th G M pc' j = some E → M.2.2.2.2.2.1 = [] → M.1 = 0 → ev_cs S' = true → ls'.size = M.2.2.2.1 → ev_SR ρ' h1.1.length S' st' → ev_HR D T (ev_cl B) A s.heap κ ρ' k0 s0 h1 H' locs' cells' slots' → h' = (h1.1, h1.2.1 + 1, h1.2.2 + 6) → ev_ex2 ρ ρ' h.1.length → W p l e R s m args below meth c H' locs' cells' slots' Q (F0 m pc' ls' st')) →
  W p l e R s m args below meth c H locs cells slots Q (F0 m pc ls st)
theorem ev_cs_ok {ρ : Nat → Nat} {S : List Value} (h : ev_cs S = true) : ((S.map (ev_cv ρ)).map fun v => v.category).sum ≤ 8 := by
  unfold ev_cs at h
  have h1 := Nat.le_of_ble_eq_true h
  rw [List.map_map]
  have : ((fun v => Value.category v) ∘ ev_cv ρ) = fun v => Value.category v := by
    funext v
    exact ev_cv_cat ρ v
  rw [this]
  exact h1
theorem ev_nret {p : Program} {l : Launch} {e : Env} {R : Room} {s : State} {m : MethodId} {args : Array Value} {below : List Frame} {meth : Method} {c : Code} {H : Heap} {locs : List Loc} {cells slots : Nat} {cc : ByteArray} {Qc : Array Value → State → Outcome → State → Prop} {free : Addr → Prop} {x v : Int32} {ty : FieldType} (hexec : p.tables.exec = Jvm.exec) (hb : c.code = cc) (hr : meth.sig.returnType = some ty) (hn : narrow ty (.int x) = .int v)
    (hq : ∀ t : State, t.heap = H → s.WarmedH t.vm → Qc args s (.returned (some (.int v))) t) (hf : ∀ q ∈ locs, free q.base)
    {pc : Nat} {ls : Array Slot} (hdg : decode cc pc = .ok (.ireturn, 1)) (hlocks : meth.locks = false) : W p l e R s m args below meth c H locs cells slots (MQ below Qc args s cells slots free) (F0 m pc ls [.int x]) := by
  intro T hT X
  obtain ⟨fs, hret, hrun, hended, hW, hframe⟩ := X.leave (v := some (.int v)) (fun h => by rw [hr] at h; cases h)
  have hmeth' : T.vm.method? m = some meth := X.method'
  refine ⟨T.setFrames fs, ?_, .returned (some (.int v)), hrun, hended, hq _ hT hW, locs, ⟨⟨_, rfl⟩, hW, hframe⟩, hf⟩
  jvm_step X.here [X.here.top, hexec, hb, hdg, hmeth', hr, hn]
  (try refine ⟨rfl, ?_⟩); (try refine ⟨rfl, ?_⟩)
  first | (intro acts; rw [hret _ acts rfl rfl rfl]) | rw [hret _ _ rfl rfl rfl]
  exact Steps.refl _
theorem ev_ret_ok {G : ev_G} {B : ev_B} {M : ev_MD} {D : va_G} {T : Nat → ClassId} {κ ρ ρ' : Nat → Nat} {p : Program} {l : Launch} {e : Env} {R : Room} {s : State} {m : MethodId} {args : Array Value} {below : List Frame} {meth : Method} {c : Code} {H' : Heap} {locs' : List Loc} {cells' slots' : Nat} {h h' : ev_AH} {v : Option Value} {i : Instr} {pc' : Nat} {S' st' : List Value} {ls' : Array Slot} {XC : String → State → State → Prop}
    (F : ev_Fx G B M D T κ (va_A (ev_wl T ρ h.1) s.heap.size) p l s m args meth c) (hd : decode M.2.2.1 pc' = .ok (i, 1)) (he : ev_e M S' i = some v) (hR : ev_SR ρ' h'.1.length S' st') (hH : ev_HR D T (ev_cl B) (va_A (ev_wl T ρ h.1) s.heap.size) s.heap κ ρ' h.2.1 h.2.2 h' H' locs' cells' slots') (hx2 : ev_ex2 ρ ρ' h.1.length) :
    W p l e R s m args below meth c H' locs' cells' slots' (vx_MQ below (ev_Qc B D T ρ s.heap.size h h' (.inl v)) XC args s (h'.2.1 - h.2.1) (h'.2.2 - h.2.2) (va_A (ev_wl T ρ h.1) s.heap.size)) (F0 m pc' ls' st') := by
  obtain ⟨hx, hb, hml, hr, hlocks, hnm, hown, hts, hK, hE, hA, htr, hex, hex2, hdec, hcn⟩ := F
  obtain ⟨hP, hD, hS, hκ, hok, hc1, hc2⟩ := hH
  obtain rfl : cells' = h'.2.1 - h.2.1 := by omega
  obtain rfl : slots' = h'.2.2 - h.2.2 := by omega
  refine vx_ret ?_
  have key : ∀ (w : Option Value), (∀ x, w = some x → ev_ok h'.1.length x) → w = v → ∀ t : State, t.heap = H' → s.WarmedH t.vm → ev_Qc B D T ρ s.heap.size h h' (.inl v) args s (.returned (w.map (ev_cv ρ'))) t := fun w hw e9 t ht hW =>
    ⟨⟨ρ', v, rfl, by rw [e9], fun x hx9 => hw x (e9.trans hx9), hx2, by rw [ht]; exact hP, hD, hok⟩, hS.F ht⟩
  obtain ⟨rfl, hoks⟩ := hR
  unfold ev_e at he
  split at he
  · split at he
    · rename_i hn
      cases he
      exact W.vret hx hb (hr.trans hn) (fun t ht hW => key none (fun _ h9 => by cases h9) rfl t ht hW) hS.2.2 hd
    · cases he
  · split at he
    · rename_i x ty hn
      split at he
      · rename_i v9 hnv
        cases he
        exact ev_nret hx hb (hr.trans hn) hnv (fun t ht hW => key (some (.int v9)) (fun _ h9 => by cases h9; trivial) rfl t ht hW) hS.2.2 hd hlocks
      · cases he
    · cases he
  · split at he
    · rename_i a n9 hn
      cases he
      exact W.aret hx hb (hr.trans hn) (Or.inl ⟨_, rfl⟩) (Or.inr ⟨_, rfl⟩) (fun t ht hW => key (some (.ref a)) (fun _ h9 => by cases h9; exact hoks _ List.mem_cons_self) rfl t ht hW) hS.2.2 hd
    · rename_i a n9 hn
      cases he
      exact W.aret hx hb (hr.trans hn) (Or.inr ⟨_, rfl⟩) (Or.inr ⟨_, rfl⟩) (fun t ht hW => key (some (.ref a)) (fun _ h9 => by cases h9; exact hoks _ List.mem_cons_self) rfl t ht hW) hS.2.2 hd
    · rename_i n9 hn
      cases he
      exact W.aret hx hb (hr.trans hn) (Or.inl ⟨_, rfl⟩) (Or.inl rfl) (fun t ht hW => key (some .null) (fun _ h9 => by cases h9; trivial) rfl t ht hW) hS.2.2 hd
    · cases he
  · split at he
    · rename_i x hn
      cases he
      exact W.dret hx hb (hr.trans hn) (fun t ht hW => key (some (.double x)) (fun _ h9 => by cases h9; trivial) rfl t ht hW) hS.2.2 hd
    · cases he
  · split at he
    · rename_i x hn
      cases he
      exact W.fret hx hb (hr.trans hn) (fun t ht hW => key (some (.float x)) (fun _ h9 => by cases h9; trivial) rfl t ht hW) hS.2.2 hd
    · cases he
  · cases he
end
section
/-! a throw, a method's contract, a call, and all runs -/
theorem ev_aft_of {B : ev_B} {D : va_G} {T : Nat → ClassId} {ρ ρ' κ : Nat → Nat} {s : State} {k0 s0 : Nat} {h h' : ev_AH} {H' : Heap} {locs' : List Loc} {cells' slots' : Nat} (hH : ev_HR D T (ev_cl B) (va_A (ev_wl T ρ h.1) s.heap.size) s.heap κ ρ' k0 s0 h' H' locs' cells' slots') (hx2 : ev_ex2 ρ ρ' h.1.length) : ev_aft B D T ρ s.heap.size h ρ' h' H' :=
  ⟨hx2, hH.1, hH.2.1, hH.2.2.2.2.1⟩
set_option maxHeartbeats 8000000 in
theorem ev_thr_ok {G : ev_G} {B : ev_B} {M : ev_MD} {D : va_G} {T : Nat → ClassId} {κ ρ ρ' : Nat → Nat} {p : Program} {l : Launch} {e : Env} {R : Room} {s : State} {m : MethodId} {args : Array Value} {below : List Frame} {meth : Method} {c : Code} {H' : Heap} {locs' : List Loc} {cells' slots' : Nat} {h h1 h' : ev_AH} {E j pc' : Nat} {S' st' : List Value} {ls' : Array Slot} {Qc : Array Value → State → Outcome → State → Prop}
    (F : ev_Fx G B M D T κ (va_A (ev_wl T ρ h.1) s.heap.size) p l s m args meth c) (hV : ev_VV G B) (hd : decode M.2.2.1 pc' = .ok (.new j, 3)) (ht : ev_th G M pc' j = some E) (hh : M.2.2.2.2.2.1 = []) (h0 : M.1 = 0) (hcs : ev_cs S' = true) (hsz : ls'.size = M.2.2.2.1) (hR : ev_SR ρ' h1.1.length S' st') (hH : ev_HR D T (ev_cl B) (va_A (ev_wl T ρ h.1) s.heap.size) s.heap κ ρ' h.2.1 h.2.2 h1 H' locs' cells' slots') (he : h' = (h1.1, h1.2.1 + 1, h1.2.2 + 6)) (hx2 : ev_ex2 ρ ρ' h.1.length)
    (hRf : 20 ≤ R.frames) (hRl : 400 ≤ R.locals) (hRc : h'.2.1 ≤ h.2.1 + R.cells) (hRs : h'.2.2 ≤ h.2.2 + R.slots) :
    W p l e R s m args below meth c H' locs' cells' slots' (vx_MQ below Qc (ev_Xc B D T ρ s.heap.size h h' (.inr E)) args s (h'.2.1 - h.2.1) (h'.2.2 - h.2.2) (va_A (ev_wl T ρ h.1) s.heap.size)) (F0 m pc' ls' st') := by
  obtain ⟨hx, hb, hml, hr, hlocks, hnm, hown, hts, hK, hE, hA, htr, hex, hex2, hdec, hcn⟩ := F
  obtain ⟨hP, hD, hS, hκ, hok, hc1, hc2⟩ := hH
  obtain ⟨-, -, -, hV11, hVn⟩ := hV
  subst he
  simp only at hRc hRs
  have hcat := ev_cs_ok (ρ := ρ') hcs
  rw [← hR.1] at hcat
  have htab : c.exceptionTable.toList = [] := by rw [hex, hh]; rfl
  have hown0 : s.vm.findClass (ev_cn B 0) = some m.cls := by rw [← h0, hcn]; exact hown
  have r5 : cells' + 1 ≤ (h1.2.1 + 1) - h.2.1 := by omega
  have r6 : slots' + 6 ≤ (h1.2.2 + 6) - h.2.2 := by omega
  have hXC : ∀ t : State, s.vm.Alike t.vm → H'.size ≤ t.heap.size → (∀ q : Nat, q < H'.size → t.heap[q]? = H'[q]?) → ev_Xc B D T ρ s.heap.size h (h1.1, h1.2.1 + 1, h1.2.2 + 6) (.inr E) (ev_xn B E) s t := fun t _ hz hq =>
    ⟨⟨ρ', E, rfl, rfl, hx2, hP.kept (fun k x hx9 => hq _ ((hP k x hx9).lt)), hD, hok⟩, Nat.le_trans hS.1 hz, fun q hq1 hq2 => by
      rw [hq q (Nat.lt_of_lt_of_le hq1 hS.1)]
      exact hS.2.1 q hq1 hq2⟩
  unfold ev_th at ht
  split at ht
  · rename_i is hq3 hq4
    split at ht
    · rename_i ic hq6 hq9
      obtain ⟨names, tx, a, ix, rx, v1, v2, v3, v4, v5, v6, v7, v8, x0, x1, x2, x5⟩ := hV11 _ _ _ _ ht
      have e3 : decode M.2.2.1 (pc' + 3) = .ok (.dup, 1) := hdec (pc' + 3, (.dup, 1)) (ev_lk_mem hq3)
      have e4 : decode M.2.2.1 (pc' + 4) = .ok (.ldc is, 2) := hdec (pc' + 4, (.ldc is, 2)) (ev_lk_mem hq4)
      have e6 : decode M.2.2.1 (pc' + 6) = .ok (.invokespecial ic, 3) := hdec (pc' + 6, (.invokespecial ic, 3)) (ev_lk_mem hq6)
      have e9 : decode M.2.2.1 (pc' + 9) = .ok (.athrow, 1) := hdec (pc' + 9, (.athrow, 1)) (ev_lk_mem hq9)
      have r1 : names.length + 3 < R.frames := by omega
      have r2 : (st'.map fun v => v.category).sum + (13 * (names.length + 1) + 43) ≤ R.locals := by omega
      have r3 : cells' + 1 ≤ R.cells := by omega
      have r4 : slots' + 6 ≤ R.slots := by omega
      have r7 : ∀ w ∈ vx_at9 (ev_cn B 0) ic (ev_xn B E) ix rx names, w.before args s = true := fun w hw => by
        rcases v7 w hw with h9 | h9
        · exact hts _ h9
        · exact va_Nw.use (hVn.1 _ h9) (hE.2.2.2.1 _ h9)
      exact vx_throwX (own := ev_cn B 0) (cls := ev_xn B E) (text := tx) (names := names) (sa := κ a) (A := va_A (ev_wl T ρ h.1) s.heap.size) hx hb htr x0 x1 x2 x5 hown0 v1 v2 (hts _ v4) (hts _ v5) (hE.1 (ev_cn B 0, is, tx, a) v6) r7 v8 hE.2.2.2.2.1 hE.2.2.2.2.2.1 hS (hsz.trans hml.symm) hd e3 e4 e6 e9 (fun x hx9 => by rw [htab] at hx9; cases hx9) r1 r2 r3 r4 hlocks hXC hS.2.2 r5 r6
    · cases ht
  · rename_i is hq3 hq4
    split at ht
    · rename_i ic hq6 hq9
      obtain ⟨names, tx, a, ix, rx, v1, v2, v3, v4, v5, v6, v7, v8, x0, x1, x2, x5⟩ := hV11 _ _ _ _ ht
      have e3 : decode M.2.2.1 (pc' + 3) = .ok (.dup, 1) := hdec (pc' + 3, (.dup, 1)) (ev_lk_mem hq3)
      have e4 : decode M.2.2.1 (pc' + 4) = .ok (.ldc_w is, 3) := hdec (pc' + 4, (.ldc_w is, 3)) (ev_lk_mem hq4)
      have e6 : decode M.2.2.1 (pc' + 7) = .ok (.invokespecial ic, 3) := hdec (pc' + 7, (.invokespecial ic, 3)) (ev_lk_mem hq6)
      have e9 : decode M.2.2.1 (pc' + 10) = .ok (.athrow, 1) := hdec (pc' + 10, (.athrow, 1)) (ev_lk_mem hq9)
      have r1 : names.length + 3 < R.frames := by omega
      have r2 : (st'.map fun v => v.category).sum + (13 * (names.length + 1) + 43) ≤ R.locals := by omega
      have r3 : cells' + 1 ≤ R.cells := by omega
      have r4 : slots' + 6 ≤ R.slots := by omega
      have r7 : ∀ w ∈ vx_at9 (ev_cn B 0) ic (ev_xn B E) ix rx names, w.before args s = true := fun w hw => by
        rcases v7 w hw with h9 | h9
        · exact hts _ h9
        · exact va_Nw.use (hVn.1 _ h9) (hE.2.2.2.1 _ h9)
      exact vx_throwXW (own := ev_cn B 0) (cls := ev_xn B E) (text := tx) (names := names) (sa := κ a) (A := va_A (ev_wl T ρ h.1) s.heap.size) hx hb htr x0 x1 x2 x5 hown0 v1 v2 (hts _ v4) (hts _ v5) (hE.1 (ev_cn B 0, is, tx, a) v6) r7 v8 hE.2.2.2.2.1 hE.2.2.2.2.2.1 hS (hsz.trans hml.symm) hd e3 e4 e6 e9 (fun x hx9 => by rw [htab] at hx9; cases hx9) r1 r2 r3 r4 hlocks hXC hS.2.2 r5 r6
    · cases ht
  · cases ht
end
section
/-- a method's contract out of its runs -/
theorem ev_met {G : ev_G} {B : ev_B} {n d : Nat} {M : ev_MD} {A : List Value} {h h' : ev_AH} {o : ev_O} (hn : ev_Snd G B n) (hV : ev_VV G B) (hM : ev_MK B M) (hF : ev_F G n d M 0 (ev_en M A) [] h = some (o, h')) (hA1 : A.all ev_cat1 = true) (hA2 : A.length ≤ M.2.2.2.1)
    {D : va_G} {T : Nat → ClassId} {κ ρ : Nat → Nat} (l : Launch) (htr : l.stackTraces = false) (sz : Nat) (hA3 : ∀ v ∈ A, ev_ok h.1.length v) (hκ : ∀ a, a < 1000 → ρ a = κ a) (hok : ∀ x ∈ h.1, ev_okc h.1.length x) :
    vx_Met l M.2.1 (ev_wd B M) (ev_rm d (h'.2.1 - h.2.1) (h'.2.2 - h.2.2)) (ev_Pc G B D T κ ρ sz h A) (ev_Qc B D T ρ sz h h' o) (ev_Xc B D T ρ sz h h' o) (h'.2.1 - h.2.1) (h'.2.2 - h.2.2) (va_A (ev_wl T ρ h.1) sz) := by
  obtain ⟨hpl, htab, hcn, hh11, hcw⟩ := hM
  have hle := ev_F_le _ _ _ _ _ _ _ _ _ hF
  have body : ∀ (p : Program) (e : Env) (s : State) (m : MethodId) (args : Array Value) (below : List Frame) (meth : Method) (c : Code) (s₁ : State), BodyLoose p l M.2.1 (headSpec (ev_wd B M) (ev_rm d (h'.2.1 - h.2.1) (h'.2.2 - h.2.2))) M.2.2.1 M.2.2.2.1 M.2.2.2.2.1 e s m args below meth c s₁ → c.maxLocals = M.2.2.2.1 → c.exceptionTable.toList = tableOf M.2.2.2.2.2.1 → ev_Pc G B D T κ ρ sz h A args s →
      W p l e (headSpec (ev_wd B M) (ev_rm d (h'.2.1 - h.2.1) (h'.2.2 - h.2.2))).room s m args below meth c s.heap [] 0 0 (vx_MQ below (ev_Qc B D T ρ sz h h' o) (ev_Xc B D T ρ sz h h' o) args s (h'.2.1 - h.2.1) (h'.2.2 - h.2.2) (va_A (ev_wl T ρ h.1) sz)) (entryFrame m args M.2.2.2.1) := by
    intro p e s m args below meth c s₁ Bd hml hex hv
    obtain ⟨rfl, rfl, hP, hK, hD0, hE⟩ := hv
    obtain ⟨ls, hls, hL⟩ := ev_entry (ρ := ρ) (n := h.1.length) (M := M) (A := A) m hA1 hA2 hA3
    rw [hls]
    have hAA : ∀ q, s.heap.size ≤ q → va_A (ev_wl T ρ h.1) s.heap.size q := fun q hq => Or.inr hq
    have hts : ∀ w ∈ ev_Tb B, w.before (A.map (ev_cv ρ)).toArray s = true := fun w hw => atoms_spec (ws := ev_wd B M) Bd.pre w (List.mem_cons_of_mem _ hw)
    have hFx : ev_Fx G B M D T κ (va_A (ev_wl T ρ h.1) s.heap.size) p l s m (A.map (ev_cv ρ)).toArray meth c :=
      ⟨Bd.exec, Bd.bytes, hml, Bd.returns, Bd.notSynchronized, (name_of_methodNamed Bd.named Bd.method).1, findClass_of_methodNamed Bd.named, hts, hK, hE, hAA, htr, hex, hh11, htab, hcn⟩
    have hHR : ev_HR D T (ev_cl B) (va_A (ev_wl T ρ h.1) s.heap.size) s.heap κ ρ h.2.1 h.2.2 h s.heap [] 0 0 := ⟨hP, hD0.self, va_S.rf, hκ, hok, Nat.zero_add _, Nat.zero_add _⟩
    refine hn d M 0 (ev_en M A) [] h o h' hF D T κ ρ _ p l e _ s m _ below meth c s.heap [] 0 0 h.2.1 h.2.2 _ ls [] hFx ⟨rfl, fun v hv => by cases hv⟩ hL hHR (Nat.le_refl (d + 20)) (Nat.le_refl (60 * d + 400)) ?_ ?_ ?_ ?_ ?_
    · show h'.2.1 ≤ h.2.1 + (h'.2.1 - h.2.1)
      omega
    · show h'.2.2 ≤ h.2.2 + (h'.2.2 - h.2.2)
      omega
    · intro v i pc' S' st' ls' ρ' H' locs' cells' slots' ho g1 g2 g3 g4 g5
      subst ho
      exact ev_ret_ok hFx g1 g2 g3 g4 g5
    · intro E q ce pc' ls' rest ρ' H' locs' cells' slots' ho g1 g2 g3 g4 g5 g6
      subst ho
      have g2' := g2
      obtain ⟨-, -, hS, -, -, hc1, hc2⟩ := g2'
      rcases hh11 with hh | h11
      · refine vx_out (fun x hx9 => ?_) Bd.notSynchronized g4 g5 g6 (fun t ht hvm => ⟨⟨ρ', E, rfl, rfl, by rw [ht]; exact ev_aft_of g2 g3⟩, hS.F ht⟩) hS.2.2 (by omega) (by omega)
        rw [hex, hh] at hx9
        cases hx9
      · refine vx_outP (own := ev_cn B 11) (by rw [← h11, hcn]; exact findClass_of_methodNamed Bd.named) Bd.notSynchronized ?_ g4 g5 g6 (fun t ht hvm => ⟨⟨ρ', E, rfl, rfl, by rw [ht]; exact ev_aft_of g2 g3⟩, hS.F ht⟩) hS.2.2 (by omega) (by omega)
        rw [hex]
        exact ev_hd_none hV.2.2.1 hts hE.2.2.2.2.2.2.2 _ g1
    · intro E j pc' S' st' ls' ρ' h1 H' locs' cells' slots' ho g1 g2 g3 g4 g5 g6 g7 g8 g9 g10
      subst ho
      exact ev_thr_ok hFx hV g1 g2 g3 g4 g5 g6 g7 g8 g9 g10 (show 20 ≤ d + 20 by omega) (show 400 ≤ 60 * d + 400 by omega) (show h'.2.1 ≤ h.2.1 + (h'.2.1 - h.2.1) by omega) (show h'.2.2 ≤ h.2.2 + (h'.2.2 - h.2.2) by omega)
  cases hhe : M.2.2.2.2.2.1 with
  | nil =>
    refine vx_ofW (cc := M.2.2.1) (maxL := M.2.2.2.1) (ret := M.2.2.2.2.1) (ws' := ev_Tb B) hpl (by simp only [ev_wd, ev_cw, hhe]) ?_
    intro p e s m args below meth c s₁ Bd hml hex hv
    refine body p e s m args below meth c s₁ Bd hml ?_ hv
    rw [hhe]
    cases hc : c.exceptionTable.toList with
    | nil => rfl
    | cons x r => exact (hex x (by rw [hc]; exact List.mem_cons_self)).elim
  | cons q r =>
    refine vx_ofWH (cc := M.2.2.1) (maxL := M.2.2.2.1) (ret := M.2.2.2.2.1) (hh := q :: r) (ws' := ev_Tb B) hpl (by simp only [ev_wd, ev_cw, hhe]) ?_
    intro p e s m args below meth c s₁ Bd hml hv
    refine body p e s m args below meth c s₁ Bd hml ?_ hv
    rw [hhe]
    exact vx_table (x := M.2.1) (y := M.2.1) (bytes := M.2.2.1) (maxL' := M.2.2.2.1) (ret' := M.2.2.2.2.1) Bd (atoms_spec (ws := ev_wd B M) Bd.pre _ (by rw [ev_wd, ev_cw, hhe]; exact List.mem_cons_self))
end
section
/-! calls, and all runs -/
theorem ev_pop_ok : ∀ (n : Nat) (acc S A r : List Value), ev_pop n acc S = some (A, r) → ∃ P : List Value, S = P ++ r ∧ P.length = n ∧ A = P.reverse ++ acc
  | 0, acc, S, A, r, h => by
    simp only [ev_pop] at h
    cases h
    exact ⟨[], rfl, rfl, rfl⟩
  | n + 1, acc, [], A, r, h => by simp [ev_pop] at h
  | n + 1, acc, v :: S, A, r, h => by
    simp only [ev_pop] at h
    obtain ⟨P, e1, e2, e3⟩ := ev_pop_ok n (v :: acc) S A r h
    exact ⟨v :: P, by rw [e1]; rfl, by rw [List.length_cons, e2], by rw [e3]; simp⟩
section
variable {G : ev_G} {B : ev_B} {M M' : ev_MD} {D : va_G} {T : Nat → ClassId} {κ ρ : Nat → Nat} {A0 : Nat → Prop} {p : Program} {l : Launch} {e : Env} {R : Room} {s : State} {m : MethodId} {args : Array Value} {below : List Frame} {meth : Method} {c : Code} {H : Heap} {locs : List Loc} {cells slots k0 s0 d mc ms : Nat} {Q : State → Prop} {pc n : Nat} {ls : Array Slot} {S st rest A r : List Value} {i : Instr} {h h' : ev_AH} {o : ev_O} {L : ev_VL}
theorem ev_goes {a9 : Array Value} (hr : vx_Run p l e R s m args below meth c H locs cells slots (h'.2.1 - h.2.1) (h'.2.2 - h.2.2) (F0 m pc ls st) rest (ev_Qc B D T ρ H.size h h' o a9) (ev_Xc B D T ρ H.size h h' o) (va_A (ev_wl T ρ h.1) H.size)) (hH : ev_HR D T (ev_cl B) A0 s.heap κ ρ k0 s0 h H locs cells slots) (hA : ∀ q, s.heap.size ≤ q → A0 q) (hle : ev_le h h')
    (k1 : ∀ (ρ' : Nat → Nat) (v : Option Value) (H' : Heap) (locs' : List Loc) (cells' slots' : Nat), o = .inl v → (∀ w, v = some w → ev_ok h'.1.length w) → ev_ex2 ρ ρ' h.1.length → ev_HR D T (ev_cl B) A0 s.heap κ ρ' k0 s0 h' H' locs' cells' slots' → W p l e R s m args below meth c H' locs' cells' slots' Q (F0 m (pc + 3) ls ((v.map (ev_cv ρ')).toList ++ rest)))
    (k2 : ∀ (ρ' : Nat → Nat) (x q : Nat) (ce : Cell) (H' : Heap) (locs' : List Loc) (cells' slots' : Nat), o = .inr x → ev_ex2 ρ ρ' h.1.length → ev_HR D T (ev_cl B) A0 s.heap κ ρ' k0 s0 h' H' locs' cells' slots' → H'[q]? = some ce → ce.vm = .none → s.vm.findClass (ev_xn B x) = some ce.cls → vx_W p l e R s m args below meth c H' locs' cells' slots' Q (F0 m pc ls rest) q) :
    W p l e R s m args below meth c H locs cells slots Q (F0 m pc ls st) := by
  obtain ⟨hP, hD, hS, hκ, hok, hc1, hc2⟩ := hH
  have hfree := ev_vA hD hS hA
  have hnew : ∀ (ρ' : Nat → Nat) (t T' : State) (Lq : List Loc), (∀ q, q ∈ Lq → va_A (ev_wl T ρ h.1) H.size q.base) → T'.heap = t.heap → ev_aft B D T ρ H.size h ρ' h' t.heap → va_S A0 s.heap T'.heap (locs ++ Lq) → ev_HR D T (ev_cl B) A0 s.heap κ ρ' k0 s0 h' T'.heap (locs ++ Lq) (cells + (h'.2.1 - h.2.1)) (slots + (h'.2.2 - h.2.2)) := fun ρ' t T' Lq hL e1 ha hS' =>
    ⟨by rw [e1]; exact ha.2.1, ha.2.2.1.weaken (fun k q _ h9 => hfree _ h9), hS', fun a ha9 => by rw [ha.1 a (by omega)]; exact hκ a ha9, ha.2.2.2, by have := hle.2.1; omega, by have := hle.2.2; omega⟩
  intro T9 hT X
  rcases hr T9 hT X with ⟨v, st₀, t, T', Lq, h0, X', hL, e1, e2, ⟨⟨ρ', v', ho, hv, hvok, ha⟩, hF⟩, goes⟩ | ⟨q, st₀, t, T', Lq, E, ce, h0, X', hL, e1, e2, ⟨⟨ρ', x, ho, hE, ha⟩, hF⟩, hce, hcv, hcl, steps⟩
  · obtain ⟨-, -, hS'⟩ := vx_keep h0 e1 hS (fun q _ h9 => hfree q h9) hfree hL hF
    cases hv
    obtain ⟨t2, a1, b1⟩ := k1 ρ' v' T'.heap (locs ++ Lq) _ _ ho hvok ha.1 (hnew ρ' t T' Lq hL e1 ha hS') T' rfl X'
    exact ⟨t2, goes t2 a1, b1⟩
  · obtain ⟨-, -, hS'⟩ := vx_keep h0 e1 hS (fun q _ h9 => hfree q h9) hfree hL hF
    subst hE
    obtain ⟨t2, a1, b1⟩ := k2 ρ' x q ce T'.heap (locs ++ Lq) _ _ ho ha.1 (hnew ρ' t T' Lq hL e1 ha hS') (by rw [e1]; exact hce) hcv hcl T' rfl X'
    exact ⟨t2, steps.trans a1, b1⟩
theorem ev_run (F : ev_Fx G B M D T κ A0 p l s m args meth c) (hV : ev_VV G B) {j k a rc : Nat} (hct : ev_ct G M.1 j = some (k, a, rc, M')) (hk : ev_ck i k = true) (hi : ev_ix i = some j) (hd : decode M.2.2.1 pc = .ok (i, 3)) (hpop : ev_pop (bif ev_st k then a else a + 1) [] S = some (A, r)) (hcok : ev_cok G h k rc M' A r = true) (hR : ev_SR ρ h.1.length S st) (hsz : ls.size = M.2.2.2.1) (hH : ev_HR D T (ev_cl B) A0 s.heap κ ρ k0 s0 h H locs cells slots)
    {Qc : Array Value → State → Outcome → State → Prop} {XC : String → State → State → Prop} {free : Addr → Prop} (hM : vx_Met l M'.2.1 (ev_wd B M') (ev_rm d mc ms) (ev_Pc G B D T κ ρ H.size h A) Qc XC mc ms free) (hRf : d + 1 + 20 ≤ R.frames) (hRl : 60 * (d + 1) + 400 ≤ R.locals) (hRc : cells + mc ≤ R.cells) (hRs : slots + ms ≤ R.slots) :
    vx_Run p l e R s m args below meth c H locs cells slots mc ms (F0 m pc ls st) (r.map (ev_cv ρ)) (Qc (A.map (ev_cv ρ)).toArray) XC free := by
  obtain ⟨hx, hb, hml, hr, hlocks, hnm, hown, hts, hK, hE, hA, htr, hex, hex2, hdec, hcn⟩ := F
  obtain ⟨hP, hD, hS, hκ, hok, hc1, hc2⟩ := hH
  obtain ⟨⟨hV0, -, -, -, hV4, -, -, -, FS, NS, hS8⟩, hV9, -, -, hVn⟩ := hV
  have hkk : k ≠ 13 := by
    intro h9
    subst h9
    cases i <;> simp [ev_ck] at hk
  have hk10 : k ≠ 10 := by
    intro h9
    subst h9
    cases i <;> simp [ev_ck] at hk
  have hk11 : k ≠ 11 := by
    intro h9
    subst h9
    cases i <;> simp [ev_ck] at hk
  have hk12 : k ≠ 12 := by
    intro h9
    subst h9
    cases i <;> simp [ev_ck] at hk
  obtain ⟨hMK, hini, hmh, hlen, h8, hlink, hnest, hstat, hinst, hsel, hinit, hsup, hoth⟩ := (hV9 _ _ _ _ _ _ hct).2.2.1 hkk hk10 hk11 hk12
  obtain ⟨-, -, -, -, hcw⟩ := hMK
  unfold ev_cok at hcok
  rw [Bool.and_eq_true, Bool.and_eq_true, Bool.and_eq_true, Bool.and_eq_true] at hcok
  obtain ⟨⟨⟨⟨q1, q2⟩, q3⟩, q4⟩, q5⟩ := hcok
  have hmax := Nat.le_of_ble_eq_true q3
  obtain ⟨P, e1, e2, e3⟩ := ev_pop_ok _ _ _ _ _ hpop
  rw [List.append_nil] at e3
  have hSA : S = A.reverse ++ r := by rw [e1, e3, List.reverse_reverse]
  have hAlen : A.length = bif ev_st k then a else a + 1 := by rw [e3, List.length_reverse, e2]
  have hst : st = (A.map (ev_cv ρ)).reverse ++ r.map (ev_cv ρ) := by rw [hR.1, hSA, List.map_append, List.map_reverse]
  have hroom : 2 * (F0 m pc ls st).monitorRoom + ((r.map (ev_cv ρ)).map fun v => v.category).sum ≤ 8 := lv_room (ev_cs_ok q1)
  have hfix : CallFix p m c M.2.2.1 M.2.2.2.1 s args (ev_Tb B) M.2.1.cls := ⟨hx, hb, hml, hown, hts⟩
  have hG : GoodIn (ev_Tb B) (ev_wd B M') := fun w hw => by
    have hm : w ∈ ev_Tb B := by
      rcases List.mem_cons.mp hw with rfl | hw
      · exact hcw
      · exact hw
    exact ⟨hm, good_of_word (hVn.2.2 w hm)⟩
  have hwd : ∀ w ∈ ev_wd B M', ∀ (a' : Array Value) (U : State), s.WarmedH U.vm → w.before a' U = true := pay_in hts hG
  have hlens : ∀ sig, parseMethodDescriptor M'.2.1.desc = some sig → a = sig.parameters.length := fun sig h9 => by
    rw [h9] at hlen
    exact (Option.some.inj hlen).symm
  have hfr : (ev_rm d mc ms).frames + 1 ≤ R.frames := by
    rw [ev_rm_f]
    omega
  have hlo : 8 + (M'.2.2.2.1 + 11) + (ev_rm d mc ms).locals ≤ R.locals := by
    have h9 : (ev_rm d mc ms).locals = 60 * d + 400 := ev_rm_l
    have h8 : M'.2.2.2.1 ≤ 40 := hmax
    generalize M'.2.2.2.1 = x9 at h8 ⊢
    generalize (ev_rm d mc ms).locals = y9 at h9 ⊢
    omega
  have hpre : ∀ U : State, U.heap = H → s.WarmedH U.vm → ev_Pc G B D T κ ρ H.size h A (A.map (ev_cv ρ)).toArray U := fun U hU hW =>
    ⟨rfl, by rw [hU], by rw [hU]; exact hP, va_K.moved hW.alike hK, hD.weaken (fun _ _ _ _ => trivial), by rw [hU]; exact ev_En_call hVn.2.1 hE hW hS.2.1 (ev_vA hD hS hA)⟩
  have hbl : FrameBlind (ev_Pc G B D T κ ρ H.size h A) := ev_Pc_blind hVn.1
  have hcode : k ≠ 8 → Cond.code M'.2.1 M'.2.2.1 M'.2.2.2.1 M'.2.2.2.2.1 = ev_cw M' := fun h9 => by
    have : M'.2.2.2.2.2.1 = [] := by
      cases hc : M'.2.2.2.2.2.1 with
      | nil => rfl
      | cons q r => exact absurd (h8.mpr (by rw [hc]; exact fun h => by cases h)) h9
    unfold ev_cw
    rw [this]
  have hCB : k ≠ 8 → k = 0 ∨ k = 2 ∨ k = 4 → CallB R s args M.2.1.cls j M'.2.1 M'.2.2.1 M'.2.2.2.1 M'.2.2.2.2.1 (ev_wd B M') (ev_rm d mc ms) mc ms a := fun g1 g2 =>
    ⟨rfl, rfl, hfr, hlo, hwd, by rw [hcode g1]; exact List.mem_cons_self, by rw [hcode g1]; exact hts _ hcw, hts _ hini, hmh, hlens, by rw [← hcn]; exact hts _ (hlink (by omega))⟩
  have hCN : k ≠ 8 → k = 1 ∨ k = 3 ∨ k = 5 → ∃ host, va_CN R s args M.2.1.cls j M'.2.1 host M'.2.2.1 M'.2.2.2.1 M'.2.2.2.2.1 (ev_wd B M') (ev_rm d mc ms) mc ms a := fun g1 g2 => by
    obtain ⟨host, hh⟩ := hnest (by omega)
    exact ⟨host, ⟨rfl, rfl, hfr, hlo, hwd, by rw [hcode g1]; exact List.mem_cons_self⟩, by rw [hcode g1]; exact hts _ hcw, hts _ hini, hmh, hlens, by rw [← hcn]; exact va_Nw.use rfl (hE.2.2.2.1 _ hh)⟩
  -- the receiver
  have hrecv : ev_st k = false → ∃ (b : Nat) (A' : List Value), A = .ref b :: A' ∧ A'.length = a ∧ (k = 0 ∨ k = 1 ∨ k = 6 → ∃ (C : String) (F : u_T) (N : Nat), (ev_cl B)[rc]? = some (C, F, N) ∧ ∃ cellB : Cell, H[ρ b]? = some cellB ∧ cellB.vm.isStatics = false ∧ s.vm.findClass C = some cellB.cls) ∧ (k = 7 → ∃ cellB : Cell, H[ρ b]? = some cellB ∧ cellB.vm.isStatics = false ∧ ∃ C F N, (ev_cl B)[rc]? = some (C, F, N) ∧ s.vm.findClass C = some cellB.cls) := fun g1 => by
    rw [g1] at q5 hAlen
    simp only [Bool.false_or] at q5
    cases hAc : A with
    | nil => rw [hAc] at q5; cases q5
    | cons v A' =>
      rw [hAc] at q5 hAlen
      simp only at q5
      cases v with
      | ref b =>
        refine ⟨b, A', rfl, by simpa using hAlen, ?_⟩
        by_cases h45 : k = 4 ∨ k = 5
        · exact ⟨fun h9 => absurd h9 (by omega), fun h9 => absurd h9 (by omega)⟩
        · have h4 : Nat.beq k 4 = false := by
            cases hb4 : Nat.beq k 4 with
            | false => rfl
            | true => exact absurd (Nat.eq_of_beq_eq_true hb4) (by omega)
          have h5 : Nat.beq k 5 = false := by
            cases hb4 : Nat.beq k 5 with
            | false => rfl
            | true => exact absurd (Nat.eq_of_beq_eq_true hb4) (by omega)
          unfold ev_rc at q5
          rw [h4, h5] at q5
          simp only [Bool.false_or] at q5
          split at q5
          · rename_i ci vs hrd
            rw [Bool.and_eq_true] at q5
            obtain rfl := Nat.eq_of_beq_eq_true q5.1
            have hlt := Nat.le_of_ble_eq_true q5.2
            by_cases hb9 : b < 1000
            · have hcst := ev_rd_lo hrd hb9
              have h50 : ci = 8 ∧ vs.length ≤ 2 ∧ ∀ v ∈ vs, ev_ok 0 v := hV0 _ _ hcst
              obtain ⟨rfl, -⟩ := h50
              have hcc2 : ev_cc κ b (.inr (8, vs)) A0 s s.heap := hE.2.2.1 b _ hb9 hcst
              obtain ⟨cell, g2, g3, g4, g5⟩ := hcc2.1.kept hS.2.1
              refine ⟨fun h9 => ?_, fun h9 => ?_⟩
              · exact ⟨_, FS, NS, hS8, cell, by rw [hκ b hb9]; exact g2, g3, g4⟩
              · exact ⟨cell, by rw [hκ b hb9]; exact g2, g3, _, FS, NS, hS8, g4⟩
            · have hcell := ev_rd_hi hrd (Nat.le_of_not_lt hb9)
              have hgl := ev_wl_at (T := T) (ρ := ρ) hcell (Nat.le_of_not_lt hb9)
              rw [ev_at_obj (by omega)] at hgl
              refine ⟨fun h9 => ?_, fun h9 => ?_⟩
              · have hC : ∃ (C : String) (F : u_T) (N : Nat), (ev_cl B)[ci]? = some (C, F, N) := by
                  rcases h9 with h9 | h9 | h9
                  · obtain ⟨C, F9, N9, hc9, -⟩ := hsel (Or.inl h9)
                    exact ⟨C, F9, N9, hc9⟩
                  · obtain ⟨C, F9, N9, hc9, -⟩ := hsel (Or.inr h9)
                    exact ⟨C, F9, N9, hc9⟩
                  · obtain ⟨_, _, _, _, _, _, _, _, _, _, C, F9, N9, hc9, -⟩ := hoth h9
                    exact ⟨C, F9, N9, hc9⟩
                obtain ⟨C, F9, N9, hc9⟩ := hC
                exact ⟨C, F9, N9, hc9, va_recv hK hP hc9 hgl⟩
              · obtain ⟨-, -, -, C, F9, N9, hc9, -⟩ := hsup h9
                obtain ⟨cell, g2, g3, g4⟩ := va_recv hK hP hc9 hgl
                exact ⟨cell, g2, g3, C, F9, N9, hc9, g4⟩
          · cases q5
      | _ => cases q5
  cases i with
  | invokevirtual j9 =>
    cases hi
    have hk2 : k = 0 ∨ k = 1 ∨ k = 6 := by
      simp only [ev_ck, Bool.or_eq_true] at hk
      rcases hk with (h9 | h9) | h9
      · exact Or.inl (Nat.eq_of_beq_eq_true h9)
      · exact Or.inr (Or.inl (Nat.eq_of_beq_eq_true h9))
      · exact Or.inr (Or.inr (Nat.eq_of_beq_eq_true h9))
    have hst0 : ev_st k = false := by rcases hk2 with rfl | rfl | rfl <;> rfl
    obtain ⟨b, A', rfl, hA', hrv, -⟩ := hrecv hst0
    obtain ⟨C, FC, NC, hcC, hcell⟩ := hrv hk2
    have hstk : (F0 m pc ls st).stack = (A'.map (ev_cv ρ)).reverse ++ .ref (ρ b) :: r.map (ev_cv ρ) := by
      show st = _
      rw [hst]
      simp [ev_cv]
    have hsC : k = 0 ∨ k = 1 → Cond.selects C M'.2.1 M'.2.1 ∈ ev_Tb B := fun h9 => by
      obtain ⟨C9, F9, N9, hc9, hs9⟩ := hsel h9
      cases hc9.symm.trans hcC
      exact hs9
    rcases hk2 with rfl | rfl | rfl
    · have hs := hsC (Or.inl rfl)
      exact vx_runV (As := A'.map (ev_cv ρ)) hfix hM ⟨hCB (by decide) (by decide), hts _ (hinst (by decide)), hts _ hs⟩ ⟨hbl, hcell, hpre⟩ rfl (by rw [List.length_map]; exact hA') hsz hstk hroom hd ⟨hRc, hRs⟩
    · have hs := hsC (Or.inr rfl)
      obtain ⟨host, hcn9⟩ := hCN (by decide) (by decide)
      exact vx_runVN (As := A'.map (ev_cv ρ)) hfix hM ⟨hcn9, hts _ (hinst (by decide)), hts _ hs⟩ ⟨hbl, hcell, hpre⟩ rfl (by rw [List.length_map]; exact hA') hsz hstk hroom hd ⟨hRc, hRs⟩
    · obtain ⟨y0, b0, m0, r0, o1, o2, o3, o4, o5, o6, C9, F9, N9, hc9, o7⟩ := hoth rfl
      cases hc9.symm.trans hcC
      have hcu : va_CU R s args M.2.1.cls C y0.cls j y0 M'.2.1 M'.2.2.1 M'.2.2.2.1 M'.2.2.2.2.1 (ev_wd B M') (ev_rm d mc ms) mc ms a :=
        ⟨⟨rfl, rfl, hfr, hlo, hwd, by rw [hcode (by decide)]; exact List.mem_cons_self⟩, by rw [hcode (by decide)]; exact hts _ hcw, hts _ hini, o2, fun sig h9 => by rw [h9] at o3; exact (Option.some.inj o3).symm, by rw [← hcn]; exact hts _ o1, hts _ o4, va_Decl.of (hts _ o5) (hts _ o6), hts _ o7, hts _ (hinst (by decide))⟩
      exact vx_runU (As := A'.map (ev_cv ρ)) hfix hM hcu ⟨hbl, hcell, hpre⟩ rfl (by rw [List.length_map]; exact hA') hsz hstk hroom hd ⟨hRc, hRs⟩
  | invokestatic j9 =>
    cases hi
    have hk2 : k = 2 ∨ k = 3 ∨ k = 8 := by
      simp only [ev_ck, Bool.or_eq_true] at hk
      rcases hk with (h9 | h9) | h9
      · exact Or.inl (Nat.eq_of_beq_eq_true h9)
      · exact Or.inr (Or.inl (Nat.eq_of_beq_eq_true h9))
      · exact Or.inr (Or.inr (Nat.eq_of_beq_eq_true h9))
    have hst0 : ev_st k = true := by rcases hk2 with rfl | rfl | rfl <;> rfl
    rw [hst0] at hAlen
    simp only [cond_true] at hAlen
    rcases hk2 with rfl | rfl | rfl
    · exact vx_runS (As := A.map (ev_cv ρ)) hfix hM ⟨hCB (by decide) (by decide), hts _ (hstat (by decide))⟩ ⟨hbl, hpre⟩ rfl (by rw [List.length_map]; exact hAlen) hsz hst hroom hd ⟨hRc, hRs⟩
    · obtain ⟨host, hcn9⟩ := hCN (by decide) (by decide)
      exact vx_runSN (As := A.map (ev_cv ρ)) hfix hM ⟨hcn9, hts _ (hstat (by decide)), trivial⟩ ⟨hbl, hpre⟩ rfl (by rw [List.length_map]; exact hAlen) hsz hst hroom hd ⟨hRc, hRs⟩
    · have hne := h8.mp rfl
      have hcw8 : Cond.codeWith M'.2.1 M'.2.2.1 M'.2.2.2.1 M'.2.2.2.2.1 M'.2.2.2.2.2.1 = ev_cw M' := by
        unfold ev_cw
        cases hc : M'.2.2.2.2.2.1 with
        | nil => exact absurd hc hne
        | cons q r => rfl
      exact vx_runSX (As := A.map (ev_cv ρ)) hfix hM ⟨⟨rfl, rfl, hfr, hlo, hwd, by rw [hcw8]; exact List.mem_cons_self⟩, by rw [hcw8]; exact hts _ hcw, hts _ hini, hmh, hlens, by rw [← hcn]; exact hts _ (hlink (by decide)), hts _ (hstat (by decide))⟩ ⟨hbl, hpre⟩ rfl (by rw [List.length_map]; exact hAlen) hsz hst hroom hd ⟨hRc, hRs⟩
  | invokespecial j9 =>
    cases hi
    have hk2 : k = 4 ∨ k = 5 ∨ k = 7 := by
      simp only [ev_ck, Bool.or_eq_true] at hk
      rcases hk with (h9 | h9) | h9
      · exact Or.inl (Nat.eq_of_beq_eq_true h9)
      · exact Or.inr (Or.inl (Nat.eq_of_beq_eq_true h9))
      · exact Or.inr (Or.inr (Nat.eq_of_beq_eq_true h9))
    have hst0 : ev_st k = false := by rcases hk2 with rfl | rfl | rfl <;> rfl
    obtain ⟨b, A', rfl, hA', -, hrv⟩ := hrecv hst0
    have hstk : (F0 m pc ls st).stack = (A'.map (ev_cv ρ)).reverse ++ .ref (ρ b) :: r.map (ev_cv ρ) := by
      show st = _
      rw [hst]
      simp [ev_cv]
    rcases hk2 with rfl | rfl | rfl
    · obtain ⟨hi1, hi2⟩ := hinit (by decide)
      have hcb := hCB (by decide) (by decide)
      rw [hi2] at hcb
      exact vx_runI (As := A'.map (ev_cv ρ)) hfix hM ⟨hcb, hi1, hts _ (hinst (by decide))⟩ ⟨hbl, hpre⟩ rfl (by rw [List.length_map]; exact hA') hsz hstk hroom hd ⟨hRc, hRs⟩
    · obtain ⟨hi1, hi2⟩ := hinit (by decide)
      obtain ⟨host, hcn9⟩ := hCN (by decide) (by decide)
      rw [hi2] at hcn9
      exact vx_runIN (As := A'.map (ev_cv ρ)) hfix hM ⟨hcn9, hi1, hts _ (hinst (by decide))⟩ ⟨hbl, hpre⟩ rfl (by rw [List.length_map]; exact hA') hsz hstk hroom hd ⟨hRc, hRs⟩
    · obtain ⟨hs1, hs2, hs3, C9, F9, N9, hc9, hC9⟩ := hsup rfl
      obtain ⟨cell, g2, g3, C, F, N, hcC, g4⟩ := hrv rfl
      cases hc9.symm.trans hcC
      have hcs : va_CS R s args M.2.1.cls j M'.2.1 M'.2.2.1 M'.2.2.2.1 M'.2.2.2.2.1 (ev_wd B M') (ev_rm d mc ms) mc ms a :=
        ⟨⟨rfl, rfl, hfr, hlo, hwd, by rw [hcode (by decide)]; exact List.mem_cons_self⟩, by rw [← hcn]; exact hts _ (hlink (by decide)), hts _ hs2, by rw [← hcn]; exact hts _ hs3, hts _ (hinst (by decide)), hts _ hini, by rw [hcode (by decide)]; exact hts _ hcw, hs1, hlens⟩
      exact vx_runSU (As := A'.map (ev_cv ρ)) (hK.1 rc _ hcC).2 hfix hM hcs ⟨hbl, ⟨cell, g2, g3, g4⟩, hpre⟩ rfl (by rw [List.length_map]; exact hA') hsz hstk hroom hd ⟨hRc, hRs⟩
  | _ => simp [ev_ix] at hi
end
end
section
/-! all runs, by induction on the steps -/
section
variable {G : ev_G} {B : ev_B} {M M' : ev_MD} {D : va_G} {T : Nat → ClassId} {κ ρ : Nat → Nat} {A0 : Nat → Prop} {p : Program} {l : Launch} {e : Env} {R : Room} {s : State} {m : MethodId} {args : Array Value} {below : List Frame} {meth : Method} {c : Code} {H : Heap} {locs : List Loc} {cells slots k0 s0 : Nat} {Q : State → Prop} {pc : Nat} {ls : Array Slot} {S S' st : List Value} {i : Instr} {h h' : ev_AH}
theorem ev_fcpy {la lb : List Int32} {sp dp n : Nat} (h1 : sp + n ≤ la.length) (h2 : dp + n ≤ lb.length) : va_cpy (fun j => la.getD j 0) (fun j => lb.getD j 0) sp dp n = fun j => (lb.take dp ++ (la.drop sp).take n ++ lb.drop (dp + n)).getD j 0 := by
  funext j
  have l1 : (lb.take dp).length = dp := by rw [List.length_take]; omega
  have l2 : ((la.drop sp).take n).length = n := by rw [List.length_take, List.length_drop]; omega
  simp only [va_cpy, List.getD]
  split
  · rename_i hj
    rw [List.getElem?_append_left (by rw [List.length_append, l1, l2]; omega), List.getElem?_append_right (by rw [l1]; omega), l1, List.getElem?_take_of_lt (by omega), List.getElem?_drop]
  · rename_i hj
    by_cases hd : j < dp
    · rw [List.append_assoc, List.getElem?_append_left (by rw [l1]; exact hd), List.getElem?_take_of_lt hd]
    · rw [List.getElem?_append_right (by rw [List.length_append, l1, l2]; omega), List.length_append, l1, l2, List.getElem?_drop]
      congr 2
      omega
/-- as va_copyi (its proof follows that one), out of an array that nobody writes -/
theorem ev_copyT {A : Nat → Prop} {a a0 n0 : Nat} {f : Nat → Int32} {ws : va_W} {tys : List (ClassId × FieldType)} {cl : List vw_C} {H0 : Heap} {rest : List Value} {cc : ByteArray} (hexec : p.tables.exec = Jvm.exec) (hb : c.code = cc) (hml : c.maxLocals = ls.size) {own : String} {index : Nat} (hown : s.vm.findClass own = some m.cls) (hlink : (Cond.methodLink own index arraycopyName).before args s = true) (hnat : (Cond.native arraycopyName).before args s = true) (hstat : (Cond.static arraycopyName).before args s = true) (hini : (Cond.initialized "java/lang/System").before args s = true)
    (hK : va_K D cl tys s) (hP : va_P D cl ws H) (hD : va_D A ws) (hS : va_S A H0 H locs) (hT0 : va_T .byte a0 n0 (fun j => .int (f j)) A s H) (q1 t1 : Nat) {c1 : ClassId} {n1 : Nat} {g : Nat → Int32} {ty : FieldType} (ha1 : ws[q1]? = some (a, .inl (c1, n1, .inl g))) (ht1 : tys[t1]? = some (c1, ty)) (hty : ty = .byte)
    {sp dp n : Int32} (h1 : ¬ sp < 0) (h2 : ¬ dp < 0) (h3 : ¬ n < 0) (h4 : sp.toNatClampNeg + n.toNatClampNeg ≤ n0) (h5 : dp.toNatClampNeg + n.toNatClampNeg ≤ n1) (hfit : ∀ i, i < n.toNatClampNeg → fits .byte (.int (f (sp.toNatClampNeg + i))) = true)
    (hframes : 1 ≤ R.frames) (hlocals : (rest.map fun v => v.category).sum + (nativeFrameWords "java/lang/System" "arraycopy" 5 + 11) ≤ R.locals) (hdg : decode cc pc = .ok (.invokestatic index, 3))
    (kk : ∀ (H1 : Heap) (locs1 : List Loc), va_P D cl (ws.set q1 (a, .inl (c1, n1, .inl (va_cpy f g sp.toNatClampNeg dp.toNatClampNeg n.toNatClampNeg)))) H1 → va_D A (ws.set q1 (a, .inl (c1, n1, .inl (va_cpy f g sp.toNatClampNeg dp.toNatClampNeg n.toNatClampNeg)))) → va_S A H0 H1 locs1 → W p l e R s m args below meth c H1 locs1 cells slots Q (F0 m (pc + 3) ls rest)) : W p l e R s m args below meth c H locs cells slots Q (F0 m pc ls (.int n :: .int dp :: .ref a :: .int sp :: .ref a0 :: rest)) := by
  subst hty
  have nn : ∀ z : Int32, ¬ z < 0 → z.toInt = (z.toNatClampNeg : Int) := by
    intro z hz
    have hz0 : (0 : Int) ≤ z.toInt := by
      have := Int32.not_lt.mp hz
      simpa using Int32.le_iff_toInt_le.mp this
    show z.toInt = ((z.toInt.toNat : Nat) : Int)
    omega
  intro T hT X
  obtain ⟨scr, hc0, hs2, hs3, hs4, hs45, hs5, hs7⟩ := hT0
  have hc1 : H[a]? = some (vp_cell c1 (n1, .inl g)) := hP q1 _ ha1
  obtain ⟨hs6, k0, hk0, cm0, hkk0⟩ := hs2
  obtain ⟨-, k1, hk1, cm1, hkk1⟩ := (hK.2 t1 _ ht1).1 n1 (fun j => .int (g j))
  obtain ⟨vm', X', step⟩ := X.arraycopy hexec hown hlink hnat hstat hini (src := a0) (dst := a) (cs := scr) (cd := vp_cell c1 (n1, .inl g)) (srcPos := sp) (destPos := dp) (n := n) (by rw [hT]; exact hc0) (by rw [hT]; exact hc1)
    hs6 (fun _ h => by cases h) hs3 (fun h => by cases h) hk0 hk1 hkk0 hkk1 (by simp [refKind]) h1 h2 h3
    (by rw [nn sp h1, nn n h3]; omega)
    (by rw [nn dp h2, nn n h3]; show ¬ _ > ((arrV c1 n1 (fun j => .int (g j))).slots.size : Int); rw [arrV_size]; omega)
    (fun vm₁ _ i hi => by
      have e : scr.slots.getD (sp.toNatClampNeg + i) .null = .int (f (sp.toNatClampNeg + i)) := by
        rw [Array.getD_eq_getD_getElem?, hs5 _ (by omega)]
        rfl
      refine ⟨?_, ?_⟩
      · rw [e]
        exact hfit i hi
      · rw [e]
        exact trivial)
    (g := F0 m pc ls (.int n :: .int dp :: .ref a :: .int sp :: .ref a0 :: rest)) rfl (by rw [hml]) (rest := rest) rfl (by rw [hb]; exact hdg) hframes (by show 2 * 0 + _ + _ ≤ _; omega)
  have e1 : copied scr (vp_cell c1 (n1, .inl g)) sp dp n = vp_cell c1 (n1, .inl (va_cpy f g sp.toNatClampNeg dp.toNatClampNeg n.toNatClampNeg)) := va_copiedX (fun z => .int z) scr c1 f g hs5 h4
  rw [e1] at X' step
  have hl : a < H.size := (Array.getElem?_eq_some_iff.mp hc1).1
  have hheap : ((T.setVm vm').setCell a (vp_cell c1 (n1, .inl (va_cpy f g sp.toNatClampNeg dp.toNatClampNeg n.toNatClampNeg)))).heap = H.setIfInBounds a (vp_cell c1 (n1, .inl (va_cpy f g sp.toNatClampNeg dp.toNatClampNeg n.toNatClampNeg))) := by rw [← hT]; rfl
  have oq : ∀ q : Nat, q ≠ a → (H.setIfInBounds a (vp_cell c1 (n1, .inl (va_cpy f g sp.toNatClampNeg dp.toNatClampNeg n.toNatClampNeg))))[q]? = H[q]? := fun q hq => by simp [Array.getElem?_setIfInBounds, Ne.symm hq]
  obtain ⟨t, a1, b1⟩ := kk _ _ (hP.set hD ha1 (show (H.setIfInBounds a _)[a]? = some _ by simp [Array.getElem?_setIfInBounds, hl]) oq) (hD.set ha1) ⟨by simp; exact hS.1, fun q g1 g2 => by
      rw [oq q (fun e => g2 (by rw [e]; exact hD.2 q1 _ ha1))]
      exact hS.2.1 q g1 g2, fun q hq => by
      rcases List.mem_append.mp hq with h | h
      · exact hS.2.2 q h
      · obtain ⟨z, -, hz⟩ := List.mem_map.mp h
        rw [← hz]
        exact hD.2 q1 _ ha1⟩ _ hheap X'
  exact ⟨t, step t a1, b1⟩
theorem ev_na_ok (F : ev_Fx G B M D T κ A0 p l s m args meth c) (hV : ev_VV G B) {j k a rc : Nat} (hct : ev_ct G M.1 j = some (k, a, rc, M')) (hi : ev_ix i = some j) (hd : decode M.2.2.1 pc = .ok (i, 3)) (hna : ev_na G i S h k = some (S', h')) (hR : ev_SR ρ h.1.length S st) (hsz : ls.size = M.2.2.2.1) (hH : ev_HR D T (ev_cl B) A0 s.heap κ ρ k0 s0 h H locs cells slots) (hRf : 20 ≤ R.frames) (hRl : 400 ≤ R.locals) (hRc : h.2.1 ≤ k0 + R.cells) (hRs : h.2.2 ≤ s0 + R.slots)
    (kk : ∀ st' H' locs' cells' slots', ev_SR ρ h'.1.length S' st' → h'.1.length = h.1.length → ev_HR D T (ev_cl B) A0 s.heap κ ρ k0 s0 h' H' locs' cells' slots' → W p l e R s m args below meth c H' locs' cells' slots' Q (F0 m (pc + 3) ls st')) : W p l e R s m args below meth c H locs cells slots Q (F0 m pc ls st) := by
  obtain ⟨hx, hb, hml, hr, hlocks, hnm, hown, hts, hK, hE, hA, htr, hex, hex2, hdec, hcn⟩ := F
  have hH0 := hH
  obtain ⟨hP, hD, hS, hκ, hok, hc1, hc2⟩ := hH
  unfold ev_na at hna
  split at hna
  · obtain ⟨w1, w2, w3⟩ := (hV.2.1 _ _ _ _ _ _ hct).1 rfl
    split at hna
    · rename_i b r
      rw [Bool.cond_eq_ite] at hna
      split at hna
      · rename_i hc9
        rw [Bool.and_eq_true] at hc9
        obtain ⟨e1, e2⟩ := Prod.mk.inj (Option.some.inj hna)
        subst e1; subst e2
        obtain ⟨r1, rfl, u1, -⟩ := ev_SR_cons hR
        have hcat := ev_cs_ok (ρ := ρ) hc9.2
        rw [← u1.1] at hcat
        cases i with
        | invokespecial j9 =>
          cases hi
          refine W.objInit hx hb hown (by rw [← hcn]; exact hts _ w1) (hts _ w2) (hts _ w3) (g := F0 m pc ls (ev_cv ρ (.ref b) :: r1)) rfl (hsz.trans hml.symm) rfl hd (by omega) ?_ ?_
          · have h8 : 2 * (F0 m pc ls (ev_cv ρ (.ref b) :: r1)).monitorRoom + (r1.map fun v => v.category).sum ≤ 8 := lv_room (m := m) (pc := pc) (ls := ls) (rest := ev_cv ρ (.ref b) :: r1) hcat
            omega
          · exact kk _ H locs cells slots u1 rfl hH0
        | _ => simp [ev_ck] at hc9
      · cases hna
    · cases hna
  · obtain ⟨w1, w2, w3, w4⟩ := (hV.2.1 _ _ _ _ _ _ hct).2.1 rfl
    cases i with
    | invokestatic j9 =>
      cases hi
      split at hna
      · rename_i n0 dp b sp a9 r
        split at hna
        · rename_i la lb hca hcb
          rw [Bool.cond_eq_ite] at hna
          split at hna
          · rename_i hc9
            simp only [Bool.and_eq_true, Bool.not_eq_true', decide_eq_false_iff_not] at hc9
            obtain ⟨⟨⟨⟨⟨⟨⟨⟨g0, g2⟩, g3⟩, g4⟩, g5⟩, g6⟩, g7⟩, g8⟩, g9⟩ := hc9
            obtain ⟨e1, e2⟩ := Prod.mk.inj (Option.some.inj hna)
            subst e1; subst e2
            have hb9 := Nat.le_of_ble_eq_true g2
            have q6 := Nat.le_of_ble_eq_true g6
            have q7 := Nat.le_of_ble_eq_true g7
            obtain ⟨r1, rfl, u1, -⟩ := ev_SR_cons hR
            obtain ⟨r1, rfl, u2, -⟩ := ev_SR_cons u1
            obtain ⟨r1, rfl, u3, -⟩ := ev_SR_cons u2
            obtain ⟨r1, rfl, u4, -⟩ := ev_SR_cons u3
            obtain ⟨r1, rfl, u5, -⟩ := ev_SR_cons u4
            have hgb := ev_wl_at (T := T) (ρ := ρ) hcb hb9
            have hcat := ev_cs_ok (ρ := ρ) g9
            rw [← u5.1] at hcat
            have hnf : (r1.map fun v => v.category).sum + (nativeFrameWords "java/lang/System" "arraycopy" 5 + 11) ≤ R.locals := by
              have h9 : nativeFrameWords "java/lang/System" "arraycopy" 5 + 11 ≤ 300 := by decide +kernel
              generalize nativeFrameWords "java/lang/System" "arraycopy" 5 + 11 = y9 at h9 ⊢
              omega
            have hft9 : ∀ i9, i9 < n0.toNatClampNeg → fits .byte (.int (la.getD (sp.toNatClampNeg + i9) 0)) = true := fun i9 hi9 => by
              have h9 := List.all_eq_true.mp g8 (la.getD (sp.toNatClampNeg + i9) 0) (by
                refine List.mem_of_getElem? (i := i9) ?_
                rw [List.getElem?_take_of_lt hi9, List.getElem?_drop, List.getD, List.getElem?_eq_getElem (by omega)]
                rfl)
              exact h9
            have hfin : ∀ (H1 : Heap) (locs1 : List Loc), va_P D (ev_cl B) ((ev_wl T ρ h.1).set (b - 1000) (ρ b, .inl (T 2, lb.length, .inl (va_cpy (fun j => la.getD j 0) (fun j => lb.getD j 0) sp.toNatClampNeg dp.toNatClampNeg n0.toNatClampNeg)))) H1 → va_D A0 ((ev_wl T ρ h.1).set (b - 1000) (ρ b, .inl (T 2, lb.length, .inl (va_cpy (fun j => la.getD j 0) (fun j => lb.getD j 0) sp.toNatClampNeg dp.toNatClampNeg n0.toNatClampNeg)))) → va_S A0 s.heap H1 locs1 → W p l e R s m args below meth c H1 locs1 cells slots Q (F0 m (pc + 3) ls r1) := fun H1 locs1 hP1 hD1 hS1 => by
              have hat : ev_at T ρ (.inl (2, lb.take dp.toNatClampNeg ++ (la.drop sp.toNatClampNeg).take n0.toNatClampNeg ++ lb.drop (dp.toNatClampNeg + n0.toNatClampNeg))) = .inl (T 2, lb.length, .inl (va_cpy (fun j => la.getD j 0) (fun j => lb.getD j 0) sp.toNatClampNeg dp.toNatClampNeg n0.toNatClampNeg)) := by
                rw [ev_fcpy q6 q7]
                simp only [ev_at, List.length_append, List.length_take, List.length_drop]
                congr 3
                omega
              rw [← hat] at hP1 hD1
              have hlen : (ev_wr h b (.inl (2, lb.take dp.toNatClampNeg ++ (la.drop sp.toNatClampNeg).take n0.toNatClampNeg ++ lb.drop (dp.toNatClampNeg + n0.toNatClampNeg)))).1.length = h.1.length := List.length_set
              exact kk _ H1 locs1 cells slots ⟨u5.1, fun w9 hw9 => by rw [hlen]; exact u5.2 w9 hw9⟩ hlen (ev_wr_HR hH0 hb9 trivial hP1 hD1 hS1)
            by_cases ha : a9 < 1000
            · have hcst := ev_rd_lo hca ha
              have hcc2 : ev_cc κ a9 (.inl (2, la)) A0 s s.heap := hE.2.2.1 a9 _ ha hcst
              show W p l e R s m args below meth c H locs cells slots Q (F0 m pc ls (.int n0 :: .int dp :: .ref (ρ b) :: .int sp :: .ref (ρ a9) :: r1))
              rw [hκ a9 ha]
              exact ev_copyT hx hb (hml.trans hsz.symm) hown (by rw [← hcn]; exact hts _ w1) (hts _ w2) (hts _ w3) (hts _ w4) hK hP hD hS (hcc2.kept hS.2.1) (b - 1000) 2 hgb rfl rfl g5 g4 g3 q6 q7 hft9 (by omega) hnf hd hfin
            · have hga := ev_wl_at (T := T) (ρ := ρ) (ev_rd_hi hca (Nat.le_of_not_lt ha)) (Nat.le_of_not_lt ha)
              exact va_copyi hx hb (hml.trans hsz.symm) hown (by rw [← hcn]; exact hts _ w1) (hts _ w2) (hts _ w3) (hts _ w4) hK hP hD hS (a9 - 1000) (b - 1000) 2 2 hga hgb rfl rfl rfl g5 g4 g3 q6 q7 hft9 (by omega) hnf hd hfin
          · cases hna
        · cases hna
      · cases hna
    | _ =>
      split at hna
      · split at hna
        · rw [Bool.cond_eq_ite] at hna
          split at hna
          · rename_i hc9
            simp [ev_ck] at hc9
          · cases hna
        · cases hna
      · cases hna
  · obtain ⟨w1, w2, w3, w4⟩ := (hV.2.1 _ _ _ _ _ _ hct).2.2.2.1 rfl
    split at hna
    · rename_i y x r
      rw [Bool.cond_eq_ite] at hna
      split at hna
      · rename_i hc9
        rw [Bool.and_eq_true] at hc9
        obtain ⟨e1, e2⟩ := Prod.mk.inj (Option.some.inj hna)
        subst e1; subst e2
        obtain ⟨r1, rfl, u1, -⟩ := ev_SR_cons hR
        obtain ⟨r2, rfl, u2, -⟩ := ev_SR_cons u1
        have hcat := ev_cs_ok (ρ := ρ) hc9.2
        rw [← u2.1] at hcat
        cases i with
        | invokestatic j9 =>
          cases hi
          exact va_mmin (x := x) (y := y) (rest := r2) hx hb (hml.trans hsz.symm) hown (by rw [← hcn]; exact hts _ w1) (hts _ w2) (hts _ w3) (hts _ w4) (by omega) (by omega) (by omega) (by omega) hd (kk _ H locs cells slots (ev_SR_push u2 trivial) rfl hH0)
        | _ => simp [ev_ck] at hc9
      · cases hna
    · cases hna
  · obtain ⟨w1, w2, w3, w4⟩ := (hV.2.1 _ _ _ _ _ _ hct).2.2.2.2 rfl
    split at hna
    · rename_i y x r
      rw [Bool.cond_eq_ite] at hna
      split at hna
      · rename_i hc9
        rw [Bool.and_eq_true] at hc9
        obtain ⟨e1, e2⟩ := Prod.mk.inj (Option.some.inj hna)
        subst e1; subst e2
        obtain ⟨r1, rfl, u1, -⟩ := ev_SR_cons hR
        obtain ⟨r2, rfl, u2, -⟩ := ev_SR_cons u1
        have hcat := ev_cs_ok (ρ := ρ) hc9.2
        rw [← u2.1] at hcat
        cases i with
        | invokestatic j9 =>
          cases hi
          exact va_mmax (x := x) (y := y) (rest := r2) hx hb (hml.trans hsz.symm) hown (by rw [← hcn]; exact hts _ w1) (hts _ w2) (hts _ w3) (hts _ w4) (by omega) (by omega) (by omega) (by omega) hd (kk _ H locs cells slots (ev_SR_push u2 trivial) rfl hH0)
        | _ => simp [ev_ck] at hc9
      · cases hna
    · cases hna
  · cases hna
theorem ev_fmc {α β : Type} {f g : α → Option β} : ∀ {l : List α}, (∀ x ∈ l, f x = g x) → l.filterMap f = l.filterMap g
  | [], _ => rfl
  | a :: l, h => by
    rw [List.filterMap_cons, List.filterMap_cons, h a List.mem_cons_self, ev_fmc (fun x hx => h x (List.mem_cons_of_mem _ hx))]
theorem ev_lvo_ext {ρ ρ' : Nat → Nat} {n nL : Nat} {L : ev_VL} {ls : Array Slot} (h : ev_LR ρ n nL L ls) (hx : ev_ex2 ρ ρ' n) : ev_lvo ρ' L = ev_lvo ρ L := by
  unfold ev_lvo
  apply ev_fmc
  intro i _
  cases hi : L[i]? with
  | none => rfl
  | some w =>
    cases w with
    | none => rfl
    | some v => simp only [ev_cv_ext hx (h.2.2.2 i v hi).2]
theorem ev_len3 {j : Nat} (hi : ev_ix i = some j) {n : Nat} (hl : ev_len i n = true) : n = 3 := by
  cases i <;> first | (simp [ev_ix] at hi; done) | exact Nat.eq_of_beq_eq_true hl
theorem ev_e_len {v : Option Value} (he : ev_e M S i = some v) {n : Nat} (hl : ev_len i n = true) : n = 1 := by
  cases i <;> first | (simp [ev_e] at he; done) | exact Nat.eq_of_beq_eq_true hl
theorem ev_ex2_tr {ρ ρ' ρ'' : Nat → Nat} {n k : Nat} (h1 : ev_ex2 ρ ρ' n) (h2 : ev_ex2 ρ' ρ'' k) (hk : n ≤ k) : ev_ex2 ρ ρ'' n := fun a ha => (h2 a (by omega)).trans (h1 a ha)
set_option maxHeartbeats 4000000 in
/-- ALL RUNS of the small machine are the real one's -/
theorem ev_sound (hV : ev_VV G B) : ∀ n, ev_Snd G B n := by
  intro n
  induction n with
  | zero => intro d M pc L S h o h' hp; simp [ev_F] at hp
  | succ n ih =>
    intro d M pc L S h o h' hp D T κ ρ A p l e R s m args below meth c H locs cells slots k0 s0 Q ls st hF hR hL hH hRf hRl hRc hRs kret kthr kth
    have hle0 := ev_F_le _ _ _ _ _ _ _ _ _ hp
    unfold ev_F at hp
    split at hp
    · cases hp
    · rename_i i len hlk
      have hd : decode M.2.2.1 pc = .ok (i, len) := hF.2.2.2.2.2.2.2.2.2.2.2.2.2.2.1 (pc, (i, len)) (ev_lk_mem hlk)
      rw [Bool.cond_eq_ite] at hp
      split at hp
      · rename_i hlen
        split at hp
        · rename_i pc9 L9 S9 h9 hs
          have hle := ev_F_le _ _ _ _ _ _ _ _ _ hp
          refine ev_s_ok hF hV.1 hd hlen hs hR hL hH (by omega) (by omega) hL.1 ⟨Nat.le_trans hle.2.1 hRc, Nat.le_trans hle.2.2 hRs⟩ (fun ρ' ls' st' H' locs' cells' slots' g1 g2 g3 g4 g5 => ?_)
          exact ih d M pc9 L9 S9 h9 o h' hp D T κ ρ' A p l e R s m args below meth c H' locs' cells' slots' k0 s0 Q ls' st' hF g3 g4 g5 hRf hRl hRc hRs
            (fun v i2 pc2 S2 st2 ls2 ρ2 H2 locs2 cells2 slots2 a1 a2 a3 a4 a5 a6 => kret v i2 pc2 S2 st2 ls2 ρ2 H2 locs2 cells2 slots2 a1 a2 a3 a4 a5 (ev_ex2_tr g1 a6 g2))
            (fun E q ce pc2 ls2 rest ρ2 H2 locs2 cells2 slots2 a1 a2 a3 a4 => kthr E q ce pc2 ls2 rest ρ2 H2 locs2 cells2 slots2 a1 a2 a3 (ev_ex2_tr g1 a4 g2))
            (fun E j pc2 S2 st2 ls2 ρ2 h1 H2 locs2 cells2 slots2 a1 a2 a3 a4 a5 a6 a7 a8 a9 a10 a11 => kth E j pc2 S2 st2 ls2 ρ2 h1 H2 locs2 cells2 slots2 a1 a2 a3 a4 a5 a6 a7 a8 a9 a10 (ev_ex2_tr g1 a11 g2))
        · split at hp
          · rename_i v hev
            cases hp
            obtain rfl := ev_e_len hev hlen
            exact kret v i pc S st ls ρ H locs cells slots rfl hd hev hR hH (fun _ _ => rfl)
          · split at hp
            · rename_i j hs9 he9
              split at hp
              · rename_i E hth hhh
                rw [Bool.cond_eq_ite] at hp
                split at hp
                · rename_i hc9
                  rw [Bool.and_eq_true] at hc9
                  cases hp
                  obtain rfl : len = 3 := Nat.eq_of_beq_eq_true hlen
                  exact kth E j pc S st ls ρ h H locs cells slots rfl hd hth hhh (Nat.eq_of_beq_eq_true hc9.1) hc9.2 hL.1 hR hH rfl (fun _ _ => rfl)
                · cases hp
              · cases hp
            · split at hp
              · cases hp
              · rename_i j hix
                obtain rfl := ev_len3 hix hlen
                split at hp
                · cases hp
                · rename_i k a rc M' hct
                  split at hp
                  · rename_i S9 h9 hna
                    · refine ev_na_ok hF hV hct hix hd hna hR hL.1 hH (by omega) (by omega) (Nat.le_trans hle0.2.1 hRc) (Nat.le_trans hle0.2.2 hRs) (fun st' H' locs' cells' slots' g1 g2 g3 => ?_)
                      exact ih d M (pc + 3) L S9 h9 o h' hp D T κ ρ A p l e R s m args below meth c H' locs' cells' slots' k0 s0 Q ls st' hF g1 (by rw [g2]; exact hL) g3 hRf hRl hRc hRs
                        (fun v i2 pc2 S2 st2 ls2 ρ2 H2 locs2 cells2 slots2 a1 a2 a3 a4 a5 a6 => kret v i2 pc2 S2 st2 ls2 ρ2 H2 locs2 cells2 slots2 a1 a2 a3 a4 a5 (by rw [← g2]; exact a6))
                        (fun E q ce pc2 ls2 rest ρ2 H2 locs2 cells2 slots2 a1 a2 a3 a4 => kthr E q ce pc2 ls2 rest ρ2 H2 locs2 cells2 slots2 a1 a2 a3 (by rw [← g2]; exact a4))
                        (fun E j pc2 S2 st2 ls2 ρ2 h1 H2 locs2 cells2 slots2 a1 a2 a3 a4 a5 a6 a7 a8 a9 a10 a11 => kth E j pc2 S2 st2 ls2 ρ2 h1 H2 locs2 cells2 slots2 a1 a2 a3 a4 a5 a6 a7 a8 a9 a10 (by rw [← g2]; exact a11))
                  · split at hp
                    · cases hp
                    · rename_i d
                      rw [Bool.cond_eq_ite] at hp
                      split at hp
                      · rename_i hck
                        split at hp
                        · cases hp
                        · rename_i Ar r hpop
                          rw [Bool.cond_eq_ite] at hp
                          split at hp
                          · rename_i hcok
                            have hkk : k ≠ 13 := by
                              intro h9
                              subst h9
                              cases i <;> simp [ev_ck] at hck
                            have hk10 : k ≠ 10 := by
                              intro h9
                              subst h9
                              cases i <;> simp [ev_ck] at hck
                            have hk11 : k ≠ 11 := by
                              intro h9
                              subst h9
                              cases i <;> simp [ev_ck] at hck
                            have hk12 : k ≠ 12 := by
                              intro h9
                              subst h9
                              cases i <;> simp [ev_ck] at hck
                            have hMK := ((hV.2.1 _ _ _ _ _ _ hct).2.2.1 hkk hk10 hk11 hk12).1
                            have hco := hcok
                            unfold ev_cok at hco
                            rw [Bool.and_eq_true, Bool.and_eq_true, Bool.and_eq_true, Bool.and_eq_true] at hco
                            obtain ⟨⟨⟨⟨q1, q2⟩, q3⟩, q4⟩, q5⟩ := hco
                            obtain ⟨P, e1, e2, e3⟩ := ev_pop_ok _ _ _ _ _ hpop
                            have hAok : ∀ v ∈ Ar, ev_ok h.1.length v := fun v hv => hR.2 v (by
                              rw [e1]
                              rw [e3, List.append_nil] at hv
                              exact List.mem_append_left _ (List.mem_reverse.mp hv))
                            have hrok : ev_SR ρ h.1.length r (r.map (ev_cv ρ)) := ⟨rfl, fun v hv => hR.2 v (by rw [e1]; exact List.mem_append_right _ hv)⟩
                            split at hp
                            · rename_i v h1 hc
                              have hle1 := ev_F_le _ _ _ _ _ _ _ _ _ hc
                              have hle2 := ev_F_le _ _ _ _ _ _ _ _ _ hp
                              have hmet := ev_met (D := D) (T := T) (κ := κ) (ρ := ρ) ih hV hMK hc q4 (Nat.le_of_ble_eq_true q2) l hF.2.2.2.2.2.2.2.2.2.2.2.1 H.size hAok hH.2.2.2.1 hH.2.2.2.2.1
                              have hb1 := hH.2.2.2.2.2.1
                              have hb2 := hH.2.2.2.2.2.2
                              have hrun := ev_run (e := e) (below := below) hF hV hct hck hix hd hpop hcok hR hL.1 hH hmet hRf hRl (by have := hle1.2.1; have := hle2.2.1; omega) (by have := hle1.2.2; have := hle2.2.2; omega)
                              refine ev_goes hrun hH hF.2.2.2.2.2.2.2.2.2.2.1 hle1 ?_ ?_
                              · intro ρ' v' H' locs' cells' slots' ho hvok hx2 hH'
                                cases ho
                                refine ih (d + 1) M (pc + 3) L (v.toList ++ r) h1 o h' hp D T κ ρ' A p l e R s m args below meth c H' locs' cells' slots' k0 s0 Q ls _ hF ?_ (ev_LR_ext hL hx2 hle1.1) hH' hRf hRl hRc hRs ?_ ?_ ?_
                                · cases v with
                                  | none => exact ev_SR_ext hrok hx2 hle1.1
                                  | some w => exact ev_SR_push (ev_SR_ext hrok hx2 hle1.1) (hvok w rfl)
                                · exact fun v i2 pc2 S2 st2 ls2 ρ2 H2 locs2 cells2 slots2 a1 a2 a3 a4 a5 a6 => kret v i2 pc2 S2 st2 ls2 ρ2 H2 locs2 cells2 slots2 a1 a2 a3 a4 a5 (ev_ex2_tr hx2 a6 hle1.1)
                                · exact fun E q ce pc2 ls2 rest ρ2 H2 locs2 cells2 slots2 a1 a2 a3 a4 => kthr E q ce pc2 ls2 rest ρ2 H2 locs2 cells2 slots2 a1 a2 a3 (ev_ex2_tr hx2 a4 hle1.1)
                                · exact fun E j pc2 S2 st2 ls2 ρ2 h1 H2 locs2 cells2 slots2 a1 a2 a3 a4 a5 a6 a7 a8 a9 a10 a11 => kth E j pc2 S2 st2 ls2 ρ2 h1 H2 locs2 cells2 slots2 a1 a2 a3 a4 a5 a6 a7 a8 a9 a10 (ev_ex2_tr hx2 a11 hle1.1)
                              · intro ρ' x q ce H' locs' cells' slots' ho
                                cases ho
                            · rename_i E h1 hc
                              have hle1 := ev_F_le _ _ _ _ _ _ _ _ _ hc
                              have hle2 : ev_le h1 h' := by
                                split at hp
                                · cases hp
                                  exact ev_le_rf
                                · rw [Bool.cond_eq_ite] at hp
                                  split at hp
                                  · exact ev_F_le _ _ _ _ _ _ _ _ _ hp
                                  · cases hp
                                · cases hp
                              have hmet := ev_met (D := D) (T := T) (κ := κ) (ρ := ρ) ih hV hMK hc q4 (Nat.le_of_ble_eq_true q2) l hF.2.2.2.2.2.2.2.2.2.2.2.1 H.size hAok hH.2.2.2.1 hH.2.2.2.2.1
                              have hb1 := hH.2.2.2.2.2.1
                              have hb2 := hH.2.2.2.2.2.2
                              have hrun := ev_run (e := e) (below := below) hF hV hct hck hix hd hpop hcok hR hL.1 hH hmet hRf hRl (by have := hle1.2.1; have := hle2.2.1; omega) (by have := hle1.2.2; have := hle2.2.2; omega)
                              refine ev_goes hrun hH hF.2.2.2.2.2.2.2.2.2.2.1 hle1 ?_ ?_
                              · intro ρ' v' H' locs' cells' slots' ho
                                cases ho
                              · intro ρ' x q ce H' locs' cells' slots' ho hx2 hH' hce hcv hcl
                                cases ho
                                split at hp
                                · rename_i hhd
                                  cases hp
                                  exact kthr E q ce pc ls _ ρ' H' locs' cells' slots' rfl hhd hH' hx2 hce hcv hcl
                                · rename_i pc2 j2 hhd
                                  rw [Bool.cond_eq_ite] at hp
                                  split at hp
                                  · rename_i hso
                                    have hFx := hF
                                    obtain ⟨hx, hb, hml, hr, hlocks, hnm, hown, hts, hK, hE, hA, htr, hex, hex2, hdec, hcn⟩ := hFx
                                    have h11 : M.1 = 11 := by
                                      rcases hex2 with h9 | h9
                                      · rw [h9] at hhd
                                        simp [ev_hd] at hhd
                                      · exact h9
                                    obtain ⟨pre, x, suf, nm, t1, t2, t3, t4, t5, t6, t7⟩ := ev_hd_some hV.2.2.1 hts hE.2.2.2.2.2.2.2 _ hhd
                                    refine vx_catch (own := ev_cn B 11) (name := nm) (by rw [← h11, hcn]; exact hown) pre x suf (by rw [hex]; exact t1) t2 t3 t4 (hts _ t5) (va_Nw.use (hV.2.2.2.2.1 _ t6) (hE.2.2.2.1 _ t6)) hce hcv hcl ?_
                                    have hL1 := ev_LR_ext hL hx2 hle1.1
                                    have hhas := ev_LR_has hL1
                                    have hlt : j2 < M.2.2.2.1 := by rw [← hL.2.1]; exact ev_sok_lt hso
                                    have hgo : ∀ ls', lv_has ls' M.2.2.2.1 ((j2, .ref q) :: (ev_lvo ρ' L).filter (fun q => !(q.1 == j2) && !(q.1 + 1 == j2 && q.2.category == 2))) → W p l e R s m args below meth c H' locs' cells' slots' Q (F0 m pc2 ls' []) := fun ls' hls' => by
                                      have hLn : ev_LR ρ' h1.1.length M.2.2.2.1 (L.set j2 none) ls' := by
                                        have h8 := ev_LR_st1 (ρ := ev_up ρ' h1.1.length q) (n := h1.1.length + 1) (v := .ref (1000 + h1.1.length)) (ev_LR_ext hL1 (ev_up_ext (q := q)) (Nat.le_succ _)) hso (show 1000 + h1.1.length < 1000 + (h1.1.length + 1) by omega) (by
                                          have e5 : ev_lvo (ev_up ρ' h1.1.length q) L = ev_lvo ρ' L := ev_lvo_ext hL1 (ev_up_ext (q := q))
                                          rw [e5]
                                          simpa [ev_cv, ev_up] using hls')
                                        refine ⟨h8.1, by rw [List.length_set]; exact hL.2.1, h8.2.2.1, fun i9 v9 hv9 => ?_⟩
                                        rw [List.getElem?_set] at hv9
                                        by_cases hij : j2 = i9
                                        · rw [if_pos hij] at hv9
                                          split at hv9 <;> cases hv9
                                        · rw [if_neg hij] at hv9
                                          obtain ⟨b1, -⟩ := h8.2.2.2 i9 v9 (by rw [List.getElem?_set, if_neg hij]; exact hv9)
                                          have b2 := (hL1.2.2.2 _ _ hv9).2
                                          exact ⟨by rw [b1, ev_cv_ext (ev_up_ext (q := q)) b2], b2⟩
                                      exact ih (d + 1) M pc2 (L.set j2 none) [] h1 o h' hp D T κ ρ' A p l e R s m args below meth c H' locs' cells' slots' k0 s0 Q ls' [] hF ⟨rfl, fun v hv => by cases hv⟩ hLn hH' hRf hRl hRc hRs
                                        (fun v i2 pc2 S2 st2 ls2 ρ2 H2 locs2 cells2 slots2 a1 a2 a3 a4 a5 a6 => kret v i2 pc2 S2 st2 ls2 ρ2 H2 locs2 cells2 slots2 a1 a2 a3 a4 a5 (ev_ex2_tr hx2 a6 hle1.1))
                                        (fun E q ce pc2 ls2 rest ρ2 H2 locs2 cells2 slots2 a1 a2 a3 a4 => kthr E q ce pc2 ls2 rest ρ2 H2 locs2 cells2 slots2 a1 a2 a3 (ev_ex2_tr hx2 a4 hle1.1))
                                        (fun E j pc2 S2 st2 ls2 ρ2 h1 H2 locs2 cells2 slots2 a1 a2 a3 a4 a5 a6 a7 a8 a9 a10 a11 => kth E j pc2 S2 st2 ls2 ρ2 h1 H2 locs2 cells2 slots2 a1 a2 a3 a4 a5 a6 a7 a8 a9 a10 (ev_ex2_tr hx2 a11 hle1.1))
                                    rcases t7 with ⟨k9, u1, rfl, rfl⟩ | ⟨u1, rfl⟩
                                    · exact lv_astore_n hx hb (hdec (_, (.astore_n k9, 1)) (ev_lk_mem u1)) rfl hhas hlt rfl hgo
                                    · exact lv_astore hx hb (hdec (_, (.astore j2, 2)) (ev_lk_mem u1)) hhas hlt rfl hgo
                                  · cases hp
                                · cases hp
                            · cases hp
                          · cases hp
                      · cases hp
      · cases hp
end
end
