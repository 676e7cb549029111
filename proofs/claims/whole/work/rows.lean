section
-- ===== PART A: goes FIRST, ahead of the names: the tables' words, and 'selects' of the private methods out of them =====
/-- a private method of a class that the tables say can be made, by its rows of tables_1 -/
def lw_okq (q : MethodName × Nat) : Prop := (q.1.cls ≠ "java/lang/invoke/MethodHandle" ∧ q.1.cls ≠ "java/lang/invoke/VarHandle") ∧ Cond.instantiable q.1.cls q.2 ∈ tables_1 ∧ Cond.privateMethod q.1 ∈ tables_1 ∧ Cond.instanceMethod q.1 ∈ tables_1
theorem lw_p0 : lw_okq (⟨"VectorRounds", "noRouter", "(I)Z"⟩, 9) := ⟨⟨by decide +kernel, by decide +kernel⟩, List.mem_of_getElem? (i := 14) (by decide +kernel), List.mem_of_getElem? (i := 295) (by decide +kernel), List.mem_of_getElem? (i := 296) (by decide +kernel)⟩
theorem lw_p1 : lw_okq (⟨"VectorRounds", "noLink", "(I)Z"⟩, 9) := ⟨⟨by decide +kernel, by decide +kernel⟩, List.mem_of_getElem? (i := 14) (by decide +kernel), List.mem_of_getElem? (i := 317) (by decide +kernel), List.mem_of_getElem? (i := 318) (by decide +kernel)⟩
theorem lw_p2 : lw_okq (⟨"VectorRounds$Network", "loseVia", "(II)V"⟩, 9) := ⟨⟨by decide +kernel, by decide +kernel⟩, List.mem_of_getElem? (i := 22) (by decide +kernel), List.mem_of_getElem? (i := 325) (by decide +kernel), List.mem_of_getElem? (i := 326) (by decide +kernel)⟩
theorem lw_p3 : lw_okq (⟨"VectorRounds$Network", "take", "(III)V"⟩, 9) := ⟨⟨by decide +kernel, by decide +kernel⟩, List.mem_of_getElem? (i := 22) (by decide +kernel), List.mem_of_getElem? (i := 333) (by decide +kernel), List.mem_of_getElem? (i := 334) (by decide +kernel)⟩
theorem lw_p4 : lw_okq (⟨"VectorRounds$Network", "tell", "(III)V"⟩, 9) := ⟨⟨by decide +kernel, by decide +kernel⟩, List.mem_of_getElem? (i := 22) (by decide +kernel), List.mem_of_getElem? (i := 372) (by decide +kernel), List.mem_of_getElem? (i := 373) (by decide +kernel)⟩
theorem lw_p5 : lw_okq (⟨"VectorRounds$Network", "receive", "(IIIII)V"⟩, 9) := ⟨⟨by decide +kernel, by decide +kernel⟩, List.mem_of_getElem? (i := 22) (by decide +kernel), List.mem_of_getElem? (i := 377) (by decide +kernel), List.mem_of_getElem? (i := 378) (by decide +kernel)⟩
theorem lw_p6 : lw_okq (⟨"VectorRounds", "settledNow", "()I"⟩, 9) := ⟨⟨by decide +kernel, by decide +kernel⟩, List.mem_of_getElem? (i := 14) (by decide +kernel), List.mem_of_getElem? (i := 406) (by decide +kernel), List.mem_of_getElem? (i := 407) (by decide +kernel)⟩
theorem lw_p7 : lw_okq (⟨"VectorRounds", "loopedFirst", "()I"⟩, 9) := ⟨⟨by decide +kernel, by decide +kernel⟩, List.mem_of_getElem? (i := 14) (by decide +kernel), List.mem_of_getElem? (i := 427) (by decide +kernel), List.mem_of_getElem? (i := 428) (by decide +kernel)⟩
theorem lw_p8 : lw_okq (⟨"VectorRounds", "rightEntries", "()I"⟩, 9) := ⟨⟨by decide +kernel, by decide +kernel⟩, List.mem_of_getElem? (i := 14) (by decide +kernel), List.mem_of_getElem? (i := 440) (by decide +kernel), List.mem_of_getElem? (i := 441) (by decide +kernel)⟩
theorem lw_p9 : lw_okq (⟨"VectorRounds$Distances", "relax", "(LVectorRounds$Links;I)Z"⟩, 1) := ⟨⟨by decide +kernel, by decide +kernel⟩, List.mem_of_getElem? (i := 171) (by decide +kernel), List.mem_of_getElem? (i := 450) (by decide +kernel), List.mem_of_getElem? (i := 451) (by decide +kernel)⟩
theorem lw_p10 : lw_okq (⟨"VectorRounds", "worstCut", "()I"⟩, 9) := ⟨⟨by decide +kernel, by decide +kernel⟩, List.mem_of_getElem? (i := 14) (by decide +kernel), List.mem_of_getElem? (i := 455) (by decide +kernel), List.mem_of_getElem? (i := 456) (by decide +kernel)⟩
theorem lw_p11 : lw_okq (⟨"VectorRounds", "neededLinks", "()I"⟩, 9) := ⟨⟨by decide +kernel, by decide +kernel⟩, List.mem_of_getElem? (i := 14) (by decide +kernel), List.mem_of_getElem? (i := 459) (by decide +kernel), List.mem_of_getElem? (i := 460) (by decide +kernel)⟩
theorem lw_p12 : lw_okq (⟨"VectorRounds", "isOtherwise", "(IIII)Z"⟩, 9) := ⟨⟨by decide +kernel, by decide +kernel⟩, List.mem_of_getElem? (i := 14) (by decide +kernel), List.mem_of_getElem? (i := 501) (by decide +kernel), List.mem_of_getElem? (i := 502) (by decide +kernel)⟩
theorem lw_p13 : lw_okq (⟨"VectorRounds", "drawLink", "(I)V"⟩, 9) := ⟨⟨by decide +kernel, by decide +kernel⟩, List.mem_of_getElem? (i := 14) (by decide +kernel), List.mem_of_getElem? (i := 510) (by decide +kernel), List.mem_of_getElem? (i := 511) (by decide +kernel)⟩
theorem lw_p14 : lw_okq (⟨"VectorRounds$Tape", "readLine", "()Z"⟩, 6) := ⟨⟨by decide +kernel, by decide +kernel⟩, List.mem_of_getElem? (i := 182) (by decide +kernel), List.mem_of_getElem? (i := 531) (by decide +kernel), List.mem_of_getElem? (i := 532) (by decide +kernel)⟩
theorem lw_p15 : lw_okq (⟨"VectorRounds$Tape", "readNumber", "(I)Z"⟩, 6) := ⟨⟨by decide +kernel, by decide +kernel⟩, List.mem_of_getElem? (i := 182) (by decide +kernel), List.mem_of_getElem? (i := 538) (by decide +kernel), List.mem_of_getElem? (i := 539) (by decide +kernel)⟩
def lw_privs_1 : List (MethodName × Nat) := [(⟨"VectorRounds", "noRouter", "(I)Z"⟩, 9), (⟨"VectorRounds", "noLink", "(I)Z"⟩, 9), (⟨"VectorRounds$Network", "loseVia", "(II)V"⟩, 9), (⟨"VectorRounds$Network", "take", "(III)V"⟩, 9), (⟨"VectorRounds$Network", "tell", "(III)V"⟩, 9), (⟨"VectorRounds$Network", "receive", "(IIIII)V"⟩, 9), (⟨"VectorRounds", "settledNow", "()I"⟩, 9), (⟨"VectorRounds", "loopedFirst", "()I"⟩, 9), (⟨"VectorRounds", "rightEntries", "()I"⟩, 9), (⟨"VectorRounds$Distances", "relax", "(LVectorRounds$Links;I)Z"⟩, 1), (⟨"VectorRounds", "worstCut", "()I"⟩, 9), (⟨"VectorRounds", "neededLinks", "()I"⟩, 9), (⟨"VectorRounds", "isOtherwise", "(IIII)Z"⟩, 9), (⟨"VectorRounds", "drawLink", "(I)V"⟩, 9), (⟨"VectorRounds$Tape", "readLine", "()Z"⟩, 6), (⟨"VectorRounds$Tape", "readNumber", "(I)Z"⟩, 6)]
theorem lw_r1 : ∀ q ∈ lw_privs_1, lw_okq q := List.forall_mem_cons.mpr ⟨lw_p0, List.forall_mem_cons.mpr ⟨lw_p1, List.forall_mem_cons.mpr ⟨lw_p2, List.forall_mem_cons.mpr ⟨lw_p3, List.forall_mem_cons.mpr ⟨lw_p4, List.forall_mem_cons.mpr ⟨lw_p5, List.forall_mem_cons.mpr ⟨lw_p6, List.forall_mem_cons.mpr ⟨lw_p7, List.forall_mem_cons.mpr ⟨lw_p8, List.forall_mem_cons.mpr ⟨lw_p9, List.forall_mem_cons.mpr ⟨lw_p10, List.forall_mem_cons.mpr ⟨lw_p11, List.forall_mem_cons.mpr ⟨lw_p12, List.forall_mem_cons.mpr ⟨lw_p13, List.forall_mem_cons.mpr ⟨lw_p14, List.forall_mem_cons.mpr ⟨lw_p15, fun _ h => absurd h List.not_mem_nil⟩⟩⟩⟩⟩⟩⟩⟩⟩⟩⟩⟩⟩⟩⟩⟩
theorem lw_p16 : lw_okq (⟨"VectorRounds$Tape", "isDigit", "()Z"⟩, 6) := ⟨⟨by decide +kernel, by decide +kernel⟩, List.mem_of_getElem? (i := 182) (by decide +kernel), List.mem_of_getElem? (i := 542) (by decide +kernel), List.mem_of_getElem? (i := 543) (by decide +kernel)⟩
theorem lw_p17 : lw_okq (⟨"VectorRounds", "doLine", "(I)I"⟩, 9) := ⟨⟨by decide +kernel, by decide +kernel⟩, List.mem_of_getElem? (i := 14) (by decide +kernel), List.mem_of_getElem? (i := 546) (by decide +kernel), List.mem_of_getElem? (i := 547) (by decide +kernel)⟩
theorem lw_p18 : lw_okq (⟨"VectorRounds", "fullHolders", "()I"⟩, 9) := ⟨⟨by decide +kernel, by decide +kernel⟩, List.mem_of_getElem? (i := 14) (by decide +kernel), List.mem_of_getElem? (i := 603) (by decide +kernel), List.mem_of_getElem? (i := 604) (by decide +kernel)⟩
theorem lw_p19 : lw_okq (⟨"VectorRoundsModel", "know", "(IIIII)V"⟩, 26) := ⟨⟨by decide +kernel, by decide +kernel⟩, List.mem_of_getElem? (i := 607) (by decide +kernel), List.mem_of_getElem? (i := 695) (by decide +kernel), List.mem_of_getElem? (i := 696) (by decide +kernel)⟩
theorem lw_p20 : lw_okq (⟨"VectorRoundsModel", "isRouter", "(I)Z"⟩, 26) := ⟨⟨by decide +kernel, by decide +kernel⟩, List.mem_of_getElem? (i := 607) (by decide +kernel), List.mem_of_getElem? (i := 703) (by decide +kernel), List.mem_of_getElem? (i := 704) (by decide +kernel)⟩
theorem lw_p21 : lw_okq (⟨"VectorRoundsModel", "linkOf", "(II)I"⟩, 26) := ⟨⟨by decide +kernel, by decide +kernel⟩, List.mem_of_getElem? (i := 607) (by decide +kernel), List.mem_of_getElem? (i := 710) (by decide +kernel), List.mem_of_getElem? (i := 711) (by decide +kernel)⟩
theorem lw_p22 : lw_okq (⟨"VectorRoundsModel", "addLink", "(III)V"⟩, 26) := ⟨⟨by decide +kernel, by decide +kernel⟩, List.mem_of_getElem? (i := 607) (by decide +kernel), List.mem_of_getElem? (i := 716) (by decide +kernel), List.mem_of_getElem? (i := 717) (by decide +kernel)⟩
theorem lw_p23 : lw_okq (⟨"VectorRoundsModel", "isLink", "(I)Z"⟩, 26) := ⟨⟨by decide +kernel, by decide +kernel⟩, List.mem_of_getElem? (i := 607) (by decide +kernel), List.mem_of_getElem? (i := 724) (by decide +kernel), List.mem_of_getElem? (i := 725) (by decide +kernel)⟩
theorem lw_p24 : lw_okq (⟨"VectorRoundsModel", "cut", "(I)V"⟩, 26) := ⟨⟨by decide +kernel, by decide +kernel⟩, List.mem_of_getElem? (i := 607) (by decide +kernel), List.mem_of_getElem? (i := 728) (by decide +kernel), List.mem_of_getElem? (i := 729) (by decide +kernel)⟩
theorem lw_p25 : lw_okq (⟨"VectorRoundsModel", "lose", "(II)V"⟩, 26) := ⟨⟨by decide +kernel, by decide +kernel⟩, List.mem_of_getElem? (i := 607) (by decide +kernel), List.mem_of_getElem? (i := 732) (by decide +kernel), List.mem_of_getElem? (i := 733) (by decide +kernel)⟩
theorem lw_p26 : lw_okq (⟨"VectorRoundsModel", "goRound", "()I"⟩, 26) := ⟨⟨by decide +kernel, by decide +kernel⟩, List.mem_of_getElem? (i := 607) (by decide +kernel), List.mem_of_getElem? (i := 756) (by decide +kernel), List.mem_of_getElem? (i := 757) (by decide +kernel)⟩
theorem lw_p27 : lw_okq (⟨"VectorRoundsModel", "tell", "(III)V"⟩, 26) := ⟨⟨by decide +kernel, by decide +kernel⟩, List.mem_of_getElem? (i := 607) (by decide +kernel), List.mem_of_getElem? (i := 760) (by decide +kernel), List.mem_of_getElem? (i := 761) (by decide +kernel)⟩
theorem lw_p28 : lw_okq (⟨"VectorRoundsModel", "receive", "(I)V"⟩, 26) := ⟨⟨by decide +kernel, by decide +kernel⟩, List.mem_of_getElem? (i := 607) (by decide +kernel), List.mem_of_getElem? (i := 764) (by decide +kernel), List.mem_of_getElem? (i := 765) (by decide +kernel)⟩
theorem lw_p29 : lw_okq (⟨"VectorRoundsModel", "entryOf", "(II)I"⟩, 26) := ⟨⟨by decide +kernel, by decide +kernel⟩, List.mem_of_getElem? (i := 607) (by decide +kernel), List.mem_of_getElem? (i := 768) (by decide +kernel), List.mem_of_getElem? (i := 769) (by decide +kernel)⟩
theorem lw_p30 : lw_okq (⟨"VectorRoundsModel", "become", "(III)V"⟩, 26) := ⟨⟨by decide +kernel, by decide +kernel⟩, List.mem_of_getElem? (i := 607) (by decide +kernel), List.mem_of_getElem? (i := 772) (by decide +kernel), List.mem_of_getElem? (i := 773) (by decide +kernel)⟩
theorem lw_p31 : lw_okq (⟨"VectorRoundsModel", "goWay", "(II)I"⟩, 26) := ⟨⟨by decide +kernel, by decide +kernel⟩, List.mem_of_getElem? (i := 607) (by decide +kernel), List.mem_of_getElem? (i := 788) (by decide +kernel), List.mem_of_getElem? (i := 789) (by decide +kernel)⟩
def lw_privs_2 : List (MethodName × Nat) := [(⟨"VectorRounds$Tape", "isDigit", "()Z"⟩, 6), (⟨"VectorRounds", "doLine", "(I)I"⟩, 9), (⟨"VectorRounds", "fullHolders", "()I"⟩, 9), (⟨"VectorRoundsModel", "know", "(IIIII)V"⟩, 26), (⟨"VectorRoundsModel", "isRouter", "(I)Z"⟩, 26), (⟨"VectorRoundsModel", "linkOf", "(II)I"⟩, 26), (⟨"VectorRoundsModel", "addLink", "(III)V"⟩, 26), (⟨"VectorRoundsModel", "isLink", "(I)Z"⟩, 26), (⟨"VectorRoundsModel", "cut", "(I)V"⟩, 26), (⟨"VectorRoundsModel", "lose", "(II)V"⟩, 26), (⟨"VectorRoundsModel", "goRound", "()I"⟩, 26), (⟨"VectorRoundsModel", "tell", "(III)V"⟩, 26), (⟨"VectorRoundsModel", "receive", "(I)V"⟩, 26), (⟨"VectorRoundsModel", "entryOf", "(II)I"⟩, 26), (⟨"VectorRoundsModel", "become", "(III)V"⟩, 26), (⟨"VectorRoundsModel", "goWay", "(II)I"⟩, 26)]
theorem lw_r2 : ∀ q ∈ lw_privs_2, lw_okq q := List.forall_mem_cons.mpr ⟨lw_p16, List.forall_mem_cons.mpr ⟨lw_p17, List.forall_mem_cons.mpr ⟨lw_p18, List.forall_mem_cons.mpr ⟨lw_p19, List.forall_mem_cons.mpr ⟨lw_p20, List.forall_mem_cons.mpr ⟨lw_p21, List.forall_mem_cons.mpr ⟨lw_p22, List.forall_mem_cons.mpr ⟨lw_p23, List.forall_mem_cons.mpr ⟨lw_p24, List.forall_mem_cons.mpr ⟨lw_p25, List.forall_mem_cons.mpr ⟨lw_p26, List.forall_mem_cons.mpr ⟨lw_p27, List.forall_mem_cons.mpr ⟨lw_p28, List.forall_mem_cons.mpr ⟨lw_p29, List.forall_mem_cons.mpr ⟨lw_p30, List.forall_mem_cons.mpr ⟨lw_p31, fun _ h => absurd h List.not_mem_nil⟩⟩⟩⟩⟩⟩⟩⟩⟩⟩⟩⟩⟩⟩⟩⟩
theorem lw_p32 : lw_okq (⟨"VectorRoundsModel", "nextOf", "(II)I"⟩, 26) := ⟨⟨by decide +kernel, by decide +kernel⟩, List.mem_of_getElem? (i := 607) (by decide +kernel), List.mem_of_getElem? (i := 792) (by decide +kernel), List.mem_of_getElem? (i := 793) (by decide +kernel)⟩
theorem lw_p33 : lw_okq (⟨"VectorRoundsModel", "isOnWay", "(I)Z"⟩, 26) := ⟨⟨by decide +kernel, by decide +kernel⟩, List.mem_of_getElem? (i := 607) (by decide +kernel), List.mem_of_getElem? (i := 796) (by decide +kernel), List.mem_of_getElem? (i := 797) (by decide +kernel)⟩
theorem lw_p34 : lw_okq (⟨"VectorRoundsModel", "shortestBut", "(III)I"⟩, 26) := ⟨⟨by decide +kernel, by decide +kernel⟩, List.mem_of_getElem? (i := 607) (by decide +kernel), List.mem_of_getElem? (i := 808) (by decide +kernel), List.mem_of_getElem? (i := 809) (by decide +kernel)⟩
theorem lw_p35 : lw_okq (⟨"VectorRoundsModel", "settledNow", "()I"⟩, 26) := ⟨⟨by decide +kernel, by decide +kernel⟩, List.mem_of_getElem? (i := 607) (by decide +kernel), List.mem_of_getElem? (i := 816) (by decide +kernel), List.mem_of_getElem? (i := 817) (by decide +kernel)⟩
theorem lw_p36 : lw_okq (⟨"VectorRoundsModel", "think", "()V"⟩, 26) := ⟨⟨by decide +kernel, by decide +kernel⟩, List.mem_of_getElem? (i := 607) (by decide +kernel), List.mem_of_getElem? (i := 820) (by decide +kernel), List.mem_of_getElem? (i := 821) (by decide +kernel)⟩
theorem lw_p37 : lw_okq (⟨"VectorRoundsModel", "settled", "()I"⟩, 26) := ⟨⟨by decide +kernel, by decide +kernel⟩, List.mem_of_getElem? (i := 607) (by decide +kernel), List.mem_of_getElem? (i := 827) (by decide +kernel), List.mem_of_getElem? (i := 828) (by decide +kernel)⟩
theorem lw_p38 : lw_okq (⟨"VectorRoundsModel", "wake", "()V"⟩, 26) := ⟨⟨by decide +kernel, by decide +kernel⟩, List.mem_of_getElem? (i := 607) (by decide +kernel), List.mem_of_getElem? (i := 831) (by decide +kernel), List.mem_of_getElem? (i := 832) (by decide +kernel)⟩
theorem lw_p39 : lw_okq (⟨"VectorRoundsModel", "looped", "()I"⟩, 26) := ⟨⟨by decide +kernel, by decide +kernel⟩, List.mem_of_getElem? (i := 607) (by decide +kernel), List.mem_of_getElem? (i := 835) (by decide +kernel), List.mem_of_getElem? (i := 836) (by decide +kernel)⟩
theorem lw_p40 : lw_okq (⟨"VectorRoundsModel", "loops", "()I"⟩, 26) := ⟨⟨by decide +kernel, by decide +kernel⟩, List.mem_of_getElem? (i := 607) (by decide +kernel), List.mem_of_getElem? (i := 839) (by decide +kernel), List.mem_of_getElem? (i := 840) (by decide +kernel)⟩
theorem lw_p41 : lw_okq (⟨"VectorRoundsModel", "right", "()I"⟩, 26) := ⟨⟨by decide +kernel, by decide +kernel⟩, List.mem_of_getElem? (i := 607) (by decide +kernel), List.mem_of_getElem? (i := 843) (by decide +kernel), List.mem_of_getElem? (i := 844) (by decide +kernel)⟩
theorem lw_p42 : lw_okq (⟨"VectorRoundsModel", "worstCut", "()I"⟩, 26) := ⟨⟨by decide +kernel, by decide +kernel⟩, List.mem_of_getElem? (i := 607) (by decide +kernel), List.mem_of_getElem? (i := 847) (by decide +kernel), List.mem_of_getElem? (i := 848) (by decide +kernel)⟩
theorem lw_p43 : lw_okq (⟨"VectorRoundsModel", "needed", "()I"⟩, 26) := ⟨⟨by decide +kernel, by decide +kernel⟩, List.mem_of_getElem? (i := 607) (by decide +kernel), List.mem_of_getElem? (i := 851) (by decide +kernel), List.mem_of_getElem? (i := 852) (by decide +kernel)⟩
theorem lw_p44 : lw_okq (⟨"VectorRoundsModel", "readLine", "(I)V"⟩, 26) := ⟨⟨by decide +kernel, by decide +kernel⟩, List.mem_of_getElem? (i := 607) (by decide +kernel), List.mem_of_getElem? (i := 884) (by decide +kernel), List.mem_of_getElem? (i := 885) (by decide +kernel)⟩
theorem lw_p45 : lw_okq (⟨"VectorRoundsModel", "here", "()I"⟩, 26) := ⟨⟨by decide +kernel, by decide +kernel⟩, List.mem_of_getElem? (i := 607) (by decide +kernel), List.mem_of_getElem? (i := 888) (by decide +kernel), List.mem_of_getElem? (i := 889) (by decide +kernel)⟩
theorem lw_p46 : lw_okq (⟨"VectorRoundsModel", "readNumber", "(II)V"⟩, 26) := ⟨⟨by decide +kernel, by decide +kernel⟩, List.mem_of_getElem? (i := 607) (by decide +kernel), List.mem_of_getElem? (i := 895) (by decide +kernel), List.mem_of_getElem? (i := 896) (by decide +kernel)⟩
theorem lw_p47 : lw_okq (⟨"VectorRoundsModel", "doLine", "(I)I"⟩, 26) := ⟨⟨by decide +kernel, by decide +kernel⟩, List.mem_of_getElem? (i := 607) (by decide +kernel), List.mem_of_getElem? (i := 899) (by decide +kernel), List.mem_of_getElem? (i := 900) (by decide +kernel)⟩
def lw_privs_3 : List (MethodName × Nat) := [(⟨"VectorRoundsModel", "nextOf", "(II)I"⟩, 26), (⟨"VectorRoundsModel", "isOnWay", "(I)Z"⟩, 26), (⟨"VectorRoundsModel", "shortestBut", "(III)I"⟩, 26), (⟨"VectorRoundsModel", "settledNow", "()I"⟩, 26), (⟨"VectorRoundsModel", "think", "()V"⟩, 26), (⟨"VectorRoundsModel", "settled", "()I"⟩, 26), (⟨"VectorRoundsModel", "wake", "()V"⟩, 26), (⟨"VectorRoundsModel", "looped", "()I"⟩, 26), (⟨"VectorRoundsModel", "loops", "()I"⟩, 26), (⟨"VectorRoundsModel", "right", "()I"⟩, 26), (⟨"VectorRoundsModel", "worstCut", "()I"⟩, 26), (⟨"VectorRoundsModel", "needed", "()I"⟩, 26), (⟨"VectorRoundsModel", "readLine", "(I)V"⟩, 26), (⟨"VectorRoundsModel", "here", "()I"⟩, 26), (⟨"VectorRoundsModel", "readNumber", "(II)V"⟩, 26), (⟨"VectorRoundsModel", "doLine", "(I)I"⟩, 26)]
theorem lw_r3 : ∀ q ∈ lw_privs_3, lw_okq q := List.forall_mem_cons.mpr ⟨lw_p32, List.forall_mem_cons.mpr ⟨lw_p33, List.forall_mem_cons.mpr ⟨lw_p34, List.forall_mem_cons.mpr ⟨lw_p35, List.forall_mem_cons.mpr ⟨lw_p36, List.forall_mem_cons.mpr ⟨lw_p37, List.forall_mem_cons.mpr ⟨lw_p38, List.forall_mem_cons.mpr ⟨lw_p39, List.forall_mem_cons.mpr ⟨lw_p40, List.forall_mem_cons.mpr ⟨lw_p41, List.forall_mem_cons.mpr ⟨lw_p42, List.forall_mem_cons.mpr ⟨lw_p43, List.forall_mem_cons.mpr ⟨lw_p44, List.forall_mem_cons.mpr ⟨lw_p45, List.forall_mem_cons.mpr ⟨lw_p46, List.forall_mem_cons.mpr ⟨lw_p47, fun _ h => absurd h List.not_mem_nil⟩⟩⟩⟩⟩⟩⟩⟩⟩⟩⟩⟩⟩⟩⟩⟩
def lw_privs : List (MethodName × Nat) := lw_privs_1 ++ (lw_privs_2 ++ (lw_privs_3))
def lw_tbl : List Cond := k2_sels lw_privs ++ tables_1
theorem lw_privs_ok : ∀ q ∈ lw_privs, lw_okq q := by
  show ∀ q ∈ lw_privs_1 ++ (lw_privs_2 ++ (lw_privs_3)), lw_okq q
  exact List.forall_mem_append.mpr ⟨lw_r1, List.forall_mem_append.mpr ⟨lw_r2, lw_r3⟩⟩
-- ===== end of PART A; then your names; then what follows =====
end
section
/-! ===== BEGIN words of one list among another's, by their places ===== -/
theorem goodIn_r {big : List Cond} (ws : List Cond) (ps : List Nat) (hp : ws = ps.filterMap (fun i => big[i]?)) (h : ws.all goodWord = true) : GoodIn big ws := by
  intro w hw
  have h1 := List.all_eq_true.mp h w hw
  rw [hp] at hw
  obtain ⟨i, -, hi⟩ := List.mem_filterMap.mp hw
  have hm : w ∈ big := by first | exact List.mem_of_getElem? hi | exact List.getElem?_mem hi
  exact ⟨hm, good_of_word h1⟩
theorem goodIn_app {big a b : List Cond} (ha : GoodIn big a) (hb : GoodIn big b) : GoodIn big (a ++ b) := fun w h => (List.mem_append.mp h).elim (ha w) (hb w)
theorem goodIn_ca {big a b : List Cond} {c : Cond} (ha : GoodIn big (c :: a)) (hb : GoodIn big b) : GoodIn big (c :: (a ++ b)) := fun w h => (List.mem_cons.mp h).elim (fun e => ha w (List.mem_cons.mpr (Or.inl e))) (fun h => (List.mem_append.mp h).elim (fun h => ha w (List.mem_cons.mpr (Or.inr h))) (hb w))
theorem goodIn_sub {big ws : List Cond} (hm : ∀ w ∈ ws, w ∈ big) (h : ws.all goodWord = true) : GoodIn big ws := fun w hw => ⟨hm w hw, good_of_word (List.all_eq_true.mp h w hw)⟩
/-! ===== END ===== -/

/-! ===== BEGIN printed: names, fields, word lists, decode rows ===== -/
def RX0 : String := "VectorRounds$Distances"
def TX0 : u_T := fun k => match k with
  | _ => ("VectorRounds$Distances", "to", "[I", true)
def tyX0 : Nat → FieldType := fun k => match k with
  | _ => .array .int
abbrev wsX00 : List Cond := u_ws RX0 TX0 1
theorem nmX0 : ∀ a, a < 1 → ∀ b, b < 1 → a ≠ b → (TX0 a).2.1 ≠ (TX0 b).2.1 := by decide +kernel
theorem tyX0_ok : ∀ k, k < 1 → parseFieldDescriptor (TX0 k).2.2.1 = some (tyX0 k) := by decide +kernel
abbrev cX0_init : ByteArray := prog_2_method_1_code
def yX0_init : MethodName := ⟨RX0, "<init>", "()V"⟩
abbrev cX0_measure : ByteArray := prog_2_method_2_code
def yX0_measure : MethodName := ⟨RX0, "measure", "(LVectorRounds$Network;II)V"⟩
abbrev cX0_relax : ByteArray := prog_2_method_3_code
def yX0_relax : MethodName := ⟨RX0, "relax", "(LVectorRounds$Links;I)Z"⟩
def RX1 : String := "VectorRounds$Holder"
def TX1 : u_T := fun k => match k with
  | 0 => ("VectorRounds$Holder", "sort", "I", false)
  | 1 => ("VectorRounds$Holder", "own", "Z", false)
  | 2 => ("VectorRounds$Holder", "metric", "I", false)
  | 3 => ("VectorRounds$Holder", "via", "I", false)
  | 4 => ("VectorRounds$Holder", "sequence", "I", false)
  | 5 => ("VectorRounds$Holder", "held", "I", false)
  | 6 => ("VectorRounds$Holder", "items", "[I", true)
  | _ => ("VectorRounds$Holder", "length", "I", false)
def tyX1 : Nat → FieldType := fun k => match k with
  | 0 => .int
  | 1 => .boolean
  | 2 => .int
  | 3 => .int
  | 4 => .int
  | 5 => .int
  | 6 => .array .int
  | _ => .int
abbrev wsX10 : List Cond := u_ws RX1 TX1 8
theorem nmX1 : ∀ a, a < 8 → ∀ b, b < 8 → a ≠ b → (TX1 a).2.1 ≠ (TX1 b).2.1 := by decide +kernel
theorem tyX1_ok : ∀ k, k < 8 → parseFieldDescriptor (TX1 k).2.2.1 = some (tyX1 k) := by decide +kernel
abbrev cX1_init : ByteArray := prog_3_method_1_code
def yX1_init : MethodName := ⟨RX1, "<init>", "()V"⟩
abbrev cX1_keepEntry : ByteArray := prog_3_method_2_code
def yX1_keepEntry : MethodName := ⟨RX1, "keepEntry", "(LVectorRounds$Tables;II)V"⟩
abbrev cX1_keepRow : ByteArray := prog_3_method_3_code
def yX1_keepRow : MethodName := ⟨RX1, "keepRow", "(I)V"⟩
def RX2 : String := "VectorRounds$Links"
def TX2 : u_T := fun k => match k with
  | 0 => ("VectorRounds$Links", "lesser", "[I", true)
  | 1 => ("VectorRounds$Links", "greater", "[I", true)
  | 2 => ("VectorRounds$Links", "price", "[I", true)
  | 3 => ("VectorRounds$Links", "up", "[I", true)
  | 4 => ("VectorRounds$Links", "joint", "[I", true)
  | _ => ("VectorRounds$Links", "size", "I", false)
def tyX2 : Nat → FieldType := fun k => match k with
  | 0 => .array .int
  | 1 => .array .int
  | 2 => .array .int
  | 3 => .array .int
  | 4 => .array .int
  | _ => .int
abbrev wsX20 : List Cond := u_ws RX2 TX2 6
theorem nmX2 : ∀ a, a < 6 → ∀ b, b < 6 → a ≠ b → (TX2 a).2.1 ≠ (TX2 b).2.1 := by decide +kernel
theorem tyX2_ok : ∀ k, k < 6 → parseFieldDescriptor (TX2 k).2.2.1 = some (tyX2 k) := by decide +kernel
abbrev cX2_init : ByteArray := prog_4_method_1_code
def yX2_init : MethodName := ⟨RX2, "<init>", "()V"⟩
abbrev cX2_become : ByteArray := prog_4_method_2_code
def yX2_become : MethodName := ⟨RX2, "become", "(LVectorRounds$Links;)V"⟩
abbrev cX2_joining : ByteArray := prog_4_method_3_code
def yX2_joining : MethodName := ⟨RX2, "joining", "(II)I"⟩
abbrev cX2_add : ByteArray := prog_4_method_4_code
def yX2_add : MethodName := ⟨RX2, "add", "(III)I"⟩
abbrev cX2_howManyUp : ByteArray := prog_4_method_5_code
def yX2_howManyUp : MethodName := ⟨RX2, "howManyUp", "()I"⟩
def RX3 : String := "VectorRounds$Network"
def TX3 : u_T := fun k => match k with
  | 0 => ("VectorRounds$Network", "tables", "LVectorRounds$Tables;", true)
  | 1 => ("VectorRounds$Network", "before", "LVectorRounds$Tables;", true)
  | 2 => ("VectorRounds$Network", "links", "LVectorRounds$Links;", true)
  | 3 => ("VectorRounds$Network", "routers", "I", false)
  | 4 => ("VectorRounds$Network", "horizon", "I", false)
  | 5 => ("VectorRounds$Network", "sequenced", "I", false)
  | 6 => ("VectorRounds$Network", "holdDown", "I", false)
  | 7 => ("VectorRounds$Network", "round", "I", false)
  | _ => ("VectorRounds$Network", "toldEver", "I", false)
def tyX3 : Nat → FieldType := fun k => match k with
  | 0 => .object "VectorRounds$Tables"
  | 1 => .object "VectorRounds$Tables"
  | 2 => .object "VectorRounds$Links"
  | 3 => .int
  | 4 => .int
  | 5 => .int
  | 6 => .int
  | 7 => .int
  | _ => .int
abbrev wsX30 : List Cond := u_ws RX3 TX3 9
theorem nmX3 : ∀ a, a < 9 → ∀ b, b < 9 → a ≠ b → (TX3 a).2.1 ≠ (TX3 b).2.1 := by decide +kernel
theorem tyX3_ok : ∀ k, k < 9 → parseFieldDescriptor (TX3 k).2.2.1 = some (tyX3 k) := by decide +kernel
abbrev cX3_init : ByteArray := prog_5_method_1_code
def yX3_init : MethodName := ⟨RX3, "<init>", "()V"⟩
abbrev cX3_become : ByteArray := prog_5_method_2_code
def yX3_become : MethodName := ⟨RX3, "become", "(LVectorRounds$Network;)V"⟩
abbrev cX3_addRouter : ByteArray := prog_5_method_3_code
def yX3_addRouter : MethodName := ⟨RX3, "addRouter", "()I"⟩
abbrev cX3_switchLink : ByteArray := prog_5_method_4_code
def yX3_switchLink : MethodName := ⟨RX3, "switchLink", "(I)V"⟩
abbrev cX3_loseVia : ByteArray := prog_5_method_5_code
def yX3_loseVia : MethodName := ⟨RX3, "loseVia", "(II)V"⟩
abbrev cX3_goRound : ByteArray := prog_5_method_6_code
def yX3_goRound : MethodName := ⟨RX3, "goRound", "()I"⟩
abbrev cX3_roundsToSettle : ByteArray := prog_5_method_7_code
def yX3_roundsToSettle : MethodName := ⟨RX3, "roundsToSettle", "()I"⟩
abbrev cX3_tell : ByteArray := prog_5_method_8_code
def yX3_tell : MethodName := ⟨RX3, "tell", "(III)V"⟩
abbrev cX3_receive : ByteArray := prog_5_method_9_code
def yX3_receive : MethodName := ⟨RX3, "receive", "(IIIII)V"⟩
abbrev cX3_take : ByteArray := prog_5_method_10_code
def yX3_take : MethodName := ⟨RX3, "take", "(III)V"⟩
def RX4 : String := "VectorRounds$Tables"
def TX4 : u_T := fun k => match k with
  | 0 => ("VectorRounds$Tables", "metric", "[I", true)
  | 1 => ("VectorRounds$Tables", "via", "[I", true)
  | 2 => ("VectorRounds$Tables", "sequence", "[I", true)
  | 3 => ("VectorRounds$Tables", "held", "[I", true)
  | 4 => ("VectorRounds$Tables", "order", "[I", true)
  | _ => ("VectorRounds$Tables", "size", "[I", true)
def tyX4 : Nat → FieldType := fun k => match k with
  | 0 => .array .int
  | 1 => .array .int
  | 2 => .array .int
  | 3 => .array .int
  | 4 => .array .int
  | _ => .array .int
abbrev wsX40 : List Cond := u_ws RX4 TX4 6
theorem nmX4 : ∀ a, a < 6 → ∀ b, b < 6 → a ≠ b → (TX4 a).2.1 ≠ (TX4 b).2.1 := by decide +kernel
theorem tyX4_ok : ∀ k, k < 6 → parseFieldDescriptor (TX4 k).2.2.1 = some (tyX4 k) := by decide +kernel
abbrev cX4_init : ByteArray := prog_6_method_1_code
def yX4_init : MethodName := ⟨RX4, "<init>", "()V"⟩
abbrev cX4_become : ByteArray := prog_6_method_2_code
def yX4_become : MethodName := ⟨RX4, "become", "(LVectorRounds$Tables;)V"⟩
abbrev cX4_has : ByteArray := prog_6_method_3_code
def yX4_has : MethodName := ⟨RX4, "has", "(I)Z"⟩
abbrev cX4_reaches : ByteArray := prog_6_method_4_code
def yX4_reaches : MethodName := ⟨RX4, "reaches", "(I)Z"⟩
abbrev cX4_enter : ByteArray := prog_6_method_5_code
def yX4_enter : MethodName := ⟨RX4, "enter", "(IIIII)V"⟩
abbrev cX4_placeOf : ByteArray := prog_6_method_6_code
def yX4_placeOf : MethodName := ⟨RX4, "placeOf", "(II)I"⟩
abbrev cX4_howMany : ByteArray := prog_6_method_7_code
def yX4_howMany : MethodName := ⟨RX4, "howMany", "(Z)I"⟩
abbrev cX4_howManyDiffer : ByteArray := prog_6_method_8_code
def yX4_howManyDiffer : MethodName := ⟨RX4, "howManyDiffer", "(LVectorRounds$Tables;)I"⟩
def RX5 : String := "VectorRounds$Tape"
def TX5 : u_T := fun k => match k with
  | 0 => ("VectorRounds$Tape", "bytes", "[I", true)
  | 1 => ("VectorRounds$Tape", "length", "I", false)
  | 2 => ("VectorRounds$Tape", "letters", "[I", true)
  | 3 => ("VectorRounds$Tape", "numbers", "[I", true)
  | 4 => ("VectorRounds$Tape", "lines", "I", false)
  | _ => ("VectorRounds$Tape", "at", "I", false)
def tyX5 : Nat → FieldType := fun k => match k with
  | 0 => .array .int
  | 1 => .int
  | 2 => .array .int
  | 3 => .array .int
  | 4 => .int
  | _ => .int
abbrev wsX50 : List Cond := u_ws RX5 TX5 6
theorem nmX5 : ∀ a, a < 6 → ∀ b, b < 6 → a ≠ b → (TX5 a).2.1 ≠ (TX5 b).2.1 := by decide +kernel
theorem tyX5_ok : ∀ k, k < 6 → parseFieldDescriptor (TX5 k).2.2.1 = some (tyX5 k) := by decide +kernel
abbrev cX5_init : ByteArray := prog_7_method_1_code
def yX5_init : MethodName := ⟨RX5, "<init>", "()V"⟩
abbrev cX5_add : ByteArray := prog_7_method_2_code
def yX5_add : MethodName := ⟨RX5, "add", "(I)I"⟩
abbrev cX5_readLines : ByteArray := prog_7_method_3_code
def yX5_readLines : MethodName := ⟨RX5, "readLines", "()I"⟩
abbrev cX5_readLine : ByteArray := prog_7_method_4_code
def yX5_readLine : MethodName := ⟨RX5, "readLine", "()Z"⟩
abbrev cX5_readNumber : ByteArray := prog_7_method_5_code
def yX5_readNumber : MethodName := ⟨RX5, "readNumber", "(I)Z"⟩
abbrev cX5_isDigit : ByteArray := prog_7_method_6_code
def yX5_isDigit : MethodName := ⟨RX5, "isDigit", "()Z"⟩
abbrev cX5_howManyNumbers : ByteArray := prog_7_method_7_code
def yX5_howManyNumbers : MethodName := ⟨RX5, "howManyNumbers", "(I)I"⟩
def RX6 : String := "VectorRounds$Way"
def TX6 : u_T := fun k => match k with
  | 0 => ("VectorRounds$Way", "stops", "[I", true)
  | 1 => ("VectorRounds$Way", "length", "I", false)
  | _ => ("VectorRounds$Way", "ending", "I", false)
def tyX6 : Nat → FieldType := fun k => match k with
  | 0 => .array .int
  | 1 => .int
  | _ => .int
abbrev wsX60 : List Cond := u_ws RX6 TX6 3
theorem nmX6 : ∀ a, a < 3 → ∀ b, b < 3 → a ≠ b → (TX6 a).2.1 ≠ (TX6 b).2.1 := by decide +kernel
theorem tyX6_ok : ∀ k, k < 3 → parseFieldDescriptor (TX6 k).2.2.1 = some (tyX6 k) := by decide +kernel
abbrev cX6_init : ByteArray := prog_8_method_1_code
def yX6_init : MethodName := ⟨RX6, "<init>", "()V"⟩
abbrev cX6_walk : ByteArray := prog_8_method_2_code
def yX6_walk : MethodName := ⟨RX6, "walk", "(LVectorRounds$Tables;II)V"⟩
abbrev cX6_loopsIn : ByteArray := prog_8_method_3_code
def yX6_loopsIn : MethodName := ⟨RX6, "loopsIn", "(LVectorRounds$Network;)I"⟩
def RX7 : String := "VectorRounds"
def TX7 : u_T := fun k => match k with
  | 0 => ("VectorRounds", "now", "LVectorRounds$Network;", true)
  | 1 => ("VectorRounds", "thought", "LVectorRounds$Network;", true)
  | 2 => ("VectorRounds", "kept", "LVectorRounds$Network;", true)
  | 3 => ("VectorRounds", "ahead", "LVectorRounds$Network;", true)
  | 4 => ("VectorRounds", "path", "LVectorRounds$Way;", true)
  | 5 => ("VectorRounds", "least", "LVectorRounds$Distances;", true)
  | 6 => ("VectorRounds", "tape", "LVectorRounds$Tape;", true)
  | 7 => ("VectorRounds", "holders", "[LVectorRounds$Holder;", true)
  | _ => ("VectorRounds", "imaged", "Z", false)
def tyX7 : Nat → FieldType := fun k => match k with
  | 0 => .object "VectorRounds$Network"
  | 1 => .object "VectorRounds$Network"
  | 2 => .object "VectorRounds$Network"
  | 3 => .object "VectorRounds$Network"
  | 4 => .object "VectorRounds$Way"
  | 5 => .object "VectorRounds$Distances"
  | 6 => .object "VectorRounds$Tape"
  | 7 => .array (.object "VectorRounds$Holder")
  | _ => .boolean
abbrev wsX70 : List Cond := u_ws RX7 TX7 9
theorem nmX7 : ∀ a, a < 9 → ∀ b, b < 9 → a ≠ b → (TX7 a).2.1 ≠ (TX7 b).2.1 := by decide +kernel
theorem tyX7_ok : ∀ k, k < 9 → parseFieldDescriptor (TX7 k).2.2.1 = some (tyX7 k) := by decide +kernel
abbrev cX7_init : ByteArray := prog_1_method_1_code
def yX7_init : MethodName := ⟨RX7, "<init>", "()V"⟩
abbrev cX7_router : ByteArray := prog_1_method_2_code
def yX7_router : MethodName := ⟨RX7, "router", "()I"⟩
abbrev cX7_link : ByteArray := prog_1_method_3_code
def yX7_link : MethodName := ⟨RX7, "link", "(III)I"⟩
abbrev cX7_turn : ByteArray := prog_1_method_4_code
def yX7_turn : MethodName := ⟨RX7, "turn", "(II)I"⟩
abbrev cX7_cost : ByteArray := prog_1_method_5_code
def yX7_cost : MethodName := ⟨RX7, "cost", "(II)I"⟩
abbrev cX7_rule : ByteArray := prog_1_method_6_code
def yX7_rule : MethodName := ⟨RX7, "rule", "(II)I"⟩
abbrev cX7_of : ByteArray := prog_1_method_7_code
def yX7_of : MethodName := ⟨RX7, "of", "(II)I"⟩
abbrev cX7_between : ByteArray := prog_1_method_8_code
def yX7_between : MethodName := ⟨RX7, "between", "(II)I"⟩
abbrev cX7_rounds : ByteArray := prog_1_method_9_code
def yX7_rounds : MethodName := ⟨RX7, "rounds", "(I)I"⟩
abbrev cX7_entry : ByteArray := prog_1_method_10_code
def yX7_entry : MethodName := ⟨RX7, "entry", "(III)I"⟩
abbrev cX7_known : ByteArray := prog_1_method_11_code
def yX7_known : MethodName := ⟨RX7, "known", "(II)I"⟩
abbrev cX7_told : ByteArray := prog_1_method_12_code
def yX7_told : MethodName := ⟨RX7, "told", "(I)I"⟩
abbrev cX7_then : ByteArray := prog_1_method_13_code
def yX7_then : MethodName := ⟨RX7, "then", "(IIII)I"⟩
abbrev cX7_way : ByteArray := prog_1_method_14_code
def yX7_way : MethodName := ⟨RX7, "way", "(III)I"⟩
abbrev cX7_ends : ByteArray := prog_1_method_15_code
def yX7_ends : MethodName := ⟨RX7, "ends", "(II)I"⟩
abbrev cX7_shortest : ByteArray := prog_1_method_16_code
def yX7_shortest : MethodName := ⟨RX7, "shortest", "(II)I"⟩
abbrev cX7_counts : ByteArray := prog_1_method_17_code
def yX7_counts : MethodName := ⟨RX7, "counts", "(II)I"⟩
abbrev cX7_packet : ByteArray := prog_1_method_18_code
def yX7_packet : MethodName := ⟨RX7, "packet", "(IIII)I"⟩
abbrev cX7_tried : ByteArray := prog_1_method_19_code
def yX7_tried : MethodName := ⟨RX7, "tried", "(I)I"⟩
abbrev cX7_judge : ByteArray := prog_1_method_20_code
def yX7_judge : MethodName := ⟨RX7, "judge", "(II)I"⟩
abbrev cX7_drawn : ByteArray := prog_1_method_21_code
def yX7_drawn : MethodName := ⟨RX7, "drawn", "(II)I"⟩
abbrev cX7_feed : ByteArray := prog_1_method_22_code
def yX7_feed : MethodName := ⟨RX7, "feed", "(I)I"⟩
abbrev cX7_script : ByteArray := prog_1_method_23_code
def yX7_script : MethodName := ⟨RX7, "script", "()I"⟩
abbrev cX7_image : ByteArray := prog_1_method_24_code
def yX7_image : MethodName := ⟨RX7, "image", "()I"⟩
abbrev cX7_back : ByteArray := prog_1_method_25_code
def yX7_back : MethodName := ⟨RX7, "back", "()I"⟩
abbrev cX7_hold : ByteArray := prog_1_method_26_code
def yX7_hold : MethodName := ⟨RX7, "hold", "(III)I"⟩
abbrev cX7_row : ByteArray := prog_1_method_27_code
def yX7_row : MethodName := ⟨RX7, "row", "(II)I"⟩
abbrev cX7_put : ByteArray := prog_1_method_28_code
def yX7_put : MethodName := ⟨RX7, "put", "(III)I"⟩
abbrev cX7_tells : ByteArray := prog_1_method_29_code
def yX7_tells : MethodName := ⟨RX7, "tells", "(II)I"⟩
abbrev cX7_count : ByteArray := prog_1_method_30_code
def yX7_count : MethodName := ⟨RX7, "count", "(I)I"⟩
abbrev cX7_noRouter : ByteArray := prog_1_method_31_code
def yX7_noRouter : MethodName := ⟨RX7, "noRouter", "(I)Z"⟩
abbrev cX7_noLink : ByteArray := prog_1_method_32_code
def yX7_noLink : MethodName := ⟨RX7, "noLink", "(I)Z"⟩
abbrev cX7_noHolder : ByteArray := prog_1_method_33_code
def yX7_noHolder : MethodName := ⟨RX7, "noHolder", "(I)Z"⟩
abbrev cX7_mostOfRule : ByteArray := prog_1_method_34_code
def yX7_mostOfRule : MethodName := ⟨RX7, "mostOfRule", "(I)I"⟩
abbrev cX7_orNot : ByteArray := prog_1_method_35_code
def yX7_orNot : MethodName := ⟨RX7, "orNot", "(I)I"⟩
abbrev cX7_settledNow : ByteArray := prog_1_method_36_code
def yX7_settledNow : MethodName := ⟨RX7, "settledNow", "()I"⟩
abbrev cX7_loopedFirst : ByteArray := prog_1_method_37_code
def yX7_loopedFirst : MethodName := ⟨RX7, "loopedFirst", "()I"⟩
abbrev cX7_rightEntries : ByteArray := prog_1_method_38_code
def yX7_rightEntries : MethodName := ⟨RX7, "rightEntries", "()I"⟩
abbrev cX7_worstCut : ByteArray := prog_1_method_39_code
def yX7_worstCut : MethodName := ⟨RX7, "worstCut", "()I"⟩
abbrev cX7_neededLinks : ByteArray := prog_1_method_40_code
def yX7_neededLinks : MethodName := ⟨RX7, "neededLinks", "()I"⟩
abbrev cX7_isOtherwise : ByteArray := prog_1_method_41_code
def yX7_isOtherwise : MethodName := ⟨RX7, "isOtherwise", "(IIII)Z"⟩
abbrev cX7_drawLink : ByteArray := prog_1_method_42_code
def yX7_drawLink : MethodName := ⟨RX7, "drawLink", "(I)V"⟩
abbrev cX7_doLine : ByteArray := prog_1_method_43_code
def yX7_doLine : MethodName := ⟨RX7, "doLine", "(I)I"⟩
abbrev cX7_fullHolders : ByteArray := prog_1_method_44_code
def yX7_fullHolders : MethodName := ⟨RX7, "fullHolders", "()I"⟩
def RX8 : String := "VectorRoundsModel"
def TX8 : u_T := fun k => match k with
  | 0 => ("VectorRoundsModel", "code", "I", false)
  | 1 => ("VectorRoundsModel", "s", "[I", false)
  | 2 => ("VectorRoundsModel", "thought", "[I", false)
  | 3 => ("VectorRoundsModel", "aside", "[I", true)
  | 4 => ("VectorRoundsModel", "toWhom", "[I", true)
  | 5 => ("VectorRoundsModel", "byWhom", "[I", true)
  | 6 => ("VectorRoundsModel", "byCost", "[I", true)
  | 7 => ("VectorRoundsModel", "ofWhom", "[I", true)
  | 8 => ("VectorRoundsModel", "metrics", "[I", true)
  | 9 => ("VectorRoundsModel", "sequences", "[I", true)
  | 10 => ("VectorRoundsModel", "sent", "I", false)
  | 11 => ("VectorRoundsModel", "wasKnown", "[I", true)
  | 12 => ("VectorRoundsModel", "was", "[I", true)
  | 13 => ("VectorRoundsModel", "way", "[I", true)
  | 14 => ("VectorRoundsModel", "steps", "I", false)
  | 15 => ("VectorRoundsModel", "far", "[I", true)
  | 16 => ("VectorRoundsModel", "tape", "[I", true)
  | 17 => ("VectorRoundsModel", "taped", "I", false)
  | 18 => ("VectorRoundsModel", "at", "I", false)
  | 19 => ("VectorRoundsModel", "fault", "I", false)
  | 20 => ("VectorRoundsModel", "lineKind", "[I", true)
  | 21 => ("VectorRoundsModel", "lineNumber", "[I", true)
  | 22 => ("VectorRoundsModel", "hasImage", "Z", false)
  | 23 => ("VectorRoundsModel", "kept", "[I", true)
  | 24 => ("VectorRoundsModel", "holds", "[I", true)
  | _ => ("VectorRoundsModel", "element", "[I", true)
def tyX8 : Nat → FieldType := fun k => match k with
  | 0 => .int
  | 1 => .array .int
  | 2 => .array .int
  | 3 => .array .int
  | 4 => .array .int
  | 5 => .array .int
  | 6 => .array .int
  | 7 => .array .int
  | 8 => .array .int
  | 9 => .array .int
  | 10 => .int
  | 11 => .array .int
  | 12 => .array .int
  | 13 => .array .int
  | 14 => .int
  | 15 => .array .int
  | 16 => .array .int
  | 17 => .int
  | 18 => .int
  | 19 => .int
  | 20 => .array .int
  | 21 => .array .int
  | 22 => .boolean
  | 23 => .array .int
  | 24 => .array .int
  | _ => .array .int
abbrev wsX80 : List Cond := u_ws RX8 TX8 26
theorem nmX8 : ∀ a, a < 26 → ∀ b, b < 26 → a ≠ b → (TX8 a).2.1 ≠ (TX8 b).2.1 := by decide +kernel
theorem tyX8_ok : ∀ k, k < 26 → parseFieldDescriptor (TX8 k).2.2.1 = some (tyX8 k) := by decide +kernel
abbrev cX8_init : ByteArray := prog_10_method_1_code
def yX8_init : MethodName := ⟨RX8, "<init>", "()V"⟩
abbrev cX8_in : ByteArray := prog_10_method_3_code
def yX8_in : MethodName := ⟨RX8, "in", "(III)Z"⟩
abbrev cX8_isRouter : ByteArray := prog_10_method_4_code
def yX8_isRouter : MethodName := ⟨RX8, "isRouter", "(I)Z"⟩
abbrev cX8_isLink : ByteArray := prog_10_method_5_code
def yX8_isLink : MethodName := ⟨RX8, "isLink", "(I)Z"⟩
abbrev cX8_copy : ByteArray := prog_10_method_6_code
def yX8_copy : MethodName := ⟨RX8, "copy", "([I[I)V"⟩
abbrev cX8_think : ByteArray := prog_10_method_7_code
def yX8_think : MethodName := ⟨RX8, "think", "()V"⟩
abbrev cX8_wake : ByteArray := prog_10_method_8_code
def yX8_wake : MethodName := ⟨RX8, "wake", "()V"⟩
abbrev cX8_entryOf : ByteArray := prog_10_method_9_code
def yX8_entryOf : MethodName := ⟨RX8, "entryOf", "(II)I"⟩
abbrev cX8_know : ByteArray := prog_10_method_10_code
def yX8_know : MethodName := ⟨RX8, "know", "(IIIII)V"⟩
abbrev cX8_router : ByteArray := prog_10_method_11_code
def yX8_router : MethodName := ⟨RX8, "router", "()I"⟩
abbrev cX8_linkOf : ByteArray := prog_10_method_12_code
def yX8_linkOf : MethodName := ⟨RX8, "linkOf", "(II)I"⟩
abbrev cX8_addLink : ByteArray := prog_10_method_13_code
def yX8_addLink : MethodName := ⟨RX8, "addLink", "(III)V"⟩
abbrev cX8_link : ByteArray := prog_10_method_14_code
def yX8_link : MethodName := ⟨RX8, "link", "(III)I"⟩
abbrev cX8_lose : ByteArray := prog_10_method_15_code
def yX8_lose : MethodName := ⟨RX8, "lose", "(II)V"⟩
abbrev cX8_cut : ByteArray := prog_10_method_16_code
def yX8_cut : MethodName := ⟨RX8, "cut", "(I)V"⟩
abbrev cX8_turn : ByteArray := prog_10_method_17_code
def yX8_turn : MethodName := ⟨RX8, "turn", "(II)I"⟩
abbrev cX8_cost : ByteArray := prog_10_method_18_code
def yX8_cost : MethodName := ⟨RX8, "cost", "(II)I"⟩
abbrev cX8_rule : ByteArray := prog_10_method_19_code
def yX8_rule : MethodName := ⟨RX8, "rule", "(II)I"⟩
abbrev cX8_of : ByteArray := prog_10_method_20_code
def yX8_of : MethodName := ⟨RX8, "of", "(II)I"⟩
abbrev cX8_between : ByteArray := prog_10_method_21_code
def yX8_between : MethodName := ⟨RX8, "between", "(II)I"⟩
abbrev cX8_tell : ByteArray := prog_10_method_22_code
def yX8_tell : MethodName := ⟨RX8, "tell", "(III)V"⟩
abbrev cX8_become : ByteArray := prog_10_method_23_code
def yX8_become : MethodName := ⟨RX8, "become", "(III)V"⟩
abbrev cX8_receive : ByteArray := prog_10_method_24_code
def yX8_receive : MethodName := ⟨RX8, "receive", "(I)V"⟩
abbrev cX8_goRound : ByteArray := prog_10_method_25_code
def yX8_goRound : MethodName := ⟨RX8, "goRound", "()I"⟩
abbrev cX8_rounds : ByteArray := prog_10_method_26_code
def yX8_rounds : MethodName := ⟨RX8, "rounds", "(I)I"⟩
abbrev cX8_entry : ByteArray := prog_10_method_27_code
def yX8_entry : MethodName := ⟨RX8, "entry", "(III)I"⟩
abbrev cX8_known : ByteArray := prog_10_method_28_code
def yX8_known : MethodName := ⟨RX8, "known", "(II)I"⟩
abbrev cX8_nextOf : ByteArray := prog_10_method_29_code
def yX8_nextOf : MethodName := ⟨RX8, "nextOf", "(II)I"⟩
abbrev cX8_isOnWay : ByteArray := prog_10_method_30_code
def yX8_isOnWay : MethodName := ⟨RX8, "isOnWay", "(I)Z"⟩
abbrev cX8_goWay : ByteArray := prog_10_method_31_code
def yX8_goWay : MethodName := ⟨RX8, "goWay", "(II)I"⟩
abbrev cX8_loops : ByteArray := prog_10_method_32_code
def yX8_loops : MethodName := ⟨RX8, "loops", "()I"⟩
abbrev cX8_way : ByteArray := prog_10_method_33_code
def yX8_way : MethodName := ⟨RX8, "way", "(III)I"⟩
abbrev cX8_ends : ByteArray := prog_10_method_34_code
def yX8_ends : MethodName := ⟨RX8, "ends", "(II)I"⟩
abbrev cX8_shortestBut : ByteArray := prog_10_method_35_code
def yX8_shortestBut : MethodName := ⟨RX8, "shortestBut", "(III)I"⟩
abbrev cX8_shortest : ByteArray := prog_10_method_36_code
def yX8_shortest : MethodName := ⟨RX8, "shortest", "(II)I"⟩
abbrev cX8_right : ByteArray := prog_10_method_37_code
def yX8_right : MethodName := ⟨RX8, "right", "()I"⟩
abbrev cX8_needed : ByteArray := prog_10_method_38_code
def yX8_needed : MethodName := ⟨RX8, "needed", "()I"⟩
abbrev cX8_settled : ByteArray := prog_10_method_39_code
def yX8_settled : MethodName := ⟨RX8, "settled", "()I"⟩
abbrev cX8_settledNow : ByteArray := prog_10_method_40_code
def yX8_settledNow : MethodName := ⟨RX8, "settledNow", "()I"⟩
abbrev cX8_looped : ByteArray := prog_10_method_41_code
def yX8_looped : MethodName := ⟨RX8, "looped", "()I"⟩
abbrev cX8_worstCut : ByteArray := prog_10_method_42_code
def yX8_worstCut : MethodName := ⟨RX8, "worstCut", "()I"⟩
abbrev cX8_told : ByteArray := prog_10_method_43_code
def yX8_told : MethodName := ⟨RX8, "told", "(I)I"⟩
abbrev cX8_then : ByteArray := prog_10_method_44_code
def yX8_then : MethodName := ⟨RX8, "then", "(IIII)I"⟩
abbrev cX8_counts : ByteArray := prog_10_method_45_code
def yX8_counts : MethodName := ⟨RX8, "counts", "(II)I"⟩
abbrev cX8_packet : ByteArray := prog_10_method_46_code
def yX8_packet : MethodName := ⟨RX8, "packet", "(IIII)I"⟩
abbrev cX8_tried : ByteArray := prog_10_method_47_code
def yX8_tried : MethodName := ⟨RX8, "tried", "(I)I"⟩
abbrev cX8_drawn : ByteArray := prog_10_method_48_code
def yX8_drawn : MethodName := ⟨RX8, "drawn", "(II)I"⟩
abbrev cX8_feed : ByteArray := prog_10_method_49_code
def yX8_feed : MethodName := ⟨RX8, "feed", "(I)I"⟩
abbrev cX8_here : ByteArray := prog_10_method_50_code
def yX8_here : MethodName := ⟨RX8, "here", "()I"⟩
abbrev cX8_numbersOf : ByteArray := prog_10_method_51_code
def yX8_numbersOf : MethodName := ⟨RX8, "numbersOf", "(I)I"⟩
abbrev cX8_readNumber : ByteArray := prog_10_method_52_code
def yX8_readNumber : MethodName := ⟨RX8, "readNumber", "(II)V"⟩
abbrev cX8_readLine : ByteArray := prog_10_method_53_code
def yX8_readLine : MethodName := ⟨RX8, "readLine", "(I)V"⟩
abbrev cX8_doLine : ByteArray := prog_10_method_54_code
def yX8_doLine : MethodName := ⟨RX8, "doLine", "(I)I"⟩
abbrev cX8_script : ByteArray := prog_10_method_55_code
def yX8_script : MethodName := ⟨RX8, "script", "()I"⟩
abbrev cX8_image : ByteArray := prog_10_method_56_code
def yX8_image : MethodName := ⟨RX8, "image", "()I"⟩
abbrev cX8_back : ByteArray := prog_10_method_57_code
def yX8_back : MethodName := ⟨RX8, "back", "()I"⟩
abbrev cX8_isHolder : ByteArray := prog_10_method_58_code
def yX8_isHolder : MethodName := ⟨RX8, "isHolder", "(I)Z"⟩
abbrev cX8_hold : ByteArray := prog_10_method_59_code
def yX8_hold : MethodName := ⟨RX8, "hold", "(III)I"⟩
abbrev cX8_row : ByteArray := prog_10_method_60_code
def yX8_row : MethodName := ⟨RX8, "row", "(II)I"⟩
abbrev cX8_put : ByteArray := prog_10_method_61_code
def yX8_put : MethodName := ⟨RX8, "put", "(III)I"⟩
abbrev cX8_tells : ByteArray := prog_10_method_62_code
def yX8_tells : MethodName := ⟨RX8, "tells", "(II)I"⟩
abbrev cX8_judge : ByteArray := prog_10_method_63_code
def yX8_judge : MethodName := ⟨RX8, "judge", "(II)I"⟩
abbrev cX8_count : ByteArray := prog_10_method_64_code
def yX8_count : MethodName := ⟨RX8, "count", "(I)I"⟩
def RJ9 : String := "java/lang/Math"
def TJ9 : u_T := fun k => match k with
  | _ => ("", "", "", false)
def tyJ9 : Nat → FieldType := fun k => match k with
  | _ => .int
abbrev wsJ90 : List Cond := u_ws RJ9 TJ9 0
theorem nmJ9 : ∀ a, a < 0 → ∀ b, b < 0 → a ≠ b → (TJ9 a).2.1 ≠ (TJ9 b).2.1 := by decide +kernel
theorem tyJ9_ok : ∀ k, k < 0 → parseFieldDescriptor (TJ9 k).2.2.1 = some (tyJ9 k) := by decide +kernel
abbrev cJ9_max_7cf53 : ByteArray := prog_11_method_65_code
def yJ9_max_7cf53 : MethodName := ⟨RJ9, "max", "(II)I"⟩
abbrev cJ9_min_7cf53 : ByteArray := prog_11_method_69_code
def yJ9_min_7cf53 : MethodName := ⟨RJ9, "min", "(II)I"⟩
def RJ10 : String := "java/lang/System"
def TJ10 : u_T := fun k => match k with
  | _ => ("", "", "", false)
def tyJ10 : Nat → FieldType := fun k => match k with
  | _ => .int
abbrev wsJ100 : List Cond := u_ws RJ10 TJ10 0
theorem nmJ10 : ∀ a, a < 0 → ∀ b, b < 0 → a ≠ b → (TJ10 a).2.1 ≠ (TJ10 b).2.1 := by decide +kernel
theorem tyJ10_ok : ∀ k, k < 0 → parseFieldDescriptor (TJ10 k).2.2.1 = some (tyJ10 k) := by decide +kernel
def RJ7 : String := "java/util/Arrays"
def TJ7 : u_T := fun k => match k with
  | _ => ("", "", "", false)
def tyJ7 : Nat → FieldType := fun k => match k with
  | _ => .int
abbrev wsJ70 : List Cond := u_ws RJ7 TJ7 0
theorem nmJ7 : ∀ a, a < 0 → ∀ b, b < 0 → a ≠ b → (TJ7 a).2.1 ≠ (TJ7 b).2.1 := by decide +kernel
theorem tyJ7_ok : ∀ k, k < 0 → parseFieldDescriptor (TJ7 k).2.2.1 = some (tyJ7 k) := by decide +kernel
abbrev cJ7_fill_53178 : ByteArray := prog_13_method_103_code
def yJ7_fill_53178 : MethodName := ⟨RJ7, "fill", "([II)V"⟩
def RL : String := "VectorRoundsLaw"
abbrev cL_law : ByteArray := code
def yL_law : MethodName := ⟨RL, "law", "([I)Z"⟩
def wsX0_init : List Cond := .code yX0_init cX0_init 1 none :: ([.methodLink RX0 3 objectInit, .instanceMethod objectInit, .code objectInit ⟨#[0xb1]⟩ 1 none, .arrayClass .int, .fieldLink RX0 9 "VectorRounds$Distances" "to" "[I"] ++ wsX00)
def wsJ7_fill_53178 : List Cond := .code yJ7_fill_53178 cJ7_fill_53178 4 none :: ([])
def wsX0_relax : List Cond := .code yX0_relax cX0_relax 6 (some .boolean) :: ([.fieldLink RX0 41 "VectorRounds$Links" "lesser" "[I", .fieldLink RX0 44 "VectorRounds$Links" "greater" "[I", .fieldLink RX0 47 "VectorRounds$Links" "price" "[I", .fieldLink RX0 9 "VectorRounds$Distances" "to" "[I"] ++ wsX20 ++ wsX00)
def wsX0_measure : List Cond := .code yX0_measure cX0_measure 7 none :: ([.fieldLink RX0 9 "VectorRounds$Distances" "to" "[I", .constant RX0 15 (1000000), .fieldLink RX0 22 "VectorRounds$Network" "links" "LVectorRounds$Links;", .fieldLink RX0 28 "VectorRounds$Links" "size" "I", .fieldLink RX0 34 "VectorRounds$Links" "up" "[I", .methodLink RX0 16 yJ7_fill_53178, .static yJ7_fill_53178, .initialized RJ7, .code yJ7_fill_53178 cJ7_fill_53178 4 none, .methodLink RX0 37 yX0_relax, .instanceMethod yX0_relax, .selects RX0 yX0_relax yX0_relax, .initialized RX0, .code yX0_relax cX0_relax 6 (some .boolean), .fieldLink RX0 41 "VectorRounds$Links" "lesser" "[I", .fieldLink RX0 44 "VectorRounds$Links" "greater" "[I", .fieldLink RX0 47 "VectorRounds$Links" "price" "[I"] ++ wsX00 ++ wsX30 ++ wsX20)
def wsX1_init : List Cond := .code yX1_init cX1_init 1 none :: ([.methodLink RX1 3 objectInit, .instanceMethod objectInit, .code objectInit ⟨#[0xb1]⟩ 1 none, .arrayClass .int, .fieldLink RX1 9 "VectorRounds$Holder" "items" "[I"] ++ wsX10)
def wsX1_keepEntry : List Cond := .code yX1_keepEntry cX1_keepEntry 5 none :: ([.fieldLink RX1 15 "VectorRounds$Holder" "sort" "I", .fieldLink RX1 19 "VectorRounds$Holder" "own" "Z", .fieldLink RX1 23 "VectorRounds$Tables" "metric" "[I", .fieldLink RX1 28 "VectorRounds$Holder" "metric" "I", .fieldLink RX1 30 "VectorRounds$Tables" "via" "[I", .fieldLink RX1 33 "VectorRounds$Holder" "via" "I", .fieldLink RX1 35 "VectorRounds$Tables" "sequence" "[I", .fieldLink RX1 38 "VectorRounds$Holder" "sequence" "I", .fieldLink RX1 40 "VectorRounds$Tables" "held" "[I", .fieldLink RX1 43 "VectorRounds$Holder" "held" "I"] ++ wsX10 ++ wsX40)
def wsX1_keepRow : List Cond := .code yX1_keepRow cX1_keepRow 2 none :: ([.fieldLink RX1 15 "VectorRounds$Holder" "sort" "I", .fieldLink RX1 45 "VectorRounds$Holder" "length" "I", .fieldLink RX1 9 "VectorRounds$Holder" "items" "[I", .methodLink RX1 48 yJ7_fill_53178, .static yJ7_fill_53178, .initialized RJ7, .code yJ7_fill_53178 cJ7_fill_53178 4 none] ++ wsX10)
def wsX2_init : List Cond := .code yX2_init cX2_init 1 none :: ([.methodLink RX2 3 objectInit, .instanceMethod objectInit, .code objectInit ⟨#[0xb1]⟩ 1 none, .arrayClass .int, .fieldLink RX2 9 "VectorRounds$Links" "lesser" "[I", .fieldLink RX2 15 "VectorRounds$Links" "greater" "[I", .fieldLink RX2 18 "VectorRounds$Links" "price" "[I", .fieldLink RX2 21 "VectorRounds$Links" "up" "[I", .fieldLink RX2 24 "VectorRounds$Links" "joint" "[I"] ++ wsX20)
def wsX2_become : List Cond := .code yX2_become cX2_become 2 none :: ([.fieldLink RX2 9 "VectorRounds$Links" "lesser" "[I", .methodLink RX2 27 arraycopyName, .native arraycopyName, .static arraycopyName, .initialized "java/lang/System", .fieldLink RX2 15 "VectorRounds$Links" "greater" "[I", .fieldLink RX2 18 "VectorRounds$Links" "price" "[I", .fieldLink RX2 21 "VectorRounds$Links" "up" "[I", .fieldLink RX2 24 "VectorRounds$Links" "joint" "[I", .fieldLink RX2 33 "VectorRounds$Links" "size" "I"] ++ wsX20)
def wsX2_joining : List Cond := .code yX2_joining cX2_joining 3 (some .int) :: ([.fieldLink RX2 24 "VectorRounds$Links" "joint" "[I"] ++ wsX20)
def wsX2_add : List Cond := .code yX2_add cX2_add 5 (some .int) :: ([.fieldLink RX2 33 "VectorRounds$Links" "size" "I", .fieldLink RX2 9 "VectorRounds$Links" "lesser" "[I", .methodLink RX2 37 Lib.Math.min.name, .static Lib.Math.min.name, .initialized "java/lang/Math", .code Lib.Math.min.name Lib.Math.min.code 2 (some .int), .fieldLink RX2 15 "VectorRounds$Links" "greater" "[I", .methodLink RX2 43 Lib.Math.max.name, .static Lib.Math.max.name, .code Lib.Math.max.name Lib.Math.max.code 2 (some .int), .fieldLink RX2 18 "VectorRounds$Links" "price" "[I", .fieldLink RX2 21 "VectorRounds$Links" "up" "[I", .fieldLink RX2 24 "VectorRounds$Links" "joint" "[I"] ++ wsX20)
def wsX2_howManyUp : List Cond := .code yX2_howManyUp cX2_howManyUp 3 (some .int) :: ([.fieldLink RX2 33 "VectorRounds$Links" "size" "I", .fieldLink RX2 21 "VectorRounds$Links" "up" "[I"] ++ wsX20)
def wsX4_init : List Cond := .code yX4_init cX4_init 1 none :: ([.methodLink RX4 3 objectInit, .instanceMethod objectInit, .code objectInit ⟨#[0xb1]⟩ 1 none, .arrayClass .int, .fieldLink RX4 9 "VectorRounds$Tables" "metric" "[I", .fieldLink RX4 15 "VectorRounds$Tables" "via" "[I", .fieldLink RX4 18 "VectorRounds$Tables" "sequence" "[I", .fieldLink RX4 21 "VectorRounds$Tables" "held" "[I", .fieldLink RX4 24 "VectorRounds$Tables" "order" "[I", .fieldLink RX4 27 "VectorRounds$Tables" "size" "[I", .methodLink RX4 30 yJ7_fill_53178, .static yJ7_fill_53178, .initialized RJ7, .code yJ7_fill_53178 cJ7_fill_53178 4 none] ++ wsX40)
def wsX3_init_r1 : List Cond := [Cond.methodLink RX3 3 objectInit, Cond.instanceMethod objectInit, Cond.code objectInit ⟨#[0xb1]⟩ 1 none, Cond.classLink RX3 9 RX4, Cond.instantiable RX4 6, Cond.initialized RX4, Cond.fieldLink RX3 12 "VectorRounds$Network" "tables" "LVectorRounds$Tables;", Cond.fieldLink RX3 18 "VectorRounds$Network" "before" "LVectorRounds$Tables;", Cond.classLink RX3 21 RX2, Cond.instantiable RX2 6, Cond.initialized RX2, Cond.fieldLink RX3 24 "VectorRounds$Network" "links" "LVectorRounds$Links;", Cond.methodLink RX3 11 yX4_init, Cond.instanceMethod yX4_init, Cond.code yX4_init cX4_init 1 none, Cond.methodLink RX4 3 objectInit, Cond.arrayClass .int, Cond.fieldLink RX4 9 "VectorRounds$Tables" "metric" "[I", Cond.fieldLink RX4 15 "VectorRounds$Tables" "via" "[I", Cond.fieldLink RX4 18 "VectorRounds$Tables" "sequence" "[I", Cond.fieldLink RX4 21 "VectorRounds$Tables" "held" "[I", Cond.fieldLink RX4 24 "VectorRounds$Tables" "order" "[I", Cond.fieldLink RX4 27 "VectorRounds$Tables" "size" "[I", Cond.methodLink RX4 30 yJ7_fill_53178]
def wsX3_init_r2 : List Cond := [Cond.static yJ7_fill_53178, Cond.initialized RJ7, Cond.code yJ7_fill_53178 cJ7_fill_53178 4 none, Cond.instanceMethod yX2_init, Cond.code yX2_init cX2_init 1 none, Cond.methodLink RX2 3 objectInit, Cond.fieldLink RX2 9 "VectorRounds$Links" "lesser" "[I", Cond.fieldLink RX2 15 "VectorRounds$Links" "greater" "[I", Cond.fieldLink RX2 18 "VectorRounds$Links" "price" "[I", Cond.fieldLink RX2 21 "VectorRounds$Links" "up" "[I", Cond.fieldLink RX2 24 "VectorRounds$Links" "joint" "[I"]
def wsX3_init : List Cond := .code yX3_init cX3_init 1 none :: ((wsX3_init_r1 ++ wsX3_init_r2) ++ wsX40 ++ wsX30 ++ wsX20)
def wsX4_become : List Cond := .code yX4_become cX4_become 2 none :: ([.fieldLink RX4 9 "VectorRounds$Tables" "metric" "[I", .methodLink RX4 36 arraycopyName, .native arraycopyName, .static arraycopyName, .initialized "java/lang/System", .fieldLink RX4 15 "VectorRounds$Tables" "via" "[I", .fieldLink RX4 18 "VectorRounds$Tables" "sequence" "[I", .fieldLink RX4 21 "VectorRounds$Tables" "held" "[I", .fieldLink RX4 24 "VectorRounds$Tables" "order" "[I", .fieldLink RX4 27 "VectorRounds$Tables" "size" "[I"] ++ wsX40)
def wsX3_become_r1 : List Cond := [Cond.fieldLink RX3 12 "VectorRounds$Network" "tables" "LVectorRounds$Tables;", Cond.fieldLink RX3 24 "VectorRounds$Network" "links" "LVectorRounds$Links;", Cond.fieldLink RX3 35 "VectorRounds$Network" "routers" "I", Cond.fieldLink RX3 39 "VectorRounds$Network" "horizon" "I", Cond.fieldLink RX3 42 "VectorRounds$Network" "sequenced" "I", Cond.fieldLink RX3 45 "VectorRounds$Network" "holdDown" "I", Cond.fieldLink RX3 48 "VectorRounds$Network" "round" "I", Cond.fieldLink RX3 51 "VectorRounds$Network" "toldEver" "I", Cond.methodLink RX3 28 yX4_become, Cond.instanceMethod yX4_become, Cond.selects RX4 yX4_become yX4_become, Cond.initialized RX4, Cond.code yX4_become cX4_become 2 none, Cond.fieldLink RX4 9 "VectorRounds$Tables" "metric" "[I", Cond.methodLink RX4 36 arraycopyName, Cond.native arraycopyName, Cond.static arraycopyName, Cond.initialized "java/lang/System", Cond.fieldLink RX4 15 "VectorRounds$Tables" "via" "[I", Cond.fieldLink RX4 18 "VectorRounds$Tables" "sequence" "[I", Cond.fieldLink RX4 21 "VectorRounds$Tables" "held" "[I", Cond.fieldLink RX4 24 "VectorRounds$Tables" "order" "[I", Cond.fieldLink RX4 27 "VectorRounds$Tables" "size" "[I", Cond.methodLink RX3 32 yX2_become]
def wsX3_become_r2 : List Cond := [Cond.instanceMethod yX2_become, Cond.selects RX2 yX2_become yX2_become, Cond.initialized RX2, Cond.code yX2_become cX2_become 2 none, Cond.fieldLink RX2 9 "VectorRounds$Links" "lesser" "[I", Cond.methodLink RX2 27 arraycopyName, Cond.fieldLink RX2 15 "VectorRounds$Links" "greater" "[I", Cond.fieldLink RX2 18 "VectorRounds$Links" "price" "[I", Cond.fieldLink RX2 21 "VectorRounds$Links" "up" "[I", Cond.fieldLink RX2 24 "VectorRounds$Links" "joint" "[I", Cond.fieldLink RX2 33 "VectorRounds$Links" "size" "I"]
def wsX3_become : List Cond := .code yX3_become cX3_become 2 none :: ((wsX3_become_r1 ++ wsX3_become_r2) ++ wsX30 ++ wsX40 ++ wsX20)
def wsX4_enter : List Cond := .code yX4_enter cX4_enter 7 none :: ([.fieldLink RX4 9 "VectorRounds$Tables" "metric" "[I", .fieldLink RX4 15 "VectorRounds$Tables" "via" "[I", .fieldLink RX4 18 "VectorRounds$Tables" "sequence" "[I", .fieldLink RX4 21 "VectorRounds$Tables" "held" "[I", .fieldLink RX4 24 "VectorRounds$Tables" "order" "[I", .fieldLink RX4 27 "VectorRounds$Tables" "size" "[I"] ++ wsX40)
def wsX3_addRouter : List Cond := .code yX3_addRouter cX3_addRouter 2 (some .int) :: ([.fieldLink RX3 35 "VectorRounds$Network" "routers" "I", .fieldLink RX3 12 "VectorRounds$Network" "tables" "LVectorRounds$Tables;", .methodLink RX3 54 yX4_enter, .instanceMethod yX4_enter, .selects RX4 yX4_enter yX4_enter, .initialized RX4, .code yX4_enter cX4_enter 7 none, .fieldLink RX4 9 "VectorRounds$Tables" "metric" "[I", .fieldLink RX4 15 "VectorRounds$Tables" "via" "[I", .fieldLink RX4 18 "VectorRounds$Tables" "sequence" "[I", .fieldLink RX4 21 "VectorRounds$Tables" "held" "[I", .fieldLink RX4 24 "VectorRounds$Tables" "order" "[I", .fieldLink RX4 27 "VectorRounds$Tables" "size" "[I"] ++ wsX30 ++ wsX40)
def wsX4_reaches : List Cond := .code yX4_reaches cX4_reaches 2 (some .boolean) :: ([.fieldLink RX4 9 "VectorRounds$Tables" "metric" "[I"] ++ wsX40)
def wsX3_take : List Cond := .code yX3_take cX3_take 4 none :: ([.fieldLink RX3 12 "VectorRounds$Network" "tables" "LVectorRounds$Tables;", .fieldLink RX3 110 "VectorRounds$Tables" "metric" "[I", .fieldLink RX3 124 "VectorRounds$Tables" "held" "[I", .fieldLink RX3 48 "VectorRounds$Network" "round" "I", .fieldLink RX3 45 "VectorRounds$Network" "holdDown" "I", .fieldLink RX3 76 "VectorRounds$Tables" "via" "[I"] ++ wsX30 ++ wsX40)
def wsX3_loseVia : List Cond := .code yX3_loseVia cX3_loseVia 5 none :: ([.fieldLink RX3 35 "VectorRounds$Network" "routers" "I", .fieldLink RX3 12 "VectorRounds$Network" "tables" "LVectorRounds$Tables;", .fieldLink RX3 76 "VectorRounds$Tables" "via" "[I", .fieldLink RX3 83 "VectorRounds$Tables" "sequence" "[I", .fieldLink RX3 42 "VectorRounds$Network" "sequenced" "I", .methodLink RX3 72 yX4_reaches, .instanceMethod yX4_reaches, .selects RX4 yX4_reaches yX4_reaches, .initialized RX4, .code yX4_reaches cX4_reaches 2 (some .boolean), .fieldLink RX4 9 "VectorRounds$Tables" "metric" "[I", .methodLink RX3 79 yX3_take, .instanceMethod yX3_take, .selects RX3 yX3_take yX3_take, .initialized RX3, .code yX3_take cX3_take 4 none, .fieldLink RX3 110 "VectorRounds$Tables" "metric" "[I", .fieldLink RX3 124 "VectorRounds$Tables" "held" "[I", .fieldLink RX3 48 "VectorRounds$Network" "round" "I", .fieldLink RX3 45 "VectorRounds$Network" "holdDown" "I"] ++ wsX30 ++ wsX40)
def wsX3_switchLink_r1 : List Cond := [Cond.fieldLink RX3 24 "VectorRounds$Network" "links" "LVectorRounds$Links;", Cond.fieldLink RX3 58 "VectorRounds$Links" "up" "[I", Cond.fieldLink RX3 62 "VectorRounds$Links" "lesser" "[I", Cond.fieldLink RX3 65 "VectorRounds$Links" "greater" "[I", Cond.methodLink RX3 68 yX3_loseVia, Cond.instanceMethod yX3_loseVia, Cond.selects RX3 yX3_loseVia yX3_loseVia, Cond.initialized RX3, Cond.code yX3_loseVia cX3_loseVia 5 none, Cond.fieldLink RX3 35 "VectorRounds$Network" "routers" "I", Cond.fieldLink RX3 12 "VectorRounds$Network" "tables" "LVectorRounds$Tables;", Cond.fieldLink RX3 76 "VectorRounds$Tables" "via" "[I", Cond.fieldLink RX3 83 "VectorRounds$Tables" "sequence" "[I", Cond.fieldLink RX3 42 "VectorRounds$Network" "sequenced" "I", Cond.methodLink RX3 72 yX4_reaches, Cond.instanceMethod yX4_reaches, Cond.selects RX4 yX4_reaches yX4_reaches, Cond.initialized RX4, Cond.code yX4_reaches cX4_reaches 2 (some .boolean), Cond.fieldLink RX4 9 "VectorRounds$Tables" "metric" "[I", Cond.methodLink RX3 79 yX3_take, Cond.instanceMethod yX3_take, Cond.selects RX3 yX3_take yX3_take, Cond.code yX3_take cX3_take 4 none]
def wsX3_switchLink_r2 : List Cond := [Cond.fieldLink RX3 110 "VectorRounds$Tables" "metric" "[I", Cond.fieldLink RX3 124 "VectorRounds$Tables" "held" "[I", Cond.fieldLink RX3 48 "VectorRounds$Network" "round" "I", Cond.fieldLink RX3 45 "VectorRounds$Network" "holdDown" "I"]
def wsX3_switchLink : List Cond := .code yX3_switchLink cX3_switchLink 2 none :: ((wsX3_switchLink_r1 ++ wsX3_switchLink_r2) ++ wsX30 ++ wsX20 ++ wsX40)
def wsX4_has : List Cond := .code yX4_has cX4_has 2 (some .boolean) :: ([.fieldLink RX4 9 "VectorRounds$Tables" "metric" "[I"] ++ wsX40)
def wsX3_receive_r1 : List Cond := [Cond.fieldLink RX3 12 "VectorRounds$Network" "tables" "LVectorRounds$Tables;", Cond.fieldLink RX3 110 "VectorRounds$Tables" "metric" "[I", Cond.fieldLink RX3 124 "VectorRounds$Tables" "held" "[I", Cond.fieldLink RX3 48 "VectorRounds$Network" "round" "I", Cond.fieldLink RX3 42 "VectorRounds$Network" "sequenced" "I", Cond.fieldLink RX3 76 "VectorRounds$Tables" "via" "[I", Cond.fieldLink RX3 83 "VectorRounds$Tables" "sequence" "[I", Cond.methodLink RX3 121 yX4_has, Cond.instanceMethod yX4_has, Cond.selects RX4 yX4_has yX4_has, Cond.initialized RX4, Cond.code yX4_has cX4_has 2 (some .boolean), Cond.fieldLink RX4 9 "VectorRounds$Tables" "metric" "[I", Cond.methodLink RX3 54 yX4_enter, Cond.instanceMethod yX4_enter, Cond.selects RX4 yX4_enter yX4_enter, Cond.code yX4_enter cX4_enter 7 none, Cond.fieldLink RX4 15 "VectorRounds$Tables" "via" "[I", Cond.fieldLink RX4 18 "VectorRounds$Tables" "sequence" "[I", Cond.fieldLink RX4 21 "VectorRounds$Tables" "held" "[I", Cond.fieldLink RX4 24 "VectorRounds$Tables" "order" "[I", Cond.fieldLink RX4 27 "VectorRounds$Tables" "size" "[I", Cond.methodLink RX3 79 yX3_take, Cond.instanceMethod yX3_take]
def wsX3_receive_r2 : List Cond := [Cond.selects RX3 yX3_take yX3_take, Cond.initialized RX3, Cond.code yX3_take cX3_take 4 none, Cond.fieldLink RX3 45 "VectorRounds$Network" "holdDown" "I"]
def wsX3_receive : List Cond := .code yX3_receive cX3_receive 8 none :: ((wsX3_receive_r1 ++ wsX3_receive_r2) ++ wsX30 ++ wsX40)
def wsX3_tell_r1 : List Cond := [Cond.fieldLink RX3 18 "VectorRounds$Network" "before" "LVectorRounds$Tables;", Cond.fieldLink RX3 104 "VectorRounds$Tables" "size" "[I", Cond.fieldLink RX3 107 "VectorRounds$Tables" "order" "[I", Cond.fieldLink RX3 110 "VectorRounds$Tables" "metric" "[I", Cond.fieldLink RX3 39 "VectorRounds$Network" "horizon" "I", Cond.fieldLink RX3 76 "VectorRounds$Tables" "via" "[I", Cond.fieldLink RX3 51 "VectorRounds$Network" "toldEver" "I", Cond.methodLink RX3 113 Lib.Math.min.name, Cond.static Lib.Math.min.name, Cond.initialized "java/lang/Math", Cond.code Lib.Math.min.name Lib.Math.min.code 2 (some .int), Cond.fieldLink RX3 83 "VectorRounds$Tables" "sequence" "[I", Cond.methodLink RX3 118 yX3_receive, Cond.instanceMethod yX3_receive, Cond.selects RX3 yX3_receive yX3_receive, Cond.initialized RX3, Cond.code yX3_receive cX3_receive 8 none, Cond.fieldLink RX3 12 "VectorRounds$Network" "tables" "LVectorRounds$Tables;", Cond.fieldLink RX3 124 "VectorRounds$Tables" "held" "[I", Cond.fieldLink RX3 48 "VectorRounds$Network" "round" "I", Cond.fieldLink RX3 42 "VectorRounds$Network" "sequenced" "I", Cond.methodLink RX3 121 yX4_has, Cond.instanceMethod yX4_has, Cond.selects RX4 yX4_has yX4_has]
def wsX3_tell_r2 : List Cond := [Cond.initialized RX4, Cond.code yX4_has cX4_has 2 (some .boolean), Cond.fieldLink RX4 9 "VectorRounds$Tables" "metric" "[I", Cond.methodLink RX3 54 yX4_enter, Cond.instanceMethod yX4_enter, Cond.selects RX4 yX4_enter yX4_enter, Cond.code yX4_enter cX4_enter 7 none, Cond.fieldLink RX4 15 "VectorRounds$Tables" "via" "[I", Cond.fieldLink RX4 18 "VectorRounds$Tables" "sequence" "[I", Cond.fieldLink RX4 21 "VectorRounds$Tables" "held" "[I", Cond.fieldLink RX4 24 "VectorRounds$Tables" "order" "[I", Cond.fieldLink RX4 27 "VectorRounds$Tables" "size" "[I", Cond.methodLink RX3 79 yX3_take, Cond.instanceMethod yX3_take, Cond.selects RX3 yX3_take yX3_take, Cond.code yX3_take cX3_take 4 none, Cond.fieldLink RX3 45 "VectorRounds$Network" "holdDown" "I"]
def wsX3_tell : List Cond := .code yX3_tell cX3_tell 8 none :: ((wsX3_tell_r1 ++ wsX3_tell_r2) ++ wsX30 ++ wsX40)
def wsX4_howManyDiffer : List Cond := .code yX4_howManyDiffer cX4_howManyDiffer 4 (some .int) :: ([.fieldLink RX4 9 "VectorRounds$Tables" "metric" "[I", .fieldLink RX4 15 "VectorRounds$Tables" "via" "[I"] ++ wsX40)
def wsX3_goRound_r1 : List Cond := [Cond.fieldLink RX3 48 "VectorRounds$Network" "round" "I", Cond.fieldLink RX3 35 "VectorRounds$Network" "routers" "I", Cond.fieldLink RX3 12 "VectorRounds$Network" "tables" "LVectorRounds$Tables;", Cond.fieldLink RX3 83 "VectorRounds$Tables" "sequence" "[I", Cond.fieldLink RX3 42 "VectorRounds$Network" "sequenced" "I", Cond.fieldLink RX3 18 "VectorRounds$Network" "before" "LVectorRounds$Tables;", Cond.fieldLink RX3 24 "VectorRounds$Network" "links" "LVectorRounds$Links;", Cond.fieldLink RX3 58 "VectorRounds$Links" "up" "[I", Cond.fieldLink RX3 90 "VectorRounds$Links" "price" "[I", Cond.methodLink RX3 28 yX4_become, Cond.instanceMethod yX4_become, Cond.selects RX4 yX4_become yX4_become, Cond.initialized RX4, Cond.code yX4_become cX4_become 2 none, Cond.fieldLink RX4 9 "VectorRounds$Tables" "metric" "[I", Cond.methodLink RX4 36 arraycopyName, Cond.native arraycopyName, Cond.static arraycopyName, Cond.initialized "java/lang/System", Cond.fieldLink RX4 15 "VectorRounds$Tables" "via" "[I", Cond.fieldLink RX4 18 "VectorRounds$Tables" "sequence" "[I", Cond.fieldLink RX4 21 "VectorRounds$Tables" "held" "[I", Cond.fieldLink RX4 24 "VectorRounds$Tables" "order" "[I", Cond.fieldLink RX4 27 "VectorRounds$Tables" "size" "[I"]
def wsX3_goRound_r2 : List Cond := [Cond.methodLink RX3 86 yX2_joining, Cond.instanceMethod yX2_joining, Cond.selects RX2 yX2_joining yX2_joining, Cond.initialized RX2, Cond.code yX2_joining cX2_joining 3 (some .int), Cond.fieldLink RX2 24 "VectorRounds$Links" "joint" "[I", Cond.methodLink RX3 93 yX3_tell, Cond.instanceMethod yX3_tell, Cond.selects RX3 yX3_tell yX3_tell, Cond.initialized RX3, Cond.code yX3_tell cX3_tell 8 none, Cond.fieldLink RX3 104 "VectorRounds$Tables" "size" "[I", Cond.fieldLink RX3 107 "VectorRounds$Tables" "order" "[I", Cond.fieldLink RX3 110 "VectorRounds$Tables" "metric" "[I", Cond.fieldLink RX3 39 "VectorRounds$Network" "horizon" "I", Cond.fieldLink RX3 76 "VectorRounds$Tables" "via" "[I", Cond.fieldLink RX3 51 "VectorRounds$Network" "toldEver" "I", Cond.methodLink RX3 113 Lib.Math.min.name, Cond.static Lib.Math.min.name, Cond.initialized "java/lang/Math", Cond.code Lib.Math.min.name Lib.Math.min.code 2 (some .int), Cond.methodLink RX3 118 yX3_receive, Cond.instanceMethod yX3_receive, Cond.selects RX3 yX3_receive yX3_receive]
def wsX3_goRound_r3 : List Cond := [Cond.code yX3_receive cX3_receive 8 none, Cond.fieldLink RX3 124 "VectorRounds$Tables" "held" "[I", Cond.methodLink RX3 121 yX4_has, Cond.instanceMethod yX4_has, Cond.selects RX4 yX4_has yX4_has, Cond.code yX4_has cX4_has 2 (some .boolean), Cond.methodLink RX3 54 yX4_enter, Cond.instanceMethod yX4_enter, Cond.selects RX4 yX4_enter yX4_enter, Cond.code yX4_enter cX4_enter 7 none, Cond.methodLink RX3 79 yX3_take, Cond.instanceMethod yX3_take, Cond.selects RX3 yX3_take yX3_take, Cond.code yX3_take cX3_take 4 none, Cond.fieldLink RX3 45 "VectorRounds$Network" "holdDown" "I", Cond.methodLink RX3 96 yX4_howManyDiffer, Cond.instanceMethod yX4_howManyDiffer, Cond.selects RX4 yX4_howManyDiffer yX4_howManyDiffer, Cond.code yX4_howManyDiffer cX4_howManyDiffer 4 (some .int)]
def wsX3_goRound : List Cond := .code yX3_goRound cX3_goRound 4 (some .int) :: ((wsX3_goRound_r1 ++ (wsX3_goRound_r2 ++ wsX3_goRound_r3)) ++ wsX30 ++ wsX40 ++ wsX20)
def wsX3_roundsToSettle_r1 : List Cond := [Cond.methodLink RX3 100 yX3_goRound, Cond.instanceMethod yX3_goRound, Cond.selects RX3 yX3_goRound yX3_goRound, Cond.initialized RX3, Cond.code yX3_goRound cX3_goRound 4 (some .int), Cond.fieldLink RX3 48 "VectorRounds$Network" "round" "I", Cond.fieldLink RX3 35 "VectorRounds$Network" "routers" "I", Cond.fieldLink RX3 12 "VectorRounds$Network" "tables" "LVectorRounds$Tables;", Cond.fieldLink RX3 83 "VectorRounds$Tables" "sequence" "[I", Cond.fieldLink RX3 42 "VectorRounds$Network" "sequenced" "I", Cond.fieldLink RX3 18 "VectorRounds$Network" "before" "LVectorRounds$Tables;", Cond.fieldLink RX3 24 "VectorRounds$Network" "links" "LVectorRounds$Links;", Cond.fieldLink RX3 58 "VectorRounds$Links" "up" "[I", Cond.fieldLink RX3 90 "VectorRounds$Links" "price" "[I", Cond.methodLink RX3 28 yX4_become, Cond.instanceMethod yX4_become, Cond.selects RX4 yX4_become yX4_become, Cond.initialized RX4, Cond.code yX4_become cX4_become 2 none, Cond.fieldLink RX4 9 "VectorRounds$Tables" "metric" "[I", Cond.methodLink RX4 36 arraycopyName, Cond.native arraycopyName, Cond.static arraycopyName, Cond.initialized "java/lang/System"]
def wsX3_roundsToSettle_r2 : List Cond := [Cond.fieldLink RX4 15 "VectorRounds$Tables" "via" "[I", Cond.fieldLink RX4 18 "VectorRounds$Tables" "sequence" "[I", Cond.fieldLink RX4 21 "VectorRounds$Tables" "held" "[I", Cond.fieldLink RX4 24 "VectorRounds$Tables" "order" "[I", Cond.fieldLink RX4 27 "VectorRounds$Tables" "size" "[I", Cond.methodLink RX3 86 yX2_joining, Cond.instanceMethod yX2_joining, Cond.selects RX2 yX2_joining yX2_joining, Cond.initialized RX2, Cond.code yX2_joining cX2_joining 3 (some .int), Cond.fieldLink RX2 24 "VectorRounds$Links" "joint" "[I", Cond.methodLink RX3 93 yX3_tell, Cond.instanceMethod yX3_tell, Cond.selects RX3 yX3_tell yX3_tell, Cond.code yX3_tell cX3_tell 8 none, Cond.fieldLink RX3 104 "VectorRounds$Tables" "size" "[I", Cond.fieldLink RX3 107 "VectorRounds$Tables" "order" "[I", Cond.fieldLink RX3 110 "VectorRounds$Tables" "metric" "[I", Cond.fieldLink RX3 39 "VectorRounds$Network" "horizon" "I", Cond.fieldLink RX3 76 "VectorRounds$Tables" "via" "[I", Cond.fieldLink RX3 51 "VectorRounds$Network" "toldEver" "I", Cond.methodLink RX3 113 Lib.Math.min.name, Cond.static Lib.Math.min.name, Cond.initialized "java/lang/Math"]
def wsX3_roundsToSettle_r3 : List Cond := [Cond.code Lib.Math.min.name Lib.Math.min.code 2 (some .int), Cond.methodLink RX3 118 yX3_receive, Cond.instanceMethod yX3_receive, Cond.selects RX3 yX3_receive yX3_receive, Cond.code yX3_receive cX3_receive 8 none, Cond.fieldLink RX3 124 "VectorRounds$Tables" "held" "[I", Cond.methodLink RX3 121 yX4_has, Cond.instanceMethod yX4_has, Cond.selects RX4 yX4_has yX4_has, Cond.code yX4_has cX4_has 2 (some .boolean), Cond.methodLink RX3 54 yX4_enter, Cond.instanceMethod yX4_enter, Cond.selects RX4 yX4_enter yX4_enter, Cond.code yX4_enter cX4_enter 7 none, Cond.methodLink RX3 79 yX3_take, Cond.instanceMethod yX3_take, Cond.selects RX3 yX3_take yX3_take, Cond.code yX3_take cX3_take 4 none, Cond.fieldLink RX3 45 "VectorRounds$Network" "holdDown" "I", Cond.methodLink RX3 96 yX4_howManyDiffer, Cond.instanceMethod yX4_howManyDiffer, Cond.selects RX4 yX4_howManyDiffer yX4_howManyDiffer, Cond.code yX4_howManyDiffer cX4_howManyDiffer 4 (some .int)]
def wsX3_roundsToSettle : List Cond := .code yX3_roundsToSettle cX3_roundsToSettle 2 (some .int) :: ((wsX3_roundsToSettle_r1 ++ (wsX3_roundsToSettle_r2 ++ wsX3_roundsToSettle_r3)) ++ wsX30 ++ wsX40 ++ wsX20)
def wsX4_placeOf : List Cond := .code yX4_placeOf cX4_placeOf 4 (some .int) :: ([.fieldLink RX4 27 "VectorRounds$Tables" "size" "[I", .fieldLink RX4 24 "VectorRounds$Tables" "order" "[I"] ++ wsX40)
def wsX4_howMany : List Cond := .code yX4_howMany cX4_howMany 4 (some .int) :: ([.fieldLink RX4 9 "VectorRounds$Tables" "metric" "[I", .methodLink RX4 42 yX4_has, .instanceMethod yX4_has, .selects RX4 yX4_has yX4_has, .initialized RX4, .code yX4_has cX4_has 2 (some .boolean)] ++ wsX40)
def wsX5_init : List Cond := .code yX5_init cX5_init 1 none :: ([.methodLink RX5 3 objectInit, .instanceMethod objectInit, .code objectInit ⟨#[0xb1]⟩ 1 none, .arrayClass .int, .fieldLink RX5 9 "VectorRounds$Tape" "bytes" "[I", .fieldLink RX5 15 "VectorRounds$Tape" "letters" "[I", .fieldLink RX5 18 "VectorRounds$Tape" "numbers" "[I"] ++ wsX50)
def wsX5_add : List Cond := .code yX5_add cX5_add 2 (some .int) :: ([.fieldLink RX5 9 "VectorRounds$Tape" "bytes" "[I", .fieldLink RX5 21 "VectorRounds$Tape" "length" "I"] ++ wsX50)
def wsX5_howManyNumbers : List Cond := .code yX5_howManyNumbers cX5_howManyNumbers 1 (some .int) :: ([])
def wsX5_isDigit : List Cond := .code yX5_isDigit cX5_isDigit 1 (some .boolean) :: ([.fieldLink RX5 28 "VectorRounds$Tape" "at" "I", .fieldLink RX5 21 "VectorRounds$Tape" "length" "I", .fieldLink RX5 9 "VectorRounds$Tape" "bytes" "[I"] ++ wsX50)
def wsX5_readNumber : List Cond := .code yX5_readNumber cX5_readNumber 2 (some .boolean) :: ([.fieldLink RX5 28 "VectorRounds$Tape" "at" "I", .fieldLink RX5 21 "VectorRounds$Tape" "length" "I", .fieldLink RX5 9 "VectorRounds$Tape" "bytes" "[I", .fieldLink RX5 18 "VectorRounds$Tape" "numbers" "[I", .methodLink RX5 43 yX5_isDigit, .instanceMethod yX5_isDigit, .selects RX5 yX5_isDigit yX5_isDigit, .initialized RX5, .code yX5_isDigit cX5_isDigit 1 (some .boolean)] ++ wsX50)
def wsX5_readLine : List Cond := .code yX5_readLine cX5_readLine 3 (some .boolean) :: ([.fieldLink RX5 28 "VectorRounds$Tape" "at" "I", .fieldLink RX5 21 "VectorRounds$Tape" "length" "I", .fieldLink RX5 9 "VectorRounds$Tape" "bytes" "[I", .fieldLink RX5 15 "VectorRounds$Tape" "letters" "[I", .fieldLink RX5 25 "VectorRounds$Tape" "lines" "I", .methodLink RX5 35 yX5_howManyNumbers, .static yX5_howManyNumbers, .initialized RX5, .code yX5_howManyNumbers cX5_howManyNumbers 1 (some .int), .methodLink RX5 39 yX5_readNumber, .instanceMethod yX5_readNumber, .selects RX5 yX5_readNumber yX5_readNumber, .code yX5_readNumber cX5_readNumber 2 (some .boolean), .fieldLink RX5 18 "VectorRounds$Tape" "numbers" "[I", .methodLink RX5 43 yX5_isDigit, .instanceMethod yX5_isDigit, .selects RX5 yX5_isDigit yX5_isDigit, .code yX5_isDigit cX5_isDigit 1 (some .boolean)] ++ wsX50)
def wsX5_readLines : List Cond := .code yX5_readLines cX5_readLines 2 (some .int) :: ([.fieldLink RX5 25 "VectorRounds$Tape" "lines" "I", .fieldLink RX5 28 "VectorRounds$Tape" "at" "I", .fieldLink RX5 21 "VectorRounds$Tape" "length" "I", .fieldLink RX5 9 "VectorRounds$Tape" "bytes" "[I", .methodLink RX5 31 yX5_readLine, .instanceMethod yX5_readLine, .selects RX5 yX5_readLine yX5_readLine, .initialized RX5, .code yX5_readLine cX5_readLine 3 (some .boolean), .fieldLink RX5 15 "VectorRounds$Tape" "letters" "[I", .methodLink RX5 35 yX5_howManyNumbers, .static yX5_howManyNumbers, .code yX5_howManyNumbers cX5_howManyNumbers 1 (some .int), .methodLink RX5 39 yX5_readNumber, .instanceMethod yX5_readNumber, .selects RX5 yX5_readNumber yX5_readNumber, .code yX5_readNumber cX5_readNumber 2 (some .boolean), .fieldLink RX5 18 "VectorRounds$Tape" "numbers" "[I", .methodLink RX5 43 yX5_isDigit, .instanceMethod yX5_isDigit, .selects RX5 yX5_isDigit yX5_isDigit, .code yX5_isDigit cX5_isDigit 1 (some .boolean)] ++ wsX50)
def wsX6_init : List Cond := .code yX6_init cX6_init 1 none :: ([.methodLink RX6 3 objectInit, .instanceMethod objectInit, .code objectInit ⟨#[0xb1]⟩ 1 none, .arrayClass .int, .fieldLink RX6 9 "VectorRounds$Way" "stops" "[I"] ++ wsX60)
def wsX6_walk : List Cond := .code yX6_walk cX6_walk 6 none :: ([.fieldLink RX6 15 "VectorRounds$Way" "length" "I", .fieldLink RX6 19 "VectorRounds$Way" "ending" "I", .fieldLink RX6 9 "VectorRounds$Way" "stops" "[I", .fieldLink RX6 28 "VectorRounds$Tables" "via" "[I", .methodLink RX6 22 yX4_reaches, .instanceMethod yX4_reaches, .selects RX4 yX4_reaches yX4_reaches, .initialized RX4, .code yX4_reaches cX4_reaches 2 (some .boolean), .fieldLink RX4 9 "VectorRounds$Tables" "metric" "[I"] ++ wsX60 ++ wsX40)
def wsX6_loopsIn : List Cond := .code yX6_loopsIn cX6_loopsIn 5 (some .int) :: ([.fieldLink RX6 31 "VectorRounds$Network" "routers" "I", .fieldLink RX6 36 "VectorRounds$Network" "tables" "LVectorRounds$Tables;", .fieldLink RX6 19 "VectorRounds$Way" "ending" "I", .methodLink RX6 40 yX6_walk, .instanceMethod yX6_walk, .selects RX6 yX6_walk yX6_walk, .initialized RX6, .code yX6_walk cX6_walk 6 none, .fieldLink RX6 15 "VectorRounds$Way" "length" "I", .fieldLink RX6 9 "VectorRounds$Way" "stops" "[I", .fieldLink RX6 28 "VectorRounds$Tables" "via" "[I", .methodLink RX6 22 yX4_reaches, .instanceMethod yX4_reaches, .selects RX4 yX4_reaches yX4_reaches, .initialized RX4, .code yX4_reaches cX4_reaches 2 (some .boolean), .fieldLink RX4 9 "VectorRounds$Tables" "metric" "[I"] ++ wsX30 ++ wsX60 ++ wsX40)
def wsX7_init_r1 : List Cond := [Cond.methodLink RX7 3 objectInit, Cond.instanceMethod objectInit, Cond.code objectInit ⟨#[0xb1]⟩ 1 none, Cond.classLink RX7 9 RX3, Cond.instantiable RX3 9, Cond.initialized RX3, Cond.fieldLink RX7 12 "VectorRounds" "now" "LVectorRounds$Network;", Cond.fieldLink RX7 16 "VectorRounds" "thought" "LVectorRounds$Network;", Cond.fieldLink RX7 19 "VectorRounds" "kept" "LVectorRounds$Network;", Cond.fieldLink RX7 22 "VectorRounds" "ahead" "LVectorRounds$Network;", Cond.classLink RX7 25 RX6, Cond.instantiable RX6 3, Cond.initialized RX6, Cond.fieldLink RX7 28 "VectorRounds" "path" "LVectorRounds$Way;", Cond.classLink RX7 32 RX0, Cond.instantiable RX0 1, Cond.initialized RX0, Cond.fieldLink RX7 35 "VectorRounds" "least" "LVectorRounds$Distances;", Cond.classLink RX7 39 RX5, Cond.instantiable RX5 6, Cond.initialized RX5, Cond.fieldLink RX7 42 "VectorRounds" "tape" "LVectorRounds$Tape;", Cond.classLink RX7 46 RX1, Cond.fieldLink RX7 48 "VectorRounds" "holders" "[LVectorRounds$Holder;"]
def wsX7_init_r2 : List Cond := [Cond.instantiable RX1 8, Cond.initialized RX1, Cond.instanceMethod yX3_init, Cond.code yX3_init cX3_init 1 none, Cond.methodLink RX3 3 objectInit, Cond.classLink RX3 9 RX4, Cond.instantiable RX4 6, Cond.initialized RX4, Cond.fieldLink RX3 12 "VectorRounds$Network" "tables" "LVectorRounds$Tables;", Cond.fieldLink RX3 18 "VectorRounds$Network" "before" "LVectorRounds$Tables;", Cond.classLink RX3 21 RX2, Cond.instantiable RX2 6, Cond.initialized RX2, Cond.fieldLink RX3 24 "VectorRounds$Network" "links" "LVectorRounds$Links;", Cond.methodLink RX3 11 yX4_init, Cond.instanceMethod yX4_init, Cond.code yX4_init cX4_init 1 none, Cond.methodLink RX4 3 objectInit, Cond.arrayClass .int, Cond.fieldLink RX4 9 "VectorRounds$Tables" "metric" "[I", Cond.fieldLink RX4 15 "VectorRounds$Tables" "via" "[I", Cond.fieldLink RX4 18 "VectorRounds$Tables" "sequence" "[I", Cond.fieldLink RX4 21 "VectorRounds$Tables" "held" "[I", Cond.fieldLink RX4 24 "VectorRounds$Tables" "order" "[I"]
def wsX7_init_r3 : List Cond := [Cond.fieldLink RX4 27 "VectorRounds$Tables" "size" "[I", Cond.methodLink RX4 30 yJ7_fill_53178, Cond.static yJ7_fill_53178, Cond.initialized RJ7, Cond.code yJ7_fill_53178 cJ7_fill_53178 4 none, Cond.instanceMethod yX2_init, Cond.code yX2_init cX2_init 1 none, Cond.methodLink RX2 3 objectInit, Cond.fieldLink RX2 9 "VectorRounds$Links" "lesser" "[I", Cond.fieldLink RX2 15 "VectorRounds$Links" "greater" "[I", Cond.fieldLink RX2 18 "VectorRounds$Links" "price" "[I", Cond.fieldLink RX2 21 "VectorRounds$Links" "up" "[I", Cond.fieldLink RX2 24 "VectorRounds$Links" "joint" "[I", Cond.instanceMethod yX6_init, Cond.code yX6_init cX6_init 1 none, Cond.methodLink RX6 3 objectInit, Cond.fieldLink RX6 9 "VectorRounds$Way" "stops" "[I", Cond.instanceMethod yX0_init, Cond.code yX0_init cX0_init 1 none, Cond.methodLink RX0 3 objectInit, Cond.fieldLink RX0 9 "VectorRounds$Distances" "to" "[I", Cond.instanceMethod yX5_init, Cond.code yX5_init cX5_init 1 none, Cond.methodLink RX5 3 objectInit]
def wsX7_init_r4 : List Cond := [Cond.fieldLink RX5 9 "VectorRounds$Tape" "bytes" "[I", Cond.fieldLink RX5 15 "VectorRounds$Tape" "letters" "[I", Cond.fieldLink RX5 18 "VectorRounds$Tape" "numbers" "[I", Cond.instanceMethod yX1_init, Cond.code yX1_init cX1_init 1 none, Cond.methodLink RX1 3 objectInit, Cond.fieldLink RX1 9 "VectorRounds$Holder" "items" "[I"]
def wsX7_init : List Cond := .code yX7_init cX7_init 2 none :: ((wsX7_init_r1 ++ (wsX7_init_r2 ++ (wsX7_init_r3 ++ wsX7_init_r4))) ++ wsX30 ++ wsX70 ++ wsX60 ++ wsX00 ++ wsX50 ++ wsX10 ++ wsX40 ++ wsX20)
def wsX7_router : List Cond := .code yX7_router cX7_router 1 (some .int) :: ([.fieldLink RX7 12 "VectorRounds" "now" "LVectorRounds$Network;", .fieldLink RX7 53 "VectorRounds$Network" "routers" "I", .methodLink RX7 57 yX3_addRouter, .instanceMethod yX3_addRouter, .selects RX3 yX3_addRouter yX3_addRouter, .initialized RX3, .code yX3_addRouter cX3_addRouter 2 (some .int), .fieldLink RX3 35 "VectorRounds$Network" "routers" "I", .fieldLink RX3 12 "VectorRounds$Network" "tables" "LVectorRounds$Tables;", .methodLink RX3 54 yX4_enter, .instanceMethod yX4_enter, .selects RX4 yX4_enter yX4_enter, .initialized RX4, .code yX4_enter cX4_enter 7 none, .fieldLink RX4 9 "VectorRounds$Tables" "metric" "[I", .fieldLink RX4 15 "VectorRounds$Tables" "via" "[I", .fieldLink RX4 18 "VectorRounds$Tables" "sequence" "[I", .fieldLink RX4 21 "VectorRounds$Tables" "held" "[I", .fieldLink RX4 24 "VectorRounds$Tables" "order" "[I", .fieldLink RX4 27 "VectorRounds$Tables" "size" "[I"] ++ wsX70 ++ wsX30 ++ wsX40)
def wsX7_noRouter : List Cond := .code yX7_noRouter cX7_noRouter 2 (some .boolean) :: ([.fieldLink RX7 12 "VectorRounds" "now" "LVectorRounds$Network;", .fieldLink RX7 53 "VectorRounds$Network" "routers" "I"] ++ wsX70 ++ wsX30)
def wsX7_link_r1 : List Cond := [Cond.fieldLink RX7 12 "VectorRounds" "now" "LVectorRounds$Network;", Cond.fieldLink RX7 65 "VectorRounds$Network" "links" "LVectorRounds$Links;", Cond.fieldLink RX7 75 "VectorRounds$Links" "size" "I", Cond.methodLink RX7 61 yX7_noRouter, Cond.instanceMethod yX7_noRouter, Cond.selects RX7 yX7_noRouter yX7_noRouter, Cond.initialized RX7, Cond.code yX7_noRouter cX7_noRouter 2 (some .boolean), Cond.fieldLink RX7 53 "VectorRounds$Network" "routers" "I", Cond.methodLink RX7 69 yX2_joining, Cond.instanceMethod yX2_joining, Cond.selects RX2 yX2_joining yX2_joining, Cond.initialized RX2, Cond.code yX2_joining cX2_joining 3 (some .int), Cond.fieldLink RX2 24 "VectorRounds$Links" "joint" "[I", Cond.methodLink RX7 78 yX2_add, Cond.instanceMethod yX2_add, Cond.selects RX2 yX2_add yX2_add, Cond.code yX2_add cX2_add 5 (some .int), Cond.fieldLink RX2 33 "VectorRounds$Links" "size" "I", Cond.fieldLink RX2 9 "VectorRounds$Links" "lesser" "[I", Cond.methodLink RX2 37 Lib.Math.min.name, Cond.static Lib.Math.min.name, Cond.initialized "java/lang/Math"]
def wsX7_link_r2 : List Cond := [Cond.code Lib.Math.min.name Lib.Math.min.code 2 (some .int), Cond.fieldLink RX2 15 "VectorRounds$Links" "greater" "[I", Cond.methodLink RX2 43 Lib.Math.max.name, Cond.static Lib.Math.max.name, Cond.code Lib.Math.max.name Lib.Math.max.code 2 (some .int), Cond.fieldLink RX2 18 "VectorRounds$Links" "price" "[I", Cond.fieldLink RX2 21 "VectorRounds$Links" "up" "[I"]
def wsX7_link : List Cond := .code yX7_link cX7_link 4 (some .int) :: ((wsX7_link_r1 ++ wsX7_link_r2) ++ wsX70 ++ wsX30 ++ wsX20)
def wsX7_noLink : List Cond := .code yX7_noLink cX7_noLink 2 (some .boolean) :: ([.fieldLink RX7 12 "VectorRounds" "now" "LVectorRounds$Network;", .fieldLink RX7 65 "VectorRounds$Network" "links" "LVectorRounds$Links;", .fieldLink RX7 75 "VectorRounds$Links" "size" "I"] ++ wsX70 ++ wsX30 ++ wsX20)
def wsX7_turn_r1 : List Cond := [Cond.fieldLink RX7 12 "VectorRounds" "now" "LVectorRounds$Network;", Cond.fieldLink RX7 65 "VectorRounds$Network" "links" "LVectorRounds$Links;", Cond.fieldLink RX7 85 "VectorRounds$Links" "up" "[I", Cond.methodLink RX7 82 yX7_noLink, Cond.instanceMethod yX7_noLink, Cond.selects RX7 yX7_noLink yX7_noLink, Cond.initialized RX7, Cond.code yX7_noLink cX7_noLink 2 (some .boolean), Cond.fieldLink RX7 75 "VectorRounds$Links" "size" "I", Cond.methodLink RX7 89 yX3_switchLink, Cond.instanceMethod yX3_switchLink, Cond.selects RX3 yX3_switchLink yX3_switchLink, Cond.initialized RX3, Cond.code yX3_switchLink cX3_switchLink 2 none, Cond.fieldLink RX3 24 "VectorRounds$Network" "links" "LVectorRounds$Links;", Cond.fieldLink RX3 58 "VectorRounds$Links" "up" "[I", Cond.fieldLink RX3 62 "VectorRounds$Links" "lesser" "[I", Cond.fieldLink RX3 65 "VectorRounds$Links" "greater" "[I", Cond.methodLink RX3 68 yX3_loseVia, Cond.instanceMethod yX3_loseVia, Cond.selects RX3 yX3_loseVia yX3_loseVia, Cond.code yX3_loseVia cX3_loseVia 5 none, Cond.fieldLink RX3 35 "VectorRounds$Network" "routers" "I", Cond.fieldLink RX3 12 "VectorRounds$Network" "tables" "LVectorRounds$Tables;"]
def wsX7_turn_r2 : List Cond := [Cond.fieldLink RX3 76 "VectorRounds$Tables" "via" "[I", Cond.fieldLink RX3 83 "VectorRounds$Tables" "sequence" "[I", Cond.fieldLink RX3 42 "VectorRounds$Network" "sequenced" "I", Cond.methodLink RX3 72 yX4_reaches, Cond.instanceMethod yX4_reaches, Cond.selects RX4 yX4_reaches yX4_reaches, Cond.initialized RX4, Cond.code yX4_reaches cX4_reaches 2 (some .boolean), Cond.fieldLink RX4 9 "VectorRounds$Tables" "metric" "[I", Cond.methodLink RX3 79 yX3_take, Cond.instanceMethod yX3_take, Cond.selects RX3 yX3_take yX3_take, Cond.code yX3_take cX3_take 4 none, Cond.fieldLink RX3 110 "VectorRounds$Tables" "metric" "[I", Cond.fieldLink RX3 124 "VectorRounds$Tables" "held" "[I", Cond.fieldLink RX3 48 "VectorRounds$Network" "round" "I", Cond.fieldLink RX3 45 "VectorRounds$Network" "holdDown" "I"]
def wsX7_turn : List Cond := .code yX7_turn cX7_turn 3 (some .int) :: ((wsX7_turn_r1 ++ wsX7_turn_r2) ++ wsX70 ++ wsX30 ++ wsX20 ++ wsX40)
def wsX7_cost : List Cond := .code yX7_cost cX7_cost 4 (some .int) :: ([.fieldLink RX7 12 "VectorRounds" "now" "LVectorRounds$Network;", .fieldLink RX7 65 "VectorRounds$Network" "links" "LVectorRounds$Links;", .fieldLink RX7 93 "VectorRounds$Links" "price" "[I", .methodLink RX7 82 yX7_noLink, .instanceMethod yX7_noLink, .selects RX7 yX7_noLink yX7_noLink, .initialized RX7, .code yX7_noLink cX7_noLink 2 (some .boolean), .fieldLink RX7 75 "VectorRounds$Links" "size" "I"] ++ wsX70 ++ wsX30 ++ wsX20)
def wsX7_mostOfRule : List Cond := .code yX7_mostOfRule cX7_mostOfRule 1 (some .int) :: ([])
def wsX7_rule : List Cond := .code yX7_rule cX7_rule 4 (some .int) :: ([.fieldLink RX7 12 "VectorRounds" "now" "LVectorRounds$Network;", .fieldLink RX7 100 "VectorRounds$Network" "horizon" "I", .fieldLink RX7 103 "VectorRounds$Network" "sequenced" "I", .fieldLink RX7 106 "VectorRounds$Network" "holdDown" "I", .methodLink RX7 96 yX7_mostOfRule, .static yX7_mostOfRule, .initialized RX7, .code yX7_mostOfRule cX7_mostOfRule 1 (some .int)] ++ wsX70 ++ wsX30)
def wsX7_of : List Cond := .code yX7_of cX7_of 3 (some .int) :: ([.fieldLink RX7 12 "VectorRounds" "now" "LVectorRounds$Network;", .fieldLink RX7 65 "VectorRounds$Network" "links" "LVectorRounds$Links;", .fieldLink RX7 109 "VectorRounds$Links" "lesser" "[I", .fieldLink RX7 112 "VectorRounds$Links" "greater" "[I", .fieldLink RX7 93 "VectorRounds$Links" "price" "[I", .fieldLink RX7 85 "VectorRounds$Links" "up" "[I", .methodLink RX7 82 yX7_noLink, .instanceMethod yX7_noLink, .selects RX7 yX7_noLink yX7_noLink, .initialized RX7, .code yX7_noLink cX7_noLink 2 (some .boolean), .fieldLink RX7 75 "VectorRounds$Links" "size" "I"] ++ wsX70 ++ wsX30 ++ wsX20)
def wsX7_between : List Cond := .code yX7_between cX7_between 4 (some .int) :: ([.fieldLink RX7 12 "VectorRounds" "now" "LVectorRounds$Network;", .fieldLink RX7 65 "VectorRounds$Network" "links" "LVectorRounds$Links;", .methodLink RX7 61 yX7_noRouter, .instanceMethod yX7_noRouter, .selects RX7 yX7_noRouter yX7_noRouter, .initialized RX7, .code yX7_noRouter cX7_noRouter 2 (some .boolean), .fieldLink RX7 53 "VectorRounds$Network" "routers" "I", .methodLink RX7 69 yX2_joining, .instanceMethod yX2_joining, .selects RX2 yX2_joining yX2_joining, .initialized RX2, .code yX2_joining cX2_joining 3 (some .int), .fieldLink RX2 24 "VectorRounds$Links" "joint" "[I"] ++ wsX70 ++ wsX30 ++ wsX20)
def wsX7_rounds_r1 : List Cond := [Cond.fieldLink RX7 12 "VectorRounds" "now" "LVectorRounds$Network;", Cond.methodLink RX7 115 yX3_goRound, Cond.instanceMethod yX3_goRound, Cond.selects RX3 yX3_goRound yX3_goRound, Cond.initialized RX3, Cond.code yX3_goRound cX3_goRound 4 (some .int), Cond.fieldLink RX3 48 "VectorRounds$Network" "round" "I", Cond.fieldLink RX3 35 "VectorRounds$Network" "routers" "I", Cond.fieldLink RX3 12 "VectorRounds$Network" "tables" "LVectorRounds$Tables;", Cond.fieldLink RX3 83 "VectorRounds$Tables" "sequence" "[I", Cond.fieldLink RX3 42 "VectorRounds$Network" "sequenced" "I", Cond.fieldLink RX3 18 "VectorRounds$Network" "before" "LVectorRounds$Tables;", Cond.fieldLink RX3 24 "VectorRounds$Network" "links" "LVectorRounds$Links;", Cond.fieldLink RX3 58 "VectorRounds$Links" "up" "[I", Cond.fieldLink RX3 90 "VectorRounds$Links" "price" "[I", Cond.methodLink RX3 28 yX4_become, Cond.instanceMethod yX4_become, Cond.selects RX4 yX4_become yX4_become, Cond.initialized RX4, Cond.code yX4_become cX4_become 2 none, Cond.fieldLink RX4 9 "VectorRounds$Tables" "metric" "[I", Cond.methodLink RX4 36 arraycopyName, Cond.native arraycopyName, Cond.static arraycopyName]
def wsX7_rounds_r2 : List Cond := [Cond.initialized "java/lang/System", Cond.fieldLink RX4 15 "VectorRounds$Tables" "via" "[I", Cond.fieldLink RX4 18 "VectorRounds$Tables" "sequence" "[I", Cond.fieldLink RX4 21 "VectorRounds$Tables" "held" "[I", Cond.fieldLink RX4 24 "VectorRounds$Tables" "order" "[I", Cond.fieldLink RX4 27 "VectorRounds$Tables" "size" "[I", Cond.methodLink RX3 86 yX2_joining, Cond.instanceMethod yX2_joining, Cond.selects RX2 yX2_joining yX2_joining, Cond.initialized RX2, Cond.code yX2_joining cX2_joining 3 (some .int), Cond.fieldLink RX2 24 "VectorRounds$Links" "joint" "[I", Cond.methodLink RX3 93 yX3_tell, Cond.instanceMethod yX3_tell, Cond.selects RX3 yX3_tell yX3_tell, Cond.code yX3_tell cX3_tell 8 none, Cond.fieldLink RX3 104 "VectorRounds$Tables" "size" "[I", Cond.fieldLink RX3 107 "VectorRounds$Tables" "order" "[I", Cond.fieldLink RX3 110 "VectorRounds$Tables" "metric" "[I", Cond.fieldLink RX3 39 "VectorRounds$Network" "horizon" "I", Cond.fieldLink RX3 76 "VectorRounds$Tables" "via" "[I", Cond.fieldLink RX3 51 "VectorRounds$Network" "toldEver" "I", Cond.methodLink RX3 113 Lib.Math.min.name, Cond.static Lib.Math.min.name]
def wsX7_rounds_r3 : List Cond := [Cond.initialized "java/lang/Math", Cond.code Lib.Math.min.name Lib.Math.min.code 2 (some .int), Cond.methodLink RX3 118 yX3_receive, Cond.instanceMethod yX3_receive, Cond.selects RX3 yX3_receive yX3_receive, Cond.code yX3_receive cX3_receive 8 none, Cond.fieldLink RX3 124 "VectorRounds$Tables" "held" "[I", Cond.methodLink RX3 121 yX4_has, Cond.instanceMethod yX4_has, Cond.selects RX4 yX4_has yX4_has, Cond.code yX4_has cX4_has 2 (some .boolean), Cond.methodLink RX3 54 yX4_enter, Cond.instanceMethod yX4_enter, Cond.selects RX4 yX4_enter yX4_enter, Cond.code yX4_enter cX4_enter 7 none, Cond.methodLink RX3 79 yX3_take, Cond.instanceMethod yX3_take, Cond.selects RX3 yX3_take yX3_take, Cond.code yX3_take cX3_take 4 none, Cond.fieldLink RX3 45 "VectorRounds$Network" "holdDown" "I", Cond.methodLink RX3 96 yX4_howManyDiffer, Cond.instanceMethod yX4_howManyDiffer, Cond.selects RX4 yX4_howManyDiffer yX4_howManyDiffer, Cond.code yX4_howManyDiffer cX4_howManyDiffer 4 (some .int)]
def wsX7_rounds : List Cond := .code yX7_rounds cX7_rounds 4 (some .int) :: ((wsX7_rounds_r1 ++ (wsX7_rounds_r2 ++ wsX7_rounds_r3)) ++ wsX70 ++ wsX30 ++ wsX40 ++ wsX20)
def wsX7_entry : List Cond := .code yX7_entry cX7_entry 6 (some .int) :: ([.fieldLink RX7 12 "VectorRounds" "now" "LVectorRounds$Network;", .fieldLink RX7 118 "VectorRounds$Network" "tables" "LVectorRounds$Tables;", .fieldLink RX7 127 "VectorRounds$Tables" "metric" "[I", .fieldLink RX7 130 "VectorRounds$Tables" "via" "[I", .fieldLink RX7 133 "VectorRounds$Tables" "sequence" "[I", .fieldLink RX7 136 "VectorRounds$Tables" "held" "[I", .methodLink RX7 61 yX7_noRouter, .instanceMethod yX7_noRouter, .selects RX7 yX7_noRouter yX7_noRouter, .initialized RX7, .code yX7_noRouter cX7_noRouter 2 (some .boolean), .fieldLink RX7 53 "VectorRounds$Network" "routers" "I", .methodLink RX7 122 yX4_has, .instanceMethod yX4_has, .selects RX4 yX4_has yX4_has, .initialized RX4, .code yX4_has cX4_has 2 (some .boolean), .fieldLink RX4 9 "VectorRounds$Tables" "metric" "[I", .methodLink RX7 139 yX4_placeOf, .instanceMethod yX4_placeOf, .selects RX4 yX4_placeOf yX4_placeOf, .code yX4_placeOf cX4_placeOf 4 (some .int), .fieldLink RX4 27 "VectorRounds$Tables" "size" "[I", .fieldLink RX4 24 "VectorRounds$Tables" "order" "[I"] ++ wsX70 ++ wsX30 ++ wsX40)
def wsX7_known : List Cond := .code yX7_known cX7_known 3 (some .int) :: ([.fieldLink RX7 12 "VectorRounds" "now" "LVectorRounds$Network;", .fieldLink RX7 118 "VectorRounds$Network" "tables" "LVectorRounds$Tables;", .fieldLink RX7 142 "VectorRounds$Tables" "size" "[I", .fieldLink RX7 144 "VectorRounds$Tables" "order" "[I", .methodLink RX7 61 yX7_noRouter, .instanceMethod yX7_noRouter, .selects RX7 yX7_noRouter yX7_noRouter, .initialized RX7, .code yX7_noRouter cX7_noRouter 2 (some .boolean), .fieldLink RX7 53 "VectorRounds$Network" "routers" "I"] ++ wsX70 ++ wsX30 ++ wsX40)
def wsX7_orNot : List Cond := .code yX7_orNot cX7_orNot 1 (some .int) :: ([])
def wsX7_settledNow_r1 : List Cond := [Cond.fieldLink RX7 16 "VectorRounds" "thought" "LVectorRounds$Network;", Cond.fieldLink RX7 12 "VectorRounds" "now" "LVectorRounds$Network;", Cond.methodLink RX7 166 yX3_become, Cond.instanceMethod yX3_become, Cond.selects RX3 yX3_become yX3_become, Cond.initialized RX3, Cond.code yX3_become cX3_become 2 none, Cond.fieldLink RX3 12 "VectorRounds$Network" "tables" "LVectorRounds$Tables;", Cond.fieldLink RX3 24 "VectorRounds$Network" "links" "LVectorRounds$Links;", Cond.fieldLink RX3 35 "VectorRounds$Network" "routers" "I", Cond.fieldLink RX3 39 "VectorRounds$Network" "horizon" "I", Cond.fieldLink RX3 42 "VectorRounds$Network" "sequenced" "I", Cond.fieldLink RX3 45 "VectorRounds$Network" "holdDown" "I", Cond.fieldLink RX3 48 "VectorRounds$Network" "round" "I", Cond.fieldLink RX3 51 "VectorRounds$Network" "toldEver" "I", Cond.methodLink RX3 28 yX4_become, Cond.instanceMethod yX4_become, Cond.selects RX4 yX4_become yX4_become, Cond.initialized RX4, Cond.code yX4_become cX4_become 2 none, Cond.fieldLink RX4 9 "VectorRounds$Tables" "metric" "[I", Cond.methodLink RX4 36 arraycopyName, Cond.native arraycopyName, Cond.static arraycopyName]
def wsX7_settledNow_r2 : List Cond := [Cond.initialized "java/lang/System", Cond.fieldLink RX4 15 "VectorRounds$Tables" "via" "[I", Cond.fieldLink RX4 18 "VectorRounds$Tables" "sequence" "[I", Cond.fieldLink RX4 21 "VectorRounds$Tables" "held" "[I", Cond.fieldLink RX4 24 "VectorRounds$Tables" "order" "[I", Cond.fieldLink RX4 27 "VectorRounds$Tables" "size" "[I", Cond.methodLink RX3 32 yX2_become, Cond.instanceMethod yX2_become, Cond.selects RX2 yX2_become yX2_become, Cond.initialized RX2, Cond.code yX2_become cX2_become 2 none, Cond.fieldLink RX2 9 "VectorRounds$Links" "lesser" "[I", Cond.methodLink RX2 27 arraycopyName, Cond.fieldLink RX2 15 "VectorRounds$Links" "greater" "[I", Cond.fieldLink RX2 18 "VectorRounds$Links" "price" "[I", Cond.fieldLink RX2 21 "VectorRounds$Links" "up" "[I", Cond.fieldLink RX2 24 "VectorRounds$Links" "joint" "[I", Cond.fieldLink RX2 33 "VectorRounds$Links" "size" "I", Cond.methodLink RX7 194 yX3_roundsToSettle, Cond.instanceMethod yX3_roundsToSettle, Cond.selects RX3 yX3_roundsToSettle yX3_roundsToSettle, Cond.code yX3_roundsToSettle cX3_roundsToSettle 2 (some .int), Cond.methodLink RX3 100 yX3_goRound, Cond.instanceMethod yX3_goRound]
def wsX7_settledNow_r3 : List Cond := [Cond.selects RX3 yX3_goRound yX3_goRound, Cond.code yX3_goRound cX3_goRound 4 (some .int), Cond.fieldLink RX3 83 "VectorRounds$Tables" "sequence" "[I", Cond.fieldLink RX3 18 "VectorRounds$Network" "before" "LVectorRounds$Tables;", Cond.fieldLink RX3 58 "VectorRounds$Links" "up" "[I", Cond.fieldLink RX3 90 "VectorRounds$Links" "price" "[I", Cond.methodLink RX3 86 yX2_joining, Cond.instanceMethod yX2_joining, Cond.selects RX2 yX2_joining yX2_joining, Cond.code yX2_joining cX2_joining 3 (some .int), Cond.methodLink RX3 93 yX3_tell, Cond.instanceMethod yX3_tell, Cond.selects RX3 yX3_tell yX3_tell, Cond.code yX3_tell cX3_tell 8 none, Cond.fieldLink RX3 104 "VectorRounds$Tables" "size" "[I", Cond.fieldLink RX3 107 "VectorRounds$Tables" "order" "[I", Cond.fieldLink RX3 110 "VectorRounds$Tables" "metric" "[I", Cond.fieldLink RX3 76 "VectorRounds$Tables" "via" "[I", Cond.methodLink RX3 113 Lib.Math.min.name, Cond.static Lib.Math.min.name, Cond.initialized "java/lang/Math", Cond.code Lib.Math.min.name Lib.Math.min.code 2 (some .int), Cond.methodLink RX3 118 yX3_receive, Cond.instanceMethod yX3_receive]
def wsX7_settledNow_r4 : List Cond := [Cond.selects RX3 yX3_receive yX3_receive, Cond.code yX3_receive cX3_receive 8 none, Cond.fieldLink RX3 124 "VectorRounds$Tables" "held" "[I", Cond.methodLink RX3 121 yX4_has, Cond.instanceMethod yX4_has, Cond.selects RX4 yX4_has yX4_has, Cond.code yX4_has cX4_has 2 (some .boolean), Cond.methodLink RX3 54 yX4_enter, Cond.instanceMethod yX4_enter, Cond.selects RX4 yX4_enter yX4_enter, Cond.code yX4_enter cX4_enter 7 none, Cond.methodLink RX3 79 yX3_take, Cond.instanceMethod yX3_take, Cond.selects RX3 yX3_take yX3_take, Cond.code yX3_take cX3_take 4 none, Cond.methodLink RX3 96 yX4_howManyDiffer, Cond.instanceMethod yX4_howManyDiffer, Cond.selects RX4 yX4_howManyDiffer yX4_howManyDiffer, Cond.code yX4_howManyDiffer cX4_howManyDiffer 4 (some .int), Cond.methodLink RX7 197 yX7_orNot, Cond.static yX7_orNot, Cond.initialized RX7, Cond.code yX7_orNot cX7_orNot 1 (some .int)]
def wsX7_settledNow : List Cond := .code yX7_settledNow cX7_settledNow 1 (some .int) :: ((wsX7_settledNow_r1 ++ (wsX7_settledNow_r2 ++ (wsX7_settledNow_r3 ++ wsX7_settledNow_r4))) ++ wsX70 ++ wsX30 ++ wsX40 ++ wsX20)
def wsX7_loopedFirst_r1 : List Cond := [Cond.fieldLink RX7 16 "VectorRounds" "thought" "LVectorRounds$Network;", Cond.fieldLink RX7 12 "VectorRounds" "now" "LVectorRounds$Network;", Cond.fieldLink RX7 28 "VectorRounds" "path" "LVectorRounds$Way;", Cond.methodLink RX7 166 yX3_become, Cond.instanceMethod yX3_become, Cond.selects RX3 yX3_become yX3_become, Cond.initialized RX3, Cond.code yX3_become cX3_become 2 none, Cond.fieldLink RX3 12 "VectorRounds$Network" "tables" "LVectorRounds$Tables;", Cond.fieldLink RX3 24 "VectorRounds$Network" "links" "LVectorRounds$Links;", Cond.fieldLink RX3 35 "VectorRounds$Network" "routers" "I", Cond.fieldLink RX3 39 "VectorRounds$Network" "horizon" "I", Cond.fieldLink RX3 42 "VectorRounds$Network" "sequenced" "I", Cond.fieldLink RX3 45 "VectorRounds$Network" "holdDown" "I", Cond.fieldLink RX3 48 "VectorRounds$Network" "round" "I", Cond.fieldLink RX3 51 "VectorRounds$Network" "toldEver" "I", Cond.methodLink RX3 28 yX4_become, Cond.instanceMethod yX4_become, Cond.selects RX4 yX4_become yX4_become, Cond.initialized RX4, Cond.code yX4_become cX4_become 2 none, Cond.fieldLink RX4 9 "VectorRounds$Tables" "metric" "[I", Cond.methodLink RX4 36 arraycopyName, Cond.native arraycopyName]
def wsX7_loopedFirst_r2 : List Cond := [Cond.static arraycopyName, Cond.initialized "java/lang/System", Cond.fieldLink RX4 15 "VectorRounds$Tables" "via" "[I", Cond.fieldLink RX4 18 "VectorRounds$Tables" "sequence" "[I", Cond.fieldLink RX4 21 "VectorRounds$Tables" "held" "[I", Cond.fieldLink RX4 24 "VectorRounds$Tables" "order" "[I", Cond.fieldLink RX4 27 "VectorRounds$Tables" "size" "[I", Cond.methodLink RX3 32 yX2_become, Cond.instanceMethod yX2_become, Cond.selects RX2 yX2_become yX2_become, Cond.initialized RX2, Cond.code yX2_become cX2_become 2 none, Cond.fieldLink RX2 9 "VectorRounds$Links" "lesser" "[I", Cond.methodLink RX2 27 arraycopyName, Cond.fieldLink RX2 15 "VectorRounds$Links" "greater" "[I", Cond.fieldLink RX2 18 "VectorRounds$Links" "price" "[I", Cond.fieldLink RX2 21 "VectorRounds$Links" "up" "[I", Cond.fieldLink RX2 24 "VectorRounds$Links" "joint" "[I", Cond.fieldLink RX2 33 "VectorRounds$Links" "size" "I", Cond.methodLink RX7 153 yX6_loopsIn, Cond.instanceMethod yX6_loopsIn, Cond.selects RX6 yX6_loopsIn yX6_loopsIn, Cond.initialized RX6, Cond.code yX6_loopsIn cX6_loopsIn 5 (some .int)]
def wsX7_loopedFirst_r3 : List Cond := [Cond.fieldLink RX6 31 "VectorRounds$Network" "routers" "I", Cond.fieldLink RX6 36 "VectorRounds$Network" "tables" "LVectorRounds$Tables;", Cond.fieldLink RX6 19 "VectorRounds$Way" "ending" "I", Cond.methodLink RX6 40 yX6_walk, Cond.instanceMethod yX6_walk, Cond.selects RX6 yX6_walk yX6_walk, Cond.code yX6_walk cX6_walk 6 none, Cond.fieldLink RX6 15 "VectorRounds$Way" "length" "I", Cond.fieldLink RX6 9 "VectorRounds$Way" "stops" "[I", Cond.fieldLink RX6 28 "VectorRounds$Tables" "via" "[I", Cond.methodLink RX6 22 yX4_reaches, Cond.instanceMethod yX4_reaches, Cond.selects RX4 yX4_reaches yX4_reaches, Cond.code yX4_reaches cX4_reaches 2 (some .boolean), Cond.methodLink RX7 115 yX3_goRound, Cond.instanceMethod yX3_goRound, Cond.selects RX3 yX3_goRound yX3_goRound, Cond.code yX3_goRound cX3_goRound 4 (some .int), Cond.fieldLink RX3 83 "VectorRounds$Tables" "sequence" "[I", Cond.fieldLink RX3 18 "VectorRounds$Network" "before" "LVectorRounds$Tables;", Cond.fieldLink RX3 58 "VectorRounds$Links" "up" "[I", Cond.fieldLink RX3 90 "VectorRounds$Links" "price" "[I", Cond.methodLink RX3 86 yX2_joining, Cond.instanceMethod yX2_joining]
def wsX7_loopedFirst_r4 : List Cond := [Cond.selects RX2 yX2_joining yX2_joining, Cond.code yX2_joining cX2_joining 3 (some .int), Cond.methodLink RX3 93 yX3_tell, Cond.instanceMethod yX3_tell, Cond.selects RX3 yX3_tell yX3_tell, Cond.code yX3_tell cX3_tell 8 none, Cond.fieldLink RX3 104 "VectorRounds$Tables" "size" "[I", Cond.fieldLink RX3 107 "VectorRounds$Tables" "order" "[I", Cond.fieldLink RX3 110 "VectorRounds$Tables" "metric" "[I", Cond.fieldLink RX3 76 "VectorRounds$Tables" "via" "[I", Cond.methodLink RX3 113 Lib.Math.min.name, Cond.static Lib.Math.min.name, Cond.initialized "java/lang/Math", Cond.code Lib.Math.min.name Lib.Math.min.code 2 (some .int), Cond.methodLink RX3 118 yX3_receive, Cond.instanceMethod yX3_receive, Cond.selects RX3 yX3_receive yX3_receive, Cond.code yX3_receive cX3_receive 8 none, Cond.fieldLink RX3 124 "VectorRounds$Tables" "held" "[I", Cond.methodLink RX3 121 yX4_has, Cond.instanceMethod yX4_has, Cond.selects RX4 yX4_has yX4_has, Cond.code yX4_has cX4_has 2 (some .boolean), Cond.methodLink RX3 54 yX4_enter]
def wsX7_loopedFirst_r5 : List Cond := [Cond.instanceMethod yX4_enter, Cond.selects RX4 yX4_enter yX4_enter, Cond.code yX4_enter cX4_enter 7 none, Cond.methodLink RX3 79 yX3_take, Cond.instanceMethod yX3_take, Cond.selects RX3 yX3_take yX3_take, Cond.code yX3_take cX3_take 4 none, Cond.methodLink RX3 96 yX4_howManyDiffer, Cond.instanceMethod yX4_howManyDiffer, Cond.selects RX4 yX4_howManyDiffer yX4_howManyDiffer, Cond.code yX4_howManyDiffer cX4_howManyDiffer 4 (some .int)]
def wsX7_loopedFirst : List Cond := .code yX7_loopedFirst cX7_loopedFirst 2 (some .int) :: ((wsX7_loopedFirst_r1 ++ (wsX7_loopedFirst_r2 ++ (wsX7_loopedFirst_r3 ++ (wsX7_loopedFirst_r4 ++ wsX7_loopedFirst_r5)))) ++ wsX70 ++ wsX30 ++ wsX40 ++ wsX20 ++ wsX60)
def wsX7_rightEntries_r1 : List Cond := [Cond.fieldLink RX7 12 "VectorRounds" "now" "LVectorRounds$Network;", Cond.fieldLink RX7 53 "VectorRounds$Network" "routers" "I", Cond.fieldLink RX7 35 "VectorRounds" "least" "LVectorRounds$Distances;", Cond.fieldLink RX7 118 "VectorRounds$Network" "tables" "LVectorRounds$Tables;", Cond.fieldLink RX7 127 "VectorRounds$Tables" "metric" "[I", Cond.fieldLink RX7 187 "VectorRounds$Distances" "to" "[I", Cond.methodLink RX7 268 Lib.Math.min.name, Cond.static Lib.Math.min.name, Cond.initialized "java/lang/Math", Cond.code Lib.Math.min.name Lib.Math.min.code 2 (some .int), Cond.methodLink RX7 183 yX0_measure, Cond.instanceMethod yX0_measure, Cond.selects RX0 yX0_measure yX0_measure, Cond.initialized RX0, Cond.code yX0_measure cX0_measure 7 none, Cond.fieldLink RX0 9 "VectorRounds$Distances" "to" "[I", Cond.constant RX0 15 (1000000), Cond.fieldLink RX0 22 "VectorRounds$Network" "links" "LVectorRounds$Links;", Cond.fieldLink RX0 28 "VectorRounds$Links" "size" "I", Cond.fieldLink RX0 34 "VectorRounds$Links" "up" "[I", Cond.methodLink RX0 16 yJ7_fill_53178, Cond.static yJ7_fill_53178, Cond.initialized RJ7, Cond.code yJ7_fill_53178 cJ7_fill_53178 4 none]
def wsX7_rightEntries_r2 : List Cond := [Cond.methodLink RX0 37 yX0_relax, Cond.instanceMethod yX0_relax, Cond.selects RX0 yX0_relax yX0_relax, Cond.code yX0_relax cX0_relax 6 (some .boolean), Cond.fieldLink RX0 41 "VectorRounds$Links" "lesser" "[I", Cond.fieldLink RX0 44 "VectorRounds$Links" "greater" "[I", Cond.fieldLink RX0 47 "VectorRounds$Links" "price" "[I", Cond.methodLink RX7 122 yX4_has, Cond.instanceMethod yX4_has, Cond.selects RX4 yX4_has yX4_has, Cond.initialized RX4, Cond.code yX4_has cX4_has 2 (some .boolean), Cond.fieldLink RX4 9 "VectorRounds$Tables" "metric" "[I"]
def wsX7_rightEntries : List Cond := .code yX7_rightEntries cX7_rightEntries 6 (some .int) :: ((wsX7_rightEntries_r1 ++ wsX7_rightEntries_r2) ++ wsX70 ++ wsX30 ++ wsX40 ++ wsX00 ++ wsX20)
def wsX7_worstCut_r1 : List Cond := [Cond.fieldLink RX7 12 "VectorRounds" "now" "LVectorRounds$Network;", Cond.fieldLink RX7 65 "VectorRounds$Network" "links" "LVectorRounds$Links;", Cond.fieldLink RX7 75 "VectorRounds$Links" "size" "I", Cond.fieldLink RX7 85 "VectorRounds$Links" "up" "[I", Cond.fieldLink RX7 16 "VectorRounds" "thought" "LVectorRounds$Network;", Cond.methodLink RX7 166 yX3_become, Cond.instanceMethod yX3_become, Cond.selects RX3 yX3_become yX3_become, Cond.initialized RX3, Cond.code yX3_become cX3_become 2 none, Cond.fieldLink RX3 12 "VectorRounds$Network" "tables" "LVectorRounds$Tables;", Cond.fieldLink RX3 24 "VectorRounds$Network" "links" "LVectorRounds$Links;", Cond.fieldLink RX3 35 "VectorRounds$Network" "routers" "I", Cond.fieldLink RX3 39 "VectorRounds$Network" "horizon" "I", Cond.fieldLink RX3 42 "VectorRounds$Network" "sequenced" "I", Cond.fieldLink RX3 45 "VectorRounds$Network" "holdDown" "I", Cond.fieldLink RX3 48 "VectorRounds$Network" "round" "I", Cond.fieldLink RX3 51 "VectorRounds$Network" "toldEver" "I", Cond.methodLink RX3 28 yX4_become, Cond.instanceMethod yX4_become, Cond.selects RX4 yX4_become yX4_become, Cond.initialized RX4, Cond.code yX4_become cX4_become 2 none, Cond.fieldLink RX4 9 "VectorRounds$Tables" "metric" "[I"]
def wsX7_worstCut_r2 : List Cond := [Cond.methodLink RX4 36 arraycopyName, Cond.native arraycopyName, Cond.static arraycopyName, Cond.initialized "java/lang/System", Cond.fieldLink RX4 15 "VectorRounds$Tables" "via" "[I", Cond.fieldLink RX4 18 "VectorRounds$Tables" "sequence" "[I", Cond.fieldLink RX4 21 "VectorRounds$Tables" "held" "[I", Cond.fieldLink RX4 24 "VectorRounds$Tables" "order" "[I", Cond.fieldLink RX4 27 "VectorRounds$Tables" "size" "[I", Cond.methodLink RX3 32 yX2_become, Cond.instanceMethod yX2_become, Cond.selects RX2 yX2_become yX2_become, Cond.initialized RX2, Cond.code yX2_become cX2_become 2 none, Cond.fieldLink RX2 9 "VectorRounds$Links" "lesser" "[I", Cond.methodLink RX2 27 arraycopyName, Cond.fieldLink RX2 15 "VectorRounds$Links" "greater" "[I", Cond.fieldLink RX2 18 "VectorRounds$Links" "price" "[I", Cond.fieldLink RX2 21 "VectorRounds$Links" "up" "[I", Cond.fieldLink RX2 24 "VectorRounds$Links" "joint" "[I", Cond.fieldLink RX2 33 "VectorRounds$Links" "size" "I", Cond.methodLink RX7 89 yX3_switchLink, Cond.instanceMethod yX3_switchLink, Cond.selects RX3 yX3_switchLink yX3_switchLink]
def wsX7_worstCut_r3 : List Cond := [Cond.code yX3_switchLink cX3_switchLink 2 none, Cond.fieldLink RX3 58 "VectorRounds$Links" "up" "[I", Cond.fieldLink RX3 62 "VectorRounds$Links" "lesser" "[I", Cond.fieldLink RX3 65 "VectorRounds$Links" "greater" "[I", Cond.methodLink RX3 68 yX3_loseVia, Cond.instanceMethod yX3_loseVia, Cond.selects RX3 yX3_loseVia yX3_loseVia, Cond.code yX3_loseVia cX3_loseVia 5 none, Cond.fieldLink RX3 76 "VectorRounds$Tables" "via" "[I", Cond.fieldLink RX3 83 "VectorRounds$Tables" "sequence" "[I", Cond.methodLink RX3 72 yX4_reaches, Cond.instanceMethod yX4_reaches, Cond.selects RX4 yX4_reaches yX4_reaches, Cond.code yX4_reaches cX4_reaches 2 (some .boolean), Cond.methodLink RX3 79 yX3_take, Cond.instanceMethod yX3_take, Cond.selects RX3 yX3_take yX3_take, Cond.code yX3_take cX3_take 4 none, Cond.fieldLink RX3 110 "VectorRounds$Tables" "metric" "[I", Cond.fieldLink RX3 124 "VectorRounds$Tables" "held" "[I", Cond.methodLink RX7 194 yX3_roundsToSettle, Cond.instanceMethod yX3_roundsToSettle, Cond.selects RX3 yX3_roundsToSettle yX3_roundsToSettle, Cond.code yX3_roundsToSettle cX3_roundsToSettle 2 (some .int)]
def wsX7_worstCut_r4 : List Cond := [Cond.methodLink RX3 100 yX3_goRound, Cond.instanceMethod yX3_goRound, Cond.selects RX3 yX3_goRound yX3_goRound, Cond.code yX3_goRound cX3_goRound 4 (some .int), Cond.fieldLink RX3 18 "VectorRounds$Network" "before" "LVectorRounds$Tables;", Cond.fieldLink RX3 90 "VectorRounds$Links" "price" "[I", Cond.methodLink RX3 86 yX2_joining, Cond.instanceMethod yX2_joining, Cond.selects RX2 yX2_joining yX2_joining, Cond.code yX2_joining cX2_joining 3 (some .int), Cond.methodLink RX3 93 yX3_tell, Cond.instanceMethod yX3_tell, Cond.selects RX3 yX3_tell yX3_tell, Cond.code yX3_tell cX3_tell 8 none, Cond.fieldLink RX3 104 "VectorRounds$Tables" "size" "[I", Cond.fieldLink RX3 107 "VectorRounds$Tables" "order" "[I", Cond.methodLink RX3 113 Lib.Math.min.name, Cond.static Lib.Math.min.name, Cond.initialized "java/lang/Math", Cond.code Lib.Math.min.name Lib.Math.min.code 2 (some .int), Cond.methodLink RX3 118 yX3_receive, Cond.instanceMethod yX3_receive, Cond.selects RX3 yX3_receive yX3_receive, Cond.code yX3_receive cX3_receive 8 none]
def wsX7_worstCut_r5 : List Cond := [Cond.methodLink RX3 121 yX4_has, Cond.instanceMethod yX4_has, Cond.selects RX4 yX4_has yX4_has, Cond.code yX4_has cX4_has 2 (some .boolean), Cond.methodLink RX3 54 yX4_enter, Cond.instanceMethod yX4_enter, Cond.selects RX4 yX4_enter yX4_enter, Cond.code yX4_enter cX4_enter 7 none, Cond.methodLink RX3 96 yX4_howManyDiffer, Cond.instanceMethod yX4_howManyDiffer, Cond.selects RX4 yX4_howManyDiffer yX4_howManyDiffer, Cond.code yX4_howManyDiffer cX4_howManyDiffer 4 (some .int)]
def wsX7_worstCut : List Cond := .code yX7_worstCut cX7_worstCut 5 (some .int) :: ((wsX7_worstCut_r1 ++ (wsX7_worstCut_r2 ++ (wsX7_worstCut_r3 ++ (wsX7_worstCut_r4 ++ wsX7_worstCut_r5)))) ++ wsX70 ++ wsX30 ++ wsX20 ++ wsX40)
def wsX7_neededLinks_r1 : List Cond := [Cond.fieldLink RX7 12 "VectorRounds" "now" "LVectorRounds$Network;", Cond.fieldLink RX7 65 "VectorRounds$Network" "links" "LVectorRounds$Links;", Cond.fieldLink RX7 75 "VectorRounds$Links" "size" "I", Cond.fieldLink RX7 85 "VectorRounds$Links" "up" "[I", Cond.fieldLink RX7 35 "VectorRounds" "least" "LVectorRounds$Distances;", Cond.fieldLink RX7 109 "VectorRounds$Links" "lesser" "[I", Cond.fieldLink RX7 187 "VectorRounds$Distances" "to" "[I", Cond.fieldLink RX7 112 "VectorRounds$Links" "greater" "[I", Cond.constant RX7 190 (1000000), Cond.methodLink RX7 183 yX0_measure, Cond.instanceMethod yX0_measure, Cond.selects RX0 yX0_measure yX0_measure, Cond.initialized RX0, Cond.code yX0_measure cX0_measure 7 none, Cond.fieldLink RX0 9 "VectorRounds$Distances" "to" "[I", Cond.constant RX0 15 (1000000), Cond.fieldLink RX0 22 "VectorRounds$Network" "links" "LVectorRounds$Links;", Cond.fieldLink RX0 28 "VectorRounds$Links" "size" "I", Cond.fieldLink RX0 34 "VectorRounds$Links" "up" "[I", Cond.methodLink RX0 16 yJ7_fill_53178, Cond.static yJ7_fill_53178, Cond.initialized RJ7, Cond.code yJ7_fill_53178 cJ7_fill_53178 4 none, Cond.methodLink RX0 37 yX0_relax]
def wsX7_neededLinks_r2 : List Cond := [Cond.instanceMethod yX0_relax, Cond.selects RX0 yX0_relax yX0_relax, Cond.code yX0_relax cX0_relax 6 (some .boolean), Cond.fieldLink RX0 41 "VectorRounds$Links" "lesser" "[I", Cond.fieldLink RX0 44 "VectorRounds$Links" "greater" "[I", Cond.fieldLink RX0 47 "VectorRounds$Links" "price" "[I"]
def wsX7_neededLinks : List Cond := .code yX7_neededLinks cX7_neededLinks 3 (some .int) :: ((wsX7_neededLinks_r1 ++ wsX7_neededLinks_r2) ++ wsX70 ++ wsX30 ++ wsX20 ++ wsX00)
def wsX7_told_r1 : List Cond := [Cond.fieldLink RX7 28 "VectorRounds" "path" "LVectorRounds$Way;", Cond.fieldLink RX7 12 "VectorRounds" "now" "LVectorRounds$Network;", Cond.methodLink RX7 147 yX7_settledNow, Cond.instanceMethod yX7_settledNow, Cond.selects RX7 yX7_settledNow yX7_settledNow, Cond.initialized RX7, Cond.code yX7_settledNow cX7_settledNow 1 (some .int), Cond.fieldLink RX7 16 "VectorRounds" "thought" "LVectorRounds$Network;", Cond.methodLink RX7 166 yX3_become, Cond.instanceMethod yX3_become, Cond.selects RX3 yX3_become yX3_become, Cond.initialized RX3, Cond.code yX3_become cX3_become 2 none, Cond.fieldLink RX3 12 "VectorRounds$Network" "tables" "LVectorRounds$Tables;", Cond.fieldLink RX3 24 "VectorRounds$Network" "links" "LVectorRounds$Links;", Cond.fieldLink RX3 35 "VectorRounds$Network" "routers" "I", Cond.fieldLink RX3 39 "VectorRounds$Network" "horizon" "I", Cond.fieldLink RX3 42 "VectorRounds$Network" "sequenced" "I", Cond.fieldLink RX3 45 "VectorRounds$Network" "holdDown" "I", Cond.fieldLink RX3 48 "VectorRounds$Network" "round" "I", Cond.fieldLink RX3 51 "VectorRounds$Network" "toldEver" "I", Cond.methodLink RX3 28 yX4_become, Cond.instanceMethod yX4_become, Cond.selects RX4 yX4_become yX4_become]
def wsX7_told_r2 : List Cond := [Cond.initialized RX4, Cond.code yX4_become cX4_become 2 none, Cond.fieldLink RX4 9 "VectorRounds$Tables" "metric" "[I", Cond.methodLink RX4 36 arraycopyName, Cond.native arraycopyName, Cond.static arraycopyName, Cond.initialized "java/lang/System", Cond.fieldLink RX4 15 "VectorRounds$Tables" "via" "[I", Cond.fieldLink RX4 18 "VectorRounds$Tables" "sequence" "[I", Cond.fieldLink RX4 21 "VectorRounds$Tables" "held" "[I", Cond.fieldLink RX4 24 "VectorRounds$Tables" "order" "[I", Cond.fieldLink RX4 27 "VectorRounds$Tables" "size" "[I", Cond.methodLink RX3 32 yX2_become, Cond.instanceMethod yX2_become, Cond.selects RX2 yX2_become yX2_become, Cond.initialized RX2, Cond.code yX2_become cX2_become 2 none, Cond.fieldLink RX2 9 "VectorRounds$Links" "lesser" "[I", Cond.methodLink RX2 27 arraycopyName, Cond.fieldLink RX2 15 "VectorRounds$Links" "greater" "[I", Cond.fieldLink RX2 18 "VectorRounds$Links" "price" "[I", Cond.fieldLink RX2 21 "VectorRounds$Links" "up" "[I", Cond.fieldLink RX2 24 "VectorRounds$Links" "joint" "[I", Cond.fieldLink RX2 33 "VectorRounds$Links" "size" "I"]
def wsX7_told_r3 : List Cond := [Cond.methodLink RX7 194 yX3_roundsToSettle, Cond.instanceMethod yX3_roundsToSettle, Cond.selects RX3 yX3_roundsToSettle yX3_roundsToSettle, Cond.code yX3_roundsToSettle cX3_roundsToSettle 2 (some .int), Cond.methodLink RX3 100 yX3_goRound, Cond.instanceMethod yX3_goRound, Cond.selects RX3 yX3_goRound yX3_goRound, Cond.code yX3_goRound cX3_goRound 4 (some .int), Cond.fieldLink RX3 83 "VectorRounds$Tables" "sequence" "[I", Cond.fieldLink RX3 18 "VectorRounds$Network" "before" "LVectorRounds$Tables;", Cond.fieldLink RX3 58 "VectorRounds$Links" "up" "[I", Cond.fieldLink RX3 90 "VectorRounds$Links" "price" "[I", Cond.methodLink RX3 86 yX2_joining, Cond.instanceMethod yX2_joining, Cond.selects RX2 yX2_joining yX2_joining, Cond.code yX2_joining cX2_joining 3 (some .int), Cond.methodLink RX3 93 yX3_tell, Cond.instanceMethod yX3_tell, Cond.selects RX3 yX3_tell yX3_tell, Cond.code yX3_tell cX3_tell 8 none, Cond.fieldLink RX3 104 "VectorRounds$Tables" "size" "[I", Cond.fieldLink RX3 107 "VectorRounds$Tables" "order" "[I", Cond.fieldLink RX3 110 "VectorRounds$Tables" "metric" "[I", Cond.fieldLink RX3 76 "VectorRounds$Tables" "via" "[I"]
def wsX7_told_r4 : List Cond := [Cond.methodLink RX3 113 Lib.Math.min.name, Cond.static Lib.Math.min.name, Cond.initialized "java/lang/Math", Cond.code Lib.Math.min.name Lib.Math.min.code 2 (some .int), Cond.methodLink RX3 118 yX3_receive, Cond.instanceMethod yX3_receive, Cond.selects RX3 yX3_receive yX3_receive, Cond.code yX3_receive cX3_receive 8 none, Cond.fieldLink RX3 124 "VectorRounds$Tables" "held" "[I", Cond.methodLink RX3 121 yX4_has, Cond.instanceMethod yX4_has, Cond.selects RX4 yX4_has yX4_has, Cond.code yX4_has cX4_has 2 (some .boolean), Cond.methodLink RX3 54 yX4_enter, Cond.instanceMethod yX4_enter, Cond.selects RX4 yX4_enter yX4_enter, Cond.code yX4_enter cX4_enter 7 none, Cond.methodLink RX3 79 yX3_take, Cond.instanceMethod yX3_take, Cond.selects RX3 yX3_take yX3_take, Cond.code yX3_take cX3_take 4 none, Cond.methodLink RX3 96 yX4_howManyDiffer, Cond.instanceMethod yX4_howManyDiffer, Cond.selects RX4 yX4_howManyDiffer yX4_howManyDiffer]
def wsX7_told_r5 : List Cond := [Cond.code yX4_howManyDiffer cX4_howManyDiffer 4 (some .int), Cond.methodLink RX7 197 yX7_orNot, Cond.static yX7_orNot, Cond.code yX7_orNot cX7_orNot 1 (some .int), Cond.methodLink RX7 150 yX7_loopedFirst, Cond.instanceMethod yX7_loopedFirst, Cond.selects RX7 yX7_loopedFirst yX7_loopedFirst, Cond.code yX7_loopedFirst cX7_loopedFirst 2 (some .int), Cond.methodLink RX7 153 yX6_loopsIn, Cond.instanceMethod yX6_loopsIn, Cond.selects RX6 yX6_loopsIn yX6_loopsIn, Cond.initialized RX6, Cond.code yX6_loopsIn cX6_loopsIn 5 (some .int), Cond.fieldLink RX6 31 "VectorRounds$Network" "routers" "I", Cond.fieldLink RX6 36 "VectorRounds$Network" "tables" "LVectorRounds$Tables;", Cond.fieldLink RX6 19 "VectorRounds$Way" "ending" "I", Cond.methodLink RX6 40 yX6_walk, Cond.instanceMethod yX6_walk, Cond.selects RX6 yX6_walk yX6_walk, Cond.code yX6_walk cX6_walk 6 none, Cond.fieldLink RX6 15 "VectorRounds$Way" "length" "I", Cond.fieldLink RX6 9 "VectorRounds$Way" "stops" "[I", Cond.fieldLink RX6 28 "VectorRounds$Tables" "via" "[I", Cond.methodLink RX6 22 yX4_reaches]
def wsX7_told_r6 : List Cond := [Cond.instanceMethod yX4_reaches, Cond.selects RX4 yX4_reaches yX4_reaches, Cond.code yX4_reaches cX4_reaches 2 (some .boolean), Cond.methodLink RX7 115 yX3_goRound, Cond.methodLink RX7 157 yX7_rightEntries, Cond.instanceMethod yX7_rightEntries, Cond.selects RX7 yX7_rightEntries yX7_rightEntries, Cond.code yX7_rightEntries cX7_rightEntries 6 (some .int), Cond.fieldLink RX7 53 "VectorRounds$Network" "routers" "I", Cond.fieldLink RX7 35 "VectorRounds" "least" "LVectorRounds$Distances;", Cond.fieldLink RX7 118 "VectorRounds$Network" "tables" "LVectorRounds$Tables;", Cond.fieldLink RX7 127 "VectorRounds$Tables" "metric" "[I", Cond.fieldLink RX7 187 "VectorRounds$Distances" "to" "[I", Cond.methodLink RX7 268 Lib.Math.min.name, Cond.methodLink RX7 183 yX0_measure, Cond.instanceMethod yX0_measure, Cond.selects RX0 yX0_measure yX0_measure, Cond.initialized RX0, Cond.code yX0_measure cX0_measure 7 none, Cond.fieldLink RX0 9 "VectorRounds$Distances" "to" "[I", Cond.constant RX0 15 (1000000), Cond.fieldLink RX0 22 "VectorRounds$Network" "links" "LVectorRounds$Links;", Cond.fieldLink RX0 28 "VectorRounds$Links" "size" "I", Cond.fieldLink RX0 34 "VectorRounds$Links" "up" "[I"]
def wsX7_told_r7 : List Cond := [Cond.methodLink RX0 16 yJ7_fill_53178, Cond.static yJ7_fill_53178, Cond.initialized RJ7, Cond.code yJ7_fill_53178 cJ7_fill_53178 4 none, Cond.methodLink RX0 37 yX0_relax, Cond.instanceMethod yX0_relax, Cond.selects RX0 yX0_relax yX0_relax, Cond.code yX0_relax cX0_relax 6 (some .boolean), Cond.fieldLink RX0 41 "VectorRounds$Links" "lesser" "[I", Cond.fieldLink RX0 44 "VectorRounds$Links" "greater" "[I", Cond.fieldLink RX0 47 "VectorRounds$Links" "price" "[I", Cond.methodLink RX7 122 yX4_has, Cond.methodLink RX7 160 yX7_worstCut, Cond.instanceMethod yX7_worstCut, Cond.selects RX7 yX7_worstCut yX7_worstCut, Cond.code yX7_worstCut cX7_worstCut 5 (some .int), Cond.fieldLink RX7 65 "VectorRounds$Network" "links" "LVectorRounds$Links;", Cond.fieldLink RX7 75 "VectorRounds$Links" "size" "I", Cond.fieldLink RX7 85 "VectorRounds$Links" "up" "[I", Cond.methodLink RX7 89 yX3_switchLink, Cond.instanceMethod yX3_switchLink, Cond.selects RX3 yX3_switchLink yX3_switchLink, Cond.code yX3_switchLink cX3_switchLink 2 none, Cond.fieldLink RX3 62 "VectorRounds$Links" "lesser" "[I"]
def wsX7_told_r8 : List Cond := [Cond.fieldLink RX3 65 "VectorRounds$Links" "greater" "[I", Cond.methodLink RX3 68 yX3_loseVia, Cond.instanceMethod yX3_loseVia, Cond.selects RX3 yX3_loseVia yX3_loseVia, Cond.code yX3_loseVia cX3_loseVia 5 none, Cond.methodLink RX3 72 yX4_reaches, Cond.methodLink RX7 163 yX7_neededLinks, Cond.instanceMethod yX7_neededLinks, Cond.selects RX7 yX7_neededLinks yX7_neededLinks, Cond.code yX7_neededLinks cX7_neededLinks 3 (some .int), Cond.fieldLink RX7 109 "VectorRounds$Links" "lesser" "[I", Cond.fieldLink RX7 112 "VectorRounds$Links" "greater" "[I", Cond.constant RX7 190 (1000000)]
def wsX7_told : List Cond := .code yX7_told cX7_told 2 (some .int) :: ((wsX7_told_r1 ++ (wsX7_told_r2 ++ (wsX7_told_r3 ++ (wsX7_told_r4 ++ (wsX7_told_r5 ++ (wsX7_told_r6 ++ (wsX7_told_r7 ++ wsX7_told_r8))))))) ++ wsX70 ++ wsX30 ++ wsX40 ++ wsX20 ++ wsX60 ++ wsX00)
def wsX7_then_r1 : List Cond := [Cond.fieldLink RX7 16 "VectorRounds" "thought" "LVectorRounds$Network;", Cond.fieldLink RX7 12 "VectorRounds" "now" "LVectorRounds$Network;", Cond.fieldLink RX7 28 "VectorRounds" "path" "LVectorRounds$Way;", Cond.fieldLink RX7 118 "VectorRounds$Network" "tables" "LVectorRounds$Tables;", Cond.fieldLink RX7 127 "VectorRounds$Tables" "metric" "[I", Cond.fieldLink RX7 130 "VectorRounds$Tables" "via" "[I", Cond.methodLink RX7 61 yX7_noRouter, Cond.instanceMethod yX7_noRouter, Cond.selects RX7 yX7_noRouter yX7_noRouter, Cond.initialized RX7, Cond.code yX7_noRouter cX7_noRouter 2 (some .boolean), Cond.fieldLink RX7 53 "VectorRounds$Network" "routers" "I", Cond.methodLink RX7 166 yX3_become, Cond.instanceMethod yX3_become, Cond.selects RX3 yX3_become yX3_become, Cond.initialized RX3, Cond.code yX3_become cX3_become 2 none, Cond.fieldLink RX3 12 "VectorRounds$Network" "tables" "LVectorRounds$Tables;", Cond.fieldLink RX3 24 "VectorRounds$Network" "links" "LVectorRounds$Links;", Cond.fieldLink RX3 35 "VectorRounds$Network" "routers" "I", Cond.fieldLink RX3 39 "VectorRounds$Network" "horizon" "I", Cond.fieldLink RX3 42 "VectorRounds$Network" "sequenced" "I", Cond.fieldLink RX3 45 "VectorRounds$Network" "holdDown" "I", Cond.fieldLink RX3 48 "VectorRounds$Network" "round" "I"]
def wsX7_then_r2 : List Cond := [Cond.fieldLink RX3 51 "VectorRounds$Network" "toldEver" "I", Cond.methodLink RX3 28 yX4_become, Cond.instanceMethod yX4_become, Cond.selects RX4 yX4_become yX4_become, Cond.initialized RX4, Cond.code yX4_become cX4_become 2 none, Cond.fieldLink RX4 9 "VectorRounds$Tables" "metric" "[I", Cond.methodLink RX4 36 arraycopyName, Cond.native arraycopyName, Cond.static arraycopyName, Cond.initialized "java/lang/System", Cond.fieldLink RX4 15 "VectorRounds$Tables" "via" "[I", Cond.fieldLink RX4 18 "VectorRounds$Tables" "sequence" "[I", Cond.fieldLink RX4 21 "VectorRounds$Tables" "held" "[I", Cond.fieldLink RX4 24 "VectorRounds$Tables" "order" "[I", Cond.fieldLink RX4 27 "VectorRounds$Tables" "size" "[I", Cond.methodLink RX3 32 yX2_become, Cond.instanceMethod yX2_become, Cond.selects RX2 yX2_become yX2_become, Cond.initialized RX2, Cond.code yX2_become cX2_become 2 none, Cond.fieldLink RX2 9 "VectorRounds$Links" "lesser" "[I", Cond.methodLink RX2 27 arraycopyName, Cond.fieldLink RX2 15 "VectorRounds$Links" "greater" "[I"]
def wsX7_then_r3 : List Cond := [Cond.fieldLink RX2 18 "VectorRounds$Links" "price" "[I", Cond.fieldLink RX2 21 "VectorRounds$Links" "up" "[I", Cond.fieldLink RX2 24 "VectorRounds$Links" "joint" "[I", Cond.fieldLink RX2 33 "VectorRounds$Links" "size" "I", Cond.methodLink RX7 115 yX3_goRound, Cond.instanceMethod yX3_goRound, Cond.selects RX3 yX3_goRound yX3_goRound, Cond.code yX3_goRound cX3_goRound 4 (some .int), Cond.fieldLink RX3 83 "VectorRounds$Tables" "sequence" "[I", Cond.fieldLink RX3 18 "VectorRounds$Network" "before" "LVectorRounds$Tables;", Cond.fieldLink RX3 58 "VectorRounds$Links" "up" "[I", Cond.fieldLink RX3 90 "VectorRounds$Links" "price" "[I", Cond.methodLink RX3 86 yX2_joining, Cond.instanceMethod yX2_joining, Cond.selects RX2 yX2_joining yX2_joining, Cond.code yX2_joining cX2_joining 3 (some .int), Cond.methodLink RX3 93 yX3_tell, Cond.instanceMethod yX3_tell, Cond.selects RX3 yX3_tell yX3_tell, Cond.code yX3_tell cX3_tell 8 none, Cond.fieldLink RX3 104 "VectorRounds$Tables" "size" "[I", Cond.fieldLink RX3 107 "VectorRounds$Tables" "order" "[I", Cond.fieldLink RX3 110 "VectorRounds$Tables" "metric" "[I", Cond.fieldLink RX3 76 "VectorRounds$Tables" "via" "[I"]
def wsX7_then_r4 : List Cond := [Cond.methodLink RX3 113 Lib.Math.min.name, Cond.static Lib.Math.min.name, Cond.initialized "java/lang/Math", Cond.code Lib.Math.min.name Lib.Math.min.code 2 (some .int), Cond.methodLink RX3 118 yX3_receive, Cond.instanceMethod yX3_receive, Cond.selects RX3 yX3_receive yX3_receive, Cond.code yX3_receive cX3_receive 8 none, Cond.fieldLink RX3 124 "VectorRounds$Tables" "held" "[I", Cond.methodLink RX3 121 yX4_has, Cond.instanceMethod yX4_has, Cond.selects RX4 yX4_has yX4_has, Cond.code yX4_has cX4_has 2 (some .boolean), Cond.methodLink RX3 54 yX4_enter, Cond.instanceMethod yX4_enter, Cond.selects RX4 yX4_enter yX4_enter, Cond.code yX4_enter cX4_enter 7 none, Cond.methodLink RX3 79 yX3_take, Cond.instanceMethod yX3_take, Cond.selects RX3 yX3_take yX3_take, Cond.code yX3_take cX3_take 4 none, Cond.methodLink RX3 96 yX4_howManyDiffer, Cond.instanceMethod yX4_howManyDiffer, Cond.selects RX4 yX4_howManyDiffer yX4_howManyDiffer]
def wsX7_then_r5 : List Cond := [Cond.code yX4_howManyDiffer cX4_howManyDiffer 4 (some .int), Cond.methodLink RX7 153 yX6_loopsIn, Cond.instanceMethod yX6_loopsIn, Cond.selects RX6 yX6_loopsIn yX6_loopsIn, Cond.initialized RX6, Cond.code yX6_loopsIn cX6_loopsIn 5 (some .int), Cond.fieldLink RX6 31 "VectorRounds$Network" "routers" "I", Cond.fieldLink RX6 36 "VectorRounds$Network" "tables" "LVectorRounds$Tables;", Cond.fieldLink RX6 19 "VectorRounds$Way" "ending" "I", Cond.methodLink RX6 40 yX6_walk, Cond.instanceMethod yX6_walk, Cond.selects RX6 yX6_walk yX6_walk, Cond.code yX6_walk cX6_walk 6 none, Cond.fieldLink RX6 15 "VectorRounds$Way" "length" "I", Cond.fieldLink RX6 9 "VectorRounds$Way" "stops" "[I", Cond.fieldLink RX6 28 "VectorRounds$Tables" "via" "[I", Cond.methodLink RX6 22 yX4_reaches, Cond.instanceMethod yX4_reaches, Cond.selects RX4 yX4_reaches yX4_reaches, Cond.code yX4_reaches cX4_reaches 2 (some .boolean), Cond.methodLink RX7 122 yX4_has]
def wsX7_then : List Cond := .code yX7_then cX7_then 6 (some .int) :: ((wsX7_then_r1 ++ (wsX7_then_r2 ++ (wsX7_then_r3 ++ (wsX7_then_r4 ++ wsX7_then_r5)))) ++ wsX70 ++ wsX30 ++ wsX40 ++ wsX20 ++ wsX60)
def wsX7_way_r1 : List Cond := [Cond.fieldLink RX7 28 "VectorRounds" "path" "LVectorRounds$Way;", Cond.fieldLink RX7 12 "VectorRounds" "now" "LVectorRounds$Network;", Cond.fieldLink RX7 118 "VectorRounds$Network" "tables" "LVectorRounds$Tables;", Cond.fieldLink RX7 174 "VectorRounds$Way" "length" "I", Cond.fieldLink RX7 177 "VectorRounds$Way" "stops" "[I", Cond.methodLink RX7 61 yX7_noRouter, Cond.instanceMethod yX7_noRouter, Cond.selects RX7 yX7_noRouter yX7_noRouter, Cond.initialized RX7, Cond.code yX7_noRouter cX7_noRouter 2 (some .boolean), Cond.fieldLink RX7 53 "VectorRounds$Network" "routers" "I", Cond.methodLink RX7 170 yX6_walk, Cond.instanceMethod yX6_walk, Cond.selects RX6 yX6_walk yX6_walk, Cond.initialized RX6, Cond.code yX6_walk cX6_walk 6 none, Cond.fieldLink RX6 15 "VectorRounds$Way" "length" "I", Cond.fieldLink RX6 19 "VectorRounds$Way" "ending" "I", Cond.fieldLink RX6 9 "VectorRounds$Way" "stops" "[I", Cond.fieldLink RX6 28 "VectorRounds$Tables" "via" "[I", Cond.methodLink RX6 22 yX4_reaches, Cond.instanceMethod yX4_reaches, Cond.selects RX4 yX4_reaches yX4_reaches, Cond.initialized RX4]
def wsX7_way_r2 : List Cond := [Cond.code yX4_reaches cX4_reaches 2 (some .boolean), Cond.fieldLink RX4 9 "VectorRounds$Tables" "metric" "[I"]
def wsX7_way : List Cond := .code yX7_way cX7_way 4 (some .int) :: ((wsX7_way_r1 ++ wsX7_way_r2) ++ wsX70 ++ wsX30 ++ wsX60 ++ wsX40)
def wsX7_ends_r1 : List Cond := [Cond.fieldLink RX7 28 "VectorRounds" "path" "LVectorRounds$Way;", Cond.fieldLink RX7 12 "VectorRounds" "now" "LVectorRounds$Network;", Cond.fieldLink RX7 118 "VectorRounds$Network" "tables" "LVectorRounds$Tables;", Cond.fieldLink RX7 180 "VectorRounds$Way" "ending" "I", Cond.methodLink RX7 61 yX7_noRouter, Cond.instanceMethod yX7_noRouter, Cond.selects RX7 yX7_noRouter yX7_noRouter, Cond.initialized RX7, Cond.code yX7_noRouter cX7_noRouter 2 (some .boolean), Cond.fieldLink RX7 53 "VectorRounds$Network" "routers" "I", Cond.methodLink RX7 170 yX6_walk, Cond.instanceMethod yX6_walk, Cond.selects RX6 yX6_walk yX6_walk, Cond.initialized RX6, Cond.code yX6_walk cX6_walk 6 none, Cond.fieldLink RX6 15 "VectorRounds$Way" "length" "I", Cond.fieldLink RX6 19 "VectorRounds$Way" "ending" "I", Cond.fieldLink RX6 9 "VectorRounds$Way" "stops" "[I", Cond.fieldLink RX6 28 "VectorRounds$Tables" "via" "[I", Cond.methodLink RX6 22 yX4_reaches, Cond.instanceMethod yX4_reaches, Cond.selects RX4 yX4_reaches yX4_reaches, Cond.initialized RX4, Cond.code yX4_reaches cX4_reaches 2 (some .boolean)]
def wsX7_ends_r2 : List Cond := [Cond.fieldLink RX4 9 "VectorRounds$Tables" "metric" "[I"]
def wsX7_ends : List Cond := .code yX7_ends cX7_ends 3 (some .int) :: ((wsX7_ends_r1 ++ wsX7_ends_r2) ++ wsX70 ++ wsX30 ++ wsX60 ++ wsX40)
def wsX7_shortest_r1 : List Cond := [Cond.fieldLink RX7 35 "VectorRounds" "least" "LVectorRounds$Distances;", Cond.fieldLink RX7 12 "VectorRounds" "now" "LVectorRounds$Network;", Cond.fieldLink RX7 187 "VectorRounds$Distances" "to" "[I", Cond.constant RX7 190 (1000000), Cond.methodLink RX7 61 yX7_noRouter, Cond.instanceMethod yX7_noRouter, Cond.selects RX7 yX7_noRouter yX7_noRouter, Cond.initialized RX7, Cond.code yX7_noRouter cX7_noRouter 2 (some .boolean), Cond.fieldLink RX7 53 "VectorRounds$Network" "routers" "I", Cond.methodLink RX7 183 yX0_measure, Cond.instanceMethod yX0_measure, Cond.selects RX0 yX0_measure yX0_measure, Cond.initialized RX0, Cond.code yX0_measure cX0_measure 7 none, Cond.fieldLink RX0 9 "VectorRounds$Distances" "to" "[I", Cond.constant RX0 15 (1000000), Cond.fieldLink RX0 22 "VectorRounds$Network" "links" "LVectorRounds$Links;", Cond.fieldLink RX0 28 "VectorRounds$Links" "size" "I", Cond.fieldLink RX0 34 "VectorRounds$Links" "up" "[I", Cond.methodLink RX0 16 yJ7_fill_53178, Cond.static yJ7_fill_53178, Cond.initialized RJ7, Cond.code yJ7_fill_53178 cJ7_fill_53178 4 none]
def wsX7_shortest_r2 : List Cond := [Cond.methodLink RX0 37 yX0_relax, Cond.instanceMethod yX0_relax, Cond.selects RX0 yX0_relax yX0_relax, Cond.code yX0_relax cX0_relax 6 (some .boolean), Cond.fieldLink RX0 41 "VectorRounds$Links" "lesser" "[I", Cond.fieldLink RX0 44 "VectorRounds$Links" "greater" "[I", Cond.fieldLink RX0 47 "VectorRounds$Links" "price" "[I"]
def wsX7_shortest : List Cond := .code yX7_shortest cX7_shortest 4 (some .int) :: ((wsX7_shortest_r1 ++ wsX7_shortest_r2) ++ wsX70 ++ wsX00 ++ wsX30 ++ wsX20)
def wsX7_counts_r1 : List Cond := [Cond.fieldLink RX7 16 "VectorRounds" "thought" "LVectorRounds$Network;", Cond.fieldLink RX7 12 "VectorRounds" "now" "LVectorRounds$Network;", Cond.fieldLink RX7 118 "VectorRounds$Network" "tables" "LVectorRounds$Tables;", Cond.methodLink RX7 61 yX7_noRouter, Cond.instanceMethod yX7_noRouter, Cond.selects RX7 yX7_noRouter yX7_noRouter, Cond.initialized RX7, Cond.code yX7_noRouter cX7_noRouter 2 (some .boolean), Cond.fieldLink RX7 53 "VectorRounds$Network" "routers" "I", Cond.methodLink RX7 166 yX3_become, Cond.instanceMethod yX3_become, Cond.selects RX3 yX3_become yX3_become, Cond.initialized RX3, Cond.code yX3_become cX3_become 2 none, Cond.fieldLink RX3 12 "VectorRounds$Network" "tables" "LVectorRounds$Tables;", Cond.fieldLink RX3 24 "VectorRounds$Network" "links" "LVectorRounds$Links;", Cond.fieldLink RX3 35 "VectorRounds$Network" "routers" "I", Cond.fieldLink RX3 39 "VectorRounds$Network" "horizon" "I", Cond.fieldLink RX3 42 "VectorRounds$Network" "sequenced" "I", Cond.fieldLink RX3 45 "VectorRounds$Network" "holdDown" "I", Cond.fieldLink RX3 48 "VectorRounds$Network" "round" "I", Cond.fieldLink RX3 51 "VectorRounds$Network" "toldEver" "I", Cond.methodLink RX3 28 yX4_become, Cond.instanceMethod yX4_become]
def wsX7_counts_r2 : List Cond := [Cond.selects RX4 yX4_become yX4_become, Cond.initialized RX4, Cond.code yX4_become cX4_become 2 none, Cond.fieldLink RX4 9 "VectorRounds$Tables" "metric" "[I", Cond.methodLink RX4 36 arraycopyName, Cond.native arraycopyName, Cond.static arraycopyName, Cond.initialized "java/lang/System", Cond.fieldLink RX4 15 "VectorRounds$Tables" "via" "[I", Cond.fieldLink RX4 18 "VectorRounds$Tables" "sequence" "[I", Cond.fieldLink RX4 21 "VectorRounds$Tables" "held" "[I", Cond.fieldLink RX4 24 "VectorRounds$Tables" "order" "[I", Cond.fieldLink RX4 27 "VectorRounds$Tables" "size" "[I", Cond.methodLink RX3 32 yX2_become, Cond.instanceMethod yX2_become, Cond.selects RX2 yX2_become yX2_become, Cond.initialized RX2, Cond.code yX2_become cX2_become 2 none, Cond.fieldLink RX2 9 "VectorRounds$Links" "lesser" "[I", Cond.methodLink RX2 27 arraycopyName, Cond.fieldLink RX2 15 "VectorRounds$Links" "greater" "[I", Cond.fieldLink RX2 18 "VectorRounds$Links" "price" "[I", Cond.fieldLink RX2 21 "VectorRounds$Links" "up" "[I", Cond.fieldLink RX2 24 "VectorRounds$Links" "joint" "[I"]
def wsX7_counts_r3 : List Cond := [Cond.fieldLink RX2 33 "VectorRounds$Links" "size" "I", Cond.methodLink RX7 191 yX4_reaches, Cond.instanceMethod yX4_reaches, Cond.selects RX4 yX4_reaches yX4_reaches, Cond.code yX4_reaches cX4_reaches 2 (some .boolean), Cond.methodLink RX7 115 yX3_goRound, Cond.instanceMethod yX3_goRound, Cond.selects RX3 yX3_goRound yX3_goRound, Cond.code yX3_goRound cX3_goRound 4 (some .int), Cond.fieldLink RX3 83 "VectorRounds$Tables" "sequence" "[I", Cond.fieldLink RX3 18 "VectorRounds$Network" "before" "LVectorRounds$Tables;", Cond.fieldLink RX3 58 "VectorRounds$Links" "up" "[I", Cond.fieldLink RX3 90 "VectorRounds$Links" "price" "[I", Cond.methodLink RX3 86 yX2_joining, Cond.instanceMethod yX2_joining, Cond.selects RX2 yX2_joining yX2_joining, Cond.code yX2_joining cX2_joining 3 (some .int), Cond.methodLink RX3 93 yX3_tell, Cond.instanceMethod yX3_tell, Cond.selects RX3 yX3_tell yX3_tell, Cond.code yX3_tell cX3_tell 8 none, Cond.fieldLink RX3 104 "VectorRounds$Tables" "size" "[I", Cond.fieldLink RX3 107 "VectorRounds$Tables" "order" "[I", Cond.fieldLink RX3 110 "VectorRounds$Tables" "metric" "[I"]
def wsX7_counts_r4 : List Cond := [Cond.fieldLink RX3 76 "VectorRounds$Tables" "via" "[I", Cond.methodLink RX3 113 Lib.Math.min.name, Cond.static Lib.Math.min.name, Cond.initialized "java/lang/Math", Cond.code Lib.Math.min.name Lib.Math.min.code 2 (some .int), Cond.methodLink RX3 118 yX3_receive, Cond.instanceMethod yX3_receive, Cond.selects RX3 yX3_receive yX3_receive, Cond.code yX3_receive cX3_receive 8 none, Cond.fieldLink RX3 124 "VectorRounds$Tables" "held" "[I", Cond.methodLink RX3 121 yX4_has, Cond.instanceMethod yX4_has, Cond.selects RX4 yX4_has yX4_has, Cond.code yX4_has cX4_has 2 (some .boolean), Cond.methodLink RX3 54 yX4_enter, Cond.instanceMethod yX4_enter, Cond.selects RX4 yX4_enter yX4_enter, Cond.code yX4_enter cX4_enter 7 none, Cond.methodLink RX3 79 yX3_take, Cond.instanceMethod yX3_take, Cond.selects RX3 yX3_take yX3_take, Cond.code yX3_take cX3_take 4 none, Cond.methodLink RX3 96 yX4_howManyDiffer, Cond.instanceMethod yX4_howManyDiffer]
def wsX7_counts_r5 : List Cond := [Cond.selects RX4 yX4_howManyDiffer yX4_howManyDiffer, Cond.code yX4_howManyDiffer cX4_howManyDiffer 4 (some .int)]
def wsX7_counts : List Cond := .code yX7_counts cX7_counts 5 (some .int) :: ((wsX7_counts_r1 ++ (wsX7_counts_r2 ++ (wsX7_counts_r3 ++ (wsX7_counts_r4 ++ wsX7_counts_r5)))) ++ wsX70 ++ wsX30 ++ wsX40 ++ wsX20)
def wsX7_packet_r1 : List Cond := [Cond.fieldLink RX7 16 "VectorRounds" "thought" "LVectorRounds$Network;", Cond.fieldLink RX7 12 "VectorRounds" "now" "LVectorRounds$Network;", Cond.fieldLink RX7 118 "VectorRounds$Network" "tables" "LVectorRounds$Tables;", Cond.fieldLink RX7 130 "VectorRounds$Tables" "via" "[I", Cond.methodLink RX7 61 yX7_noRouter, Cond.instanceMethod yX7_noRouter, Cond.selects RX7 yX7_noRouter yX7_noRouter, Cond.initialized RX7, Cond.code yX7_noRouter cX7_noRouter 2 (some .boolean), Cond.fieldLink RX7 53 "VectorRounds$Network" "routers" "I", Cond.methodLink RX7 166 yX3_become, Cond.instanceMethod yX3_become, Cond.selects RX3 yX3_become yX3_become, Cond.initialized RX3, Cond.code yX3_become cX3_become 2 none, Cond.fieldLink RX3 12 "VectorRounds$Network" "tables" "LVectorRounds$Tables;", Cond.fieldLink RX3 24 "VectorRounds$Network" "links" "LVectorRounds$Links;", Cond.fieldLink RX3 35 "VectorRounds$Network" "routers" "I", Cond.fieldLink RX3 39 "VectorRounds$Network" "horizon" "I", Cond.fieldLink RX3 42 "VectorRounds$Network" "sequenced" "I", Cond.fieldLink RX3 45 "VectorRounds$Network" "holdDown" "I", Cond.fieldLink RX3 48 "VectorRounds$Network" "round" "I", Cond.fieldLink RX3 51 "VectorRounds$Network" "toldEver" "I", Cond.methodLink RX3 28 yX4_become]
def wsX7_packet_r2 : List Cond := [Cond.instanceMethod yX4_become, Cond.selects RX4 yX4_become yX4_become, Cond.initialized RX4, Cond.code yX4_become cX4_become 2 none, Cond.fieldLink RX4 9 "VectorRounds$Tables" "metric" "[I", Cond.methodLink RX4 36 arraycopyName, Cond.native arraycopyName, Cond.static arraycopyName, Cond.initialized "java/lang/System", Cond.fieldLink RX4 15 "VectorRounds$Tables" "via" "[I", Cond.fieldLink RX4 18 "VectorRounds$Tables" "sequence" "[I", Cond.fieldLink RX4 21 "VectorRounds$Tables" "held" "[I", Cond.fieldLink RX4 24 "VectorRounds$Tables" "order" "[I", Cond.fieldLink RX4 27 "VectorRounds$Tables" "size" "[I", Cond.methodLink RX3 32 yX2_become, Cond.instanceMethod yX2_become, Cond.selects RX2 yX2_become yX2_become, Cond.initialized RX2, Cond.code yX2_become cX2_become 2 none, Cond.fieldLink RX2 9 "VectorRounds$Links" "lesser" "[I", Cond.methodLink RX2 27 arraycopyName, Cond.fieldLink RX2 15 "VectorRounds$Links" "greater" "[I", Cond.fieldLink RX2 18 "VectorRounds$Links" "price" "[I", Cond.fieldLink RX2 21 "VectorRounds$Links" "up" "[I"]
def wsX7_packet_r3 : List Cond := [Cond.fieldLink RX2 24 "VectorRounds$Links" "joint" "[I", Cond.fieldLink RX2 33 "VectorRounds$Links" "size" "I", Cond.methodLink RX7 191 yX4_reaches, Cond.instanceMethod yX4_reaches, Cond.selects RX4 yX4_reaches yX4_reaches, Cond.code yX4_reaches cX4_reaches 2 (some .boolean), Cond.methodLink RX7 115 yX3_goRound, Cond.instanceMethod yX3_goRound, Cond.selects RX3 yX3_goRound yX3_goRound, Cond.code yX3_goRound cX3_goRound 4 (some .int), Cond.fieldLink RX3 83 "VectorRounds$Tables" "sequence" "[I", Cond.fieldLink RX3 18 "VectorRounds$Network" "before" "LVectorRounds$Tables;", Cond.fieldLink RX3 58 "VectorRounds$Links" "up" "[I", Cond.fieldLink RX3 90 "VectorRounds$Links" "price" "[I", Cond.methodLink RX3 86 yX2_joining, Cond.instanceMethod yX2_joining, Cond.selects RX2 yX2_joining yX2_joining, Cond.code yX2_joining cX2_joining 3 (some .int), Cond.methodLink RX3 93 yX3_tell, Cond.instanceMethod yX3_tell, Cond.selects RX3 yX3_tell yX3_tell, Cond.code yX3_tell cX3_tell 8 none, Cond.fieldLink RX3 104 "VectorRounds$Tables" "size" "[I", Cond.fieldLink RX3 107 "VectorRounds$Tables" "order" "[I"]
def wsX7_packet_r4 : List Cond := [Cond.fieldLink RX3 110 "VectorRounds$Tables" "metric" "[I", Cond.fieldLink RX3 76 "VectorRounds$Tables" "via" "[I", Cond.methodLink RX3 113 Lib.Math.min.name, Cond.static Lib.Math.min.name, Cond.initialized "java/lang/Math", Cond.code Lib.Math.min.name Lib.Math.min.code 2 (some .int), Cond.methodLink RX3 118 yX3_receive, Cond.instanceMethod yX3_receive, Cond.selects RX3 yX3_receive yX3_receive, Cond.code yX3_receive cX3_receive 8 none, Cond.fieldLink RX3 124 "VectorRounds$Tables" "held" "[I", Cond.methodLink RX3 121 yX4_has, Cond.instanceMethod yX4_has, Cond.selects RX4 yX4_has yX4_has, Cond.code yX4_has cX4_has 2 (some .boolean), Cond.methodLink RX3 54 yX4_enter, Cond.instanceMethod yX4_enter, Cond.selects RX4 yX4_enter yX4_enter, Cond.code yX4_enter cX4_enter 7 none, Cond.methodLink RX3 79 yX3_take, Cond.instanceMethod yX3_take, Cond.selects RX3 yX3_take yX3_take, Cond.code yX3_take cX3_take 4 none, Cond.methodLink RX3 96 yX4_howManyDiffer]
def wsX7_packet_r5 : List Cond := [Cond.instanceMethod yX4_howManyDiffer, Cond.selects RX4 yX4_howManyDiffer yX4_howManyDiffer, Cond.code yX4_howManyDiffer cX4_howManyDiffer 4 (some .int)]
def wsX7_packet : List Cond := .code yX7_packet cX7_packet 7 (some .int) :: ((wsX7_packet_r1 ++ (wsX7_packet_r2 ++ (wsX7_packet_r3 ++ (wsX7_packet_r4 ++ wsX7_packet_r5)))) ++ wsX70 ++ wsX30 ++ wsX40 ++ wsX20)
def wsX7_tried_r1 : List Cond := [Cond.fieldLink RX7 16 "VectorRounds" "thought" "LVectorRounds$Network;", Cond.fieldLink RX7 12 "VectorRounds" "now" "LVectorRounds$Network;", Cond.fieldLink RX7 100 "VectorRounds$Network" "horizon" "I", Cond.fieldLink RX7 103 "VectorRounds$Network" "sequenced" "I", Cond.methodLink RX7 166 yX3_become, Cond.instanceMethod yX3_become, Cond.selects RX3 yX3_become yX3_become, Cond.initialized RX3, Cond.code yX3_become cX3_become 2 none, Cond.fieldLink RX3 12 "VectorRounds$Network" "tables" "LVectorRounds$Tables;", Cond.fieldLink RX3 24 "VectorRounds$Network" "links" "LVectorRounds$Links;", Cond.fieldLink RX3 35 "VectorRounds$Network" "routers" "I", Cond.fieldLink RX3 39 "VectorRounds$Network" "horizon" "I", Cond.fieldLink RX3 42 "VectorRounds$Network" "sequenced" "I", Cond.fieldLink RX3 45 "VectorRounds$Network" "holdDown" "I", Cond.fieldLink RX3 48 "VectorRounds$Network" "round" "I", Cond.fieldLink RX3 51 "VectorRounds$Network" "toldEver" "I", Cond.methodLink RX3 28 yX4_become, Cond.instanceMethod yX4_become, Cond.selects RX4 yX4_become yX4_become, Cond.initialized RX4, Cond.code yX4_become cX4_become 2 none, Cond.fieldLink RX4 9 "VectorRounds$Tables" "metric" "[I", Cond.methodLink RX4 36 arraycopyName]
def wsX7_tried_r2 : List Cond := [Cond.native arraycopyName, Cond.static arraycopyName, Cond.initialized "java/lang/System", Cond.fieldLink RX4 15 "VectorRounds$Tables" "via" "[I", Cond.fieldLink RX4 18 "VectorRounds$Tables" "sequence" "[I", Cond.fieldLink RX4 21 "VectorRounds$Tables" "held" "[I", Cond.fieldLink RX4 24 "VectorRounds$Tables" "order" "[I", Cond.fieldLink RX4 27 "VectorRounds$Tables" "size" "[I", Cond.methodLink RX3 32 yX2_become, Cond.instanceMethod yX2_become, Cond.selects RX2 yX2_become yX2_become, Cond.initialized RX2, Cond.code yX2_become cX2_become 2 none, Cond.fieldLink RX2 9 "VectorRounds$Links" "lesser" "[I", Cond.methodLink RX2 27 arraycopyName, Cond.fieldLink RX2 15 "VectorRounds$Links" "greater" "[I", Cond.fieldLink RX2 18 "VectorRounds$Links" "price" "[I", Cond.fieldLink RX2 21 "VectorRounds$Links" "up" "[I", Cond.fieldLink RX2 24 "VectorRounds$Links" "joint" "[I", Cond.fieldLink RX2 33 "VectorRounds$Links" "size" "I", Cond.methodLink RX7 194 yX3_roundsToSettle, Cond.instanceMethod yX3_roundsToSettle, Cond.selects RX3 yX3_roundsToSettle yX3_roundsToSettle, Cond.code yX3_roundsToSettle cX3_roundsToSettle 2 (some .int)]
def wsX7_tried_r3 : List Cond := [Cond.methodLink RX3 100 yX3_goRound, Cond.instanceMethod yX3_goRound, Cond.selects RX3 yX3_goRound yX3_goRound, Cond.code yX3_goRound cX3_goRound 4 (some .int), Cond.fieldLink RX3 83 "VectorRounds$Tables" "sequence" "[I", Cond.fieldLink RX3 18 "VectorRounds$Network" "before" "LVectorRounds$Tables;", Cond.fieldLink RX3 58 "VectorRounds$Links" "up" "[I", Cond.fieldLink RX3 90 "VectorRounds$Links" "price" "[I", Cond.methodLink RX3 86 yX2_joining, Cond.instanceMethod yX2_joining, Cond.selects RX2 yX2_joining yX2_joining, Cond.code yX2_joining cX2_joining 3 (some .int), Cond.methodLink RX3 93 yX3_tell, Cond.instanceMethod yX3_tell, Cond.selects RX3 yX3_tell yX3_tell, Cond.code yX3_tell cX3_tell 8 none, Cond.fieldLink RX3 104 "VectorRounds$Tables" "size" "[I", Cond.fieldLink RX3 107 "VectorRounds$Tables" "order" "[I", Cond.fieldLink RX3 110 "VectorRounds$Tables" "metric" "[I", Cond.fieldLink RX3 76 "VectorRounds$Tables" "via" "[I", Cond.methodLink RX3 113 Lib.Math.min.name, Cond.static Lib.Math.min.name, Cond.initialized "java/lang/Math", Cond.code Lib.Math.min.name Lib.Math.min.code 2 (some .int)]
def wsX7_tried_r4 : List Cond := [Cond.methodLink RX3 118 yX3_receive, Cond.instanceMethod yX3_receive, Cond.selects RX3 yX3_receive yX3_receive, Cond.code yX3_receive cX3_receive 8 none, Cond.fieldLink RX3 124 "VectorRounds$Tables" "held" "[I", Cond.methodLink RX3 121 yX4_has, Cond.instanceMethod yX4_has, Cond.selects RX4 yX4_has yX4_has, Cond.code yX4_has cX4_has 2 (some .boolean), Cond.methodLink RX3 54 yX4_enter, Cond.instanceMethod yX4_enter, Cond.selects RX4 yX4_enter yX4_enter, Cond.code yX4_enter cX4_enter 7 none, Cond.methodLink RX3 79 yX3_take, Cond.instanceMethod yX3_take, Cond.selects RX3 yX3_take yX3_take, Cond.code yX3_take cX3_take 4 none, Cond.methodLink RX3 96 yX4_howManyDiffer, Cond.instanceMethod yX4_howManyDiffer, Cond.selects RX4 yX4_howManyDiffer yX4_howManyDiffer, Cond.code yX4_howManyDiffer cX4_howManyDiffer 4 (some .int), Cond.methodLink RX7 197 yX7_orNot, Cond.static yX7_orNot, Cond.initialized RX7]
def wsX7_tried_r5 : List Cond := [Cond.code yX7_orNot cX7_orNot 1 (some .int)]
def wsX7_tried : List Cond := .code yX7_tried cX7_tried 8 (some .int) :: ((wsX7_tried_r1 ++ (wsX7_tried_r2 ++ (wsX7_tried_r3 ++ (wsX7_tried_r4 ++ wsX7_tried_r5)))) ++ wsX70 ++ wsX30 ++ wsX40 ++ wsX20)
def wsX7_noHolder : List Cond := .code yX7_noHolder cX7_noHolder 1 (some .boolean) :: ([])
def wsX7_isOtherwise : List Cond := .code yX7_isOtherwise cX7_isOtherwise 6 (some .boolean) :: ([.fieldLink RX7 12 "VectorRounds" "now" "LVectorRounds$Network;", .fieldLink RX7 118 "VectorRounds$Network" "tables" "LVectorRounds$Tables;", .fieldLink RX7 127 "VectorRounds$Tables" "metric" "[I", .fieldLink RX7 130 "VectorRounds$Tables" "via" "[I", .methodLink RX7 122 yX4_has, .instanceMethod yX4_has, .selects RX4 yX4_has yX4_has, .initialized RX4, .code yX4_has cX4_has 2 (some .boolean), .fieldLink RX4 9 "VectorRounds$Tables" "metric" "[I"] ++ wsX70 ++ wsX30 ++ wsX40)
def wsX7_judge_r1 : List Cond := [Cond.fieldLink RX7 48 "VectorRounds" "holders" "[LVectorRounds$Holder;", Cond.fieldLink RX7 203 "VectorRounds$Holder" "sort" "I", Cond.fieldLink RX7 206 "VectorRounds$Holder" "length" "I", Cond.fieldLink RX7 12 "VectorRounds" "now" "LVectorRounds$Network;", Cond.fieldLink RX7 53 "VectorRounds$Network" "routers" "I", Cond.fieldLink RX7 207 "VectorRounds$Holder" "items" "[I", Cond.methodLink RX7 200 yX7_noHolder, Cond.static yX7_noHolder, Cond.initialized RX7, Cond.code yX7_noHolder cX7_noHolder 1 (some .boolean), Cond.methodLink RX7 61 yX7_noRouter, Cond.instanceMethod yX7_noRouter, Cond.selects RX7 yX7_noRouter yX7_noRouter, Cond.code yX7_noRouter cX7_noRouter 2 (some .boolean), Cond.methodLink RX7 210 yX7_isOtherwise, Cond.instanceMethod yX7_isOtherwise, Cond.selects RX7 yX7_isOtherwise yX7_isOtherwise, Cond.code yX7_isOtherwise cX7_isOtherwise 6 (some .boolean), Cond.fieldLink RX7 118 "VectorRounds$Network" "tables" "LVectorRounds$Tables;", Cond.fieldLink RX7 127 "VectorRounds$Tables" "metric" "[I", Cond.fieldLink RX7 130 "VectorRounds$Tables" "via" "[I", Cond.methodLink RX7 122 yX4_has, Cond.instanceMethod yX4_has, Cond.selects RX4 yX4_has yX4_has]
def wsX7_judge_r2 : List Cond := [Cond.initialized RX4, Cond.code yX4_has cX4_has 2 (some .boolean), Cond.fieldLink RX4 9 "VectorRounds$Tables" "metric" "[I"]
def wsX7_judge : List Cond := .code yX7_judge cX7_judge 6 (some .int) :: ((wsX7_judge_r1 ++ wsX7_judge_r2) ++ wsX70 ++ wsX10 ++ wsX30 ++ wsX40)
def wsX7_drawLink_r1 : List Cond := [Cond.fieldLink RX7 12 "VectorRounds" "now" "LVectorRounds$Network;", Cond.fieldLink RX7 53 "VectorRounds$Network" "routers" "I", Cond.methodLink RX7 273 Lib.Math.max.name, Cond.static Lib.Math.max.name, Cond.initialized "java/lang/Math", Cond.code Lib.Math.max.name Lib.Math.max.code 2 (some .int), Cond.fieldLink RX7 65 "VectorRounds$Network" "links" "LVectorRounds$Links;", Cond.fieldLink RX7 75 "VectorRounds$Links" "size" "I", Cond.methodLink RX7 69 yX2_joining, Cond.instanceMethod yX2_joining, Cond.selects RX2 yX2_joining yX2_joining, Cond.initialized RX2, Cond.code yX2_joining cX2_joining 3 (some .int), Cond.fieldLink RX2 24 "VectorRounds$Links" "joint" "[I", Cond.methodLink RX7 89 yX3_switchLink, Cond.instanceMethod yX3_switchLink, Cond.selects RX3 yX3_switchLink yX3_switchLink, Cond.initialized RX3, Cond.code yX3_switchLink cX3_switchLink 2 none, Cond.fieldLink RX3 24 "VectorRounds$Network" "links" "LVectorRounds$Links;", Cond.fieldLink RX3 58 "VectorRounds$Links" "up" "[I", Cond.fieldLink RX3 62 "VectorRounds$Links" "lesser" "[I", Cond.fieldLink RX3 65 "VectorRounds$Links" "greater" "[I", Cond.methodLink RX3 68 yX3_loseVia]
def wsX7_drawLink_r2 : List Cond := [Cond.instanceMethod yX3_loseVia, Cond.selects RX3 yX3_loseVia yX3_loseVia, Cond.code yX3_loseVia cX3_loseVia 5 none, Cond.fieldLink RX3 35 "VectorRounds$Network" "routers" "I", Cond.fieldLink RX3 12 "VectorRounds$Network" "tables" "LVectorRounds$Tables;", Cond.fieldLink RX3 76 "VectorRounds$Tables" "via" "[I", Cond.fieldLink RX3 83 "VectorRounds$Tables" "sequence" "[I", Cond.fieldLink RX3 42 "VectorRounds$Network" "sequenced" "I", Cond.methodLink RX3 72 yX4_reaches, Cond.instanceMethod yX4_reaches, Cond.selects RX4 yX4_reaches yX4_reaches, Cond.initialized RX4, Cond.code yX4_reaches cX4_reaches 2 (some .boolean), Cond.fieldLink RX4 9 "VectorRounds$Tables" "metric" "[I", Cond.methodLink RX3 79 yX3_take, Cond.instanceMethod yX3_take, Cond.selects RX3 yX3_take yX3_take, Cond.code yX3_take cX3_take 4 none, Cond.fieldLink RX3 110 "VectorRounds$Tables" "metric" "[I", Cond.fieldLink RX3 124 "VectorRounds$Tables" "held" "[I", Cond.fieldLink RX3 48 "VectorRounds$Network" "round" "I", Cond.fieldLink RX3 45 "VectorRounds$Network" "holdDown" "I", Cond.methodLink RX7 78 yX2_add, Cond.instanceMethod yX2_add]
def wsX7_drawLink_r3 : List Cond := [Cond.selects RX2 yX2_add yX2_add, Cond.code yX2_add cX2_add 5 (some .int), Cond.fieldLink RX2 33 "VectorRounds$Links" "size" "I", Cond.fieldLink RX2 9 "VectorRounds$Links" "lesser" "[I", Cond.methodLink RX2 37 Lib.Math.min.name, Cond.static Lib.Math.min.name, Cond.code Lib.Math.min.name Lib.Math.min.code 2 (some .int), Cond.fieldLink RX2 15 "VectorRounds$Links" "greater" "[I", Cond.methodLink RX2 43 Lib.Math.max.name, Cond.fieldLink RX2 18 "VectorRounds$Links" "price" "[I", Cond.fieldLink RX2 21 "VectorRounds$Links" "up" "[I"]
def wsX7_drawLink : List Cond := .code yX7_drawLink cX7_drawLink 6 none :: ((wsX7_drawLink_r1 ++ (wsX7_drawLink_r2 ++ wsX7_drawLink_r3)) ++ wsX70 ++ wsX30 ++ wsX20 ++ wsX40)
def wsX7_drawn_r1 : List Cond := [Cond.fieldLink RX7 12 "VectorRounds" "now" "LVectorRounds$Network;", Cond.fieldLink RX7 53 "VectorRounds$Network" "routers" "I", Cond.constant RX7 214 (1103515245), Cond.fieldLink RX7 65 "VectorRounds$Network" "links" "LVectorRounds$Links;", Cond.fieldLink RX7 75 "VectorRounds$Links" "size" "I", Cond.methodLink RX7 215 yX7_drawLink, Cond.instanceMethod yX7_drawLink, Cond.selects RX7 yX7_drawLink yX7_drawLink, Cond.initialized RX7, Cond.code yX7_drawLink cX7_drawLink 6 none, Cond.methodLink RX7 273 Lib.Math.max.name, Cond.static Lib.Math.max.name, Cond.initialized "java/lang/Math", Cond.code Lib.Math.max.name Lib.Math.max.code 2 (some .int), Cond.methodLink RX7 69 yX2_joining, Cond.instanceMethod yX2_joining, Cond.selects RX2 yX2_joining yX2_joining, Cond.initialized RX2, Cond.code yX2_joining cX2_joining 3 (some .int), Cond.fieldLink RX2 24 "VectorRounds$Links" "joint" "[I", Cond.methodLink RX7 89 yX3_switchLink, Cond.instanceMethod yX3_switchLink, Cond.selects RX3 yX3_switchLink yX3_switchLink, Cond.initialized RX3]
def wsX7_drawn_r2 : List Cond := [Cond.code yX3_switchLink cX3_switchLink 2 none, Cond.fieldLink RX3 24 "VectorRounds$Network" "links" "LVectorRounds$Links;", Cond.fieldLink RX3 58 "VectorRounds$Links" "up" "[I", Cond.fieldLink RX3 62 "VectorRounds$Links" "lesser" "[I", Cond.fieldLink RX3 65 "VectorRounds$Links" "greater" "[I", Cond.methodLink RX3 68 yX3_loseVia, Cond.instanceMethod yX3_loseVia, Cond.selects RX3 yX3_loseVia yX3_loseVia, Cond.code yX3_loseVia cX3_loseVia 5 none, Cond.fieldLink RX3 35 "VectorRounds$Network" "routers" "I", Cond.fieldLink RX3 12 "VectorRounds$Network" "tables" "LVectorRounds$Tables;", Cond.fieldLink RX3 76 "VectorRounds$Tables" "via" "[I", Cond.fieldLink RX3 83 "VectorRounds$Tables" "sequence" "[I", Cond.fieldLink RX3 42 "VectorRounds$Network" "sequenced" "I", Cond.methodLink RX3 72 yX4_reaches, Cond.instanceMethod yX4_reaches, Cond.selects RX4 yX4_reaches yX4_reaches, Cond.initialized RX4, Cond.code yX4_reaches cX4_reaches 2 (some .boolean), Cond.fieldLink RX4 9 "VectorRounds$Tables" "metric" "[I", Cond.methodLink RX3 79 yX3_take, Cond.instanceMethod yX3_take, Cond.selects RX3 yX3_take yX3_take, Cond.code yX3_take cX3_take 4 none]
def wsX7_drawn_r3 : List Cond := [Cond.fieldLink RX3 110 "VectorRounds$Tables" "metric" "[I", Cond.fieldLink RX3 124 "VectorRounds$Tables" "held" "[I", Cond.fieldLink RX3 48 "VectorRounds$Network" "round" "I", Cond.fieldLink RX3 45 "VectorRounds$Network" "holdDown" "I", Cond.methodLink RX7 78 yX2_add, Cond.instanceMethod yX2_add, Cond.selects RX2 yX2_add yX2_add, Cond.code yX2_add cX2_add 5 (some .int), Cond.fieldLink RX2 33 "VectorRounds$Links" "size" "I", Cond.fieldLink RX2 9 "VectorRounds$Links" "lesser" "[I", Cond.methodLink RX2 37 Lib.Math.min.name, Cond.static Lib.Math.min.name, Cond.code Lib.Math.min.name Lib.Math.min.code 2 (some .int), Cond.fieldLink RX2 15 "VectorRounds$Links" "greater" "[I", Cond.methodLink RX2 43 Lib.Math.max.name, Cond.fieldLink RX2 18 "VectorRounds$Links" "price" "[I", Cond.fieldLink RX2 21 "VectorRounds$Links" "up" "[I"]
def wsX7_drawn : List Cond := .code yX7_drawn cX7_drawn 5 (some .int) :: ((wsX7_drawn_r1 ++ (wsX7_drawn_r2 ++ wsX7_drawn_r3)) ++ wsX70 ++ wsX30 ++ wsX20 ++ wsX40)
def wsX7_feed : List Cond := .code yX7_feed cX7_feed 2 (some .int) :: ([.fieldLink RX7 42 "VectorRounds" "tape" "LVectorRounds$Tape;", .fieldLink RX7 218 "VectorRounds$Tape" "length" "I", .methodLink RX7 219 yX5_add, .instanceMethod yX5_add, .selects RX5 yX5_add yX5_add, .initialized RX5, .code yX5_add cX5_add 2 (some .int), .fieldLink RX5 9 "VectorRounds$Tape" "bytes" "[I", .fieldLink RX5 21 "VectorRounds$Tape" "length" "I"] ++ wsX70 ++ wsX50)
def wsX7_doLine_r1 : List Cond := [Cond.fieldLink RX7 42 "VectorRounds" "tape" "LVectorRounds$Tape;", Cond.fieldLink RX7 276 "VectorRounds$Tape" "numbers" "[I", Cond.fieldLink RX7 279 "VectorRounds$Tape" "letters" "[I", Cond.methodLink RX7 282 yX7_router, Cond.instanceMethod yX7_router, Cond.selects RX7 yX7_router yX7_router, Cond.initialized RX7, Cond.code yX7_router cX7_router 1 (some .int), Cond.fieldLink RX7 12 "VectorRounds" "now" "LVectorRounds$Network;", Cond.fieldLink RX7 53 "VectorRounds$Network" "routers" "I", Cond.methodLink RX7 57 yX3_addRouter, Cond.instanceMethod yX3_addRouter, Cond.selects RX3 yX3_addRouter yX3_addRouter, Cond.initialized RX3, Cond.code yX3_addRouter cX3_addRouter 2 (some .int), Cond.fieldLink RX3 35 "VectorRounds$Network" "routers" "I", Cond.fieldLink RX3 12 "VectorRounds$Network" "tables" "LVectorRounds$Tables;", Cond.methodLink RX3 54 yX4_enter, Cond.instanceMethod yX4_enter, Cond.selects RX4 yX4_enter yX4_enter, Cond.initialized RX4, Cond.code yX4_enter cX4_enter 7 none, Cond.fieldLink RX4 9 "VectorRounds$Tables" "metric" "[I", Cond.fieldLink RX4 15 "VectorRounds$Tables" "via" "[I"]
def wsX7_doLine_r2 : List Cond := [Cond.fieldLink RX4 18 "VectorRounds$Tables" "sequence" "[I", Cond.fieldLink RX4 21 "VectorRounds$Tables" "held" "[I", Cond.fieldLink RX4 24 "VectorRounds$Tables" "order" "[I", Cond.fieldLink RX4 27 "VectorRounds$Tables" "size" "[I", Cond.methodLink RX7 285 yX7_link, Cond.instanceMethod yX7_link, Cond.selects RX7 yX7_link yX7_link, Cond.code yX7_link cX7_link 4 (some .int), Cond.fieldLink RX7 65 "VectorRounds$Network" "links" "LVectorRounds$Links;", Cond.fieldLink RX7 75 "VectorRounds$Links" "size" "I", Cond.methodLink RX7 61 yX7_noRouter, Cond.instanceMethod yX7_noRouter, Cond.selects RX7 yX7_noRouter yX7_noRouter, Cond.code yX7_noRouter cX7_noRouter 2 (some .boolean), Cond.methodLink RX7 69 yX2_joining, Cond.instanceMethod yX2_joining, Cond.selects RX2 yX2_joining yX2_joining, Cond.initialized RX2, Cond.code yX2_joining cX2_joining 3 (some .int), Cond.fieldLink RX2 24 "VectorRounds$Links" "joint" "[I", Cond.methodLink RX7 78 yX2_add, Cond.instanceMethod yX2_add, Cond.selects RX2 yX2_add yX2_add, Cond.code yX2_add cX2_add 5 (some .int)]
def wsX7_doLine_r3 : List Cond := [Cond.fieldLink RX2 33 "VectorRounds$Links" "size" "I", Cond.fieldLink RX2 9 "VectorRounds$Links" "lesser" "[I", Cond.methodLink RX2 37 Lib.Math.min.name, Cond.static Lib.Math.min.name, Cond.initialized "java/lang/Math", Cond.code Lib.Math.min.name Lib.Math.min.code 2 (some .int), Cond.fieldLink RX2 15 "VectorRounds$Links" "greater" "[I", Cond.methodLink RX2 43 Lib.Math.max.name, Cond.static Lib.Math.max.name, Cond.code Lib.Math.max.name Lib.Math.max.code 2 (some .int), Cond.fieldLink RX2 18 "VectorRounds$Links" "price" "[I", Cond.fieldLink RX2 21 "VectorRounds$Links" "up" "[I", Cond.methodLink RX7 288 yX7_turn, Cond.instanceMethod yX7_turn, Cond.selects RX7 yX7_turn yX7_turn, Cond.code yX7_turn cX7_turn 3 (some .int), Cond.fieldLink RX7 85 "VectorRounds$Links" "up" "[I", Cond.methodLink RX7 82 yX7_noLink, Cond.instanceMethod yX7_noLink, Cond.selects RX7 yX7_noLink yX7_noLink, Cond.code yX7_noLink cX7_noLink 2 (some .boolean), Cond.methodLink RX7 89 yX3_switchLink, Cond.instanceMethod yX3_switchLink, Cond.selects RX3 yX3_switchLink yX3_switchLink]
def wsX7_doLine_r4 : List Cond := [Cond.code yX3_switchLink cX3_switchLink 2 none, Cond.fieldLink RX3 24 "VectorRounds$Network" "links" "LVectorRounds$Links;", Cond.fieldLink RX3 58 "VectorRounds$Links" "up" "[I", Cond.fieldLink RX3 62 "VectorRounds$Links" "lesser" "[I", Cond.fieldLink RX3 65 "VectorRounds$Links" "greater" "[I", Cond.methodLink RX3 68 yX3_loseVia, Cond.instanceMethod yX3_loseVia, Cond.selects RX3 yX3_loseVia yX3_loseVia, Cond.code yX3_loseVia cX3_loseVia 5 none, Cond.fieldLink RX3 76 "VectorRounds$Tables" "via" "[I", Cond.fieldLink RX3 83 "VectorRounds$Tables" "sequence" "[I", Cond.fieldLink RX3 42 "VectorRounds$Network" "sequenced" "I", Cond.methodLink RX3 72 yX4_reaches, Cond.instanceMethod yX4_reaches, Cond.selects RX4 yX4_reaches yX4_reaches, Cond.code yX4_reaches cX4_reaches 2 (some .boolean), Cond.methodLink RX3 79 yX3_take, Cond.instanceMethod yX3_take, Cond.selects RX3 yX3_take yX3_take, Cond.code yX3_take cX3_take 4 none, Cond.fieldLink RX3 110 "VectorRounds$Tables" "metric" "[I", Cond.fieldLink RX3 124 "VectorRounds$Tables" "held" "[I", Cond.fieldLink RX3 48 "VectorRounds$Network" "round" "I", Cond.fieldLink RX3 45 "VectorRounds$Network" "holdDown" "I"]
def wsX7_doLine_r5 : List Cond := [Cond.methodLink RX7 291 yX7_cost, Cond.instanceMethod yX7_cost, Cond.selects RX7 yX7_cost yX7_cost, Cond.code yX7_cost cX7_cost 4 (some .int), Cond.fieldLink RX7 93 "VectorRounds$Links" "price" "[I", Cond.methodLink RX7 294 yX7_rule, Cond.instanceMethod yX7_rule, Cond.selects RX7 yX7_rule yX7_rule, Cond.code yX7_rule cX7_rule 4 (some .int), Cond.fieldLink RX7 100 "VectorRounds$Network" "horizon" "I", Cond.fieldLink RX7 103 "VectorRounds$Network" "sequenced" "I", Cond.fieldLink RX7 106 "VectorRounds$Network" "holdDown" "I", Cond.methodLink RX7 96 yX7_mostOfRule, Cond.static yX7_mostOfRule, Cond.code yX7_mostOfRule cX7_mostOfRule 1 (some .int), Cond.methodLink RX7 297 yX7_rounds, Cond.instanceMethod yX7_rounds, Cond.selects RX7 yX7_rounds yX7_rounds, Cond.code yX7_rounds cX7_rounds 4 (some .int), Cond.methodLink RX7 115 yX3_goRound, Cond.instanceMethod yX3_goRound, Cond.selects RX3 yX3_goRound yX3_goRound, Cond.code yX3_goRound cX3_goRound 4 (some .int), Cond.fieldLink RX3 18 "VectorRounds$Network" "before" "LVectorRounds$Tables;"]
def wsX7_doLine_r6 : List Cond := [Cond.fieldLink RX3 90 "VectorRounds$Links" "price" "[I", Cond.methodLink RX3 28 yX4_become, Cond.instanceMethod yX4_become, Cond.selects RX4 yX4_become yX4_become, Cond.code yX4_become cX4_become 2 none, Cond.methodLink RX4 36 arraycopyName, Cond.native arraycopyName, Cond.static arraycopyName, Cond.initialized "java/lang/System", Cond.methodLink RX3 86 yX2_joining, Cond.methodLink RX3 93 yX3_tell, Cond.instanceMethod yX3_tell, Cond.selects RX3 yX3_tell yX3_tell, Cond.code yX3_tell cX3_tell 8 none, Cond.fieldLink RX3 104 "VectorRounds$Tables" "size" "[I", Cond.fieldLink RX3 107 "VectorRounds$Tables" "order" "[I", Cond.fieldLink RX3 39 "VectorRounds$Network" "horizon" "I", Cond.fieldLink RX3 51 "VectorRounds$Network" "toldEver" "I", Cond.methodLink RX3 113 Lib.Math.min.name, Cond.methodLink RX3 118 yX3_receive, Cond.instanceMethod yX3_receive, Cond.selects RX3 yX3_receive yX3_receive, Cond.code yX3_receive cX3_receive 8 none, Cond.methodLink RX3 121 yX4_has]
def wsX7_doLine_r7 : List Cond := [Cond.instanceMethod yX4_has, Cond.selects RX4 yX4_has yX4_has, Cond.code yX4_has cX4_has 2 (some .boolean), Cond.methodLink RX3 96 yX4_howManyDiffer, Cond.instanceMethod yX4_howManyDiffer, Cond.selects RX4 yX4_howManyDiffer yX4_howManyDiffer, Cond.code yX4_howManyDiffer cX4_howManyDiffer 4 (some .int)]
def wsX7_doLine : List Cond := .code yX7_doLine cX7_doLine 4 (some .int) :: ((wsX7_doLine_r1 ++ (wsX7_doLine_r2 ++ (wsX7_doLine_r3 ++ (wsX7_doLine_r4 ++ (wsX7_doLine_r5 ++ (wsX7_doLine_r6 ++ wsX7_doLine_r7)))))) ++ wsX70 ++ wsX50 ++ wsX30 ++ wsX40 ++ wsX20)
def wsX7_script_r1 : List Cond := [Cond.fieldLink RX7 42 "VectorRounds" "tape" "LVectorRounds$Tape;", Cond.fieldLink RX7 218 "VectorRounds$Tape" "length" "I", Cond.fieldLink RX7 22 "VectorRounds" "ahead" "LVectorRounds$Network;", Cond.fieldLink RX7 12 "VectorRounds" "now" "LVectorRounds$Network;", Cond.fieldLink RX7 224 "VectorRounds$Tape" "lines" "I", Cond.methodLink RX7 221 yX5_readLines, Cond.instanceMethod yX5_readLines, Cond.selects RX5 yX5_readLines yX5_readLines, Cond.initialized RX5, Cond.code yX5_readLines cX5_readLines 2 (some .int), Cond.fieldLink RX5 25 "VectorRounds$Tape" "lines" "I", Cond.fieldLink RX5 28 "VectorRounds$Tape" "at" "I", Cond.fieldLink RX5 21 "VectorRounds$Tape" "length" "I", Cond.fieldLink RX5 9 "VectorRounds$Tape" "bytes" "[I", Cond.methodLink RX5 31 yX5_readLine, Cond.instanceMethod yX5_readLine, Cond.selects RX5 yX5_readLine yX5_readLine, Cond.code yX5_readLine cX5_readLine 3 (some .boolean), Cond.fieldLink RX5 15 "VectorRounds$Tape" "letters" "[I", Cond.methodLink RX5 35 yX5_howManyNumbers, Cond.static yX5_howManyNumbers, Cond.code yX5_howManyNumbers cX5_howManyNumbers 1 (some .int), Cond.methodLink RX5 39 yX5_readNumber, Cond.instanceMethod yX5_readNumber]
def wsX7_script_r2 : List Cond := [Cond.selects RX5 yX5_readNumber yX5_readNumber, Cond.code yX5_readNumber cX5_readNumber 2 (some .boolean), Cond.fieldLink RX5 18 "VectorRounds$Tape" "numbers" "[I", Cond.methodLink RX5 43 yX5_isDigit, Cond.instanceMethod yX5_isDigit, Cond.selects RX5 yX5_isDigit yX5_isDigit, Cond.code yX5_isDigit cX5_isDigit 1 (some .boolean), Cond.methodLink RX7 166 yX3_become, Cond.instanceMethod yX3_become, Cond.selects RX3 yX3_become yX3_become, Cond.initialized RX3, Cond.code yX3_become cX3_become 2 none, Cond.fieldLink RX3 12 "VectorRounds$Network" "tables" "LVectorRounds$Tables;", Cond.fieldLink RX3 24 "VectorRounds$Network" "links" "LVectorRounds$Links;", Cond.fieldLink RX3 35 "VectorRounds$Network" "routers" "I", Cond.fieldLink RX3 39 "VectorRounds$Network" "horizon" "I", Cond.fieldLink RX3 42 "VectorRounds$Network" "sequenced" "I", Cond.fieldLink RX3 45 "VectorRounds$Network" "holdDown" "I", Cond.fieldLink RX3 48 "VectorRounds$Network" "round" "I", Cond.fieldLink RX3 51 "VectorRounds$Network" "toldEver" "I", Cond.methodLink RX3 28 yX4_become, Cond.instanceMethod yX4_become, Cond.selects RX4 yX4_become yX4_become, Cond.initialized RX4]
def wsX7_script_r3 : List Cond := [Cond.code yX4_become cX4_become 2 none, Cond.fieldLink RX4 9 "VectorRounds$Tables" "metric" "[I", Cond.methodLink RX4 36 arraycopyName, Cond.native arraycopyName, Cond.static arraycopyName, Cond.initialized "java/lang/System", Cond.fieldLink RX4 15 "VectorRounds$Tables" "via" "[I", Cond.fieldLink RX4 18 "VectorRounds$Tables" "sequence" "[I", Cond.fieldLink RX4 21 "VectorRounds$Tables" "held" "[I", Cond.fieldLink RX4 24 "VectorRounds$Tables" "order" "[I", Cond.fieldLink RX4 27 "VectorRounds$Tables" "size" "[I", Cond.methodLink RX3 32 yX2_become, Cond.instanceMethod yX2_become, Cond.selects RX2 yX2_become yX2_become, Cond.initialized RX2, Cond.code yX2_become cX2_become 2 none, Cond.fieldLink RX2 9 "VectorRounds$Links" "lesser" "[I", Cond.methodLink RX2 27 arraycopyName, Cond.fieldLink RX2 15 "VectorRounds$Links" "greater" "[I", Cond.fieldLink RX2 18 "VectorRounds$Links" "price" "[I", Cond.fieldLink RX2 21 "VectorRounds$Links" "up" "[I", Cond.fieldLink RX2 24 "VectorRounds$Links" "joint" "[I", Cond.fieldLink RX2 33 "VectorRounds$Links" "size" "I", Cond.methodLink RX7 227 yX7_doLine]
def wsX7_script_r4 : List Cond := [Cond.instanceMethod yX7_doLine, Cond.selects RX7 yX7_doLine yX7_doLine, Cond.initialized RX7, Cond.code yX7_doLine cX7_doLine 4 (some .int), Cond.fieldLink RX7 276 "VectorRounds$Tape" "numbers" "[I", Cond.fieldLink RX7 279 "VectorRounds$Tape" "letters" "[I", Cond.methodLink RX7 282 yX7_router, Cond.instanceMethod yX7_router, Cond.selects RX7 yX7_router yX7_router, Cond.code yX7_router cX7_router 1 (some .int), Cond.fieldLink RX7 53 "VectorRounds$Network" "routers" "I", Cond.methodLink RX7 57 yX3_addRouter, Cond.instanceMethod yX3_addRouter, Cond.selects RX3 yX3_addRouter yX3_addRouter, Cond.code yX3_addRouter cX3_addRouter 2 (some .int), Cond.methodLink RX3 54 yX4_enter, Cond.instanceMethod yX4_enter, Cond.selects RX4 yX4_enter yX4_enter, Cond.code yX4_enter cX4_enter 7 none, Cond.methodLink RX7 285 yX7_link, Cond.instanceMethod yX7_link, Cond.selects RX7 yX7_link yX7_link, Cond.code yX7_link cX7_link 4 (some .int), Cond.fieldLink RX7 65 "VectorRounds$Network" "links" "LVectorRounds$Links;"]
def wsX7_script_r5 : List Cond := [Cond.fieldLink RX7 75 "VectorRounds$Links" "size" "I", Cond.methodLink RX7 61 yX7_noRouter, Cond.instanceMethod yX7_noRouter, Cond.selects RX7 yX7_noRouter yX7_noRouter, Cond.code yX7_noRouter cX7_noRouter 2 (some .boolean), Cond.methodLink RX7 69 yX2_joining, Cond.instanceMethod yX2_joining, Cond.selects RX2 yX2_joining yX2_joining, Cond.code yX2_joining cX2_joining 3 (some .int), Cond.methodLink RX7 78 yX2_add, Cond.instanceMethod yX2_add, Cond.selects RX2 yX2_add yX2_add, Cond.code yX2_add cX2_add 5 (some .int), Cond.methodLink RX2 37 Lib.Math.min.name, Cond.static Lib.Math.min.name, Cond.initialized "java/lang/Math", Cond.code Lib.Math.min.name Lib.Math.min.code 2 (some .int), Cond.methodLink RX2 43 Lib.Math.max.name, Cond.static Lib.Math.max.name, Cond.code Lib.Math.max.name Lib.Math.max.code 2 (some .int), Cond.methodLink RX7 288 yX7_turn, Cond.instanceMethod yX7_turn, Cond.selects RX7 yX7_turn yX7_turn, Cond.code yX7_turn cX7_turn 3 (some .int)]
def wsX7_script_r6 : List Cond := [Cond.fieldLink RX7 85 "VectorRounds$Links" "up" "[I", Cond.methodLink RX7 82 yX7_noLink, Cond.instanceMethod yX7_noLink, Cond.selects RX7 yX7_noLink yX7_noLink, Cond.code yX7_noLink cX7_noLink 2 (some .boolean), Cond.methodLink RX7 89 yX3_switchLink, Cond.instanceMethod yX3_switchLink, Cond.selects RX3 yX3_switchLink yX3_switchLink, Cond.code yX3_switchLink cX3_switchLink 2 none, Cond.fieldLink RX3 58 "VectorRounds$Links" "up" "[I", Cond.fieldLink RX3 62 "VectorRounds$Links" "lesser" "[I", Cond.fieldLink RX3 65 "VectorRounds$Links" "greater" "[I", Cond.methodLink RX3 68 yX3_loseVia, Cond.instanceMethod yX3_loseVia, Cond.selects RX3 yX3_loseVia yX3_loseVia, Cond.code yX3_loseVia cX3_loseVia 5 none, Cond.fieldLink RX3 76 "VectorRounds$Tables" "via" "[I", Cond.fieldLink RX3 83 "VectorRounds$Tables" "sequence" "[I", Cond.methodLink RX3 72 yX4_reaches, Cond.instanceMethod yX4_reaches, Cond.selects RX4 yX4_reaches yX4_reaches, Cond.code yX4_reaches cX4_reaches 2 (some .boolean), Cond.methodLink RX3 79 yX3_take, Cond.instanceMethod yX3_take]
def wsX7_script_r7 : List Cond := [Cond.selects RX3 yX3_take yX3_take, Cond.code yX3_take cX3_take 4 none, Cond.fieldLink RX3 110 "VectorRounds$Tables" "metric" "[I", Cond.fieldLink RX3 124 "VectorRounds$Tables" "held" "[I", Cond.methodLink RX7 291 yX7_cost, Cond.instanceMethod yX7_cost, Cond.selects RX7 yX7_cost yX7_cost, Cond.code yX7_cost cX7_cost 4 (some .int), Cond.fieldLink RX7 93 "VectorRounds$Links" "price" "[I", Cond.methodLink RX7 294 yX7_rule, Cond.instanceMethod yX7_rule, Cond.selects RX7 yX7_rule yX7_rule, Cond.code yX7_rule cX7_rule 4 (some .int), Cond.fieldLink RX7 100 "VectorRounds$Network" "horizon" "I", Cond.fieldLink RX7 103 "VectorRounds$Network" "sequenced" "I", Cond.fieldLink RX7 106 "VectorRounds$Network" "holdDown" "I", Cond.methodLink RX7 96 yX7_mostOfRule, Cond.static yX7_mostOfRule, Cond.code yX7_mostOfRule cX7_mostOfRule 1 (some .int), Cond.methodLink RX7 297 yX7_rounds, Cond.instanceMethod yX7_rounds, Cond.selects RX7 yX7_rounds yX7_rounds, Cond.code yX7_rounds cX7_rounds 4 (some .int), Cond.methodLink RX7 115 yX3_goRound]
def wsX7_script_r8 : List Cond := [Cond.instanceMethod yX3_goRound, Cond.selects RX3 yX3_goRound yX3_goRound, Cond.code yX3_goRound cX3_goRound 4 (some .int), Cond.fieldLink RX3 18 "VectorRounds$Network" "before" "LVectorRounds$Tables;", Cond.fieldLink RX3 90 "VectorRounds$Links" "price" "[I", Cond.methodLink RX3 86 yX2_joining, Cond.methodLink RX3 93 yX3_tell, Cond.instanceMethod yX3_tell, Cond.selects RX3 yX3_tell yX3_tell, Cond.code yX3_tell cX3_tell 8 none, Cond.fieldLink RX3 104 "VectorRounds$Tables" "size" "[I", Cond.fieldLink RX3 107 "VectorRounds$Tables" "order" "[I", Cond.methodLink RX3 113 Lib.Math.min.name, Cond.methodLink RX3 118 yX3_receive, Cond.instanceMethod yX3_receive, Cond.selects RX3 yX3_receive yX3_receive, Cond.code yX3_receive cX3_receive 8 none, Cond.methodLink RX3 121 yX4_has, Cond.instanceMethod yX4_has, Cond.selects RX4 yX4_has yX4_has, Cond.code yX4_has cX4_has 2 (some .boolean), Cond.methodLink RX3 96 yX4_howManyDiffer, Cond.instanceMethod yX4_howManyDiffer, Cond.selects RX4 yX4_howManyDiffer yX4_howManyDiffer]
def wsX7_script_r9 : List Cond := [Cond.code yX4_howManyDiffer cX4_howManyDiffer 4 (some .int)]
def wsX7_script : List Cond := .code yX7_script cX7_script 3 (some .int) :: ((wsX7_script_r1 ++ (wsX7_script_r2 ++ (wsX7_script_r3 ++ (wsX7_script_r4 ++ (wsX7_script_r5 ++ (wsX7_script_r6 ++ (wsX7_script_r7 ++ (wsX7_script_r8 ++ wsX7_script_r9)))))))) ++ wsX70 ++ wsX50 ++ wsX30 ++ wsX40 ++ wsX20)
def wsX7_image_r1 : List Cond := [Cond.fieldLink RX7 19 "VectorRounds" "kept" "LVectorRounds$Network;", Cond.fieldLink RX7 12 "VectorRounds" "now" "LVectorRounds$Network;", Cond.fieldLink RX7 230 "VectorRounds" "imaged" "Z", Cond.fieldLink RX7 234 "VectorRounds$Network" "round" "I", Cond.methodLink RX7 166 yX3_become, Cond.instanceMethod yX3_become, Cond.selects RX3 yX3_become yX3_become, Cond.initialized RX3, Cond.code yX3_become cX3_become 2 none, Cond.fieldLink RX3 12 "VectorRounds$Network" "tables" "LVectorRounds$Tables;", Cond.fieldLink RX3 24 "VectorRounds$Network" "links" "LVectorRounds$Links;", Cond.fieldLink RX3 35 "VectorRounds$Network" "routers" "I", Cond.fieldLink RX3 39 "VectorRounds$Network" "horizon" "I", Cond.fieldLink RX3 42 "VectorRounds$Network" "sequenced" "I", Cond.fieldLink RX3 45 "VectorRounds$Network" "holdDown" "I", Cond.fieldLink RX3 48 "VectorRounds$Network" "round" "I", Cond.fieldLink RX3 51 "VectorRounds$Network" "toldEver" "I", Cond.methodLink RX3 28 yX4_become, Cond.instanceMethod yX4_become, Cond.selects RX4 yX4_become yX4_become, Cond.initialized RX4, Cond.code yX4_become cX4_become 2 none, Cond.fieldLink RX4 9 "VectorRounds$Tables" "metric" "[I", Cond.methodLink RX4 36 arraycopyName]
def wsX7_image_r2 : List Cond := [Cond.native arraycopyName, Cond.static arraycopyName, Cond.initialized "java/lang/System", Cond.fieldLink RX4 15 "VectorRounds$Tables" "via" "[I", Cond.fieldLink RX4 18 "VectorRounds$Tables" "sequence" "[I", Cond.fieldLink RX4 21 "VectorRounds$Tables" "held" "[I", Cond.fieldLink RX4 24 "VectorRounds$Tables" "order" "[I", Cond.fieldLink RX4 27 "VectorRounds$Tables" "size" "[I", Cond.methodLink RX3 32 yX2_become, Cond.instanceMethod yX2_become, Cond.selects RX2 yX2_become yX2_become, Cond.initialized RX2, Cond.code yX2_become cX2_become 2 none, Cond.fieldLink RX2 9 "VectorRounds$Links" "lesser" "[I", Cond.methodLink RX2 27 arraycopyName, Cond.fieldLink RX2 15 "VectorRounds$Links" "greater" "[I", Cond.fieldLink RX2 18 "VectorRounds$Links" "price" "[I", Cond.fieldLink RX2 21 "VectorRounds$Links" "up" "[I", Cond.fieldLink RX2 24 "VectorRounds$Links" "joint" "[I", Cond.fieldLink RX2 33 "VectorRounds$Links" "size" "I"]
def wsX7_image : List Cond := .code yX7_image cX7_image 1 (some .int) :: ((wsX7_image_r1 ++ wsX7_image_r2) ++ wsX70 ++ wsX30 ++ wsX40 ++ wsX20)
def wsX7_back_r1 : List Cond := [Cond.fieldLink RX7 230 "VectorRounds" "imaged" "Z", Cond.fieldLink RX7 12 "VectorRounds" "now" "LVectorRounds$Network;", Cond.fieldLink RX7 19 "VectorRounds" "kept" "LVectorRounds$Network;", Cond.fieldLink RX7 234 "VectorRounds$Network" "round" "I", Cond.methodLink RX7 166 yX3_become, Cond.instanceMethod yX3_become, Cond.selects RX3 yX3_become yX3_become, Cond.initialized RX3, Cond.code yX3_become cX3_become 2 none, Cond.fieldLink RX3 12 "VectorRounds$Network" "tables" "LVectorRounds$Tables;", Cond.fieldLink RX3 24 "VectorRounds$Network" "links" "LVectorRounds$Links;", Cond.fieldLink RX3 35 "VectorRounds$Network" "routers" "I", Cond.fieldLink RX3 39 "VectorRounds$Network" "horizon" "I", Cond.fieldLink RX3 42 "VectorRounds$Network" "sequenced" "I", Cond.fieldLink RX3 45 "VectorRounds$Network" "holdDown" "I", Cond.fieldLink RX3 48 "VectorRounds$Network" "round" "I", Cond.fieldLink RX3 51 "VectorRounds$Network" "toldEver" "I", Cond.methodLink RX3 28 yX4_become, Cond.instanceMethod yX4_become, Cond.selects RX4 yX4_become yX4_become, Cond.initialized RX4, Cond.code yX4_become cX4_become 2 none, Cond.fieldLink RX4 9 "VectorRounds$Tables" "metric" "[I", Cond.methodLink RX4 36 arraycopyName]
def wsX7_back_r2 : List Cond := [Cond.native arraycopyName, Cond.static arraycopyName, Cond.initialized "java/lang/System", Cond.fieldLink RX4 15 "VectorRounds$Tables" "via" "[I", Cond.fieldLink RX4 18 "VectorRounds$Tables" "sequence" "[I", Cond.fieldLink RX4 21 "VectorRounds$Tables" "held" "[I", Cond.fieldLink RX4 24 "VectorRounds$Tables" "order" "[I", Cond.fieldLink RX4 27 "VectorRounds$Tables" "size" "[I", Cond.methodLink RX3 32 yX2_become, Cond.instanceMethod yX2_become, Cond.selects RX2 yX2_become yX2_become, Cond.initialized RX2, Cond.code yX2_become cX2_become 2 none, Cond.fieldLink RX2 9 "VectorRounds$Links" "lesser" "[I", Cond.methodLink RX2 27 arraycopyName, Cond.fieldLink RX2 15 "VectorRounds$Links" "greater" "[I", Cond.fieldLink RX2 18 "VectorRounds$Links" "price" "[I", Cond.fieldLink RX2 21 "VectorRounds$Links" "up" "[I", Cond.fieldLink RX2 24 "VectorRounds$Links" "joint" "[I", Cond.fieldLink RX2 33 "VectorRounds$Links" "size" "I"]
def wsX7_back : List Cond := .code yX7_back cX7_back 1 (some .int) :: ((wsX7_back_r1 ++ wsX7_back_r2) ++ wsX70 ++ wsX30 ++ wsX40 ++ wsX20)
def wsX7_hold_r1 : List Cond := [Cond.fieldLink RX7 12 "VectorRounds" "now" "LVectorRounds$Network;", Cond.fieldLink RX7 118 "VectorRounds$Network" "tables" "LVectorRounds$Tables;", Cond.fieldLink RX7 48 "VectorRounds" "holders" "[LVectorRounds$Holder;", Cond.methodLink RX7 200 yX7_noHolder, Cond.static yX7_noHolder, Cond.initialized RX7, Cond.code yX7_noHolder cX7_noHolder 1 (some .boolean), Cond.methodLink RX7 61 yX7_noRouter, Cond.instanceMethod yX7_noRouter, Cond.selects RX7 yX7_noRouter yX7_noRouter, Cond.code yX7_noRouter cX7_noRouter 2 (some .boolean), Cond.fieldLink RX7 53 "VectorRounds$Network" "routers" "I", Cond.methodLink RX7 122 yX4_has, Cond.instanceMethod yX4_has, Cond.selects RX4 yX4_has yX4_has, Cond.initialized RX4, Cond.code yX4_has cX4_has 2 (some .boolean), Cond.fieldLink RX4 9 "VectorRounds$Tables" "metric" "[I", Cond.methodLink RX7 237 yX1_keepEntry, Cond.instanceMethod yX1_keepEntry, Cond.selects RX1 yX1_keepEntry yX1_keepEntry, Cond.initialized RX1, Cond.code yX1_keepEntry cX1_keepEntry 5 none, Cond.fieldLink RX1 15 "VectorRounds$Holder" "sort" "I"]
def wsX7_hold_r2 : List Cond := [Cond.fieldLink RX1 19 "VectorRounds$Holder" "own" "Z", Cond.fieldLink RX1 23 "VectorRounds$Tables" "metric" "[I", Cond.fieldLink RX1 28 "VectorRounds$Holder" "metric" "I", Cond.fieldLink RX1 30 "VectorRounds$Tables" "via" "[I", Cond.fieldLink RX1 33 "VectorRounds$Holder" "via" "I", Cond.fieldLink RX1 35 "VectorRounds$Tables" "sequence" "[I", Cond.fieldLink RX1 38 "VectorRounds$Holder" "sequence" "I", Cond.fieldLink RX1 40 "VectorRounds$Tables" "held" "[I", Cond.fieldLink RX1 43 "VectorRounds$Holder" "held" "I"]
def wsX7_hold : List Cond := .code yX7_hold cX7_hold 4 (some .int) :: ((wsX7_hold_r1 ++ wsX7_hold_r2) ++ wsX70 ++ wsX30 ++ wsX40 ++ wsX10)
def wsX7_row : List Cond := .code yX7_row cX7_row 3 (some .int) :: ([.fieldLink RX7 48 "VectorRounds" "holders" "[LVectorRounds$Holder;", .fieldLink RX7 203 "VectorRounds$Holder" "sort" "I", .methodLink RX7 200 yX7_noHolder, .static yX7_noHolder, .initialized RX7, .code yX7_noHolder cX7_noHolder 1 (some .boolean), .methodLink RX7 240 yX1_keepRow, .instanceMethod yX1_keepRow, .selects RX1 yX1_keepRow yX1_keepRow, .initialized RX1, .code yX1_keepRow cX1_keepRow 2 none, .fieldLink RX1 15 "VectorRounds$Holder" "sort" "I", .fieldLink RX1 45 "VectorRounds$Holder" "length" "I", .fieldLink RX1 9 "VectorRounds$Holder" "items" "[I", .methodLink RX1 48 yJ7_fill_53178, .static yJ7_fill_53178, .initialized RJ7, .code yJ7_fill_53178 cJ7_fill_53178 4 none] ++ wsX70 ++ wsX10)
def wsX7_put : List Cond := .code yX7_put cX7_put 6 (some .int) :: ([.constant RX7 243 (-2000000000), .fieldLink RX7 48 "VectorRounds" "holders" "[LVectorRounds$Holder;", .fieldLink RX7 203 "VectorRounds$Holder" "sort" "I", .fieldLink RX7 206 "VectorRounds$Holder" "length" "I", .fieldLink RX7 207 "VectorRounds$Holder" "items" "[I", .methodLink RX7 200 yX7_noHolder, .static yX7_noHolder, .initialized RX7, .code yX7_noHolder cX7_noHolder 1 (some .boolean)] ++ wsX70 ++ wsX10)
def wsX7_tells : List Cond := .code yX7_tells cX7_tells 4 (some .int) :: ([.fieldLink RX7 48 "VectorRounds" "holders" "[LVectorRounds$Holder;", .fieldLink RX7 203 "VectorRounds$Holder" "sort" "I", .fieldLink RX7 244 "VectorRounds$Holder" "metric" "I", .fieldLink RX7 246 "VectorRounds$Holder" "own" "Z", .fieldLink RX7 249 "VectorRounds$Holder" "sequence" "I", .fieldLink RX7 251 "VectorRounds$Holder" "via" "I", .fieldLink RX7 253 "VectorRounds$Holder" "held" "I", .methodLink RX7 200 yX7_noHolder, .static yX7_noHolder, .initialized RX7, .code yX7_noHolder cX7_noHolder 1 (some .boolean)] ++ wsX70 ++ wsX10)
def wsX7_fullHolders : List Cond := .code yX7_fullHolders cX7_fullHolders 3 (some .int) :: ([.fieldLink RX7 48 "VectorRounds" "holders" "[LVectorRounds$Holder;", .fieldLink RX7 203 "VectorRounds$Holder" "sort" "I"] ++ wsX70 ++ wsX10)
def wsX7_count_r1 : List Cond := [Cond.fieldLink RX7 12 "VectorRounds" "now" "LVectorRounds$Network;", Cond.fieldLink RX7 53 "VectorRounds$Network" "routers" "I", Cond.fieldLink RX7 65 "VectorRounds$Network" "links" "LVectorRounds$Links;", Cond.fieldLink RX7 75 "VectorRounds$Links" "size" "I", Cond.fieldLink RX7 118 "VectorRounds$Network" "tables" "LVectorRounds$Tables;", Cond.fieldLink RX7 234 "VectorRounds$Network" "round" "I", Cond.fieldLink RX7 262 "VectorRounds$Network" "toldEver" "I", Cond.fieldLink RX7 42 "VectorRounds" "tape" "LVectorRounds$Tape;", Cond.fieldLink RX7 218 "VectorRounds$Tape" "length" "I", Cond.methodLink RX7 255 yX2_howManyUp, Cond.instanceMethod yX2_howManyUp, Cond.selects RX2 yX2_howManyUp yX2_howManyUp, Cond.initialized RX2, Cond.code yX2_howManyUp cX2_howManyUp 3 (some .int), Cond.fieldLink RX2 33 "VectorRounds$Links" "size" "I", Cond.fieldLink RX2 21 "VectorRounds$Links" "up" "[I", Cond.methodLink RX7 258 yX4_howMany, Cond.instanceMethod yX4_howMany, Cond.selects RX4 yX4_howMany yX4_howMany, Cond.initialized RX4, Cond.code yX4_howMany cX4_howMany 4 (some .int), Cond.fieldLink RX4 9 "VectorRounds$Tables" "metric" "[I", Cond.methodLink RX4 42 yX4_has, Cond.instanceMethod yX4_has]
def wsX7_count_r2 : List Cond := [Cond.selects RX4 yX4_has yX4_has, Cond.code yX4_has cX4_has 2 (some .boolean), Cond.methodLink RX7 265 yX7_fullHolders, Cond.instanceMethod yX7_fullHolders, Cond.selects RX7 yX7_fullHolders yX7_fullHolders, Cond.initialized RX7, Cond.code yX7_fullHolders cX7_fullHolders 3 (some .int), Cond.fieldLink RX7 48 "VectorRounds" "holders" "[LVectorRounds$Holder;", Cond.fieldLink RX7 203 "VectorRounds$Holder" "sort" "I"]
def wsX7_count : List Cond := .code yX7_count cX7_count 2 (some .int) :: ((wsX7_count_r1 ++ wsX7_count_r2) ++ wsX70 ++ wsX30 ++ wsX20 ++ wsX50 ++ wsX40 ++ wsX10)
def wsX8_init : List Cond := .code yX8_init cX8_init 1 none :: ([.methodLink RX8 1 objectInit, .instanceMethod objectInit, .code objectInit ⟨#[0xb1]⟩ 1 none, .arrayClass .int, .fieldLink RX8 7 "VectorRoundsModel" "s" "[I", .fieldLink RX8 13 "VectorRoundsModel" "thought" "[I", .fieldLink RX8 16 "VectorRoundsModel" "aside" "[I", .fieldLink RX8 19 "VectorRoundsModel" "toWhom" "[I", .fieldLink RX8 22 "VectorRoundsModel" "byWhom" "[I", .fieldLink RX8 25 "VectorRoundsModel" "byCost" "[I", .fieldLink RX8 28 "VectorRoundsModel" "ofWhom" "[I", .fieldLink RX8 31 "VectorRoundsModel" "metrics" "[I", .fieldLink RX8 34 "VectorRoundsModel" "sequences" "[I", .fieldLink RX8 37 "VectorRoundsModel" "wasKnown" "[I", .fieldLink RX8 40 "VectorRoundsModel" "was" "[I", .fieldLink RX8 43 "VectorRoundsModel" "way" "[I", .fieldLink RX8 46 "VectorRoundsModel" "far" "[I", .fieldLink RX8 49 "VectorRoundsModel" "tape" "[I", .fieldLink RX8 52 "VectorRoundsModel" "lineKind" "[I", .fieldLink RX8 55 "VectorRoundsModel" "lineNumber" "[I", .fieldLink RX8 58 "VectorRoundsModel" "kept" "[I", .fieldLink RX8 61 "VectorRoundsModel" "holds" "[I", .fieldLink RX8 64 "VectorRoundsModel" "element" "[I"] ++ wsX80)
def wsX8_in : List Cond := .code yX8_in cX8_in 3 (some .boolean) :: ([])
def wsX8_isRouter : List Cond := .code yX8_isRouter cX8_isRouter 2 (some .boolean) :: ([.fieldLink RX8 7 "VectorRoundsModel" "s" "[I", .methodLink RX8 71 yX8_in, .static yX8_in, .initialized RX8, .code yX8_in cX8_in 3 (some .boolean)] ++ wsX80)
def wsX8_isLink : List Cond := .code yX8_isLink cX8_isLink 2 (some .boolean) :: ([.fieldLink RX8 7 "VectorRoundsModel" "s" "[I", .methodLink RX8 71 yX8_in, .static yX8_in, .initialized RX8, .code yX8_in cX8_in 3 (some .boolean)] ++ wsX80)
def wsX8_copy : List Cond := .code yX8_copy cX8_copy 3 none :: ([])
def wsX8_think : List Cond := .code yX8_think cX8_think 2 none :: ([.fieldLink RX8 7 "VectorRoundsModel" "s" "[I", .fieldLink RX8 13 "VectorRoundsModel" "thought" "[I", .methodLink RX8 75 yX8_copy, .static yX8_copy, .initialized RX8, .code yX8_copy cX8_copy 3 none] ++ wsX80)
def wsX8_wake : List Cond := .code yX8_wake cX8_wake 2 none :: ([.fieldLink RX8 7 "VectorRoundsModel" "s" "[I", .fieldLink RX8 13 "VectorRoundsModel" "thought" "[I"] ++ wsX80)
def wsX8_entryOf : List Cond := .code yX8_entryOf cX8_entryOf 4 (some .int) :: ([.fieldLink RX8 7 "VectorRoundsModel" "s" "[I"] ++ wsX80)
def wsX8_know : List Cond := .code yX8_know cX8_know 7 none :: ([.fieldLink RX8 7 "VectorRoundsModel" "s" "[I"] ++ wsX80)
def wsX8_router : List Cond := .code yX8_router cX8_router 2 (some .int) :: ([.fieldLink RX8 7 "VectorRoundsModel" "s" "[I", .methodLink RX8 79 yX8_know, .instanceMethod yX8_know, .selects RX8 yX8_know yX8_know, .initialized RX8, .code yX8_know cX8_know 7 none] ++ wsX80)
def wsX8_linkOf : List Cond := .code yX8_linkOf cX8_linkOf 4 (some .int) :: ([.fieldLink RX8 7 "VectorRoundsModel" "s" "[I", .methodLink RX8 83 Lib.Math.min.name, .static Lib.Math.min.name, .initialized "java/lang/Math", .code Lib.Math.min.name Lib.Math.min.code 2 (some .int), .methodLink RX8 89 Lib.Math.max.name, .static Lib.Math.max.name, .code Lib.Math.max.name Lib.Math.max.code 2 (some .int)] ++ wsX80)
def wsX8_addLink : List Cond := .code yX8_addLink cX8_addLink 5 none :: ([.fieldLink RX8 7 "VectorRoundsModel" "s" "[I", .methodLink RX8 83 Lib.Math.min.name, .static Lib.Math.min.name, .initialized "java/lang/Math", .code Lib.Math.min.name Lib.Math.min.code 2 (some .int), .methodLink RX8 89 Lib.Math.max.name, .static Lib.Math.max.name, .code Lib.Math.max.name Lib.Math.max.code 2 (some .int)] ++ wsX80)
def wsX8_link : List Cond := .code yX8_link cX8_link 4 (some .int) :: ([.fieldLink RX8 7 "VectorRoundsModel" "s" "[I", .methodLink RX8 92 yX8_isRouter, .instanceMethod yX8_isRouter, .selects RX8 yX8_isRouter yX8_isRouter, .initialized RX8, .code yX8_isRouter cX8_isRouter 2 (some .boolean), .methodLink RX8 71 yX8_in, .static yX8_in, .code yX8_in cX8_in 3 (some .boolean), .methodLink RX8 96 yX8_linkOf, .instanceMethod yX8_linkOf, .selects RX8 yX8_linkOf yX8_linkOf, .code yX8_linkOf cX8_linkOf 4 (some .int), .methodLink RX8 83 Lib.Math.min.name, .static Lib.Math.min.name, .initialized "java/lang/Math", .code Lib.Math.min.name Lib.Math.min.code 2 (some .int), .methodLink RX8 89 Lib.Math.max.name, .static Lib.Math.max.name, .code Lib.Math.max.name Lib.Math.max.code 2 (some .int), .methodLink RX8 99 yX8_addLink, .instanceMethod yX8_addLink, .selects RX8 yX8_addLink yX8_addLink, .code yX8_addLink cX8_addLink 5 none] ++ wsX80)
def wsX8_lose : List Cond := .code yX8_lose cX8_lose 4 none :: ([.fieldLink RX8 7 "VectorRoundsModel" "s" "[I"] ++ wsX80)
def wsX8_cut : List Cond := .code yX8_cut cX8_cut 2 none :: ([.fieldLink RX8 7 "VectorRoundsModel" "s" "[I", .methodLink RX8 103 yX8_lose, .instanceMethod yX8_lose, .selects RX8 yX8_lose yX8_lose, .initialized RX8, .code yX8_lose cX8_lose 4 none] ++ wsX80)
def wsX8_turn : List Cond := .code yX8_turn cX8_turn 3 (some .int) :: ([.fieldLink RX8 7 "VectorRoundsModel" "s" "[I", .methodLink RX8 107 yX8_isLink, .instanceMethod yX8_isLink, .selects RX8 yX8_isLink yX8_isLink, .initialized RX8, .code yX8_isLink cX8_isLink 2 (some .boolean), .methodLink RX8 71 yX8_in, .static yX8_in, .code yX8_in cX8_in 3 (some .boolean), .methodLink RX8 110 yX8_cut, .instanceMethod yX8_cut, .selects RX8 yX8_cut yX8_cut, .code yX8_cut cX8_cut 2 none, .methodLink RX8 103 yX8_lose, .instanceMethod yX8_lose, .selects RX8 yX8_lose yX8_lose, .code yX8_lose cX8_lose 4 none] ++ wsX80)
def wsX8_cost : List Cond := .code yX8_cost cX8_cost 4 (some .int) :: ([.fieldLink RX8 7 "VectorRoundsModel" "s" "[I", .methodLink RX8 107 yX8_isLink, .instanceMethod yX8_isLink, .selects RX8 yX8_isLink yX8_isLink, .initialized RX8, .code yX8_isLink cX8_isLink 2 (some .boolean), .methodLink RX8 71 yX8_in, .static yX8_in, .code yX8_in cX8_in 3 (some .boolean)] ++ wsX80)
def wsX8_rule : List Cond := .code yX8_rule cX8_rule 4 (some .int) :: ([.fieldLink RX8 7 "VectorRoundsModel" "s" "[I", .methodLink RX8 71 yX8_in, .static yX8_in, .initialized RX8, .code yX8_in cX8_in 3 (some .boolean)] ++ wsX80)
def wsX8_of : List Cond := .code yX8_of cX8_of 3 (some .int) :: ([.fieldLink RX8 7 "VectorRoundsModel" "s" "[I", .methodLink RX8 107 yX8_isLink, .instanceMethod yX8_isLink, .selects RX8 yX8_isLink yX8_isLink, .initialized RX8, .code yX8_isLink cX8_isLink 2 (some .boolean), .methodLink RX8 71 yX8_in, .static yX8_in, .code yX8_in cX8_in 3 (some .boolean)] ++ wsX80)
def wsX8_between : List Cond := .code yX8_between cX8_between 4 (some .int) :: ([.methodLink RX8 92 yX8_isRouter, .instanceMethod yX8_isRouter, .selects RX8 yX8_isRouter yX8_isRouter, .initialized RX8, .code yX8_isRouter cX8_isRouter 2 (some .boolean), .fieldLink RX8 7 "VectorRoundsModel" "s" "[I", .methodLink RX8 71 yX8_in, .static yX8_in, .code yX8_in cX8_in 3 (some .boolean), .methodLink RX8 96 yX8_linkOf, .instanceMethod yX8_linkOf, .selects RX8 yX8_linkOf yX8_linkOf, .code yX8_linkOf cX8_linkOf 4 (some .int), .methodLink RX8 83 Lib.Math.min.name, .static Lib.Math.min.name, .initialized "java/lang/Math", .code Lib.Math.min.name Lib.Math.min.code 2 (some .int), .methodLink RX8 89 Lib.Math.max.name, .static Lib.Math.max.name, .code Lib.Math.max.name Lib.Math.max.code 2 (some .int)] ++ wsX80)
def wsX8_tell : List Cond := .code yX8_tell cX8_tell 6 none :: ([.fieldLink RX8 7 "VectorRoundsModel" "s" "[I", .fieldLink RX8 19 "VectorRoundsModel" "toWhom" "[I", .fieldLink RX8 114 "VectorRoundsModel" "sent" "I", .fieldLink RX8 22 "VectorRoundsModel" "byWhom" "[I", .fieldLink RX8 25 "VectorRoundsModel" "byCost" "[I", .fieldLink RX8 28 "VectorRoundsModel" "ofWhom" "[I", .fieldLink RX8 31 "VectorRoundsModel" "metrics" "[I", .fieldLink RX8 34 "VectorRoundsModel" "sequences" "[I"] ++ wsX80)
def wsX8_become : List Cond := .code yX8_become cX8_become 4 none :: ([.fieldLink RX8 7 "VectorRoundsModel" "s" "[I"] ++ wsX80)
def wsX8_receive : List Cond := .code yX8_receive cX8_receive 7 none :: ([.fieldLink RX8 19 "VectorRoundsModel" "toWhom" "[I", .fieldLink RX8 22 "VectorRoundsModel" "byWhom" "[I", .fieldLink RX8 28 "VectorRoundsModel" "ofWhom" "[I", .fieldLink RX8 31 "VectorRoundsModel" "metrics" "[I", .fieldLink RX8 25 "VectorRoundsModel" "byCost" "[I", .methodLink RX8 83 Lib.Math.min.name, .static Lib.Math.min.name, .initialized "java/lang/Math", .code Lib.Math.min.name Lib.Math.min.code 2 (some .int), .fieldLink RX8 34 "VectorRoundsModel" "sequences" "[I", .fieldLink RX8 7 "VectorRoundsModel" "s" "[I", .methodLink RX8 117 yX8_entryOf, .instanceMethod yX8_entryOf, .selects RX8 yX8_entryOf yX8_entryOf, .initialized RX8, .code yX8_entryOf cX8_entryOf 4 (some .int), .methodLink RX8 79 yX8_know, .instanceMethod yX8_know, .selects RX8 yX8_know yX8_know, .code yX8_know cX8_know 7 none, .methodLink RX8 120 yX8_become, .instanceMethod yX8_become, .selects RX8 yX8_become yX8_become, .code yX8_become cX8_become 4 none] ++ wsX80)
def wsX8_goRound_r1 : List Cond := [Cond.fieldLink RX8 7 "VectorRoundsModel" "s" "[I", Cond.fieldLink RX8 37 "VectorRoundsModel" "wasKnown" "[I", Cond.fieldLink RX8 40 "VectorRoundsModel" "was" "[I", Cond.fieldLink RX8 114 "VectorRoundsModel" "sent" "I", Cond.methodLink RX8 96 yX8_linkOf, Cond.instanceMethod yX8_linkOf, Cond.selects RX8 yX8_linkOf yX8_linkOf, Cond.initialized RX8, Cond.code yX8_linkOf cX8_linkOf 4 (some .int), Cond.methodLink RX8 83 Lib.Math.min.name, Cond.static Lib.Math.min.name, Cond.initialized "java/lang/Math", Cond.code Lib.Math.min.name Lib.Math.min.code 2 (some .int), Cond.methodLink RX8 89 Lib.Math.max.name, Cond.static Lib.Math.max.name, Cond.code Lib.Math.max.name Lib.Math.max.code 2 (some .int), Cond.methodLink RX8 123 yX8_tell, Cond.instanceMethod yX8_tell, Cond.selects RX8 yX8_tell yX8_tell, Cond.code yX8_tell cX8_tell 6 none, Cond.fieldLink RX8 19 "VectorRoundsModel" "toWhom" "[I", Cond.fieldLink RX8 22 "VectorRoundsModel" "byWhom" "[I", Cond.fieldLink RX8 25 "VectorRoundsModel" "byCost" "[I", Cond.fieldLink RX8 28 "VectorRoundsModel" "ofWhom" "[I"]
def wsX8_goRound_r2 : List Cond := [Cond.fieldLink RX8 31 "VectorRoundsModel" "metrics" "[I", Cond.fieldLink RX8 34 "VectorRoundsModel" "sequences" "[I", Cond.methodLink RX8 126 yX8_receive, Cond.instanceMethod yX8_receive, Cond.selects RX8 yX8_receive yX8_receive, Cond.code yX8_receive cX8_receive 7 none, Cond.methodLink RX8 117 yX8_entryOf, Cond.instanceMethod yX8_entryOf, Cond.selects RX8 yX8_entryOf yX8_entryOf, Cond.code yX8_entryOf cX8_entryOf 4 (some .int), Cond.methodLink RX8 79 yX8_know, Cond.instanceMethod yX8_know, Cond.selects RX8 yX8_know yX8_know, Cond.code yX8_know cX8_know 7 none, Cond.methodLink RX8 120 yX8_become, Cond.instanceMethod yX8_become, Cond.selects RX8 yX8_become yX8_become, Cond.code yX8_become cX8_become 4 none]
def wsX8_goRound : List Cond := .code yX8_goRound cX8_goRound 5 (some .int) :: ((wsX8_goRound_r1 ++ wsX8_goRound_r2) ++ wsX80)
def wsX8_rounds_r1 : List Cond := [Cond.methodLink RX8 71 yX8_in, Cond.static yX8_in, Cond.initialized RX8, Cond.code yX8_in cX8_in 3 (some .boolean), Cond.methodLink RX8 129 yX8_goRound, Cond.instanceMethod yX8_goRound, Cond.selects RX8 yX8_goRound yX8_goRound, Cond.code yX8_goRound cX8_goRound 5 (some .int), Cond.fieldLink RX8 7 "VectorRoundsModel" "s" "[I", Cond.fieldLink RX8 37 "VectorRoundsModel" "wasKnown" "[I", Cond.fieldLink RX8 40 "VectorRoundsModel" "was" "[I", Cond.fieldLink RX8 114 "VectorRoundsModel" "sent" "I", Cond.methodLink RX8 96 yX8_linkOf, Cond.instanceMethod yX8_linkOf, Cond.selects RX8 yX8_linkOf yX8_linkOf, Cond.code yX8_linkOf cX8_linkOf 4 (some .int), Cond.methodLink RX8 83 Lib.Math.min.name, Cond.static Lib.Math.min.name, Cond.initialized "java/lang/Math", Cond.code Lib.Math.min.name Lib.Math.min.code 2 (some .int), Cond.methodLink RX8 89 Lib.Math.max.name, Cond.static Lib.Math.max.name, Cond.code Lib.Math.max.name Lib.Math.max.code 2 (some .int), Cond.methodLink RX8 123 yX8_tell]
def wsX8_rounds_r2 : List Cond := [Cond.instanceMethod yX8_tell, Cond.selects RX8 yX8_tell yX8_tell, Cond.code yX8_tell cX8_tell 6 none, Cond.fieldLink RX8 19 "VectorRoundsModel" "toWhom" "[I", Cond.fieldLink RX8 22 "VectorRoundsModel" "byWhom" "[I", Cond.fieldLink RX8 25 "VectorRoundsModel" "byCost" "[I", Cond.fieldLink RX8 28 "VectorRoundsModel" "ofWhom" "[I", Cond.fieldLink RX8 31 "VectorRoundsModel" "metrics" "[I", Cond.fieldLink RX8 34 "VectorRoundsModel" "sequences" "[I", Cond.methodLink RX8 126 yX8_receive, Cond.instanceMethod yX8_receive, Cond.selects RX8 yX8_receive yX8_receive, Cond.code yX8_receive cX8_receive 7 none, Cond.methodLink RX8 117 yX8_entryOf, Cond.instanceMethod yX8_entryOf, Cond.selects RX8 yX8_entryOf yX8_entryOf, Cond.code yX8_entryOf cX8_entryOf 4 (some .int), Cond.methodLink RX8 79 yX8_know, Cond.instanceMethod yX8_know, Cond.selects RX8 yX8_know yX8_know, Cond.code yX8_know cX8_know 7 none, Cond.methodLink RX8 120 yX8_become, Cond.instanceMethod yX8_become, Cond.selects RX8 yX8_become yX8_become]
def wsX8_rounds_r3 : List Cond := [Cond.code yX8_become cX8_become 4 none]
def wsX8_rounds : List Cond := .code yX8_rounds cX8_rounds 4 (some .int) :: ((wsX8_rounds_r1 ++ (wsX8_rounds_r2 ++ wsX8_rounds_r3)) ++ wsX80)
def wsX8_entry : List Cond := .code yX8_entry cX8_entry 5 (some .int) :: ([.fieldLink RX8 7 "VectorRoundsModel" "s" "[I", .methodLink RX8 92 yX8_isRouter, .instanceMethod yX8_isRouter, .selects RX8 yX8_isRouter yX8_isRouter, .initialized RX8, .code yX8_isRouter cX8_isRouter 2 (some .boolean), .methodLink RX8 71 yX8_in, .static yX8_in, .code yX8_in cX8_in 3 (some .boolean), .methodLink RX8 117 yX8_entryOf, .instanceMethod yX8_entryOf, .selects RX8 yX8_entryOf yX8_entryOf, .code yX8_entryOf cX8_entryOf 4 (some .int)] ++ wsX80)
def wsX8_known : List Cond := .code yX8_known cX8_known 3 (some .int) :: ([.fieldLink RX8 7 "VectorRoundsModel" "s" "[I", .methodLink RX8 92 yX8_isRouter, .instanceMethod yX8_isRouter, .selects RX8 yX8_isRouter yX8_isRouter, .initialized RX8, .code yX8_isRouter cX8_isRouter 2 (some .boolean), .methodLink RX8 71 yX8_in, .static yX8_in, .code yX8_in cX8_in 3 (some .boolean)] ++ wsX80)
def wsX8_nextOf : List Cond := .code yX8_nextOf cX8_nextOf 4 (some .int) :: ([.fieldLink RX8 7 "VectorRoundsModel" "s" "[I", .methodLink RX8 117 yX8_entryOf, .instanceMethod yX8_entryOf, .selects RX8 yX8_entryOf yX8_entryOf, .initialized RX8, .code yX8_entryOf cX8_entryOf 4 (some .int)] ++ wsX80)
def wsX8_isOnWay : List Cond := .code yX8_isOnWay cX8_isOnWay 3 (some .boolean) :: ([.fieldLink RX8 133 "VectorRoundsModel" "steps" "I", .fieldLink RX8 43 "VectorRoundsModel" "way" "[I"] ++ wsX80)
def wsX8_goWay : List Cond := .code yX8_goWay cX8_goWay 4 (some .int) :: ([.fieldLink RX8 43 "VectorRoundsModel" "way" "[I", .fieldLink RX8 133 "VectorRoundsModel" "steps" "I", .methodLink RX8 136 yX8_nextOf, .instanceMethod yX8_nextOf, .selects RX8 yX8_nextOf yX8_nextOf, .initialized RX8, .code yX8_nextOf cX8_nextOf 4 (some .int), .fieldLink RX8 7 "VectorRoundsModel" "s" "[I", .methodLink RX8 117 yX8_entryOf, .instanceMethod yX8_entryOf, .selects RX8 yX8_entryOf yX8_entryOf, .code yX8_entryOf cX8_entryOf 4 (some .int), .methodLink RX8 139 yX8_isOnWay, .instanceMethod yX8_isOnWay, .selects RX8 yX8_isOnWay yX8_isOnWay, .code yX8_isOnWay cX8_isOnWay 3 (some .boolean)] ++ wsX80)
def wsX8_loops : List Cond := .code yX8_loops cX8_loops 4 (some .int) :: ([.fieldLink RX8 7 "VectorRoundsModel" "s" "[I", .methodLink RX8 142 yX8_goWay, .instanceMethod yX8_goWay, .selects RX8 yX8_goWay yX8_goWay, .initialized RX8, .code yX8_goWay cX8_goWay 4 (some .int), .fieldLink RX8 43 "VectorRoundsModel" "way" "[I", .fieldLink RX8 133 "VectorRoundsModel" "steps" "I", .methodLink RX8 136 yX8_nextOf, .instanceMethod yX8_nextOf, .selects RX8 yX8_nextOf yX8_nextOf, .code yX8_nextOf cX8_nextOf 4 (some .int), .methodLink RX8 117 yX8_entryOf, .instanceMethod yX8_entryOf, .selects RX8 yX8_entryOf yX8_entryOf, .code yX8_entryOf cX8_entryOf 4 (some .int), .methodLink RX8 139 yX8_isOnWay, .instanceMethod yX8_isOnWay, .selects RX8 yX8_isOnWay yX8_isOnWay, .code yX8_isOnWay cX8_isOnWay 3 (some .boolean)] ++ wsX80)
def wsX8_way_r1 : List Cond := [Cond.fieldLink RX8 133 "VectorRoundsModel" "steps" "I", Cond.fieldLink RX8 43 "VectorRoundsModel" "way" "[I", Cond.methodLink RX8 92 yX8_isRouter, Cond.instanceMethod yX8_isRouter, Cond.selects RX8 yX8_isRouter yX8_isRouter, Cond.initialized RX8, Cond.code yX8_isRouter cX8_isRouter 2 (some .boolean), Cond.fieldLink RX8 7 "VectorRoundsModel" "s" "[I", Cond.methodLink RX8 71 yX8_in, Cond.static yX8_in, Cond.code yX8_in cX8_in 3 (some .boolean), Cond.methodLink RX8 142 yX8_goWay, Cond.instanceMethod yX8_goWay, Cond.selects RX8 yX8_goWay yX8_goWay, Cond.code yX8_goWay cX8_goWay 4 (some .int), Cond.methodLink RX8 136 yX8_nextOf, Cond.instanceMethod yX8_nextOf, Cond.selects RX8 yX8_nextOf yX8_nextOf, Cond.code yX8_nextOf cX8_nextOf 4 (some .int), Cond.methodLink RX8 117 yX8_entryOf, Cond.instanceMethod yX8_entryOf, Cond.selects RX8 yX8_entryOf yX8_entryOf, Cond.code yX8_entryOf cX8_entryOf 4 (some .int), Cond.methodLink RX8 139 yX8_isOnWay]
def wsX8_way_r2 : List Cond := [Cond.instanceMethod yX8_isOnWay, Cond.selects RX8 yX8_isOnWay yX8_isOnWay, Cond.code yX8_isOnWay cX8_isOnWay 3 (some .boolean)]
def wsX8_way : List Cond := .code yX8_way cX8_way 4 (some .int) :: ((wsX8_way_r1 ++ wsX8_way_r2) ++ wsX80)
def wsX8_ends_r1 : List Cond := [Cond.methodLink RX8 92 yX8_isRouter, Cond.instanceMethod yX8_isRouter, Cond.selects RX8 yX8_isRouter yX8_isRouter, Cond.initialized RX8, Cond.code yX8_isRouter cX8_isRouter 2 (some .boolean), Cond.fieldLink RX8 7 "VectorRoundsModel" "s" "[I", Cond.methodLink RX8 71 yX8_in, Cond.static yX8_in, Cond.code yX8_in cX8_in 3 (some .boolean), Cond.methodLink RX8 142 yX8_goWay, Cond.instanceMethod yX8_goWay, Cond.selects RX8 yX8_goWay yX8_goWay, Cond.code yX8_goWay cX8_goWay 4 (some .int), Cond.fieldLink RX8 43 "VectorRoundsModel" "way" "[I", Cond.fieldLink RX8 133 "VectorRoundsModel" "steps" "I", Cond.methodLink RX8 136 yX8_nextOf, Cond.instanceMethod yX8_nextOf, Cond.selects RX8 yX8_nextOf yX8_nextOf, Cond.code yX8_nextOf cX8_nextOf 4 (some .int), Cond.methodLink RX8 117 yX8_entryOf, Cond.instanceMethod yX8_entryOf, Cond.selects RX8 yX8_entryOf yX8_entryOf, Cond.code yX8_entryOf cX8_entryOf 4 (some .int), Cond.methodLink RX8 139 yX8_isOnWay]
def wsX8_ends_r2 : List Cond := [Cond.instanceMethod yX8_isOnWay, Cond.selects RX8 yX8_isOnWay yX8_isOnWay, Cond.code yX8_isOnWay cX8_isOnWay 3 (some .boolean)]
def wsX8_ends : List Cond := .code yX8_ends cX8_ends 3 (some .int) :: ((wsX8_ends_r1 ++ wsX8_ends_r2) ++ wsX80)
def wsX8_shortestBut : List Cond := .code yX8_shortestBut cX8_shortestBut 8 (some .int) :: ([.fieldLink RX8 46 "VectorRoundsModel" "far" "[I", .fieldLink RX8 7 "VectorRoundsModel" "s" "[I", .methodLink RX8 83 Lib.Math.min.name, .static Lib.Math.min.name, .initialized "java/lang/Math", .code Lib.Math.min.name Lib.Math.min.code 2 (some .int)] ++ wsX80)
def wsX8_shortest : List Cond := .code yX8_shortest cX8_shortest 3 (some .int) :: ([.methodLink RX8 92 yX8_isRouter, .instanceMethod yX8_isRouter, .selects RX8 yX8_isRouter yX8_isRouter, .initialized RX8, .code yX8_isRouter cX8_isRouter 2 (some .boolean), .fieldLink RX8 7 "VectorRoundsModel" "s" "[I", .methodLink RX8 71 yX8_in, .static yX8_in, .code yX8_in cX8_in 3 (some .boolean), .methodLink RX8 145 yX8_shortestBut, .instanceMethod yX8_shortestBut, .selects RX8 yX8_shortestBut yX8_shortestBut, .code yX8_shortestBut cX8_shortestBut 8 (some .int), .fieldLink RX8 46 "VectorRoundsModel" "far" "[I", .methodLink RX8 83 Lib.Math.min.name, .static Lib.Math.min.name, .initialized "java/lang/Math", .code Lib.Math.min.name Lib.Math.min.code 2 (some .int)] ++ wsX80)
def wsX8_right : List Cond := .code yX8_right cX8_right 6 (some .int) :: ([.fieldLink RX8 7 "VectorRoundsModel" "s" "[I", .methodLink RX8 83 Lib.Math.min.name, .static Lib.Math.min.name, .initialized "java/lang/Math", .code Lib.Math.min.name Lib.Math.min.code 2 (some .int), .methodLink RX8 145 yX8_shortestBut, .instanceMethod yX8_shortestBut, .selects RX8 yX8_shortestBut yX8_shortestBut, .initialized RX8, .code yX8_shortestBut cX8_shortestBut 8 (some .int), .fieldLink RX8 46 "VectorRoundsModel" "far" "[I", .methodLink RX8 117 yX8_entryOf, .instanceMethod yX8_entryOf, .selects RX8 yX8_entryOf yX8_entryOf, .code yX8_entryOf cX8_entryOf 4 (some .int)] ++ wsX80)
def wsX8_needed : List Cond := .code yX8_needed cX8_needed 3 (some .int) :: ([.fieldLink RX8 7 "VectorRoundsModel" "s" "[I", .methodLink RX8 145 yX8_shortestBut, .instanceMethod yX8_shortestBut, .selects RX8 yX8_shortestBut yX8_shortestBut, .initialized RX8, .code yX8_shortestBut cX8_shortestBut 8 (some .int), .fieldLink RX8 46 "VectorRoundsModel" "far" "[I", .methodLink RX8 83 Lib.Math.min.name, .static Lib.Math.min.name, .initialized "java/lang/Math", .code Lib.Math.min.name Lib.Math.min.code 2 (some .int)] ++ wsX80)
def wsX8_settled_r1 : List Cond := [Cond.methodLink RX8 129 yX8_goRound, Cond.instanceMethod yX8_goRound, Cond.selects RX8 yX8_goRound yX8_goRound, Cond.initialized RX8, Cond.code yX8_goRound cX8_goRound 5 (some .int), Cond.fieldLink RX8 7 "VectorRoundsModel" "s" "[I", Cond.fieldLink RX8 37 "VectorRoundsModel" "wasKnown" "[I", Cond.fieldLink RX8 40 "VectorRoundsModel" "was" "[I", Cond.fieldLink RX8 114 "VectorRoundsModel" "sent" "I", Cond.methodLink RX8 96 yX8_linkOf, Cond.instanceMethod yX8_linkOf, Cond.selects RX8 yX8_linkOf yX8_linkOf, Cond.code yX8_linkOf cX8_linkOf 4 (some .int), Cond.methodLink RX8 83 Lib.Math.min.name, Cond.static Lib.Math.min.name, Cond.initialized "java/lang/Math", Cond.code Lib.Math.min.name Lib.Math.min.code 2 (some .int), Cond.methodLink RX8 89 Lib.Math.max.name, Cond.static Lib.Math.max.name, Cond.code Lib.Math.max.name Lib.Math.max.code 2 (some .int), Cond.methodLink RX8 123 yX8_tell, Cond.instanceMethod yX8_tell, Cond.selects RX8 yX8_tell yX8_tell, Cond.code yX8_tell cX8_tell 6 none]
def wsX8_settled_r2 : List Cond := [Cond.fieldLink RX8 19 "VectorRoundsModel" "toWhom" "[I", Cond.fieldLink RX8 22 "VectorRoundsModel" "byWhom" "[I", Cond.fieldLink RX8 25 "VectorRoundsModel" "byCost" "[I", Cond.fieldLink RX8 28 "VectorRoundsModel" "ofWhom" "[I", Cond.fieldLink RX8 31 "VectorRoundsModel" "metrics" "[I", Cond.fieldLink RX8 34 "VectorRoundsModel" "sequences" "[I", Cond.methodLink RX8 126 yX8_receive, Cond.instanceMethod yX8_receive, Cond.selects RX8 yX8_receive yX8_receive, Cond.code yX8_receive cX8_receive 7 none, Cond.methodLink RX8 117 yX8_entryOf, Cond.instanceMethod yX8_entryOf, Cond.selects RX8 yX8_entryOf yX8_entryOf, Cond.code yX8_entryOf cX8_entryOf 4 (some .int), Cond.methodLink RX8 79 yX8_know, Cond.instanceMethod yX8_know, Cond.selects RX8 yX8_know yX8_know, Cond.code yX8_know cX8_know 7 none, Cond.methodLink RX8 120 yX8_become, Cond.instanceMethod yX8_become, Cond.selects RX8 yX8_become yX8_become, Cond.code yX8_become cX8_become 4 none]
def wsX8_settled : List Cond := .code yX8_settled cX8_settled 2 (some .int) :: ((wsX8_settled_r1 ++ wsX8_settled_r2) ++ wsX80)
def wsX8_settledNow_r1 : List Cond := [Cond.methodLink RX8 149 yX8_think, Cond.instanceMethod yX8_think, Cond.selects RX8 yX8_think yX8_think, Cond.initialized RX8, Cond.code yX8_think cX8_think 2 none, Cond.fieldLink RX8 7 "VectorRoundsModel" "s" "[I", Cond.fieldLink RX8 13 "VectorRoundsModel" "thought" "[I", Cond.methodLink RX8 75 yX8_copy, Cond.static yX8_copy, Cond.code yX8_copy cX8_copy 3 none, Cond.methodLink RX8 152 yX8_settled, Cond.instanceMethod yX8_settled, Cond.selects RX8 yX8_settled yX8_settled, Cond.code yX8_settled cX8_settled 2 (some .int), Cond.methodLink RX8 129 yX8_goRound, Cond.instanceMethod yX8_goRound, Cond.selects RX8 yX8_goRound yX8_goRound, Cond.code yX8_goRound cX8_goRound 5 (some .int), Cond.fieldLink RX8 37 "VectorRoundsModel" "wasKnown" "[I", Cond.fieldLink RX8 40 "VectorRoundsModel" "was" "[I", Cond.fieldLink RX8 114 "VectorRoundsModel" "sent" "I", Cond.methodLink RX8 96 yX8_linkOf, Cond.instanceMethod yX8_linkOf, Cond.selects RX8 yX8_linkOf yX8_linkOf]
def wsX8_settledNow_r2 : List Cond := [Cond.code yX8_linkOf cX8_linkOf 4 (some .int), Cond.methodLink RX8 83 Lib.Math.min.name, Cond.static Lib.Math.min.name, Cond.initialized "java/lang/Math", Cond.code Lib.Math.min.name Lib.Math.min.code 2 (some .int), Cond.methodLink RX8 89 Lib.Math.max.name, Cond.static Lib.Math.max.name, Cond.code Lib.Math.max.name Lib.Math.max.code 2 (some .int), Cond.methodLink RX8 123 yX8_tell, Cond.instanceMethod yX8_tell, Cond.selects RX8 yX8_tell yX8_tell, Cond.code yX8_tell cX8_tell 6 none, Cond.fieldLink RX8 19 "VectorRoundsModel" "toWhom" "[I", Cond.fieldLink RX8 22 "VectorRoundsModel" "byWhom" "[I", Cond.fieldLink RX8 25 "VectorRoundsModel" "byCost" "[I", Cond.fieldLink RX8 28 "VectorRoundsModel" "ofWhom" "[I", Cond.fieldLink RX8 31 "VectorRoundsModel" "metrics" "[I", Cond.fieldLink RX8 34 "VectorRoundsModel" "sequences" "[I", Cond.methodLink RX8 126 yX8_receive, Cond.instanceMethod yX8_receive, Cond.selects RX8 yX8_receive yX8_receive, Cond.code yX8_receive cX8_receive 7 none, Cond.methodLink RX8 117 yX8_entryOf, Cond.instanceMethod yX8_entryOf]
def wsX8_settledNow_r3 : List Cond := [Cond.selects RX8 yX8_entryOf yX8_entryOf, Cond.code yX8_entryOf cX8_entryOf 4 (some .int), Cond.methodLink RX8 79 yX8_know, Cond.instanceMethod yX8_know, Cond.selects RX8 yX8_know yX8_know, Cond.code yX8_know cX8_know 7 none, Cond.methodLink RX8 120 yX8_become, Cond.instanceMethod yX8_become, Cond.selects RX8 yX8_become yX8_become, Cond.code yX8_become cX8_become 4 none, Cond.methodLink RX8 155 yX8_wake, Cond.instanceMethod yX8_wake, Cond.selects RX8 yX8_wake yX8_wake, Cond.code yX8_wake cX8_wake 2 none]
def wsX8_settledNow : List Cond := .code yX8_settledNow cX8_settledNow 2 (some .int) :: ((wsX8_settledNow_r1 ++ (wsX8_settledNow_r2 ++ wsX8_settledNow_r3)) ++ wsX80)
def wsX8_looped_r1 : List Cond := [Cond.methodLink RX8 149 yX8_think, Cond.instanceMethod yX8_think, Cond.selects RX8 yX8_think yX8_think, Cond.initialized RX8, Cond.code yX8_think cX8_think 2 none, Cond.fieldLink RX8 7 "VectorRoundsModel" "s" "[I", Cond.fieldLink RX8 13 "VectorRoundsModel" "thought" "[I", Cond.methodLink RX8 75 yX8_copy, Cond.static yX8_copy, Cond.code yX8_copy cX8_copy 3 none, Cond.methodLink RX8 158 yX8_loops, Cond.instanceMethod yX8_loops, Cond.selects RX8 yX8_loops yX8_loops, Cond.code yX8_loops cX8_loops 4 (some .int), Cond.methodLink RX8 142 yX8_goWay, Cond.instanceMethod yX8_goWay, Cond.selects RX8 yX8_goWay yX8_goWay, Cond.code yX8_goWay cX8_goWay 4 (some .int), Cond.fieldLink RX8 43 "VectorRoundsModel" "way" "[I", Cond.fieldLink RX8 133 "VectorRoundsModel" "steps" "I", Cond.methodLink RX8 136 yX8_nextOf, Cond.instanceMethod yX8_nextOf, Cond.selects RX8 yX8_nextOf yX8_nextOf, Cond.code yX8_nextOf cX8_nextOf 4 (some .int)]
def wsX8_looped_r2 : List Cond := [Cond.methodLink RX8 117 yX8_entryOf, Cond.instanceMethod yX8_entryOf, Cond.selects RX8 yX8_entryOf yX8_entryOf, Cond.code yX8_entryOf cX8_entryOf 4 (some .int), Cond.methodLink RX8 139 yX8_isOnWay, Cond.instanceMethod yX8_isOnWay, Cond.selects RX8 yX8_isOnWay yX8_isOnWay, Cond.code yX8_isOnWay cX8_isOnWay 3 (some .boolean), Cond.methodLink RX8 129 yX8_goRound, Cond.instanceMethod yX8_goRound, Cond.selects RX8 yX8_goRound yX8_goRound, Cond.code yX8_goRound cX8_goRound 5 (some .int), Cond.fieldLink RX8 37 "VectorRoundsModel" "wasKnown" "[I", Cond.fieldLink RX8 40 "VectorRoundsModel" "was" "[I", Cond.fieldLink RX8 114 "VectorRoundsModel" "sent" "I", Cond.methodLink RX8 96 yX8_linkOf, Cond.instanceMethod yX8_linkOf, Cond.selects RX8 yX8_linkOf yX8_linkOf, Cond.code yX8_linkOf cX8_linkOf 4 (some .int), Cond.methodLink RX8 83 Lib.Math.min.name, Cond.static Lib.Math.min.name, Cond.initialized "java/lang/Math", Cond.code Lib.Math.min.name Lib.Math.min.code 2 (some .int), Cond.methodLink RX8 89 Lib.Math.max.name]
def wsX8_looped_r3 : List Cond := [Cond.static Lib.Math.max.name, Cond.code Lib.Math.max.name Lib.Math.max.code 2 (some .int), Cond.methodLink RX8 123 yX8_tell, Cond.instanceMethod yX8_tell, Cond.selects RX8 yX8_tell yX8_tell, Cond.code yX8_tell cX8_tell 6 none, Cond.fieldLink RX8 19 "VectorRoundsModel" "toWhom" "[I", Cond.fieldLink RX8 22 "VectorRoundsModel" "byWhom" "[I", Cond.fieldLink RX8 25 "VectorRoundsModel" "byCost" "[I", Cond.fieldLink RX8 28 "VectorRoundsModel" "ofWhom" "[I", Cond.fieldLink RX8 31 "VectorRoundsModel" "metrics" "[I", Cond.fieldLink RX8 34 "VectorRoundsModel" "sequences" "[I", Cond.methodLink RX8 126 yX8_receive, Cond.instanceMethod yX8_receive, Cond.selects RX8 yX8_receive yX8_receive, Cond.code yX8_receive cX8_receive 7 none, Cond.methodLink RX8 79 yX8_know, Cond.instanceMethod yX8_know, Cond.selects RX8 yX8_know yX8_know, Cond.code yX8_know cX8_know 7 none, Cond.methodLink RX8 120 yX8_become, Cond.instanceMethod yX8_become, Cond.selects RX8 yX8_become yX8_become, Cond.code yX8_become cX8_become 4 none]
def wsX8_looped_r4 : List Cond := [Cond.methodLink RX8 155 yX8_wake, Cond.instanceMethod yX8_wake, Cond.selects RX8 yX8_wake yX8_wake, Cond.code yX8_wake cX8_wake 2 none]
def wsX8_looped : List Cond := .code yX8_looped cX8_looped 3 (some .int) :: ((wsX8_looped_r1 ++ (wsX8_looped_r2 ++ (wsX8_looped_r3 ++ wsX8_looped_r4))) ++ wsX80)
def wsX8_worstCut_r1 : List Cond := [Cond.fieldLink RX8 7 "VectorRoundsModel" "s" "[I", Cond.methodLink RX8 149 yX8_think, Cond.instanceMethod yX8_think, Cond.selects RX8 yX8_think yX8_think, Cond.initialized RX8, Cond.code yX8_think cX8_think 2 none, Cond.fieldLink RX8 13 "VectorRoundsModel" "thought" "[I", Cond.methodLink RX8 75 yX8_copy, Cond.static yX8_copy, Cond.code yX8_copy cX8_copy 3 none, Cond.methodLink RX8 110 yX8_cut, Cond.instanceMethod yX8_cut, Cond.selects RX8 yX8_cut yX8_cut, Cond.code yX8_cut cX8_cut 2 none, Cond.methodLink RX8 103 yX8_lose, Cond.instanceMethod yX8_lose, Cond.selects RX8 yX8_lose yX8_lose, Cond.code yX8_lose cX8_lose 4 none, Cond.methodLink RX8 152 yX8_settled, Cond.instanceMethod yX8_settled, Cond.selects RX8 yX8_settled yX8_settled, Cond.code yX8_settled cX8_settled 2 (some .int), Cond.methodLink RX8 129 yX8_goRound, Cond.instanceMethod yX8_goRound]
def wsX8_worstCut_r2 : List Cond := [Cond.selects RX8 yX8_goRound yX8_goRound, Cond.code yX8_goRound cX8_goRound 5 (some .int), Cond.fieldLink RX8 37 "VectorRoundsModel" "wasKnown" "[I", Cond.fieldLink RX8 40 "VectorRoundsModel" "was" "[I", Cond.fieldLink RX8 114 "VectorRoundsModel" "sent" "I", Cond.methodLink RX8 96 yX8_linkOf, Cond.instanceMethod yX8_linkOf, Cond.selects RX8 yX8_linkOf yX8_linkOf, Cond.code yX8_linkOf cX8_linkOf 4 (some .int), Cond.methodLink RX8 83 Lib.Math.min.name, Cond.static Lib.Math.min.name, Cond.initialized "java/lang/Math", Cond.code Lib.Math.min.name Lib.Math.min.code 2 (some .int), Cond.methodLink RX8 89 Lib.Math.max.name, Cond.static Lib.Math.max.name, Cond.code Lib.Math.max.name Lib.Math.max.code 2 (some .int), Cond.methodLink RX8 123 yX8_tell, Cond.instanceMethod yX8_tell, Cond.selects RX8 yX8_tell yX8_tell, Cond.code yX8_tell cX8_tell 6 none, Cond.fieldLink RX8 19 "VectorRoundsModel" "toWhom" "[I", Cond.fieldLink RX8 22 "VectorRoundsModel" "byWhom" "[I", Cond.fieldLink RX8 25 "VectorRoundsModel" "byCost" "[I", Cond.fieldLink RX8 28 "VectorRoundsModel" "ofWhom" "[I"]
def wsX8_worstCut_r3 : List Cond := [Cond.fieldLink RX8 31 "VectorRoundsModel" "metrics" "[I", Cond.fieldLink RX8 34 "VectorRoundsModel" "sequences" "[I", Cond.methodLink RX8 126 yX8_receive, Cond.instanceMethod yX8_receive, Cond.selects RX8 yX8_receive yX8_receive, Cond.code yX8_receive cX8_receive 7 none, Cond.methodLink RX8 117 yX8_entryOf, Cond.instanceMethod yX8_entryOf, Cond.selects RX8 yX8_entryOf yX8_entryOf, Cond.code yX8_entryOf cX8_entryOf 4 (some .int), Cond.methodLink RX8 79 yX8_know, Cond.instanceMethod yX8_know, Cond.selects RX8 yX8_know yX8_know, Cond.code yX8_know cX8_know 7 none, Cond.methodLink RX8 120 yX8_become, Cond.instanceMethod yX8_become, Cond.selects RX8 yX8_become yX8_become, Cond.code yX8_become cX8_become 4 none, Cond.methodLink RX8 155 yX8_wake, Cond.instanceMethod yX8_wake, Cond.selects RX8 yX8_wake yX8_wake, Cond.code yX8_wake cX8_wake 2 none]
def wsX8_worstCut : List Cond := .code yX8_worstCut cX8_worstCut 6 (some .int) :: ((wsX8_worstCut_r1 ++ (wsX8_worstCut_r2 ++ wsX8_worstCut_r3)) ++ wsX80)
def wsX8_told_r1 : List Cond := [Cond.methodLink RX8 161 yX8_settledNow, Cond.instanceMethod yX8_settledNow, Cond.selects RX8 yX8_settledNow yX8_settledNow, Cond.initialized RX8, Cond.code yX8_settledNow cX8_settledNow 2 (some .int), Cond.methodLink RX8 149 yX8_think, Cond.instanceMethod yX8_think, Cond.selects RX8 yX8_think yX8_think, Cond.code yX8_think cX8_think 2 none, Cond.fieldLink RX8 7 "VectorRoundsModel" "s" "[I", Cond.fieldLink RX8 13 "VectorRoundsModel" "thought" "[I", Cond.methodLink RX8 75 yX8_copy, Cond.static yX8_copy, Cond.code yX8_copy cX8_copy 3 none, Cond.methodLink RX8 152 yX8_settled, Cond.instanceMethod yX8_settled, Cond.selects RX8 yX8_settled yX8_settled, Cond.code yX8_settled cX8_settled 2 (some .int), Cond.methodLink RX8 129 yX8_goRound, Cond.instanceMethod yX8_goRound, Cond.selects RX8 yX8_goRound yX8_goRound, Cond.code yX8_goRound cX8_goRound 5 (some .int), Cond.fieldLink RX8 37 "VectorRoundsModel" "wasKnown" "[I", Cond.fieldLink RX8 40 "VectorRoundsModel" "was" "[I"]
def wsX8_told_r2 : List Cond := [Cond.fieldLink RX8 114 "VectorRoundsModel" "sent" "I", Cond.methodLink RX8 96 yX8_linkOf, Cond.instanceMethod yX8_linkOf, Cond.selects RX8 yX8_linkOf yX8_linkOf, Cond.code yX8_linkOf cX8_linkOf 4 (some .int), Cond.methodLink RX8 83 Lib.Math.min.name, Cond.static Lib.Math.min.name, Cond.initialized "java/lang/Math", Cond.code Lib.Math.min.name Lib.Math.min.code 2 (some .int), Cond.methodLink RX8 89 Lib.Math.max.name, Cond.static Lib.Math.max.name, Cond.code Lib.Math.max.name Lib.Math.max.code 2 (some .int), Cond.methodLink RX8 123 yX8_tell, Cond.instanceMethod yX8_tell, Cond.selects RX8 yX8_tell yX8_tell, Cond.code yX8_tell cX8_tell 6 none, Cond.fieldLink RX8 19 "VectorRoundsModel" "toWhom" "[I", Cond.fieldLink RX8 22 "VectorRoundsModel" "byWhom" "[I", Cond.fieldLink RX8 25 "VectorRoundsModel" "byCost" "[I", Cond.fieldLink RX8 28 "VectorRoundsModel" "ofWhom" "[I", Cond.fieldLink RX8 31 "VectorRoundsModel" "metrics" "[I", Cond.fieldLink RX8 34 "VectorRoundsModel" "sequences" "[I", Cond.methodLink RX8 126 yX8_receive, Cond.instanceMethod yX8_receive]
def wsX8_told_r3 : List Cond := [Cond.selects RX8 yX8_receive yX8_receive, Cond.code yX8_receive cX8_receive 7 none, Cond.methodLink RX8 117 yX8_entryOf, Cond.instanceMethod yX8_entryOf, Cond.selects RX8 yX8_entryOf yX8_entryOf, Cond.code yX8_entryOf cX8_entryOf 4 (some .int), Cond.methodLink RX8 79 yX8_know, Cond.instanceMethod yX8_know, Cond.selects RX8 yX8_know yX8_know, Cond.code yX8_know cX8_know 7 none, Cond.methodLink RX8 120 yX8_become, Cond.instanceMethod yX8_become, Cond.selects RX8 yX8_become yX8_become, Cond.code yX8_become cX8_become 4 none, Cond.methodLink RX8 155 yX8_wake, Cond.instanceMethod yX8_wake, Cond.selects RX8 yX8_wake yX8_wake, Cond.code yX8_wake cX8_wake 2 none, Cond.methodLink RX8 164 yX8_looped, Cond.instanceMethod yX8_looped, Cond.selects RX8 yX8_looped yX8_looped, Cond.code yX8_looped cX8_looped 3 (some .int), Cond.methodLink RX8 158 yX8_loops, Cond.instanceMethod yX8_loops]
def wsX8_told_r4 : List Cond := [Cond.selects RX8 yX8_loops yX8_loops, Cond.code yX8_loops cX8_loops 4 (some .int), Cond.methodLink RX8 142 yX8_goWay, Cond.instanceMethod yX8_goWay, Cond.selects RX8 yX8_goWay yX8_goWay, Cond.code yX8_goWay cX8_goWay 4 (some .int), Cond.fieldLink RX8 43 "VectorRoundsModel" "way" "[I", Cond.fieldLink RX8 133 "VectorRoundsModel" "steps" "I", Cond.methodLink RX8 136 yX8_nextOf, Cond.instanceMethod yX8_nextOf, Cond.selects RX8 yX8_nextOf yX8_nextOf, Cond.code yX8_nextOf cX8_nextOf 4 (some .int), Cond.methodLink RX8 139 yX8_isOnWay, Cond.instanceMethod yX8_isOnWay, Cond.selects RX8 yX8_isOnWay yX8_isOnWay, Cond.code yX8_isOnWay cX8_isOnWay 3 (some .boolean), Cond.methodLink RX8 167 yX8_right, Cond.instanceMethod yX8_right, Cond.selects RX8 yX8_right yX8_right, Cond.code yX8_right cX8_right 6 (some .int), Cond.methodLink RX8 145 yX8_shortestBut, Cond.instanceMethod yX8_shortestBut, Cond.selects RX8 yX8_shortestBut yX8_shortestBut, Cond.code yX8_shortestBut cX8_shortestBut 8 (some .int)]
def wsX8_told_r5 : List Cond := [Cond.fieldLink RX8 46 "VectorRoundsModel" "far" "[I", Cond.methodLink RX8 170 yX8_worstCut, Cond.instanceMethod yX8_worstCut, Cond.selects RX8 yX8_worstCut yX8_worstCut, Cond.code yX8_worstCut cX8_worstCut 6 (some .int), Cond.methodLink RX8 110 yX8_cut, Cond.instanceMethod yX8_cut, Cond.selects RX8 yX8_cut yX8_cut, Cond.code yX8_cut cX8_cut 2 none, Cond.methodLink RX8 103 yX8_lose, Cond.instanceMethod yX8_lose, Cond.selects RX8 yX8_lose yX8_lose, Cond.code yX8_lose cX8_lose 4 none, Cond.methodLink RX8 173 yX8_needed, Cond.instanceMethod yX8_needed, Cond.selects RX8 yX8_needed yX8_needed, Cond.code yX8_needed cX8_needed 3 (some .int)]
def wsX8_told : List Cond := .code yX8_told cX8_told 2 (some .int) :: ((wsX8_told_r1 ++ (wsX8_told_r2 ++ (wsX8_told_r3 ++ (wsX8_told_r4 ++ wsX8_told_r5)))) ++ wsX80)
def wsX8_then_r1 : List Cond := [Cond.fieldLink RX8 7 "VectorRoundsModel" "s" "[I", Cond.methodLink RX8 92 yX8_isRouter, Cond.instanceMethod yX8_isRouter, Cond.selects RX8 yX8_isRouter yX8_isRouter, Cond.initialized RX8, Cond.code yX8_isRouter cX8_isRouter 2 (some .boolean), Cond.methodLink RX8 71 yX8_in, Cond.static yX8_in, Cond.code yX8_in cX8_in 3 (some .boolean), Cond.methodLink RX8 149 yX8_think, Cond.instanceMethod yX8_think, Cond.selects RX8 yX8_think yX8_think, Cond.code yX8_think cX8_think 2 none, Cond.fieldLink RX8 13 "VectorRoundsModel" "thought" "[I", Cond.methodLink RX8 75 yX8_copy, Cond.static yX8_copy, Cond.code yX8_copy cX8_copy 3 none, Cond.methodLink RX8 129 yX8_goRound, Cond.instanceMethod yX8_goRound, Cond.selects RX8 yX8_goRound yX8_goRound, Cond.code yX8_goRound cX8_goRound 5 (some .int), Cond.fieldLink RX8 37 "VectorRoundsModel" "wasKnown" "[I", Cond.fieldLink RX8 40 "VectorRoundsModel" "was" "[I", Cond.fieldLink RX8 114 "VectorRoundsModel" "sent" "I"]
def wsX8_then_r2 : List Cond := [Cond.methodLink RX8 96 yX8_linkOf, Cond.instanceMethod yX8_linkOf, Cond.selects RX8 yX8_linkOf yX8_linkOf, Cond.code yX8_linkOf cX8_linkOf 4 (some .int), Cond.methodLink RX8 83 Lib.Math.min.name, Cond.static Lib.Math.min.name, Cond.initialized "java/lang/Math", Cond.code Lib.Math.min.name Lib.Math.min.code 2 (some .int), Cond.methodLink RX8 89 Lib.Math.max.name, Cond.static Lib.Math.max.name, Cond.code Lib.Math.max.name Lib.Math.max.code 2 (some .int), Cond.methodLink RX8 123 yX8_tell, Cond.instanceMethod yX8_tell, Cond.selects RX8 yX8_tell yX8_tell, Cond.code yX8_tell cX8_tell 6 none, Cond.fieldLink RX8 19 "VectorRoundsModel" "toWhom" "[I", Cond.fieldLink RX8 22 "VectorRoundsModel" "byWhom" "[I", Cond.fieldLink RX8 25 "VectorRoundsModel" "byCost" "[I", Cond.fieldLink RX8 28 "VectorRoundsModel" "ofWhom" "[I", Cond.fieldLink RX8 31 "VectorRoundsModel" "metrics" "[I", Cond.fieldLink RX8 34 "VectorRoundsModel" "sequences" "[I", Cond.methodLink RX8 126 yX8_receive, Cond.instanceMethod yX8_receive, Cond.selects RX8 yX8_receive yX8_receive]
def wsX8_then_r3 : List Cond := [Cond.code yX8_receive cX8_receive 7 none, Cond.methodLink RX8 117 yX8_entryOf, Cond.instanceMethod yX8_entryOf, Cond.selects RX8 yX8_entryOf yX8_entryOf, Cond.code yX8_entryOf cX8_entryOf 4 (some .int), Cond.methodLink RX8 79 yX8_know, Cond.instanceMethod yX8_know, Cond.selects RX8 yX8_know yX8_know, Cond.code yX8_know cX8_know 7 none, Cond.methodLink RX8 120 yX8_become, Cond.instanceMethod yX8_become, Cond.selects RX8 yX8_become yX8_become, Cond.code yX8_become cX8_become 4 none, Cond.methodLink RX8 158 yX8_loops, Cond.instanceMethod yX8_loops, Cond.selects RX8 yX8_loops yX8_loops, Cond.code yX8_loops cX8_loops 4 (some .int), Cond.methodLink RX8 142 yX8_goWay, Cond.instanceMethod yX8_goWay, Cond.selects RX8 yX8_goWay yX8_goWay, Cond.code yX8_goWay cX8_goWay 4 (some .int), Cond.fieldLink RX8 43 "VectorRoundsModel" "way" "[I", Cond.fieldLink RX8 133 "VectorRoundsModel" "steps" "I", Cond.methodLink RX8 136 yX8_nextOf]
def wsX8_then_r4 : List Cond := [Cond.instanceMethod yX8_nextOf, Cond.selects RX8 yX8_nextOf yX8_nextOf, Cond.code yX8_nextOf cX8_nextOf 4 (some .int), Cond.methodLink RX8 139 yX8_isOnWay, Cond.instanceMethod yX8_isOnWay, Cond.selects RX8 yX8_isOnWay yX8_isOnWay, Cond.code yX8_isOnWay cX8_isOnWay 3 (some .boolean), Cond.methodLink RX8 155 yX8_wake, Cond.instanceMethod yX8_wake, Cond.selects RX8 yX8_wake yX8_wake, Cond.code yX8_wake cX8_wake 2 none]
def wsX8_then : List Cond := .code yX8_then cX8_then 7 (some .int) :: ((wsX8_then_r1 ++ (wsX8_then_r2 ++ (wsX8_then_r3 ++ wsX8_then_r4))) ++ wsX80)
def wsX8_counts_r1 : List Cond := [Cond.fieldLink RX8 7 "VectorRoundsModel" "s" "[I", Cond.methodLink RX8 92 yX8_isRouter, Cond.instanceMethod yX8_isRouter, Cond.selects RX8 yX8_isRouter yX8_isRouter, Cond.initialized RX8, Cond.code yX8_isRouter cX8_isRouter 2 (some .boolean), Cond.methodLink RX8 71 yX8_in, Cond.static yX8_in, Cond.code yX8_in cX8_in 3 (some .boolean), Cond.methodLink RX8 149 yX8_think, Cond.instanceMethod yX8_think, Cond.selects RX8 yX8_think yX8_think, Cond.code yX8_think cX8_think 2 none, Cond.fieldLink RX8 13 "VectorRoundsModel" "thought" "[I", Cond.methodLink RX8 75 yX8_copy, Cond.static yX8_copy, Cond.code yX8_copy cX8_copy 3 none, Cond.methodLink RX8 117 yX8_entryOf, Cond.instanceMethod yX8_entryOf, Cond.selects RX8 yX8_entryOf yX8_entryOf, Cond.code yX8_entryOf cX8_entryOf 4 (some .int), Cond.methodLink RX8 129 yX8_goRound, Cond.instanceMethod yX8_goRound, Cond.selects RX8 yX8_goRound yX8_goRound]
def wsX8_counts_r2 : List Cond := [Cond.code yX8_goRound cX8_goRound 5 (some .int), Cond.fieldLink RX8 37 "VectorRoundsModel" "wasKnown" "[I", Cond.fieldLink RX8 40 "VectorRoundsModel" "was" "[I", Cond.fieldLink RX8 114 "VectorRoundsModel" "sent" "I", Cond.methodLink RX8 96 yX8_linkOf, Cond.instanceMethod yX8_linkOf, Cond.selects RX8 yX8_linkOf yX8_linkOf, Cond.code yX8_linkOf cX8_linkOf 4 (some .int), Cond.methodLink RX8 83 Lib.Math.min.name, Cond.static Lib.Math.min.name, Cond.initialized "java/lang/Math", Cond.code Lib.Math.min.name Lib.Math.min.code 2 (some .int), Cond.methodLink RX8 89 Lib.Math.max.name, Cond.static Lib.Math.max.name, Cond.code Lib.Math.max.name Lib.Math.max.code 2 (some .int), Cond.methodLink RX8 123 yX8_tell, Cond.instanceMethod yX8_tell, Cond.selects RX8 yX8_tell yX8_tell, Cond.code yX8_tell cX8_tell 6 none, Cond.fieldLink RX8 19 "VectorRoundsModel" "toWhom" "[I", Cond.fieldLink RX8 22 "VectorRoundsModel" "byWhom" "[I", Cond.fieldLink RX8 25 "VectorRoundsModel" "byCost" "[I", Cond.fieldLink RX8 28 "VectorRoundsModel" "ofWhom" "[I", Cond.fieldLink RX8 31 "VectorRoundsModel" "metrics" "[I"]
def wsX8_counts_r3 : List Cond := [Cond.fieldLink RX8 34 "VectorRoundsModel" "sequences" "[I", Cond.methodLink RX8 126 yX8_receive, Cond.instanceMethod yX8_receive, Cond.selects RX8 yX8_receive yX8_receive, Cond.code yX8_receive cX8_receive 7 none, Cond.methodLink RX8 79 yX8_know, Cond.instanceMethod yX8_know, Cond.selects RX8 yX8_know yX8_know, Cond.code yX8_know cX8_know 7 none, Cond.methodLink RX8 120 yX8_become, Cond.instanceMethod yX8_become, Cond.selects RX8 yX8_become yX8_become, Cond.code yX8_become cX8_become 4 none, Cond.methodLink RX8 155 yX8_wake, Cond.instanceMethod yX8_wake, Cond.selects RX8 yX8_wake yX8_wake, Cond.code yX8_wake cX8_wake 2 none]
def wsX8_counts : List Cond := .code yX8_counts cX8_counts 6 (some .int) :: ((wsX8_counts_r1 ++ (wsX8_counts_r2 ++ wsX8_counts_r3)) ++ wsX80)
def wsX8_packet_r1 : List Cond := [Cond.methodLink RX8 92 yX8_isRouter, Cond.instanceMethod yX8_isRouter, Cond.selects RX8 yX8_isRouter yX8_isRouter, Cond.initialized RX8, Cond.code yX8_isRouter cX8_isRouter 2 (some .boolean), Cond.fieldLink RX8 7 "VectorRoundsModel" "s" "[I", Cond.methodLink RX8 71 yX8_in, Cond.static yX8_in, Cond.code yX8_in cX8_in 3 (some .boolean), Cond.methodLink RX8 149 yX8_think, Cond.instanceMethod yX8_think, Cond.selects RX8 yX8_think yX8_think, Cond.code yX8_think cX8_think 2 none, Cond.fieldLink RX8 13 "VectorRoundsModel" "thought" "[I", Cond.methodLink RX8 75 yX8_copy, Cond.static yX8_copy, Cond.code yX8_copy cX8_copy 3 none, Cond.methodLink RX8 136 yX8_nextOf, Cond.instanceMethod yX8_nextOf, Cond.selects RX8 yX8_nextOf yX8_nextOf, Cond.code yX8_nextOf cX8_nextOf 4 (some .int), Cond.methodLink RX8 117 yX8_entryOf, Cond.instanceMethod yX8_entryOf, Cond.selects RX8 yX8_entryOf yX8_entryOf]
def wsX8_packet_r2 : List Cond := [Cond.code yX8_entryOf cX8_entryOf 4 (some .int), Cond.methodLink RX8 129 yX8_goRound, Cond.instanceMethod yX8_goRound, Cond.selects RX8 yX8_goRound yX8_goRound, Cond.code yX8_goRound cX8_goRound 5 (some .int), Cond.fieldLink RX8 37 "VectorRoundsModel" "wasKnown" "[I", Cond.fieldLink RX8 40 "VectorRoundsModel" "was" "[I", Cond.fieldLink RX8 114 "VectorRoundsModel" "sent" "I", Cond.methodLink RX8 96 yX8_linkOf, Cond.instanceMethod yX8_linkOf, Cond.selects RX8 yX8_linkOf yX8_linkOf, Cond.code yX8_linkOf cX8_linkOf 4 (some .int), Cond.methodLink RX8 83 Lib.Math.min.name, Cond.static Lib.Math.min.name, Cond.initialized "java/lang/Math", Cond.code Lib.Math.min.name Lib.Math.min.code 2 (some .int), Cond.methodLink RX8 89 Lib.Math.max.name, Cond.static Lib.Math.max.name, Cond.code Lib.Math.max.name Lib.Math.max.code 2 (some .int), Cond.methodLink RX8 123 yX8_tell, Cond.instanceMethod yX8_tell, Cond.selects RX8 yX8_tell yX8_tell, Cond.code yX8_tell cX8_tell 6 none, Cond.fieldLink RX8 19 "VectorRoundsModel" "toWhom" "[I"]
def wsX8_packet_r3 : List Cond := [Cond.fieldLink RX8 22 "VectorRoundsModel" "byWhom" "[I", Cond.fieldLink RX8 25 "VectorRoundsModel" "byCost" "[I", Cond.fieldLink RX8 28 "VectorRoundsModel" "ofWhom" "[I", Cond.fieldLink RX8 31 "VectorRoundsModel" "metrics" "[I", Cond.fieldLink RX8 34 "VectorRoundsModel" "sequences" "[I", Cond.methodLink RX8 126 yX8_receive, Cond.instanceMethod yX8_receive, Cond.selects RX8 yX8_receive yX8_receive, Cond.code yX8_receive cX8_receive 7 none, Cond.methodLink RX8 79 yX8_know, Cond.instanceMethod yX8_know, Cond.selects RX8 yX8_know yX8_know, Cond.code yX8_know cX8_know 7 none, Cond.methodLink RX8 120 yX8_become, Cond.instanceMethod yX8_become, Cond.selects RX8 yX8_become yX8_become, Cond.code yX8_become cX8_become 4 none, Cond.methodLink RX8 155 yX8_wake, Cond.instanceMethod yX8_wake, Cond.selects RX8 yX8_wake yX8_wake, Cond.code yX8_wake cX8_wake 2 none]
def wsX8_packet : List Cond := .code yX8_packet cX8_packet 7 (some .int) :: ((wsX8_packet_r1 ++ (wsX8_packet_r2 ++ wsX8_packet_r3)) ++ wsX80)
def wsX8_tried_r1 : List Cond := [Cond.fieldLink RX8 7 "VectorRoundsModel" "s" "[I", Cond.methodLink RX8 71 yX8_in, Cond.static yX8_in, Cond.initialized RX8, Cond.code yX8_in cX8_in 3 (some .boolean), Cond.methodLink RX8 149 yX8_think, Cond.instanceMethod yX8_think, Cond.selects RX8 yX8_think yX8_think, Cond.code yX8_think cX8_think 2 none, Cond.fieldLink RX8 13 "VectorRoundsModel" "thought" "[I", Cond.methodLink RX8 75 yX8_copy, Cond.static yX8_copy, Cond.code yX8_copy cX8_copy 3 none, Cond.methodLink RX8 152 yX8_settled, Cond.instanceMethod yX8_settled, Cond.selects RX8 yX8_settled yX8_settled, Cond.code yX8_settled cX8_settled 2 (some .int), Cond.methodLink RX8 129 yX8_goRound, Cond.instanceMethod yX8_goRound, Cond.selects RX8 yX8_goRound yX8_goRound, Cond.code yX8_goRound cX8_goRound 5 (some .int), Cond.fieldLink RX8 37 "VectorRoundsModel" "wasKnown" "[I", Cond.fieldLink RX8 40 "VectorRoundsModel" "was" "[I", Cond.fieldLink RX8 114 "VectorRoundsModel" "sent" "I"]
def wsX8_tried_r2 : List Cond := [Cond.methodLink RX8 96 yX8_linkOf, Cond.instanceMethod yX8_linkOf, Cond.selects RX8 yX8_linkOf yX8_linkOf, Cond.code yX8_linkOf cX8_linkOf 4 (some .int), Cond.methodLink RX8 83 Lib.Math.min.name, Cond.static Lib.Math.min.name, Cond.initialized "java/lang/Math", Cond.code Lib.Math.min.name Lib.Math.min.code 2 (some .int), Cond.methodLink RX8 89 Lib.Math.max.name, Cond.static Lib.Math.max.name, Cond.code Lib.Math.max.name Lib.Math.max.code 2 (some .int), Cond.methodLink RX8 123 yX8_tell, Cond.instanceMethod yX8_tell, Cond.selects RX8 yX8_tell yX8_tell, Cond.code yX8_tell cX8_tell 6 none, Cond.fieldLink RX8 19 "VectorRoundsModel" "toWhom" "[I", Cond.fieldLink RX8 22 "VectorRoundsModel" "byWhom" "[I", Cond.fieldLink RX8 25 "VectorRoundsModel" "byCost" "[I", Cond.fieldLink RX8 28 "VectorRoundsModel" "ofWhom" "[I", Cond.fieldLink RX8 31 "VectorRoundsModel" "metrics" "[I", Cond.fieldLink RX8 34 "VectorRoundsModel" "sequences" "[I", Cond.methodLink RX8 126 yX8_receive, Cond.instanceMethod yX8_receive, Cond.selects RX8 yX8_receive yX8_receive]
def wsX8_tried_r3 : List Cond := [Cond.code yX8_receive cX8_receive 7 none, Cond.methodLink RX8 117 yX8_entryOf, Cond.instanceMethod yX8_entryOf, Cond.selects RX8 yX8_entryOf yX8_entryOf, Cond.code yX8_entryOf cX8_entryOf 4 (some .int), Cond.methodLink RX8 79 yX8_know, Cond.instanceMethod yX8_know, Cond.selects RX8 yX8_know yX8_know, Cond.code yX8_know cX8_know 7 none, Cond.methodLink RX8 120 yX8_become, Cond.instanceMethod yX8_become, Cond.selects RX8 yX8_become yX8_become, Cond.code yX8_become cX8_become 4 none, Cond.methodLink RX8 155 yX8_wake, Cond.instanceMethod yX8_wake, Cond.selects RX8 yX8_wake yX8_wake, Cond.code yX8_wake cX8_wake 2 none]
def wsX8_tried : List Cond := .code yX8_tried cX8_tried 7 (some .int) :: ((wsX8_tried_r1 ++ (wsX8_tried_r2 ++ wsX8_tried_r3)) ++ wsX80)
def wsX8_drawn_r1 : List Cond := [Cond.fieldLink RX8 7 "VectorRoundsModel" "s" "[I", Cond.constant RX8 176 (1103515245), Cond.methodLink RX8 71 yX8_in, Cond.static yX8_in, Cond.initialized RX8, Cond.code yX8_in cX8_in 3 (some .boolean), Cond.methodLink RX8 96 yX8_linkOf, Cond.instanceMethod yX8_linkOf, Cond.selects RX8 yX8_linkOf yX8_linkOf, Cond.code yX8_linkOf cX8_linkOf 4 (some .int), Cond.methodLink RX8 83 Lib.Math.min.name, Cond.static Lib.Math.min.name, Cond.initialized "java/lang/Math", Cond.code Lib.Math.min.name Lib.Math.min.code 2 (some .int), Cond.methodLink RX8 89 Lib.Math.max.name, Cond.static Lib.Math.max.name, Cond.code Lib.Math.max.name Lib.Math.max.code 2 (some .int), Cond.methodLink RX8 99 yX8_addLink, Cond.instanceMethod yX8_addLink, Cond.selects RX8 yX8_addLink yX8_addLink, Cond.code yX8_addLink cX8_addLink 5 none, Cond.methodLink RX8 110 yX8_cut, Cond.instanceMethod yX8_cut, Cond.selects RX8 yX8_cut yX8_cut]
def wsX8_drawn_r2 : List Cond := [Cond.code yX8_cut cX8_cut 2 none, Cond.methodLink RX8 103 yX8_lose, Cond.instanceMethod yX8_lose, Cond.selects RX8 yX8_lose yX8_lose, Cond.code yX8_lose cX8_lose 4 none]
def wsX8_drawn : List Cond := .code yX8_drawn cX8_drawn 9 (some .int) :: ((wsX8_drawn_r1 ++ wsX8_drawn_r2) ++ wsX80)
def wsX8_feed : List Cond := .code yX8_feed cX8_feed 2 (some .int) :: ([.fieldLink RX8 177 "VectorRoundsModel" "taped" "I", .fieldLink RX8 49 "VectorRoundsModel" "tape" "[I", .methodLink RX8 71 yX8_in, .static yX8_in, .initialized RX8, .code yX8_in cX8_in 3 (some .boolean)] ++ wsX80)
def wsX8_here : List Cond := .code yX8_here cX8_here 1 (some .int) :: ([.fieldLink RX8 180 "VectorRoundsModel" "at" "I", .fieldLink RX8 177 "VectorRoundsModel" "taped" "I", .fieldLink RX8 49 "VectorRoundsModel" "tape" "[I"] ++ wsX80)
def wsX8_numbersOf : List Cond := .code yX8_numbersOf cX8_numbersOf 1 (some .int) :: ([])
def wsX8_readNumber : List Cond := .code yX8_readNumber cX8_readNumber 5 none :: ([.fieldLink RX8 180 "VectorRoundsModel" "at" "I", .fieldLink RX8 186 "VectorRoundsModel" "fault" "I", .fieldLink RX8 55 "VectorRoundsModel" "lineNumber" "[I", .methodLink RX8 183 yX8_here, .instanceMethod yX8_here, .selects RX8 yX8_here yX8_here, .initialized RX8, .code yX8_here cX8_here 1 (some .int), .fieldLink RX8 177 "VectorRoundsModel" "taped" "I", .fieldLink RX8 49 "VectorRoundsModel" "tape" "[I", .methodLink RX8 71 yX8_in, .static yX8_in, .code yX8_in cX8_in 3 (some .boolean)] ++ wsX80)
def wsX8_readLine : List Cond := .code yX8_readLine cX8_readLine 4 none :: ([.fieldLink RX8 180 "VectorRoundsModel" "at" "I", .fieldLink RX8 186 "VectorRoundsModel" "fault" "I", .fieldLink RX8 52 "VectorRoundsModel" "lineKind" "[I", .methodLink RX8 183 yX8_here, .instanceMethod yX8_here, .selects RX8 yX8_here yX8_here, .initialized RX8, .code yX8_here cX8_here 1 (some .int), .fieldLink RX8 177 "VectorRoundsModel" "taped" "I", .fieldLink RX8 49 "VectorRoundsModel" "tape" "[I", .methodLink RX8 189 yX8_numbersOf, .static yX8_numbersOf, .code yX8_numbersOf cX8_numbersOf 1 (some .int), .methodLink RX8 193 yX8_readNumber, .instanceMethod yX8_readNumber, .selects RX8 yX8_readNumber yX8_readNumber, .code yX8_readNumber cX8_readNumber 5 none, .fieldLink RX8 55 "VectorRoundsModel" "lineNumber" "[I", .methodLink RX8 71 yX8_in, .static yX8_in, .code yX8_in cX8_in 3 (some .boolean)] ++ wsX80)
def wsX8_doLine_r1 : List Cond := [Cond.fieldLink RX8 55 "VectorRoundsModel" "lineNumber" "[I", Cond.fieldLink RX8 52 "VectorRoundsModel" "lineKind" "[I", Cond.methodLink RX8 196 yX8_router, Cond.instanceMethod yX8_router, Cond.selects RX8 yX8_router yX8_router, Cond.initialized RX8, Cond.code yX8_router cX8_router 2 (some .int), Cond.fieldLink RX8 7 "VectorRoundsModel" "s" "[I", Cond.methodLink RX8 79 yX8_know, Cond.instanceMethod yX8_know, Cond.selects RX8 yX8_know yX8_know, Cond.code yX8_know cX8_know 7 none, Cond.methodLink RX8 199 yX8_link, Cond.instanceMethod yX8_link, Cond.selects RX8 yX8_link yX8_link, Cond.code yX8_link cX8_link 4 (some .int), Cond.methodLink RX8 92 yX8_isRouter, Cond.instanceMethod yX8_isRouter, Cond.selects RX8 yX8_isRouter yX8_isRouter, Cond.code yX8_isRouter cX8_isRouter 2 (some .boolean), Cond.methodLink RX8 71 yX8_in, Cond.static yX8_in, Cond.code yX8_in cX8_in 3 (some .boolean), Cond.methodLink RX8 96 yX8_linkOf]
def wsX8_doLine_r2 : List Cond := [Cond.instanceMethod yX8_linkOf, Cond.selects RX8 yX8_linkOf yX8_linkOf, Cond.code yX8_linkOf cX8_linkOf 4 (some .int), Cond.methodLink RX8 83 Lib.Math.min.name, Cond.static Lib.Math.min.name, Cond.initialized "java/lang/Math", Cond.code Lib.Math.min.name Lib.Math.min.code 2 (some .int), Cond.methodLink RX8 89 Lib.Math.max.name, Cond.static Lib.Math.max.name, Cond.code Lib.Math.max.name Lib.Math.max.code 2 (some .int), Cond.methodLink RX8 99 yX8_addLink, Cond.instanceMethod yX8_addLink, Cond.selects RX8 yX8_addLink yX8_addLink, Cond.code yX8_addLink cX8_addLink 5 none, Cond.methodLink RX8 202 yX8_turn, Cond.instanceMethod yX8_turn, Cond.selects RX8 yX8_turn yX8_turn, Cond.code yX8_turn cX8_turn 3 (some .int), Cond.methodLink RX8 107 yX8_isLink, Cond.instanceMethod yX8_isLink, Cond.selects RX8 yX8_isLink yX8_isLink, Cond.code yX8_isLink cX8_isLink 2 (some .boolean), Cond.methodLink RX8 110 yX8_cut, Cond.instanceMethod yX8_cut]
def wsX8_doLine_r3 : List Cond := [Cond.selects RX8 yX8_cut yX8_cut, Cond.code yX8_cut cX8_cut 2 none, Cond.methodLink RX8 103 yX8_lose, Cond.instanceMethod yX8_lose, Cond.selects RX8 yX8_lose yX8_lose, Cond.code yX8_lose cX8_lose 4 none, Cond.methodLink RX8 205 yX8_cost, Cond.instanceMethod yX8_cost, Cond.selects RX8 yX8_cost yX8_cost, Cond.code yX8_cost cX8_cost 4 (some .int), Cond.methodLink RX8 208 yX8_rule, Cond.instanceMethod yX8_rule, Cond.selects RX8 yX8_rule yX8_rule, Cond.code yX8_rule cX8_rule 4 (some .int), Cond.methodLink RX8 211 yX8_rounds, Cond.instanceMethod yX8_rounds, Cond.selects RX8 yX8_rounds yX8_rounds, Cond.code yX8_rounds cX8_rounds 4 (some .int), Cond.methodLink RX8 129 yX8_goRound, Cond.instanceMethod yX8_goRound, Cond.selects RX8 yX8_goRound yX8_goRound, Cond.code yX8_goRound cX8_goRound 5 (some .int), Cond.fieldLink RX8 37 "VectorRoundsModel" "wasKnown" "[I", Cond.fieldLink RX8 40 "VectorRoundsModel" "was" "[I"]
def wsX8_doLine_r4 : List Cond := [Cond.fieldLink RX8 114 "VectorRoundsModel" "sent" "I", Cond.methodLink RX8 123 yX8_tell, Cond.instanceMethod yX8_tell, Cond.selects RX8 yX8_tell yX8_tell, Cond.code yX8_tell cX8_tell 6 none, Cond.fieldLink RX8 19 "VectorRoundsModel" "toWhom" "[I", Cond.fieldLink RX8 22 "VectorRoundsModel" "byWhom" "[I", Cond.fieldLink RX8 25 "VectorRoundsModel" "byCost" "[I", Cond.fieldLink RX8 28 "VectorRoundsModel" "ofWhom" "[I", Cond.fieldLink RX8 31 "VectorRoundsModel" "metrics" "[I", Cond.fieldLink RX8 34 "VectorRoundsModel" "sequences" "[I", Cond.methodLink RX8 126 yX8_receive, Cond.instanceMethod yX8_receive, Cond.selects RX8 yX8_receive yX8_receive, Cond.code yX8_receive cX8_receive 7 none, Cond.methodLink RX8 117 yX8_entryOf, Cond.instanceMethod yX8_entryOf, Cond.selects RX8 yX8_entryOf yX8_entryOf, Cond.code yX8_entryOf cX8_entryOf 4 (some .int), Cond.methodLink RX8 120 yX8_become, Cond.instanceMethod yX8_become, Cond.selects RX8 yX8_become yX8_become, Cond.code yX8_become cX8_become 4 none]
def wsX8_doLine : List Cond := .code yX8_doLine cX8_doLine 4 (some .int) :: ((wsX8_doLine_r1 ++ (wsX8_doLine_r2 ++ (wsX8_doLine_r3 ++ wsX8_doLine_r4))) ++ wsX80)
def wsX8_script_r1 : List Cond := [Cond.fieldLink RX8 180 "VectorRoundsModel" "at" "I", Cond.fieldLink RX8 186 "VectorRoundsModel" "fault" "I", Cond.fieldLink RX8 177 "VectorRoundsModel" "taped" "I", Cond.fieldLink RX8 7 "VectorRoundsModel" "s" "[I", Cond.fieldLink RX8 16 "VectorRoundsModel" "aside" "[I", Cond.methodLink RX8 214 yX8_readLine, Cond.instanceMethod yX8_readLine, Cond.selects RX8 yX8_readLine yX8_readLine, Cond.initialized RX8, Cond.code yX8_readLine cX8_readLine 4 none, Cond.fieldLink RX8 52 "VectorRoundsModel" "lineKind" "[I", Cond.methodLink RX8 183 yX8_here, Cond.instanceMethod yX8_here, Cond.selects RX8 yX8_here yX8_here, Cond.code yX8_here cX8_here 1 (some .int), Cond.fieldLink RX8 49 "VectorRoundsModel" "tape" "[I", Cond.methodLink RX8 189 yX8_numbersOf, Cond.static yX8_numbersOf, Cond.code yX8_numbersOf cX8_numbersOf 1 (some .int), Cond.methodLink RX8 193 yX8_readNumber, Cond.instanceMethod yX8_readNumber, Cond.selects RX8 yX8_readNumber yX8_readNumber, Cond.code yX8_readNumber cX8_readNumber 5 none, Cond.fieldLink RX8 55 "VectorRoundsModel" "lineNumber" "[I"]
def wsX8_script_r2 : List Cond := [Cond.methodLink RX8 71 yX8_in, Cond.static yX8_in, Cond.code yX8_in cX8_in 3 (some .boolean), Cond.methodLink RX8 75 yX8_copy, Cond.static yX8_copy, Cond.code yX8_copy cX8_copy 3 none, Cond.methodLink RX8 217 yX8_doLine, Cond.instanceMethod yX8_doLine, Cond.selects RX8 yX8_doLine yX8_doLine, Cond.code yX8_doLine cX8_doLine 4 (some .int), Cond.methodLink RX8 196 yX8_router, Cond.instanceMethod yX8_router, Cond.selects RX8 yX8_router yX8_router, Cond.code yX8_router cX8_router 2 (some .int), Cond.methodLink RX8 79 yX8_know, Cond.instanceMethod yX8_know, Cond.selects RX8 yX8_know yX8_know, Cond.code yX8_know cX8_know 7 none, Cond.methodLink RX8 199 yX8_link, Cond.instanceMethod yX8_link, Cond.selects RX8 yX8_link yX8_link, Cond.code yX8_link cX8_link 4 (some .int), Cond.methodLink RX8 92 yX8_isRouter, Cond.instanceMethod yX8_isRouter]
def wsX8_script_r3 : List Cond := [Cond.selects RX8 yX8_isRouter yX8_isRouter, Cond.code yX8_isRouter cX8_isRouter 2 (some .boolean), Cond.methodLink RX8 96 yX8_linkOf, Cond.instanceMethod yX8_linkOf, Cond.selects RX8 yX8_linkOf yX8_linkOf, Cond.code yX8_linkOf cX8_linkOf 4 (some .int), Cond.methodLink RX8 83 Lib.Math.min.name, Cond.static Lib.Math.min.name, Cond.initialized "java/lang/Math", Cond.code Lib.Math.min.name Lib.Math.min.code 2 (some .int), Cond.methodLink RX8 89 Lib.Math.max.name, Cond.static Lib.Math.max.name, Cond.code Lib.Math.max.name Lib.Math.max.code 2 (some .int), Cond.methodLink RX8 99 yX8_addLink, Cond.instanceMethod yX8_addLink, Cond.selects RX8 yX8_addLink yX8_addLink, Cond.code yX8_addLink cX8_addLink 5 none, Cond.methodLink RX8 202 yX8_turn, Cond.instanceMethod yX8_turn, Cond.selects RX8 yX8_turn yX8_turn, Cond.code yX8_turn cX8_turn 3 (some .int), Cond.methodLink RX8 107 yX8_isLink, Cond.instanceMethod yX8_isLink, Cond.selects RX8 yX8_isLink yX8_isLink]
def wsX8_script_r4 : List Cond := [Cond.code yX8_isLink cX8_isLink 2 (some .boolean), Cond.methodLink RX8 110 yX8_cut, Cond.instanceMethod yX8_cut, Cond.selects RX8 yX8_cut yX8_cut, Cond.code yX8_cut cX8_cut 2 none, Cond.methodLink RX8 103 yX8_lose, Cond.instanceMethod yX8_lose, Cond.selects RX8 yX8_lose yX8_lose, Cond.code yX8_lose cX8_lose 4 none, Cond.methodLink RX8 205 yX8_cost, Cond.instanceMethod yX8_cost, Cond.selects RX8 yX8_cost yX8_cost, Cond.code yX8_cost cX8_cost 4 (some .int), Cond.methodLink RX8 208 yX8_rule, Cond.instanceMethod yX8_rule, Cond.selects RX8 yX8_rule yX8_rule, Cond.code yX8_rule cX8_rule 4 (some .int), Cond.methodLink RX8 211 yX8_rounds, Cond.instanceMethod yX8_rounds, Cond.selects RX8 yX8_rounds yX8_rounds, Cond.code yX8_rounds cX8_rounds 4 (some .int), Cond.methodLink RX8 129 yX8_goRound, Cond.instanceMethod yX8_goRound, Cond.selects RX8 yX8_goRound yX8_goRound]
def wsX8_script_r5 : List Cond := [Cond.code yX8_goRound cX8_goRound 5 (some .int), Cond.fieldLink RX8 37 "VectorRoundsModel" "wasKnown" "[I", Cond.fieldLink RX8 40 "VectorRoundsModel" "was" "[I", Cond.fieldLink RX8 114 "VectorRoundsModel" "sent" "I", Cond.methodLink RX8 123 yX8_tell, Cond.instanceMethod yX8_tell, Cond.selects RX8 yX8_tell yX8_tell, Cond.code yX8_tell cX8_tell 6 none, Cond.fieldLink RX8 19 "VectorRoundsModel" "toWhom" "[I", Cond.fieldLink RX8 22 "VectorRoundsModel" "byWhom" "[I", Cond.fieldLink RX8 25 "VectorRoundsModel" "byCost" "[I", Cond.fieldLink RX8 28 "VectorRoundsModel" "ofWhom" "[I", Cond.fieldLink RX8 31 "VectorRoundsModel" "metrics" "[I", Cond.fieldLink RX8 34 "VectorRoundsModel" "sequences" "[I", Cond.methodLink RX8 126 yX8_receive, Cond.instanceMethod yX8_receive, Cond.selects RX8 yX8_receive yX8_receive, Cond.code yX8_receive cX8_receive 7 none, Cond.methodLink RX8 117 yX8_entryOf, Cond.instanceMethod yX8_entryOf, Cond.selects RX8 yX8_entryOf yX8_entryOf, Cond.code yX8_entryOf cX8_entryOf 4 (some .int), Cond.methodLink RX8 120 yX8_become, Cond.instanceMethod yX8_become]
def wsX8_script_r6 : List Cond := [Cond.selects RX8 yX8_become yX8_become, Cond.code yX8_become cX8_become 4 none]
def wsX8_script : List Cond := .code yX8_script cX8_script 3 (some .int) :: ((wsX8_script_r1 ++ (wsX8_script_r2 ++ (wsX8_script_r3 ++ (wsX8_script_r4 ++ (wsX8_script_r5 ++ wsX8_script_r6))))) ++ wsX80)
def wsX8_image : List Cond := .code yX8_image cX8_image 1 (some .int) :: ([.fieldLink RX8 220 "VectorRoundsModel" "hasImage" "Z", .fieldLink RX8 7 "VectorRoundsModel" "s" "[I", .fieldLink RX8 58 "VectorRoundsModel" "kept" "[I", .methodLink RX8 75 yX8_copy, .static yX8_copy, .initialized RX8, .code yX8_copy cX8_copy 3 none] ++ wsX80)
def wsX8_back : List Cond := .code yX8_back cX8_back 1 (some .int) :: ([.fieldLink RX8 220 "VectorRoundsModel" "hasImage" "Z", .fieldLink RX8 58 "VectorRoundsModel" "kept" "[I", .fieldLink RX8 7 "VectorRoundsModel" "s" "[I", .methodLink RX8 75 yX8_copy, .static yX8_copy, .initialized RX8, .code yX8_copy cX8_copy 3 none] ++ wsX80)
def wsX8_isHolder : List Cond := .code yX8_isHolder cX8_isHolder 1 (some .boolean) :: ([.methodLink RX8 71 yX8_in, .static yX8_in, .initialized RX8, .code yX8_in cX8_in 3 (some .boolean)])
def wsX8_hold : List Cond := .code yX8_hold cX8_hold 6 (some .int) :: ([.fieldLink RX8 61 "VectorRoundsModel" "holds" "[I", .fieldLink RX8 64 "VectorRoundsModel" "element" "[I", .fieldLink RX8 7 "VectorRoundsModel" "s" "[I", .methodLink RX8 224 yX8_isHolder, .static yX8_isHolder, .initialized RX8, .code yX8_isHolder cX8_isHolder 1 (some .boolean), .methodLink RX8 71 yX8_in, .static yX8_in, .code yX8_in cX8_in 3 (some .boolean), .methodLink RX8 92 yX8_isRouter, .instanceMethod yX8_isRouter, .selects RX8 yX8_isRouter yX8_isRouter, .code yX8_isRouter cX8_isRouter 2 (some .boolean), .methodLink RX8 117 yX8_entryOf, .instanceMethod yX8_entryOf, .selects RX8 yX8_entryOf yX8_entryOf, .code yX8_entryOf cX8_entryOf 4 (some .int)] ++ wsX80)
def wsX8_row : List Cond := .code yX8_row cX8_row 4 (some .int) :: ([.fieldLink RX8 61 "VectorRoundsModel" "holds" "[I", .fieldLink RX8 64 "VectorRoundsModel" "element" "[I", .methodLink RX8 224 yX8_isHolder, .static yX8_isHolder, .initialized RX8, .code yX8_isHolder cX8_isHolder 1 (some .boolean), .methodLink RX8 71 yX8_in, .static yX8_in, .code yX8_in cX8_in 3 (some .boolean)] ++ wsX80)
def wsX8_put : List Cond := .code yX8_put cX8_put 5 (some .int) :: ([.fieldLink RX8 61 "VectorRoundsModel" "holds" "[I", .constant RX8 227 (-2000000000), .fieldLink RX8 64 "VectorRoundsModel" "element" "[I", .methodLink RX8 224 yX8_isHolder, .static yX8_isHolder, .initialized RX8, .code yX8_isHolder cX8_isHolder 1 (some .boolean), .methodLink RX8 71 yX8_in, .static yX8_in, .code yX8_in cX8_in 3 (some .boolean)] ++ wsX80)
def wsX8_tells : List Cond := .code yX8_tells cX8_tells 6 (some .int) :: ([.fieldLink RX8 61 "VectorRoundsModel" "holds" "[I", .fieldLink RX8 64 "VectorRoundsModel" "element" "[I", .methodLink RX8 224 yX8_isHolder, .static yX8_isHolder, .initialized RX8, .code yX8_isHolder cX8_isHolder 1 (some .boolean), .methodLink RX8 71 yX8_in, .static yX8_in, .code yX8_in cX8_in 3 (some .boolean)] ++ wsX80)
def wsX8_judge : List Cond := .code yX8_judge cX8_judge 8 (some .int) :: ([.fieldLink RX8 61 "VectorRoundsModel" "holds" "[I", .fieldLink RX8 7 "VectorRoundsModel" "s" "[I", .fieldLink RX8 64 "VectorRoundsModel" "element" "[I", .methodLink RX8 224 yX8_isHolder, .static yX8_isHolder, .initialized RX8, .code yX8_isHolder cX8_isHolder 1 (some .boolean), .methodLink RX8 71 yX8_in, .static yX8_in, .code yX8_in cX8_in 3 (some .boolean), .methodLink RX8 92 yX8_isRouter, .instanceMethod yX8_isRouter, .selects RX8 yX8_isRouter yX8_isRouter, .code yX8_isRouter cX8_isRouter 2 (some .boolean), .methodLink RX8 117 yX8_entryOf, .instanceMethod yX8_entryOf, .selects RX8 yX8_entryOf yX8_entryOf, .code yX8_entryOf cX8_entryOf 4 (some .int)] ++ wsX80)
def wsX8_count : List Cond := .code yX8_count cX8_count 5 (some .int) :: ([.fieldLink RX8 7 "VectorRoundsModel" "s" "[I", .fieldLink RX8 177 "VectorRoundsModel" "taped" "I", .fieldLink RX8 61 "VectorRoundsModel" "holds" "[I"] ++ wsX80)
def wsJ9_max_7cf53 : List Cond := .code yJ9_max_7cf53 cJ9_max_7cf53 2 (some .int) :: ([])
def wsJ9_min_7cf53 : List Cond := .code yJ9_min_7cf53 cJ9_min_7cf53 2 (some .int) :: ([])
def wsL_law_r1 : List Cond := [Cond.classLink RL 7 RX7, Cond.instantiable RX7 9, Cond.initialized RX7, Cond.classLink RL 10 RX8, Cond.instantiable RX8 26, Cond.initialized RX8, Cond.methodLink RL 9 yX7_init, Cond.instanceMethod yX7_init, Cond.code yX7_init cX7_init 2 none, Cond.methodLink RX7 3 objectInit, Cond.instanceMethod objectInit, Cond.code objectInit ⟨#[0xb1]⟩ 1 none, Cond.classLink RX7 9 RX3, Cond.instantiable RX3 9, Cond.initialized RX3, Cond.fieldLink RX7 12 "VectorRounds" "now" "LVectorRounds$Network;", Cond.fieldLink RX7 16 "VectorRounds" "thought" "LVectorRounds$Network;", Cond.fieldLink RX7 19 "VectorRounds" "kept" "LVectorRounds$Network;", Cond.fieldLink RX7 22 "VectorRounds" "ahead" "LVectorRounds$Network;", Cond.classLink RX7 25 RX6, Cond.instantiable RX6 3, Cond.initialized RX6, Cond.fieldLink RX7 28 "VectorRounds" "path" "LVectorRounds$Way;", Cond.classLink RX7 32 RX0]
def wsL_law_r2 : List Cond := [Cond.instantiable RX0 1, Cond.initialized RX0, Cond.fieldLink RX7 35 "VectorRounds" "least" "LVectorRounds$Distances;", Cond.classLink RX7 39 RX5, Cond.instantiable RX5 6, Cond.initialized RX5, Cond.fieldLink RX7 42 "VectorRounds" "tape" "LVectorRounds$Tape;", Cond.classLink RX7 46 RX1, Cond.fieldLink RX7 48 "VectorRounds" "holders" "[LVectorRounds$Holder;", Cond.instantiable RX1 8, Cond.initialized RX1, Cond.instanceMethod yX3_init, Cond.code yX3_init cX3_init 1 none, Cond.methodLink RX3 3 objectInit, Cond.classLink RX3 9 RX4, Cond.instantiable RX4 6, Cond.initialized RX4, Cond.fieldLink RX3 12 "VectorRounds$Network" "tables" "LVectorRounds$Tables;", Cond.fieldLink RX3 18 "VectorRounds$Network" "before" "LVectorRounds$Tables;", Cond.classLink RX3 21 RX2, Cond.instantiable RX2 6, Cond.initialized RX2, Cond.fieldLink RX3 24 "VectorRounds$Network" "links" "LVectorRounds$Links;", Cond.methodLink RX3 11 yX4_init]
def wsL_law_r3 : List Cond := [Cond.instanceMethod yX4_init, Cond.code yX4_init cX4_init 1 none, Cond.methodLink RX4 3 objectInit, Cond.arrayClass .int, Cond.fieldLink RX4 9 "VectorRounds$Tables" "metric" "[I", Cond.fieldLink RX4 15 "VectorRounds$Tables" "via" "[I", Cond.fieldLink RX4 18 "VectorRounds$Tables" "sequence" "[I", Cond.fieldLink RX4 21 "VectorRounds$Tables" "held" "[I", Cond.fieldLink RX4 24 "VectorRounds$Tables" "order" "[I", Cond.fieldLink RX4 27 "VectorRounds$Tables" "size" "[I", Cond.methodLink RX4 30 yJ7_fill_53178, Cond.static yJ7_fill_53178, Cond.initialized RJ7, Cond.code yJ7_fill_53178 cJ7_fill_53178 4 none, Cond.instanceMethod yX2_init, Cond.code yX2_init cX2_init 1 none, Cond.methodLink RX2 3 objectInit, Cond.fieldLink RX2 9 "VectorRounds$Links" "lesser" "[I", Cond.fieldLink RX2 15 "VectorRounds$Links" "greater" "[I", Cond.fieldLink RX2 18 "VectorRounds$Links" "price" "[I", Cond.fieldLink RX2 21 "VectorRounds$Links" "up" "[I", Cond.fieldLink RX2 24 "VectorRounds$Links" "joint" "[I", Cond.instanceMethod yX6_init, Cond.code yX6_init cX6_init 1 none]
def wsL_law_r4 : List Cond := [Cond.methodLink RX6 3 objectInit, Cond.fieldLink RX6 9 "VectorRounds$Way" "stops" "[I", Cond.instanceMethod yX0_init, Cond.code yX0_init cX0_init 1 none, Cond.methodLink RX0 3 objectInit, Cond.fieldLink RX0 9 "VectorRounds$Distances" "to" "[I", Cond.instanceMethod yX5_init, Cond.code yX5_init cX5_init 1 none, Cond.methodLink RX5 3 objectInit, Cond.fieldLink RX5 9 "VectorRounds$Tape" "bytes" "[I", Cond.fieldLink RX5 15 "VectorRounds$Tape" "letters" "[I", Cond.fieldLink RX5 18 "VectorRounds$Tape" "numbers" "[I", Cond.instanceMethod yX1_init, Cond.code yX1_init cX1_init 1 none, Cond.methodLink RX1 3 objectInit, Cond.fieldLink RX1 9 "VectorRounds$Holder" "items" "[I", Cond.methodLink RL 12 yX8_init, Cond.instanceMethod yX8_init, Cond.code yX8_init cX8_init 1 none, Cond.methodLink RX8 1 objectInit, Cond.fieldLink RX8 7 "VectorRoundsModel" "s" "[I", Cond.fieldLink RX8 13 "VectorRoundsModel" "thought" "[I", Cond.fieldLink RX8 16 "VectorRoundsModel" "aside" "[I", Cond.fieldLink RX8 19 "VectorRoundsModel" "toWhom" "[I"]
def wsL_law_r5 : List Cond := [Cond.fieldLink RX8 22 "VectorRoundsModel" "byWhom" "[I", Cond.fieldLink RX8 25 "VectorRoundsModel" "byCost" "[I", Cond.fieldLink RX8 28 "VectorRoundsModel" "ofWhom" "[I", Cond.fieldLink RX8 31 "VectorRoundsModel" "metrics" "[I", Cond.fieldLink RX8 34 "VectorRoundsModel" "sequences" "[I", Cond.fieldLink RX8 37 "VectorRoundsModel" "wasKnown" "[I", Cond.fieldLink RX8 40 "VectorRoundsModel" "was" "[I", Cond.fieldLink RX8 43 "VectorRoundsModel" "way" "[I", Cond.fieldLink RX8 46 "VectorRoundsModel" "far" "[I", Cond.fieldLink RX8 49 "VectorRoundsModel" "tape" "[I", Cond.fieldLink RX8 52 "VectorRoundsModel" "lineKind" "[I", Cond.fieldLink RX8 55 "VectorRoundsModel" "lineNumber" "[I", Cond.fieldLink RX8 58 "VectorRoundsModel" "kept" "[I", Cond.fieldLink RX8 61 "VectorRoundsModel" "holds" "[I", Cond.fieldLink RX8 64 "VectorRoundsModel" "element" "[I", Cond.methodLink RL 13 yX7_router, Cond.instanceMethod yX7_router, Cond.selects RX7 yX7_router yX7_router, Cond.code yX7_router cX7_router 1 (some .int), Cond.fieldLink RX7 53 "VectorRounds$Network" "routers" "I", Cond.methodLink RX7 57 yX3_addRouter, Cond.instanceMethod yX3_addRouter, Cond.selects RX3 yX3_addRouter yX3_addRouter, Cond.code yX3_addRouter cX3_addRouter 2 (some .int)]
def wsL_law_r6 : List Cond := [Cond.fieldLink RX3 35 "VectorRounds$Network" "routers" "I", Cond.methodLink RX3 54 yX4_enter, Cond.instanceMethod yX4_enter, Cond.selects RX4 yX4_enter yX4_enter, Cond.code yX4_enter cX4_enter 7 none, Cond.methodLink RL 17 yX8_router, Cond.instanceMethod yX8_router, Cond.selects RX8 yX8_router yX8_router, Cond.code yX8_router cX8_router 2 (some .int), Cond.methodLink RX8 79 yX8_know, Cond.instanceMethod yX8_know, Cond.selects RX8 yX8_know yX8_know, Cond.code yX8_know cX8_know 7 none, Cond.methodLink RL 18 yX7_link, Cond.instanceMethod yX7_link, Cond.selects RX7 yX7_link yX7_link, Cond.code yX7_link cX7_link 4 (some .int), Cond.fieldLink RX7 65 "VectorRounds$Network" "links" "LVectorRounds$Links;", Cond.fieldLink RX7 75 "VectorRounds$Links" "size" "I", Cond.methodLink RX7 61 yX7_noRouter, Cond.instanceMethod yX7_noRouter, Cond.selects RX7 yX7_noRouter yX7_noRouter, Cond.code yX7_noRouter cX7_noRouter 2 (some .boolean), Cond.methodLink RX7 69 yX2_joining]
def wsL_law_r7 : List Cond := [Cond.instanceMethod yX2_joining, Cond.selects RX2 yX2_joining yX2_joining, Cond.code yX2_joining cX2_joining 3 (some .int), Cond.methodLink RX7 78 yX2_add, Cond.instanceMethod yX2_add, Cond.selects RX2 yX2_add yX2_add, Cond.code yX2_add cX2_add 5 (some .int), Cond.fieldLink RX2 33 "VectorRounds$Links" "size" "I", Cond.methodLink RX2 37 Lib.Math.min.name, Cond.static Lib.Math.min.name, Cond.initialized "java/lang/Math", Cond.code Lib.Math.min.name Lib.Math.min.code 2 (some .int), Cond.methodLink RX2 43 Lib.Math.max.name, Cond.static Lib.Math.max.name, Cond.code Lib.Math.max.name Lib.Math.max.code 2 (some .int), Cond.methodLink RL 22 yX8_link, Cond.instanceMethod yX8_link, Cond.selects RX8 yX8_link yX8_link, Cond.code yX8_link cX8_link 4 (some .int), Cond.methodLink RX8 92 yX8_isRouter, Cond.instanceMethod yX8_isRouter, Cond.selects RX8 yX8_isRouter yX8_isRouter, Cond.code yX8_isRouter cX8_isRouter 2 (some .boolean), Cond.methodLink RX8 71 yX8_in]
def wsL_law_r8 : List Cond := [Cond.static yX8_in, Cond.code yX8_in cX8_in 3 (some .boolean), Cond.methodLink RX8 96 yX8_linkOf, Cond.instanceMethod yX8_linkOf, Cond.selects RX8 yX8_linkOf yX8_linkOf, Cond.code yX8_linkOf cX8_linkOf 4 (some .int), Cond.methodLink RX8 83 Lib.Math.min.name, Cond.methodLink RX8 89 Lib.Math.max.name, Cond.methodLink RX8 99 yX8_addLink, Cond.instanceMethod yX8_addLink, Cond.selects RX8 yX8_addLink yX8_addLink, Cond.code yX8_addLink cX8_addLink 5 none, Cond.methodLink RL 23 yX7_turn, Cond.instanceMethod yX7_turn, Cond.selects RX7 yX7_turn yX7_turn, Cond.code yX7_turn cX7_turn 3 (some .int), Cond.fieldLink RX7 85 "VectorRounds$Links" "up" "[I", Cond.methodLink RX7 82 yX7_noLink, Cond.instanceMethod yX7_noLink, Cond.selects RX7 yX7_noLink yX7_noLink, Cond.code yX7_noLink cX7_noLink 2 (some .boolean), Cond.methodLink RX7 89 yX3_switchLink, Cond.instanceMethod yX3_switchLink, Cond.selects RX3 yX3_switchLink yX3_switchLink]
def wsL_law_r9 : List Cond := [Cond.code yX3_switchLink cX3_switchLink 2 none, Cond.fieldLink RX3 58 "VectorRounds$Links" "up" "[I", Cond.fieldLink RX3 62 "VectorRounds$Links" "lesser" "[I", Cond.fieldLink RX3 65 "VectorRounds$Links" "greater" "[I", Cond.methodLink RX3 68 yX3_loseVia, Cond.instanceMethod yX3_loseVia, Cond.selects RX3 yX3_loseVia yX3_loseVia, Cond.code yX3_loseVia cX3_loseVia 5 none, Cond.fieldLink RX3 76 "VectorRounds$Tables" "via" "[I", Cond.fieldLink RX3 83 "VectorRounds$Tables" "sequence" "[I", Cond.fieldLink RX3 42 "VectorRounds$Network" "sequenced" "I", Cond.methodLink RX3 72 yX4_reaches, Cond.instanceMethod yX4_reaches, Cond.selects RX4 yX4_reaches yX4_reaches, Cond.code yX4_reaches cX4_reaches 2 (some .boolean), Cond.methodLink RX3 79 yX3_take, Cond.instanceMethod yX3_take, Cond.selects RX3 yX3_take yX3_take, Cond.code yX3_take cX3_take 4 none, Cond.fieldLink RX3 110 "VectorRounds$Tables" "metric" "[I", Cond.fieldLink RX3 124 "VectorRounds$Tables" "held" "[I", Cond.fieldLink RX3 48 "VectorRounds$Network" "round" "I", Cond.fieldLink RX3 45 "VectorRounds$Network" "holdDown" "I", Cond.methodLink RL 27 yX8_turn]
def wsL_law_r10 : List Cond := [Cond.instanceMethod yX8_turn, Cond.selects RX8 yX8_turn yX8_turn, Cond.code yX8_turn cX8_turn 3 (some .int), Cond.methodLink RX8 107 yX8_isLink, Cond.instanceMethod yX8_isLink, Cond.selects RX8 yX8_isLink yX8_isLink, Cond.code yX8_isLink cX8_isLink 2 (some .boolean), Cond.methodLink RX8 110 yX8_cut, Cond.instanceMethod yX8_cut, Cond.selects RX8 yX8_cut yX8_cut, Cond.code yX8_cut cX8_cut 2 none, Cond.methodLink RX8 103 yX8_lose, Cond.instanceMethod yX8_lose, Cond.selects RX8 yX8_lose yX8_lose, Cond.code yX8_lose cX8_lose 4 none, Cond.methodLink RL 28 yX7_cost, Cond.instanceMethod yX7_cost, Cond.selects RX7 yX7_cost yX7_cost, Cond.code yX7_cost cX7_cost 4 (some .int), Cond.fieldLink RX7 93 "VectorRounds$Links" "price" "[I", Cond.methodLink RL 31 yX8_cost, Cond.instanceMethod yX8_cost, Cond.selects RX8 yX8_cost yX8_cost, Cond.code yX8_cost cX8_cost 4 (some .int)]
def wsL_law_r11 : List Cond := [Cond.methodLink RL 32 yX7_rule, Cond.instanceMethod yX7_rule, Cond.selects RX7 yX7_rule yX7_rule, Cond.code yX7_rule cX7_rule 4 (some .int), Cond.fieldLink RX7 100 "VectorRounds$Network" "horizon" "I", Cond.fieldLink RX7 103 "VectorRounds$Network" "sequenced" "I", Cond.fieldLink RX7 106 "VectorRounds$Network" "holdDown" "I", Cond.methodLink RX7 96 yX7_mostOfRule, Cond.static yX7_mostOfRule, Cond.code yX7_mostOfRule cX7_mostOfRule 1 (some .int), Cond.methodLink RL 35 yX8_rule, Cond.instanceMethod yX8_rule, Cond.selects RX8 yX8_rule yX8_rule, Cond.code yX8_rule cX8_rule 4 (some .int), Cond.methodLink RL 36 yX7_of, Cond.instanceMethod yX7_of, Cond.selects RX7 yX7_of yX7_of, Cond.code yX7_of cX7_of 3 (some .int), Cond.fieldLink RX7 109 "VectorRounds$Links" "lesser" "[I", Cond.fieldLink RX7 112 "VectorRounds$Links" "greater" "[I", Cond.methodLink RL 39 yX8_of, Cond.instanceMethod yX8_of, Cond.selects RX8 yX8_of yX8_of, Cond.code yX8_of cX8_of 3 (some .int)]
def wsL_law_r12 : List Cond := [Cond.methodLink RL 40 yX7_between, Cond.instanceMethod yX7_between, Cond.selects RX7 yX7_between yX7_between, Cond.code yX7_between cX7_between 4 (some .int), Cond.methodLink RL 43 yX8_between, Cond.instanceMethod yX8_between, Cond.selects RX8 yX8_between yX8_between, Cond.code yX8_between cX8_between 4 (some .int), Cond.methodLink RL 44 yX7_rounds, Cond.instanceMethod yX7_rounds, Cond.selects RX7 yX7_rounds yX7_rounds, Cond.code yX7_rounds cX7_rounds 4 (some .int), Cond.methodLink RX7 115 yX3_goRound, Cond.instanceMethod yX3_goRound, Cond.selects RX3 yX3_goRound yX3_goRound, Cond.code yX3_goRound cX3_goRound 4 (some .int), Cond.fieldLink RX3 90 "VectorRounds$Links" "price" "[I", Cond.methodLink RX3 28 yX4_become, Cond.instanceMethod yX4_become, Cond.selects RX4 yX4_become yX4_become, Cond.code yX4_become cX4_become 2 none, Cond.methodLink RX4 36 arraycopyName, Cond.native arraycopyName, Cond.static arraycopyName]
def wsL_law_r13 : List Cond := [Cond.initialized "java/lang/System", Cond.methodLink RX3 86 yX2_joining, Cond.methodLink RX3 93 yX3_tell, Cond.instanceMethod yX3_tell, Cond.selects RX3 yX3_tell yX3_tell, Cond.code yX3_tell cX3_tell 8 none, Cond.fieldLink RX3 104 "VectorRounds$Tables" "size" "[I", Cond.fieldLink RX3 107 "VectorRounds$Tables" "order" "[I", Cond.fieldLink RX3 39 "VectorRounds$Network" "horizon" "I", Cond.fieldLink RX3 51 "VectorRounds$Network" "toldEver" "I", Cond.methodLink RX3 113 Lib.Math.min.name, Cond.methodLink RX3 118 yX3_receive, Cond.instanceMethod yX3_receive, Cond.selects RX3 yX3_receive yX3_receive, Cond.code yX3_receive cX3_receive 8 none, Cond.methodLink RX3 121 yX4_has, Cond.instanceMethod yX4_has, Cond.selects RX4 yX4_has yX4_has, Cond.code yX4_has cX4_has 2 (some .boolean), Cond.methodLink RX3 96 yX4_howManyDiffer, Cond.instanceMethod yX4_howManyDiffer, Cond.selects RX4 yX4_howManyDiffer yX4_howManyDiffer, Cond.code yX4_howManyDiffer cX4_howManyDiffer 4 (some .int), Cond.methodLink RL 48 yX8_rounds]
def wsL_law_r14 : List Cond := [Cond.instanceMethod yX8_rounds, Cond.selects RX8 yX8_rounds yX8_rounds, Cond.code yX8_rounds cX8_rounds 4 (some .int), Cond.methodLink RX8 129 yX8_goRound, Cond.instanceMethod yX8_goRound, Cond.selects RX8 yX8_goRound yX8_goRound, Cond.code yX8_goRound cX8_goRound 5 (some .int), Cond.fieldLink RX8 114 "VectorRoundsModel" "sent" "I", Cond.methodLink RX8 123 yX8_tell, Cond.instanceMethod yX8_tell, Cond.selects RX8 yX8_tell yX8_tell, Cond.code yX8_tell cX8_tell 6 none, Cond.methodLink RX8 126 yX8_receive, Cond.instanceMethod yX8_receive, Cond.selects RX8 yX8_receive yX8_receive, Cond.code yX8_receive cX8_receive 7 none, Cond.methodLink RX8 117 yX8_entryOf, Cond.instanceMethod yX8_entryOf, Cond.selects RX8 yX8_entryOf yX8_entryOf, Cond.code yX8_entryOf cX8_entryOf 4 (some .int), Cond.methodLink RX8 120 yX8_become, Cond.instanceMethod yX8_become, Cond.selects RX8 yX8_become yX8_become, Cond.code yX8_become cX8_become 4 none]
def wsL_law_r15 : List Cond := [Cond.methodLink RL 49 yX7_entry, Cond.instanceMethod yX7_entry, Cond.selects RX7 yX7_entry yX7_entry, Cond.code yX7_entry cX7_entry 6 (some .int), Cond.fieldLink RX7 118 "VectorRounds$Network" "tables" "LVectorRounds$Tables;", Cond.fieldLink RX7 127 "VectorRounds$Tables" "metric" "[I", Cond.fieldLink RX7 130 "VectorRounds$Tables" "via" "[I", Cond.fieldLink RX7 133 "VectorRounds$Tables" "sequence" "[I", Cond.fieldLink RX7 136 "VectorRounds$Tables" "held" "[I", Cond.methodLink RX7 122 yX4_has, Cond.methodLink RX7 139 yX4_placeOf, Cond.instanceMethod yX4_placeOf, Cond.selects RX4 yX4_placeOf yX4_placeOf, Cond.code yX4_placeOf cX4_placeOf 4 (some .int), Cond.methodLink RL 52 yX8_entry, Cond.instanceMethod yX8_entry, Cond.selects RX8 yX8_entry yX8_entry, Cond.code yX8_entry cX8_entry 5 (some .int), Cond.methodLink RL 53 yX7_known, Cond.instanceMethod yX7_known, Cond.selects RX7 yX7_known yX7_known, Cond.code yX7_known cX7_known 3 (some .int), Cond.fieldLink RX7 142 "VectorRounds$Tables" "size" "[I", Cond.fieldLink RX7 144 "VectorRounds$Tables" "order" "[I"]
def wsL_law_r16 : List Cond := [Cond.methodLink RL 56 yX8_known, Cond.instanceMethod yX8_known, Cond.selects RX8 yX8_known yX8_known, Cond.code yX8_known cX8_known 3 (some .int), Cond.methodLink RL 57 yX7_told, Cond.instanceMethod yX7_told, Cond.selects RX7 yX7_told yX7_told, Cond.code yX7_told cX7_told 2 (some .int), Cond.methodLink RX7 147 yX7_settledNow, Cond.instanceMethod yX7_settledNow, Cond.selects RX7 yX7_settledNow yX7_settledNow, Cond.code yX7_settledNow cX7_settledNow 1 (some .int), Cond.methodLink RX7 166 yX3_become, Cond.instanceMethod yX3_become, Cond.selects RX3 yX3_become yX3_become, Cond.code yX3_become cX3_become 2 none, Cond.methodLink RX3 32 yX2_become, Cond.instanceMethod yX2_become, Cond.selects RX2 yX2_become yX2_become, Cond.code yX2_become cX2_become 2 none, Cond.methodLink RX2 27 arraycopyName, Cond.methodLink RX7 194 yX3_roundsToSettle, Cond.instanceMethod yX3_roundsToSettle, Cond.selects RX3 yX3_roundsToSettle yX3_roundsToSettle]
def wsL_law_r17 : List Cond := [Cond.code yX3_roundsToSettle cX3_roundsToSettle 2 (some .int), Cond.methodLink RX3 100 yX3_goRound, Cond.methodLink RX7 197 yX7_orNot, Cond.static yX7_orNot, Cond.code yX7_orNot cX7_orNot 1 (some .int), Cond.methodLink RX7 150 yX7_loopedFirst, Cond.instanceMethod yX7_loopedFirst, Cond.selects RX7 yX7_loopedFirst yX7_loopedFirst, Cond.code yX7_loopedFirst cX7_loopedFirst 2 (some .int), Cond.methodLink RX7 153 yX6_loopsIn, Cond.instanceMethod yX6_loopsIn, Cond.selects RX6 yX6_loopsIn yX6_loopsIn, Cond.code yX6_loopsIn cX6_loopsIn 5 (some .int), Cond.fieldLink RX6 31 "VectorRounds$Network" "routers" "I", Cond.fieldLink RX6 36 "VectorRounds$Network" "tables" "LVectorRounds$Tables;", Cond.fieldLink RX6 19 "VectorRounds$Way" "ending" "I", Cond.methodLink RX6 40 yX6_walk, Cond.instanceMethod yX6_walk, Cond.selects RX6 yX6_walk yX6_walk, Cond.code yX6_walk cX6_walk 6 none, Cond.fieldLink RX6 15 "VectorRounds$Way" "length" "I", Cond.fieldLink RX6 28 "VectorRounds$Tables" "via" "[I", Cond.methodLink RX6 22 yX4_reaches, Cond.methodLink RX7 157 yX7_rightEntries]
def wsL_law_r18 : List Cond := [Cond.instanceMethod yX7_rightEntries, Cond.selects RX7 yX7_rightEntries yX7_rightEntries, Cond.code yX7_rightEntries cX7_rightEntries 6 (some .int), Cond.fieldLink RX7 187 "VectorRounds$Distances" "to" "[I", Cond.methodLink RX7 268 Lib.Math.min.name, Cond.methodLink RX7 183 yX0_measure, Cond.instanceMethod yX0_measure, Cond.selects RX0 yX0_measure yX0_measure, Cond.code yX0_measure cX0_measure 7 none, Cond.constant RX0 15 (1000000), Cond.fieldLink RX0 22 "VectorRounds$Network" "links" "LVectorRounds$Links;", Cond.fieldLink RX0 28 "VectorRounds$Links" "size" "I", Cond.fieldLink RX0 34 "VectorRounds$Links" "up" "[I", Cond.methodLink RX0 16 yJ7_fill_53178, Cond.methodLink RX0 37 yX0_relax, Cond.instanceMethod yX0_relax, Cond.selects RX0 yX0_relax yX0_relax, Cond.code yX0_relax cX0_relax 6 (some .boolean), Cond.fieldLink RX0 41 "VectorRounds$Links" "lesser" "[I", Cond.fieldLink RX0 44 "VectorRounds$Links" "greater" "[I", Cond.fieldLink RX0 47 "VectorRounds$Links" "price" "[I", Cond.methodLink RX7 160 yX7_worstCut, Cond.instanceMethod yX7_worstCut, Cond.selects RX7 yX7_worstCut yX7_worstCut]
def wsL_law_r19 : List Cond := [Cond.code yX7_worstCut cX7_worstCut 5 (some .int), Cond.methodLink RX7 163 yX7_neededLinks, Cond.instanceMethod yX7_neededLinks, Cond.selects RX7 yX7_neededLinks yX7_neededLinks, Cond.code yX7_neededLinks cX7_neededLinks 3 (some .int), Cond.constant RX7 190 (1000000), Cond.methodLink RL 60 yX8_told, Cond.instanceMethod yX8_told, Cond.selects RX8 yX8_told yX8_told, Cond.code yX8_told cX8_told 2 (some .int), Cond.methodLink RX8 161 yX8_settledNow, Cond.instanceMethod yX8_settledNow, Cond.selects RX8 yX8_settledNow yX8_settledNow, Cond.code yX8_settledNow cX8_settledNow 2 (some .int), Cond.methodLink RX8 149 yX8_think, Cond.instanceMethod yX8_think, Cond.selects RX8 yX8_think yX8_think, Cond.code yX8_think cX8_think 2 none, Cond.methodLink RX8 75 yX8_copy, Cond.static yX8_copy, Cond.code yX8_copy cX8_copy 3 none, Cond.methodLink RX8 152 yX8_settled, Cond.instanceMethod yX8_settled, Cond.selects RX8 yX8_settled yX8_settled]
def wsL_law_r20 : List Cond := [Cond.code yX8_settled cX8_settled 2 (some .int), Cond.methodLink RX8 155 yX8_wake, Cond.instanceMethod yX8_wake, Cond.selects RX8 yX8_wake yX8_wake, Cond.code yX8_wake cX8_wake 2 none, Cond.methodLink RX8 164 yX8_looped, Cond.instanceMethod yX8_looped, Cond.selects RX8 yX8_looped yX8_looped, Cond.code yX8_looped cX8_looped 3 (some .int), Cond.methodLink RX8 158 yX8_loops, Cond.instanceMethod yX8_loops, Cond.selects RX8 yX8_loops yX8_loops, Cond.code yX8_loops cX8_loops 4 (some .int), Cond.methodLink RX8 142 yX8_goWay, Cond.instanceMethod yX8_goWay, Cond.selects RX8 yX8_goWay yX8_goWay, Cond.code yX8_goWay cX8_goWay 4 (some .int), Cond.fieldLink RX8 133 "VectorRoundsModel" "steps" "I", Cond.methodLink RX8 136 yX8_nextOf, Cond.instanceMethod yX8_nextOf, Cond.selects RX8 yX8_nextOf yX8_nextOf, Cond.code yX8_nextOf cX8_nextOf 4 (some .int), Cond.methodLink RX8 139 yX8_isOnWay, Cond.instanceMethod yX8_isOnWay]
def wsL_law_r21 : List Cond := [Cond.selects RX8 yX8_isOnWay yX8_isOnWay, Cond.code yX8_isOnWay cX8_isOnWay 3 (some .boolean), Cond.methodLink RX8 167 yX8_right, Cond.instanceMethod yX8_right, Cond.selects RX8 yX8_right yX8_right, Cond.code yX8_right cX8_right 6 (some .int), Cond.methodLink RX8 145 yX8_shortestBut, Cond.instanceMethod yX8_shortestBut, Cond.selects RX8 yX8_shortestBut yX8_shortestBut, Cond.code yX8_shortestBut cX8_shortestBut 8 (some .int), Cond.methodLink RX8 170 yX8_worstCut, Cond.instanceMethod yX8_worstCut, Cond.selects RX8 yX8_worstCut yX8_worstCut, Cond.code yX8_worstCut cX8_worstCut 6 (some .int), Cond.methodLink RX8 173 yX8_needed, Cond.instanceMethod yX8_needed, Cond.selects RX8 yX8_needed yX8_needed, Cond.code yX8_needed cX8_needed 3 (some .int), Cond.methodLink RL 61 yX7_then, Cond.instanceMethod yX7_then, Cond.selects RX7 yX7_then yX7_then, Cond.code yX7_then cX7_then 6 (some .int), Cond.methodLink RL 65 yX8_then, Cond.instanceMethod yX8_then]
def wsL_law_r22 : List Cond := [Cond.selects RX8 yX8_then yX8_then, Cond.code yX8_then cX8_then 7 (some .int), Cond.methodLink RL 66 yX7_way, Cond.instanceMethod yX7_way, Cond.selects RX7 yX7_way yX7_way, Cond.code yX7_way cX7_way 4 (some .int), Cond.fieldLink RX7 174 "VectorRounds$Way" "length" "I", Cond.fieldLink RX7 177 "VectorRounds$Way" "stops" "[I", Cond.methodLink RX7 170 yX6_walk, Cond.methodLink RL 69 yX8_way, Cond.instanceMethod yX8_way, Cond.selects RX8 yX8_way yX8_way, Cond.code yX8_way cX8_way 4 (some .int), Cond.methodLink RL 70 yX7_ends, Cond.instanceMethod yX7_ends, Cond.selects RX7 yX7_ends yX7_ends, Cond.code yX7_ends cX7_ends 3 (some .int), Cond.fieldLink RX7 180 "VectorRounds$Way" "ending" "I", Cond.methodLink RL 73 yX8_ends, Cond.instanceMethod yX8_ends, Cond.selects RX8 yX8_ends yX8_ends, Cond.code yX8_ends cX8_ends 3 (some .int), Cond.methodLink RL 74 yX7_shortest, Cond.instanceMethod yX7_shortest]
def wsL_law_r23 : List Cond := [Cond.selects RX7 yX7_shortest yX7_shortest, Cond.code yX7_shortest cX7_shortest 4 (some .int), Cond.methodLink RL 77 yX8_shortest, Cond.instanceMethod yX8_shortest, Cond.selects RX8 yX8_shortest yX8_shortest, Cond.code yX8_shortest cX8_shortest 3 (some .int), Cond.methodLink RL 78 yX7_counts, Cond.instanceMethod yX7_counts, Cond.selects RX7 yX7_counts yX7_counts, Cond.code yX7_counts cX7_counts 5 (some .int), Cond.methodLink RX7 191 yX4_reaches, Cond.methodLink RL 81 yX8_counts, Cond.instanceMethod yX8_counts, Cond.selects RX8 yX8_counts yX8_counts, Cond.code yX8_counts cX8_counts 6 (some .int), Cond.methodLink RL 82 yX7_packet, Cond.instanceMethod yX7_packet, Cond.selects RX7 yX7_packet yX7_packet, Cond.code yX7_packet cX7_packet 7 (some .int), Cond.methodLink RL 85 yX8_packet, Cond.instanceMethod yX8_packet, Cond.selects RX8 yX8_packet yX8_packet, Cond.code yX8_packet cX8_packet 7 (some .int), Cond.methodLink RL 86 yX7_tried]
def wsL_law_r24 : List Cond := [Cond.instanceMethod yX7_tried, Cond.selects RX7 yX7_tried yX7_tried, Cond.code yX7_tried cX7_tried 8 (some .int), Cond.methodLink RL 89 yX8_tried, Cond.instanceMethod yX8_tried, Cond.selects RX8 yX8_tried yX8_tried, Cond.code yX8_tried cX8_tried 7 (some .int), Cond.methodLink RL 90 yX7_judge, Cond.instanceMethod yX7_judge, Cond.selects RX7 yX7_judge yX7_judge, Cond.code yX7_judge cX7_judge 6 (some .int), Cond.fieldLink RX7 203 "VectorRounds$Holder" "sort" "I", Cond.fieldLink RX7 206 "VectorRounds$Holder" "length" "I", Cond.fieldLink RX7 207 "VectorRounds$Holder" "items" "[I", Cond.methodLink RX7 200 yX7_noHolder, Cond.static yX7_noHolder, Cond.code yX7_noHolder cX7_noHolder 1 (some .boolean), Cond.methodLink RX7 210 yX7_isOtherwise, Cond.instanceMethod yX7_isOtherwise, Cond.selects RX7 yX7_isOtherwise yX7_isOtherwise, Cond.code yX7_isOtherwise cX7_isOtherwise 6 (some .boolean), Cond.methodLink RL 93 yX8_judge, Cond.instanceMethod yX8_judge, Cond.selects RX8 yX8_judge yX8_judge]
def wsL_law_r25 : List Cond := [Cond.code yX8_judge cX8_judge 8 (some .int), Cond.methodLink RX8 224 yX8_isHolder, Cond.static yX8_isHolder, Cond.code yX8_isHolder cX8_isHolder 1 (some .boolean), Cond.methodLink RL 94 yX7_drawn, Cond.instanceMethod yX7_drawn, Cond.selects RX7 yX7_drawn yX7_drawn, Cond.code yX7_drawn cX7_drawn 5 (some .int), Cond.constant RX7 214 (1103515245), Cond.methodLink RX7 215 yX7_drawLink, Cond.instanceMethod yX7_drawLink, Cond.selects RX7 yX7_drawLink yX7_drawLink, Cond.code yX7_drawLink cX7_drawLink 6 none, Cond.methodLink RX7 273 Lib.Math.max.name, Cond.methodLink RL 97 yX8_drawn, Cond.instanceMethod yX8_drawn, Cond.selects RX8 yX8_drawn yX8_drawn, Cond.code yX8_drawn cX8_drawn 9 (some .int), Cond.constant RX8 176 (1103515245), Cond.methodLink RL 98 yX7_feed, Cond.instanceMethod yX7_feed, Cond.selects RX7 yX7_feed yX7_feed, Cond.code yX7_feed cX7_feed 2 (some .int), Cond.fieldLink RX7 218 "VectorRounds$Tape" "length" "I"]
def wsL_law_r26 : List Cond := [Cond.methodLink RX7 219 yX5_add, Cond.instanceMethod yX5_add, Cond.selects RX5 yX5_add yX5_add, Cond.code yX5_add cX5_add 2 (some .int), Cond.fieldLink RX5 21 "VectorRounds$Tape" "length" "I", Cond.methodLink RL 101 yX8_feed, Cond.instanceMethod yX8_feed, Cond.selects RX8 yX8_feed yX8_feed, Cond.code yX8_feed cX8_feed 2 (some .int), Cond.fieldLink RX8 177 "VectorRoundsModel" "taped" "I", Cond.methodLink RL 102 yX7_script, Cond.instanceMethod yX7_script, Cond.selects RX7 yX7_script yX7_script, Cond.code yX7_script cX7_script 3 (some .int), Cond.fieldLink RX7 224 "VectorRounds$Tape" "lines" "I", Cond.methodLink RX7 221 yX5_readLines, Cond.instanceMethod yX5_readLines, Cond.selects RX5 yX5_readLines yX5_readLines, Cond.code yX5_readLines cX5_readLines 2 (some .int), Cond.fieldLink RX5 25 "VectorRounds$Tape" "lines" "I", Cond.fieldLink RX5 28 "VectorRounds$Tape" "at" "I", Cond.methodLink RX5 31 yX5_readLine, Cond.instanceMethod yX5_readLine, Cond.selects RX5 yX5_readLine yX5_readLine]
def wsL_law_r27 : List Cond := [Cond.code yX5_readLine cX5_readLine 3 (some .boolean), Cond.methodLink RX5 35 yX5_howManyNumbers, Cond.static yX5_howManyNumbers, Cond.code yX5_howManyNumbers cX5_howManyNumbers 1 (some .int), Cond.methodLink RX5 39 yX5_readNumber, Cond.instanceMethod yX5_readNumber, Cond.selects RX5 yX5_readNumber yX5_readNumber, Cond.code yX5_readNumber cX5_readNumber 2 (some .boolean), Cond.methodLink RX5 43 yX5_isDigit, Cond.instanceMethod yX5_isDigit, Cond.selects RX5 yX5_isDigit yX5_isDigit, Cond.code yX5_isDigit cX5_isDigit 1 (some .boolean), Cond.methodLink RX7 227 yX7_doLine, Cond.instanceMethod yX7_doLine, Cond.selects RX7 yX7_doLine yX7_doLine, Cond.code yX7_doLine cX7_doLine 4 (some .int), Cond.fieldLink RX7 276 "VectorRounds$Tape" "numbers" "[I", Cond.fieldLink RX7 279 "VectorRounds$Tape" "letters" "[I", Cond.methodLink RX7 282 yX7_router, Cond.methodLink RX7 285 yX7_link, Cond.methodLink RX7 288 yX7_turn, Cond.methodLink RX7 291 yX7_cost, Cond.methodLink RX7 294 yX7_rule, Cond.methodLink RX7 297 yX7_rounds]
def wsL_law_r28 : List Cond := [Cond.methodLink RL 105 yX8_script, Cond.instanceMethod yX8_script, Cond.selects RX8 yX8_script yX8_script, Cond.code yX8_script cX8_script 3 (some .int), Cond.fieldLink RX8 180 "VectorRoundsModel" "at" "I", Cond.fieldLink RX8 186 "VectorRoundsModel" "fault" "I", Cond.methodLink RX8 214 yX8_readLine, Cond.instanceMethod yX8_readLine, Cond.selects RX8 yX8_readLine yX8_readLine, Cond.code yX8_readLine cX8_readLine 4 none, Cond.methodLink RX8 183 yX8_here, Cond.instanceMethod yX8_here, Cond.selects RX8 yX8_here yX8_here, Cond.code yX8_here cX8_here 1 (some .int), Cond.methodLink RX8 189 yX8_numbersOf, Cond.static yX8_numbersOf, Cond.code yX8_numbersOf cX8_numbersOf 1 (some .int), Cond.methodLink RX8 193 yX8_readNumber, Cond.instanceMethod yX8_readNumber, Cond.selects RX8 yX8_readNumber yX8_readNumber, Cond.code yX8_readNumber cX8_readNumber 5 none, Cond.methodLink RX8 217 yX8_doLine, Cond.instanceMethod yX8_doLine, Cond.selects RX8 yX8_doLine yX8_doLine]
def wsL_law_r29 : List Cond := [Cond.code yX8_doLine cX8_doLine 4 (some .int), Cond.methodLink RX8 196 yX8_router, Cond.methodLink RX8 199 yX8_link, Cond.methodLink RX8 202 yX8_turn, Cond.methodLink RX8 205 yX8_cost, Cond.methodLink RX8 208 yX8_rule, Cond.methodLink RX8 211 yX8_rounds, Cond.methodLink RL 106 yX7_image, Cond.instanceMethod yX7_image, Cond.selects RX7 yX7_image yX7_image, Cond.code yX7_image cX7_image 1 (some .int), Cond.fieldLink RX7 230 "VectorRounds" "imaged" "Z", Cond.fieldLink RX7 234 "VectorRounds$Network" "round" "I", Cond.methodLink RL 109 yX8_image, Cond.instanceMethod yX8_image, Cond.selects RX8 yX8_image yX8_image, Cond.code yX8_image cX8_image 1 (some .int), Cond.fieldLink RX8 220 "VectorRoundsModel" "hasImage" "Z", Cond.methodLink RL 110 yX7_back, Cond.instanceMethod yX7_back, Cond.selects RX7 yX7_back yX7_back, Cond.code yX7_back cX7_back 1 (some .int), Cond.methodLink RL 113 yX8_back, Cond.instanceMethod yX8_back]
def wsL_law_r30 : List Cond := [Cond.selects RX8 yX8_back yX8_back, Cond.code yX8_back cX8_back 1 (some .int), Cond.methodLink RL 114 yX7_hold, Cond.instanceMethod yX7_hold, Cond.selects RX7 yX7_hold yX7_hold, Cond.code yX7_hold cX7_hold 4 (some .int), Cond.methodLink RX7 237 yX1_keepEntry, Cond.instanceMethod yX1_keepEntry, Cond.selects RX1 yX1_keepEntry yX1_keepEntry, Cond.code yX1_keepEntry cX1_keepEntry 5 none, Cond.fieldLink RX1 15 "VectorRounds$Holder" "sort" "I", Cond.fieldLink RX1 19 "VectorRounds$Holder" "own" "Z", Cond.fieldLink RX1 23 "VectorRounds$Tables" "metric" "[I", Cond.fieldLink RX1 28 "VectorRounds$Holder" "metric" "I", Cond.fieldLink RX1 30 "VectorRounds$Tables" "via" "[I", Cond.fieldLink RX1 33 "VectorRounds$Holder" "via" "I", Cond.fieldLink RX1 35 "VectorRounds$Tables" "sequence" "[I", Cond.fieldLink RX1 38 "VectorRounds$Holder" "sequence" "I", Cond.fieldLink RX1 40 "VectorRounds$Tables" "held" "[I", Cond.fieldLink RX1 43 "VectorRounds$Holder" "held" "I", Cond.methodLink RL 117 yX8_hold, Cond.instanceMethod yX8_hold, Cond.selects RX8 yX8_hold yX8_hold, Cond.code yX8_hold cX8_hold 6 (some .int)]
def wsL_law_r31 : List Cond := [Cond.methodLink RL 118 yX7_row, Cond.instanceMethod yX7_row, Cond.selects RX7 yX7_row yX7_row, Cond.code yX7_row cX7_row 3 (some .int), Cond.methodLink RX7 240 yX1_keepRow, Cond.instanceMethod yX1_keepRow, Cond.selects RX1 yX1_keepRow yX1_keepRow, Cond.code yX1_keepRow cX1_keepRow 2 none, Cond.fieldLink RX1 45 "VectorRounds$Holder" "length" "I", Cond.methodLink RX1 48 yJ7_fill_53178, Cond.methodLink RL 121 yX8_row, Cond.instanceMethod yX8_row, Cond.selects RX8 yX8_row yX8_row, Cond.code yX8_row cX8_row 4 (some .int), Cond.methodLink RL 122 yX7_put, Cond.instanceMethod yX7_put, Cond.selects RX7 yX7_put yX7_put, Cond.code yX7_put cX7_put 6 (some .int), Cond.constant RX7 243 (-2000000000), Cond.methodLink RL 125 yX8_put, Cond.instanceMethod yX8_put, Cond.selects RX8 yX8_put yX8_put, Cond.code yX8_put cX8_put 5 (some .int), Cond.constant RX8 227 (-2000000000)]
def wsL_law_r32 : List Cond := [Cond.methodLink RL 126 yX7_tells, Cond.instanceMethod yX7_tells, Cond.selects RX7 yX7_tells yX7_tells, Cond.code yX7_tells cX7_tells 4 (some .int), Cond.fieldLink RX7 244 "VectorRounds$Holder" "metric" "I", Cond.fieldLink RX7 246 "VectorRounds$Holder" "own" "Z", Cond.fieldLink RX7 249 "VectorRounds$Holder" "sequence" "I", Cond.fieldLink RX7 251 "VectorRounds$Holder" "via" "I", Cond.fieldLink RX7 253 "VectorRounds$Holder" "held" "I", Cond.methodLink RL 129 yX8_tells, Cond.instanceMethod yX8_tells, Cond.selects RX8 yX8_tells yX8_tells, Cond.code yX8_tells cX8_tells 6 (some .int), Cond.methodLink RL 130 yX7_count, Cond.instanceMethod yX7_count, Cond.selects RX7 yX7_count yX7_count, Cond.code yX7_count cX7_count 2 (some .int), Cond.fieldLink RX7 262 "VectorRounds$Network" "toldEver" "I", Cond.methodLink RX7 255 yX2_howManyUp, Cond.instanceMethod yX2_howManyUp, Cond.selects RX2 yX2_howManyUp yX2_howManyUp, Cond.code yX2_howManyUp cX2_howManyUp 3 (some .int), Cond.methodLink RX7 258 yX4_howMany, Cond.instanceMethod yX4_howMany]
def wsL_law_r33 : List Cond := [Cond.selects RX4 yX4_howMany yX4_howMany, Cond.code yX4_howMany cX4_howMany 4 (some .int), Cond.methodLink RX4 42 yX4_has, Cond.methodLink RX7 265 yX7_fullHolders, Cond.instanceMethod yX7_fullHolders, Cond.selects RX7 yX7_fullHolders yX7_fullHolders, Cond.code yX7_fullHolders cX7_fullHolders 3 (some .int), Cond.methodLink RL 133 yX8_count, Cond.instanceMethod yX8_count, Cond.selects RX8 yX8_count yX8_count, Cond.code yX8_count cX8_count 5 (some .int)]
def wsL_law : List Cond := (wsL_law_r1 ++ (wsL_law_r2 ++ (wsL_law_r3 ++ (wsL_law_r4 ++ (wsL_law_r5 ++ (wsL_law_r6 ++ (wsL_law_r7 ++ (wsL_law_r8 ++ (wsL_law_r9 ++ (wsL_law_r10 ++ (wsL_law_r11 ++ (wsL_law_r12 ++ (wsL_law_r13 ++ (wsL_law_r14 ++ (wsL_law_r15 ++ (wsL_law_r16 ++ (wsL_law_r17 ++ (wsL_law_r18 ++ (wsL_law_r19 ++ (wsL_law_r20 ++ (wsL_law_r21 ++ (wsL_law_r22 ++ (wsL_law_r23 ++ (wsL_law_r24 ++ (wsL_law_r25 ++ (wsL_law_r26 ++ (wsL_law_r27 ++ (wsL_law_r28 ++ (wsL_law_r29 ++ (wsL_law_r30 ++ (wsL_law_r31 ++ (wsL_law_r32 ++ wsL_law_r33)))))))))))))))))))))))))))))))) ++ wsX70 ++ wsX80 ++ wsX30 ++ wsX60 ++ wsX00 ++ wsX50 ++ wsX10 ++ wsX40 ++ wsX20 ++ ([] : List Cond)
abbrev vwCl : List vw_C := [(RX0, TX0, 1), (RX1, TX1, 8), (RX2, TX2, 6), (RX3, TX3, 9), (RX4, TX4, 6), (RX5, TX5, 6), (RX6, TX6, 3), (RX7, TX7, 9), (RX8, TX8, 26)]
end
section
theorem dJ7_fill_53178_0 : decode cJ7_fill_53178 0 = .ok (.iconst 0, 1) := by decide +kernel
theorem dJ7_fill_53178_1 : decode cJ7_fill_53178 1 = .ok (.istore_n 2, 1) := by decide +kernel
theorem dJ7_fill_53178_2 : decode cJ7_fill_53178 2 = .ok (.aload_n 0, 1) := by decide +kernel
theorem dJ7_fill_53178_3 : decode cJ7_fill_53178 3 = .ok (.arraylength, 1) := by decide +kernel
theorem dJ7_fill_53178_4 : decode cJ7_fill_53178 4 = .ok (.istore_n 3, 1) := by decide +kernel
theorem dJ7_fill_53178_5 : decode cJ7_fill_53178 5 = .ok (.iload_n 2, 1) := by decide +kernel
theorem dJ7_fill_53178_6 : decode cJ7_fill_53178 6 = .ok (.iload_n 3, 1) := by decide +kernel
theorem dJ7_fill_53178_7 : decode cJ7_fill_53178 7 = .ok (.if_icmp .ge 13, 3) := by decide +kernel
theorem dJ7_fill_53178_10 : decode cJ7_fill_53178 10 = .ok (.aload_n 0, 1) := by decide +kernel
theorem dJ7_fill_53178_11 : decode cJ7_fill_53178 11 = .ok (.iload_n 2, 1) := by decide +kernel
theorem dJ7_fill_53178_12 : decode cJ7_fill_53178 12 = .ok (.iload_n 1, 1) := by decide +kernel
theorem dJ7_fill_53178_13 : decode cJ7_fill_53178 13 = .ok (.iastore, 1) := by decide +kernel
theorem dJ7_fill_53178_14 : decode cJ7_fill_53178 14 = .ok (.iinc 2 1, 3) := by decide +kernel
theorem dJ7_fill_53178_17 : decode cJ7_fill_53178 17 = .ok (.goto (-12), 3) := by decide +kernel
theorem dJ7_fill_53178_20 : decode cJ7_fill_53178 20 = .ok (.return_, 1) := by decide +kernel
theorem dJ9_max_7cf53_0 : decode cJ9_max_7cf53 0 = .ok (.iload_n 0, 1) := by decide +kernel
theorem dJ9_max_7cf53_1 : decode cJ9_max_7cf53 1 = .ok (.iload_n 1, 1) := by decide +kernel
theorem dJ9_max_7cf53_2 : decode cJ9_max_7cf53 2 = .ok (.if_icmp .lt 7, 3) := by decide +kernel
theorem dJ9_max_7cf53_5 : decode cJ9_max_7cf53 5 = .ok (.iload_n 0, 1) := by decide +kernel
theorem dJ9_max_7cf53_6 : decode cJ9_max_7cf53 6 = .ok (.goto 4, 3) := by decide +kernel
theorem dJ9_max_7cf53_9 : decode cJ9_max_7cf53 9 = .ok (.iload_n 1, 1) := by decide +kernel
theorem dJ9_max_7cf53_10 : decode cJ9_max_7cf53 10 = .ok (.ireturn, 1) := by decide +kernel
theorem dJ9_min_7cf53_0 : decode cJ9_min_7cf53 0 = .ok (.iload_n 0, 1) := by decide +kernel
theorem dJ9_min_7cf53_1 : decode cJ9_min_7cf53 1 = .ok (.iload_n 1, 1) := by decide +kernel
theorem dJ9_min_7cf53_2 : decode cJ9_min_7cf53 2 = .ok (.if_icmp .gt 7, 3) := by decide +kernel
theorem dJ9_min_7cf53_5 : decode cJ9_min_7cf53 5 = .ok (.iload_n 0, 1) := by decide +kernel
theorem dJ9_min_7cf53_6 : decode cJ9_min_7cf53 6 = .ok (.goto 4, 3) := by decide +kernel
theorem dJ9_min_7cf53_9 : decode cJ9_min_7cf53 9 = .ok (.iload_n 1, 1) := by decide +kernel
theorem dJ9_min_7cf53_10 : decode cJ9_min_7cf53 10 = .ok (.ireturn, 1) := by decide +kernel
theorem dX0_init_0 : decode cX0_init 0 = .ok (.aload_n 0, 1) := by decide +kernel
theorem dX0_init_1 : decode cX0_init 1 = .ok (.invokespecial 3, 3) := by decide +kernel
theorem dX0_init_4 : decode cX0_init 4 = .ok (.aload_n 0, 1) := by decide +kernel
theorem dX0_init_5 : decode cX0_init 5 = .ok (.bipush 10, 2) := by decide +kernel
theorem dX0_init_7 : decode cX0_init 7 = .ok (.newarray .int, 2) := by decide +kernel
theorem dX0_init_9 : decode cX0_init 9 = .ok (.putfield 9, 3) := by decide +kernel
theorem dX0_init_12 : decode cX0_init 12 = .ok (.return_, 1) := by decide +kernel
set_option maxRecDepth 20000 in
theorem ggX0_measure_J7_fill_53178 : GoodIn wsX0_measure wsJ7_fill_53178 := goodIn_r _ [9] (by decide +kernel) (by decide +kernel)
set_option maxRecDepth 20000 in
theorem gX0_measure_J7_fill_53178 : GoodIn wsX0_measure (va_wsS RX0 16 yJ7_fill_53178 wsJ7_fill_53178) := goodIn_app (goodIn_of _ (by decide +kernel)) ggX0_measure_J7_fill_53178
set_option maxRecDepth 20000 in
theorem ggX0_measure_X0_relax : GoodIn wsX0_measure wsX0_relax := goodIn_r _ [14, 15, 16, 17, 1, 28, 29, 30, 31, 32, 33, 18] (by decide +kernel) (by decide +kernel)
set_option maxRecDepth 20000 in
theorem gX0_measure_X0_relax : GoodIn wsX0_measure (wsV RX0 37 RX0 yX0_relax wsX0_relax) := goodIn_app (goodIn_of _ (by decide +kernel)) ggX0_measure_X0_relax
theorem dX0_measure_0 : decode cX0_measure 0 = .ok (.aload_n 0, 1) := by decide +kernel
theorem dX0_measure_1 : decode cX0_measure 1 = .ok (.getfield 9, 3) := by decide +kernel
theorem dX0_measure_4 : decode cX0_measure 4 = .ok (.ldc 15, 2) := by decide +kernel
theorem dX0_measure_6 : decode cX0_measure 6 = .ok (.invokestatic 16, 3) := by decide +kernel
theorem dX0_measure_9 : decode cX0_measure 9 = .ok (.aload_n 0, 1) := by decide +kernel
theorem dX0_measure_10 : decode cX0_measure 10 = .ok (.getfield 9, 3) := by decide +kernel
theorem dX0_measure_13 : decode cX0_measure 13 = .ok (.iload_n 2, 1) := by decide +kernel
theorem dX0_measure_14 : decode cX0_measure 14 = .ok (.iconst 0, 1) := by decide +kernel
theorem dX0_measure_15 : decode cX0_measure 15 = .ok (.iastore, 1) := by decide +kernel
theorem dX0_measure_16 : decode cX0_measure 16 = .ok (.iconst 1, 1) := by decide +kernel
theorem dX0_measure_17 : decode cX0_measure 17 = .ok (.istore 4, 2) := by decide +kernel
theorem dX0_measure_19 : decode cX0_measure 19 = .ok (.iconst 0, 1) := by decide +kernel
theorem dX0_measure_20 : decode cX0_measure 20 = .ok (.istore 5, 2) := by decide +kernel
theorem dX0_measure_22 : decode cX0_measure 22 = .ok (.iload 5, 2) := by decide +kernel
theorem dX0_measure_24 : decode cX0_measure 24 = .ok (.bipush 10, 2) := by decide +kernel
theorem dX0_measure_26 : decode cX0_measure 26 = .ok (.if_icmp .ge 74, 3) := by decide +kernel
theorem dX0_measure_29 : decode cX0_measure 29 = .ok (.iload 4, 2) := by decide +kernel
theorem dX0_measure_31 : decode cX0_measure 31 = .ok (.ifCond .eq 69, 3) := by decide +kernel
theorem dX0_measure_34 : decode cX0_measure 34 = .ok (.iconst 0, 1) := by decide +kernel
theorem dX0_measure_35 : decode cX0_measure 35 = .ok (.istore 4, 2) := by decide +kernel
theorem dX0_measure_37 : decode cX0_measure 37 = .ok (.iconst 0, 1) := by decide +kernel
theorem dX0_measure_38 : decode cX0_measure 38 = .ok (.istore 6, 2) := by decide +kernel
theorem dX0_measure_40 : decode cX0_measure 40 = .ok (.iload 6, 2) := by decide +kernel
theorem dX0_measure_42 : decode cX0_measure 42 = .ok (.aload_n 1, 1) := by decide +kernel
theorem dX0_measure_43 : decode cX0_measure 43 = .ok (.getfield 22, 3) := by decide +kernel
theorem dX0_measure_46 : decode cX0_measure 46 = .ok (.getfield 28, 3) := by decide +kernel
theorem dX0_measure_49 : decode cX0_measure 49 = .ok (.if_icmp .ge 45, 3) := by decide +kernel
theorem dX0_measure_52 : decode cX0_measure 52 = .ok (.iload 6, 2) := by decide +kernel
theorem dX0_measure_54 : decode cX0_measure 54 = .ok (.iload_n 3, 1) := by decide +kernel
theorem dX0_measure_55 : decode cX0_measure 55 = .ok (.if_icmp .eq 33, 3) := by decide +kernel
theorem dX0_measure_58 : decode cX0_measure 58 = .ok (.aload_n 1, 1) := by decide +kernel
theorem dX0_measure_59 : decode cX0_measure 59 = .ok (.getfield 22, 3) := by decide +kernel
theorem dX0_measure_62 : decode cX0_measure 62 = .ok (.getfield 34, 3) := by decide +kernel
theorem dX0_measure_65 : decode cX0_measure 65 = .ok (.iload 6, 2) := by decide +kernel
theorem dX0_measure_67 : decode cX0_measure 67 = .ok (.iaload, 1) := by decide +kernel
theorem dX0_measure_68 : decode cX0_measure 68 = .ok (.iconst 1, 1) := by decide +kernel
theorem dX0_measure_69 : decode cX0_measure 69 = .ok (.if_icmp .ne 19, 3) := by decide +kernel
theorem dX0_measure_72 : decode cX0_measure 72 = .ok (.aload_n 0, 1) := by decide +kernel
theorem dX0_measure_73 : decode cX0_measure 73 = .ok (.aload_n 1, 1) := by decide +kernel
theorem dX0_measure_74 : decode cX0_measure 74 = .ok (.getfield 22, 3) := by decide +kernel
theorem dX0_measure_77 : decode cX0_measure 77 = .ok (.iload 6, 2) := by decide +kernel
theorem dX0_measure_79 : decode cX0_measure 79 = .ok (.invokevirtual 37, 3) := by decide +kernel
theorem dX0_measure_82 : decode cX0_measure 82 = .ok (.ifCond .eq 6, 3) := by decide +kernel
theorem dX0_measure_85 : decode cX0_measure 85 = .ok (.iconst 1, 1) := by decide +kernel
theorem dX0_measure_86 : decode cX0_measure 86 = .ok (.istore 4, 2) := by decide +kernel
theorem dX0_measure_88 : decode cX0_measure 88 = .ok (.iinc 6 1, 3) := by decide +kernel
theorem dX0_measure_91 : decode cX0_measure 91 = .ok (.goto (-51), 3) := by decide +kernel
theorem dX0_measure_94 : decode cX0_measure 94 = .ok (.iinc 5 1, 3) := by decide +kernel
theorem dX0_measure_97 : decode cX0_measure 97 = .ok (.goto (-75), 3) := by decide +kernel
theorem dX0_measure_100 : decode cX0_measure 100 = .ok (.return_, 1) := by decide +kernel
theorem dX0_relax_0 : decode cX0_relax 0 = .ok (.aload_n 1, 1) := by decide +kernel
theorem dX0_relax_1 : decode cX0_relax 1 = .ok (.getfield 41, 3) := by decide +kernel
theorem dX0_relax_4 : decode cX0_relax 4 = .ok (.iload_n 2, 1) := by decide +kernel
theorem dX0_relax_5 : decode cX0_relax 5 = .ok (.iaload, 1) := by decide +kernel
theorem dX0_relax_6 : decode cX0_relax 6 = .ok (.istore_n 3, 1) := by decide +kernel
theorem dX0_relax_7 : decode cX0_relax 7 = .ok (.aload_n 1, 1) := by decide +kernel
theorem dX0_relax_8 : decode cX0_relax 8 = .ok (.getfield 44, 3) := by decide +kernel
theorem dX0_relax_11 : decode cX0_relax 11 = .ok (.iload_n 2, 1) := by decide +kernel
theorem dX0_relax_12 : decode cX0_relax 12 = .ok (.iaload, 1) := by decide +kernel
theorem dX0_relax_13 : decode cX0_relax 13 = .ok (.istore 4, 2) := by decide +kernel
theorem dX0_relax_15 : decode cX0_relax 15 = .ok (.aload_n 1, 1) := by decide +kernel
theorem dX0_relax_16 : decode cX0_relax 16 = .ok (.getfield 47, 3) := by decide +kernel
theorem dX0_relax_19 : decode cX0_relax 19 = .ok (.iload_n 2, 1) := by decide +kernel
theorem dX0_relax_20 : decode cX0_relax 20 = .ok (.iaload, 1) := by decide +kernel
theorem dX0_relax_21 : decode cX0_relax 21 = .ok (.istore 5, 2) := by decide +kernel
theorem dX0_relax_23 : decode cX0_relax 23 = .ok (.aload_n 0, 1) := by decide +kernel
theorem dX0_relax_24 : decode cX0_relax 24 = .ok (.getfield 9, 3) := by decide +kernel
theorem dX0_relax_27 : decode cX0_relax 27 = .ok (.iload_n 3, 1) := by decide +kernel
theorem dX0_relax_28 : decode cX0_relax 28 = .ok (.iaload, 1) := by decide +kernel
theorem dX0_relax_29 : decode cX0_relax 29 = .ok (.iload 5, 2) := by decide +kernel
theorem dX0_relax_31 : decode cX0_relax 31 = .ok (.iadd, 1) := by decide +kernel
theorem dX0_relax_32 : decode cX0_relax 32 = .ok (.aload_n 0, 1) := by decide +kernel
theorem dX0_relax_33 : decode cX0_relax 33 = .ok (.getfield 9, 3) := by decide +kernel
theorem dX0_relax_36 : decode cX0_relax 36 = .ok (.iload 4, 2) := by decide +kernel
theorem dX0_relax_38 : decode cX0_relax 38 = .ok (.iaload, 1) := by decide +kernel
theorem dX0_relax_39 : decode cX0_relax 39 = .ok (.if_icmp .ge 21, 3) := by decide +kernel
theorem dX0_relax_42 : decode cX0_relax 42 = .ok (.aload_n 0, 1) := by decide +kernel
theorem dX0_relax_43 : decode cX0_relax 43 = .ok (.getfield 9, 3) := by decide +kernel
theorem dX0_relax_46 : decode cX0_relax 46 = .ok (.iload 4, 2) := by decide +kernel
theorem dX0_relax_48 : decode cX0_relax 48 = .ok (.aload_n 0, 1) := by decide +kernel
theorem dX0_relax_49 : decode cX0_relax 49 = .ok (.getfield 9, 3) := by decide +kernel
theorem dX0_relax_52 : decode cX0_relax 52 = .ok (.iload_n 3, 1) := by decide +kernel
theorem dX0_relax_53 : decode cX0_relax 53 = .ok (.iaload, 1) := by decide +kernel
theorem dX0_relax_54 : decode cX0_relax 54 = .ok (.iload 5, 2) := by decide +kernel
theorem dX0_relax_56 : decode cX0_relax 56 = .ok (.iadd, 1) := by decide +kernel
theorem dX0_relax_57 : decode cX0_relax 57 = .ok (.iastore, 1) := by decide +kernel
theorem dX0_relax_58 : decode cX0_relax 58 = .ok (.iconst 1, 1) := by decide +kernel
theorem dX0_relax_59 : decode cX0_relax 59 = .ok (.ireturn, 1) := by decide +kernel
theorem dX0_relax_60 : decode cX0_relax 60 = .ok (.aload_n 0, 1) := by decide +kernel
theorem dX0_relax_61 : decode cX0_relax 61 = .ok (.getfield 9, 3) := by decide +kernel
theorem dX0_relax_64 : decode cX0_relax 64 = .ok (.iload 4, 2) := by decide +kernel
theorem dX0_relax_66 : decode cX0_relax 66 = .ok (.iaload, 1) := by decide +kernel
theorem dX0_relax_67 : decode cX0_relax 67 = .ok (.iload 5, 2) := by decide +kernel
theorem dX0_relax_69 : decode cX0_relax 69 = .ok (.iadd, 1) := by decide +kernel
theorem dX0_relax_70 : decode cX0_relax 70 = .ok (.aload_n 0, 1) := by decide +kernel
theorem dX0_relax_71 : decode cX0_relax 71 = .ok (.getfield 9, 3) := by decide +kernel
theorem dX0_relax_74 : decode cX0_relax 74 = .ok (.iload_n 3, 1) := by decide +kernel
theorem dX0_relax_75 : decode cX0_relax 75 = .ok (.iaload, 1) := by decide +kernel
theorem dX0_relax_76 : decode cX0_relax 76 = .ok (.if_icmp .ge 21, 3) := by decide +kernel
theorem dX0_relax_79 : decode cX0_relax 79 = .ok (.aload_n 0, 1) := by decide +kernel
theorem dX0_relax_80 : decode cX0_relax 80 = .ok (.getfield 9, 3) := by decide +kernel
theorem dX0_relax_83 : decode cX0_relax 83 = .ok (.iload_n 3, 1) := by decide +kernel
theorem dX0_relax_84 : decode cX0_relax 84 = .ok (.aload_n 0, 1) := by decide +kernel
theorem dX0_relax_85 : decode cX0_relax 85 = .ok (.getfield 9, 3) := by decide +kernel
theorem dX0_relax_88 : decode cX0_relax 88 = .ok (.iload 4, 2) := by decide +kernel
theorem dX0_relax_90 : decode cX0_relax 90 = .ok (.iaload, 1) := by decide +kernel
theorem dX0_relax_91 : decode cX0_relax 91 = .ok (.iload 5, 2) := by decide +kernel
theorem dX0_relax_93 : decode cX0_relax 93 = .ok (.iadd, 1) := by decide +kernel
theorem dX0_relax_94 : decode cX0_relax 94 = .ok (.iastore, 1) := by decide +kernel
theorem dX0_relax_95 : decode cX0_relax 95 = .ok (.iconst 1, 1) := by decide +kernel
theorem dX0_relax_96 : decode cX0_relax 96 = .ok (.ireturn, 1) := by decide +kernel
theorem dX0_relax_97 : decode cX0_relax 97 = .ok (.iconst 0, 1) := by decide +kernel
theorem dX0_relax_98 : decode cX0_relax 98 = .ok (.ireturn, 1) := by decide +kernel
theorem dX1_init_0 : decode cX1_init 0 = .ok (.aload_n 0, 1) := by decide +kernel
theorem dX1_init_1 : decode cX1_init 1 = .ok (.invokespecial 3, 3) := by decide +kernel
theorem dX1_init_4 : decode cX1_init 4 = .ok (.aload_n 0, 1) := by decide +kernel
theorem dX1_init_5 : decode cX1_init 5 = .ok (.bipush 60, 2) := by decide +kernel
theorem dX1_init_7 : decode cX1_init 7 = .ok (.newarray .int, 2) := by decide +kernel
theorem dX1_init_9 : decode cX1_init 9 = .ok (.putfield 9, 3) := by decide +kernel
theorem dX1_init_12 : decode cX1_init 12 = .ok (.return_, 1) := by decide +kernel
theorem dX1_keepEntry_0 : decode cX1_keepEntry 0 = .ok (.iload_n 2, 1) := by decide +kernel
theorem dX1_keepEntry_1 : decode cX1_keepEntry 1 = .ok (.bipush 10, 2) := by decide +kernel
theorem dX1_keepEntry_3 : decode cX1_keepEntry 3 = .ok (.imul, 1) := by decide +kernel
theorem dX1_keepEntry_4 : decode cX1_keepEntry 4 = .ok (.iload_n 3, 1) := by decide +kernel
theorem dX1_keepEntry_5 : decode cX1_keepEntry 5 = .ok (.iadd, 1) := by decide +kernel
theorem dX1_keepEntry_6 : decode cX1_keepEntry 6 = .ok (.istore 4, 2) := by decide +kernel
theorem dX1_keepEntry_8 : decode cX1_keepEntry 8 = .ok (.aload_n 0, 1) := by decide +kernel
theorem dX1_keepEntry_9 : decode cX1_keepEntry 9 = .ok (.iconst 1, 1) := by decide +kernel
theorem dX1_keepEntry_10 : decode cX1_keepEntry 10 = .ok (.putfield 15, 3) := by decide +kernel
theorem dX1_keepEntry_13 : decode cX1_keepEntry 13 = .ok (.aload_n 0, 1) := by decide +kernel
theorem dX1_keepEntry_14 : decode cX1_keepEntry 14 = .ok (.iload_n 2, 1) := by decide +kernel
theorem dX1_keepEntry_15 : decode cX1_keepEntry 15 = .ok (.iload_n 3, 1) := by decide +kernel
theorem dX1_keepEntry_16 : decode cX1_keepEntry 16 = .ok (.if_icmp .ne 7, 3) := by decide +kernel
theorem dX1_keepEntry_19 : decode cX1_keepEntry 19 = .ok (.iconst 1, 1) := by decide +kernel
theorem dX1_keepEntry_20 : decode cX1_keepEntry 20 = .ok (.goto 4, 3) := by decide +kernel
theorem dX1_keepEntry_23 : decode cX1_keepEntry 23 = .ok (.iconst 0, 1) := by decide +kernel
theorem dX1_keepEntry_24 : decode cX1_keepEntry 24 = .ok (.putfield 19, 3) := by decide +kernel
theorem dX1_keepEntry_27 : decode cX1_keepEntry 27 = .ok (.aload_n 0, 1) := by decide +kernel
theorem dX1_keepEntry_28 : decode cX1_keepEntry 28 = .ok (.aload_n 1, 1) := by decide +kernel
theorem dX1_keepEntry_29 : decode cX1_keepEntry 29 = .ok (.getfield 23, 3) := by decide +kernel
theorem dX1_keepEntry_32 : decode cX1_keepEntry 32 = .ok (.iload 4, 2) := by decide +kernel
theorem dX1_keepEntry_34 : decode cX1_keepEntry 34 = .ok (.iaload, 1) := by decide +kernel
theorem dX1_keepEntry_35 : decode cX1_keepEntry 35 = .ok (.putfield 28, 3) := by decide +kernel
theorem dX1_keepEntry_38 : decode cX1_keepEntry 38 = .ok (.aload_n 0, 1) := by decide +kernel
theorem dX1_keepEntry_39 : decode cX1_keepEntry 39 = .ok (.aload_n 1, 1) := by decide +kernel
theorem dX1_keepEntry_40 : decode cX1_keepEntry 40 = .ok (.getfield 30, 3) := by decide +kernel
theorem dX1_keepEntry_43 : decode cX1_keepEntry 43 = .ok (.iload 4, 2) := by decide +kernel
theorem dX1_keepEntry_45 : decode cX1_keepEntry 45 = .ok (.iaload, 1) := by decide +kernel
theorem dX1_keepEntry_46 : decode cX1_keepEntry 46 = .ok (.putfield 33, 3) := by decide +kernel
theorem dX1_keepEntry_49 : decode cX1_keepEntry 49 = .ok (.aload_n 0, 1) := by decide +kernel
theorem dX1_keepEntry_50 : decode cX1_keepEntry 50 = .ok (.aload_n 1, 1) := by decide +kernel
theorem dX1_keepEntry_51 : decode cX1_keepEntry 51 = .ok (.getfield 35, 3) := by decide +kernel
theorem dX1_keepEntry_54 : decode cX1_keepEntry 54 = .ok (.iload 4, 2) := by decide +kernel
theorem dX1_keepEntry_56 : decode cX1_keepEntry 56 = .ok (.iaload, 1) := by decide +kernel
theorem dX1_keepEntry_57 : decode cX1_keepEntry 57 = .ok (.putfield 38, 3) := by decide +kernel
theorem dX1_keepEntry_60 : decode cX1_keepEntry 60 = .ok (.aload_n 0, 1) := by decide +kernel
theorem dX1_keepEntry_61 : decode cX1_keepEntry 61 = .ok (.aload_n 1, 1) := by decide +kernel
theorem dX1_keepEntry_62 : decode cX1_keepEntry 62 = .ok (.getfield 40, 3) := by decide +kernel
theorem dX1_keepEntry_65 : decode cX1_keepEntry 65 = .ok (.iload 4, 2) := by decide +kernel
theorem dX1_keepEntry_67 : decode cX1_keepEntry 67 = .ok (.iaload, 1) := by decide +kernel
theorem dX1_keepEntry_68 : decode cX1_keepEntry 68 = .ok (.putfield 43, 3) := by decide +kernel
theorem dX1_keepEntry_71 : decode cX1_keepEntry 71 = .ok (.return_, 1) := by decide +kernel
set_option maxRecDepth 20000 in
theorem ggX1_keepRow_J7_fill_53178 : GoodIn wsX1_keepRow wsJ7_fill_53178 := goodIn_r _ [7] (by decide +kernel) (by decide +kernel)
set_option maxRecDepth 20000 in
theorem gX1_keepRow_J7_fill_53178 : GoodIn wsX1_keepRow (va_wsS RX1 48 yJ7_fill_53178 wsJ7_fill_53178) := goodIn_app (goodIn_of _ (by decide +kernel)) ggX1_keepRow_J7_fill_53178
theorem dX1_keepRow_0 : decode cX1_keepRow 0 = .ok (.aload_n 0, 1) := by decide +kernel
theorem dX1_keepRow_1 : decode cX1_keepRow 1 = .ok (.iconst 2, 1) := by decide +kernel
theorem dX1_keepRow_2 : decode cX1_keepRow 2 = .ok (.putfield 15, 3) := by decide +kernel
theorem dX1_keepRow_5 : decode cX1_keepRow 5 = .ok (.aload_n 0, 1) := by decide +kernel
theorem dX1_keepRow_6 : decode cX1_keepRow 6 = .ok (.iload_n 1, 1) := by decide +kernel
theorem dX1_keepRow_7 : decode cX1_keepRow 7 = .ok (.putfield 45, 3) := by decide +kernel
theorem dX1_keepRow_10 : decode cX1_keepRow 10 = .ok (.aload_n 0, 1) := by decide +kernel
theorem dX1_keepRow_11 : decode cX1_keepRow 11 = .ok (.getfield 9, 3) := by decide +kernel
theorem dX1_keepRow_14 : decode cX1_keepRow 14 = .ok (.iconst 0, 1) := by decide +kernel
theorem dX1_keepRow_15 : decode cX1_keepRow 15 = .ok (.invokestatic 48, 3) := by decide +kernel
theorem dX1_keepRow_18 : decode cX1_keepRow 18 = .ok (.return_, 1) := by decide +kernel
theorem dX2_init_0 : decode cX2_init 0 = .ok (.aload_n 0, 1) := by decide +kernel
theorem dX2_init_1 : decode cX2_init 1 = .ok (.invokespecial 3, 3) := by decide +kernel
theorem dX2_init_4 : decode cX2_init 4 = .ok (.aload_n 0, 1) := by decide +kernel
theorem dX2_init_5 : decode cX2_init 5 = .ok (.bipush 24, 2) := by decide +kernel
theorem dX2_init_7 : decode cX2_init 7 = .ok (.newarray .int, 2) := by decide +kernel
theorem dX2_init_9 : decode cX2_init 9 = .ok (.putfield 9, 3) := by decide +kernel
theorem dX2_init_12 : decode cX2_init 12 = .ok (.aload_n 0, 1) := by decide +kernel
theorem dX2_init_13 : decode cX2_init 13 = .ok (.bipush 24, 2) := by decide +kernel
theorem dX2_init_15 : decode cX2_init 15 = .ok (.newarray .int, 2) := by decide +kernel
theorem dX2_init_17 : decode cX2_init 17 = .ok (.putfield 15, 3) := by decide +kernel
theorem dX2_init_20 : decode cX2_init 20 = .ok (.aload_n 0, 1) := by decide +kernel
theorem dX2_init_21 : decode cX2_init 21 = .ok (.bipush 24, 2) := by decide +kernel
theorem dX2_init_23 : decode cX2_init 23 = .ok (.newarray .int, 2) := by decide +kernel
theorem dX2_init_25 : decode cX2_init 25 = .ok (.putfield 18, 3) := by decide +kernel
theorem dX2_init_28 : decode cX2_init 28 = .ok (.aload_n 0, 1) := by decide +kernel
theorem dX2_init_29 : decode cX2_init 29 = .ok (.bipush 24, 2) := by decide +kernel
theorem dX2_init_31 : decode cX2_init 31 = .ok (.newarray .int, 2) := by decide +kernel
theorem dX2_init_33 : decode cX2_init 33 = .ok (.putfield 21, 3) := by decide +kernel
theorem dX2_init_36 : decode cX2_init 36 = .ok (.aload_n 0, 1) := by decide +kernel
theorem dX2_init_37 : decode cX2_init 37 = .ok (.bipush 100, 2) := by decide +kernel
theorem dX2_init_39 : decode cX2_init 39 = .ok (.newarray .int, 2) := by decide +kernel
theorem dX2_init_41 : decode cX2_init 41 = .ok (.putfield 24, 3) := by decide +kernel
theorem dX2_init_44 : decode cX2_init 44 = .ok (.return_, 1) := by decide +kernel
theorem dX2_become_0 : decode cX2_become 0 = .ok (.aload_n 1, 1) := by decide +kernel
theorem dX2_become_1 : decode cX2_become 1 = .ok (.getfield 9, 3) := by decide +kernel
theorem dX2_become_4 : decode cX2_become 4 = .ok (.iconst 0, 1) := by decide +kernel
theorem dX2_become_5 : decode cX2_become 5 = .ok (.aload_n 0, 1) := by decide +kernel
theorem dX2_become_6 : decode cX2_become 6 = .ok (.getfield 9, 3) := by decide +kernel
theorem dX2_become_9 : decode cX2_become 9 = .ok (.iconst 0, 1) := by decide +kernel
theorem dX2_become_10 : decode cX2_become 10 = .ok (.bipush 24, 2) := by decide +kernel
theorem dX2_become_12 : decode cX2_become 12 = .ok (.invokestatic 27, 3) := by decide +kernel
theorem dX2_become_15 : decode cX2_become 15 = .ok (.aload_n 1, 1) := by decide +kernel
theorem dX2_become_16 : decode cX2_become 16 = .ok (.getfield 15, 3) := by decide +kernel
theorem dX2_become_19 : decode cX2_become 19 = .ok (.iconst 0, 1) := by decide +kernel
theorem dX2_become_20 : decode cX2_become 20 = .ok (.aload_n 0, 1) := by decide +kernel
theorem dX2_become_21 : decode cX2_become 21 = .ok (.getfield 15, 3) := by decide +kernel
theorem dX2_become_24 : decode cX2_become 24 = .ok (.iconst 0, 1) := by decide +kernel
theorem dX2_become_25 : decode cX2_become 25 = .ok (.bipush 24, 2) := by decide +kernel
theorem dX2_become_27 : decode cX2_become 27 = .ok (.invokestatic 27, 3) := by decide +kernel
theorem dX2_become_30 : decode cX2_become 30 = .ok (.aload_n 1, 1) := by decide +kernel
theorem dX2_become_31 : decode cX2_become 31 = .ok (.getfield 18, 3) := by decide +kernel
theorem dX2_become_34 : decode cX2_become 34 = .ok (.iconst 0, 1) := by decide +kernel
theorem dX2_become_35 : decode cX2_become 35 = .ok (.aload_n 0, 1) := by decide +kernel
theorem dX2_become_36 : decode cX2_become 36 = .ok (.getfield 18, 3) := by decide +kernel
theorem dX2_become_39 : decode cX2_become 39 = .ok (.iconst 0, 1) := by decide +kernel
theorem dX2_become_40 : decode cX2_become 40 = .ok (.bipush 24, 2) := by decide +kernel
theorem dX2_become_42 : decode cX2_become 42 = .ok (.invokestatic 27, 3) := by decide +kernel
theorem dX2_become_45 : decode cX2_become 45 = .ok (.aload_n 1, 1) := by decide +kernel
theorem dX2_become_46 : decode cX2_become 46 = .ok (.getfield 21, 3) := by decide +kernel
theorem dX2_become_49 : decode cX2_become 49 = .ok (.iconst 0, 1) := by decide +kernel
theorem dX2_become_50 : decode cX2_become 50 = .ok (.aload_n 0, 1) := by decide +kernel
theorem dX2_become_51 : decode cX2_become 51 = .ok (.getfield 21, 3) := by decide +kernel
theorem dX2_become_54 : decode cX2_become 54 = .ok (.iconst 0, 1) := by decide +kernel
theorem dX2_become_55 : decode cX2_become 55 = .ok (.bipush 24, 2) := by decide +kernel
theorem dX2_become_57 : decode cX2_become 57 = .ok (.invokestatic 27, 3) := by decide +kernel
theorem dX2_become_60 : decode cX2_become 60 = .ok (.aload_n 1, 1) := by decide +kernel
theorem dX2_become_61 : decode cX2_become 61 = .ok (.getfield 24, 3) := by decide +kernel
theorem dX2_become_64 : decode cX2_become 64 = .ok (.iconst 0, 1) := by decide +kernel
theorem dX2_become_65 : decode cX2_become 65 = .ok (.aload_n 0, 1) := by decide +kernel
theorem dX2_become_66 : decode cX2_become 66 = .ok (.getfield 24, 3) := by decide +kernel
theorem dX2_become_69 : decode cX2_become 69 = .ok (.iconst 0, 1) := by decide +kernel
theorem dX2_become_70 : decode cX2_become 70 = .ok (.bipush 100, 2) := by decide +kernel
theorem dX2_become_72 : decode cX2_become 72 = .ok (.invokestatic 27, 3) := by decide +kernel
theorem dX2_become_75 : decode cX2_become 75 = .ok (.aload_n 0, 1) := by decide +kernel
theorem dX2_become_76 : decode cX2_become 76 = .ok (.aload_n 1, 1) := by decide +kernel
theorem dX2_become_77 : decode cX2_become 77 = .ok (.getfield 33, 3) := by decide +kernel
theorem dX2_become_80 : decode cX2_become 80 = .ok (.putfield 33, 3) := by decide +kernel
theorem dX2_become_83 : decode cX2_become 83 = .ok (.return_, 1) := by decide +kernel
theorem dX2_joining_0 : decode cX2_joining 0 = .ok (.aload_n 0, 1) := by decide +kernel
theorem dX2_joining_1 : decode cX2_joining 1 = .ok (.getfield 24, 3) := by decide +kernel
theorem dX2_joining_4 : decode cX2_joining 4 = .ok (.iload_n 1, 1) := by decide +kernel
theorem dX2_joining_5 : decode cX2_joining 5 = .ok (.bipush 10, 2) := by decide +kernel
theorem dX2_joining_7 : decode cX2_joining 7 = .ok (.imul, 1) := by decide +kernel
theorem dX2_joining_8 : decode cX2_joining 8 = .ok (.iload_n 2, 1) := by decide +kernel
theorem dX2_joining_9 : decode cX2_joining 9 = .ok (.iadd, 1) := by decide +kernel
theorem dX2_joining_10 : decode cX2_joining 10 = .ok (.iaload, 1) := by decide +kernel
theorem dX2_joining_11 : decode cX2_joining 11 = .ok (.iconst 1, 1) := by decide +kernel
theorem dX2_joining_12 : decode cX2_joining 12 = .ok (.isub, 1) := by decide +kernel
theorem dX2_joining_13 : decode cX2_joining 13 = .ok (.ireturn, 1) := by decide +kernel
theorem dX2_add_0 : decode cX2_add 0 = .ok (.aload_n 0, 1) := by decide +kernel
theorem dX2_add_1 : decode cX2_add 1 = .ok (.getfield 33, 3) := by decide +kernel
theorem dX2_add_4 : decode cX2_add 4 = .ok (.istore 4, 2) := by decide +kernel
theorem dX2_add_6 : decode cX2_add 6 = .ok (.aload_n 0, 1) := by decide +kernel
theorem dX2_add_7 : decode cX2_add 7 = .ok (.getfield 9, 3) := by decide +kernel
theorem dX2_add_10 : decode cX2_add 10 = .ok (.iload 4, 2) := by decide +kernel
theorem dX2_add_12 : decode cX2_add 12 = .ok (.iload_n 1, 1) := by decide +kernel
theorem dX2_add_13 : decode cX2_add 13 = .ok (.iload_n 2, 1) := by decide +kernel
theorem dX2_add_14 : decode cX2_add 14 = .ok (.invokestatic 37, 3) := by decide +kernel
theorem dX2_add_17 : decode cX2_add 17 = .ok (.iastore, 1) := by decide +kernel
theorem dX2_add_18 : decode cX2_add 18 = .ok (.aload_n 0, 1) := by decide +kernel
theorem dX2_add_19 : decode cX2_add 19 = .ok (.getfield 15, 3) := by decide +kernel
theorem dX2_add_22 : decode cX2_add 22 = .ok (.iload 4, 2) := by decide +kernel
theorem dX2_add_24 : decode cX2_add 24 = .ok (.iload_n 1, 1) := by decide +kernel
theorem dX2_add_25 : decode cX2_add 25 = .ok (.iload_n 2, 1) := by decide +kernel
theorem dX2_add_26 : decode cX2_add 26 = .ok (.invokestatic 43, 3) := by decide +kernel
theorem dX2_add_29 : decode cX2_add 29 = .ok (.iastore, 1) := by decide +kernel
theorem dX2_add_30 : decode cX2_add 30 = .ok (.aload_n 0, 1) := by decide +kernel
theorem dX2_add_31 : decode cX2_add 31 = .ok (.getfield 18, 3) := by decide +kernel
theorem dX2_add_34 : decode cX2_add 34 = .ok (.iload 4, 2) := by decide +kernel
theorem dX2_add_36 : decode cX2_add 36 = .ok (.iload_n 3, 1) := by decide +kernel
theorem dX2_add_37 : decode cX2_add 37 = .ok (.iastore, 1) := by decide +kernel
theorem dX2_add_38 : decode cX2_add 38 = .ok (.aload_n 0, 1) := by decide +kernel
theorem dX2_add_39 : decode cX2_add 39 = .ok (.getfield 21, 3) := by decide +kernel
theorem dX2_add_42 : decode cX2_add 42 = .ok (.iload 4, 2) := by decide +kernel
theorem dX2_add_44 : decode cX2_add 44 = .ok (.iconst 1, 1) := by decide +kernel
theorem dX2_add_45 : decode cX2_add 45 = .ok (.iastore, 1) := by decide +kernel
theorem dX2_add_46 : decode cX2_add 46 = .ok (.aload_n 0, 1) := by decide +kernel
theorem dX2_add_47 : decode cX2_add 47 = .ok (.dup, 1) := by decide +kernel
theorem dX2_add_48 : decode cX2_add 48 = .ok (.getfield 33, 3) := by decide +kernel
theorem dX2_add_51 : decode cX2_add 51 = .ok (.iconst 1, 1) := by decide +kernel
theorem dX2_add_52 : decode cX2_add 52 = .ok (.iadd, 1) := by decide +kernel
theorem dX2_add_53 : decode cX2_add 53 = .ok (.putfield 33, 3) := by decide +kernel
theorem dX2_add_56 : decode cX2_add 56 = .ok (.aload_n 0, 1) := by decide +kernel
theorem dX2_add_57 : decode cX2_add 57 = .ok (.getfield 24, 3) := by decide +kernel
theorem dX2_add_60 : decode cX2_add 60 = .ok (.iload_n 1, 1) := by decide +kernel
theorem dX2_add_61 : decode cX2_add 61 = .ok (.bipush 10, 2) := by decide +kernel
theorem dX2_add_63 : decode cX2_add 63 = .ok (.imul, 1) := by decide +kernel
theorem dX2_add_64 : decode cX2_add 64 = .ok (.iload_n 2, 1) := by decide +kernel
theorem dX2_add_65 : decode cX2_add 65 = .ok (.iadd, 1) := by decide +kernel
theorem dX2_add_66 : decode cX2_add 66 = .ok (.aload_n 0, 1) := by decide +kernel
theorem dX2_add_67 : decode cX2_add 67 = .ok (.getfield 33, 3) := by decide +kernel
theorem dX2_add_70 : decode cX2_add 70 = .ok (.iastore, 1) := by decide +kernel
theorem dX2_add_71 : decode cX2_add 71 = .ok (.aload_n 0, 1) := by decide +kernel
theorem dX2_add_72 : decode cX2_add 72 = .ok (.getfield 24, 3) := by decide +kernel
theorem dX2_add_75 : decode cX2_add 75 = .ok (.iload_n 2, 1) := by decide +kernel
theorem dX2_add_76 : decode cX2_add 76 = .ok (.bipush 10, 2) := by decide +kernel
theorem dX2_add_78 : decode cX2_add 78 = .ok (.imul, 1) := by decide +kernel
theorem dX2_add_79 : decode cX2_add 79 = .ok (.iload_n 1, 1) := by decide +kernel
theorem dX2_add_80 : decode cX2_add 80 = .ok (.iadd, 1) := by decide +kernel
theorem dX2_add_81 : decode cX2_add 81 = .ok (.aload_n 0, 1) := by decide +kernel
theorem dX2_add_82 : decode cX2_add 82 = .ok (.getfield 33, 3) := by decide +kernel
theorem dX2_add_85 : decode cX2_add 85 = .ok (.iastore, 1) := by decide +kernel
theorem dX2_add_86 : decode cX2_add 86 = .ok (.iload 4, 2) := by decide +kernel
theorem dX2_add_88 : decode cX2_add 88 = .ok (.ireturn, 1) := by decide +kernel
theorem dX2_howManyUp_0 : decode cX2_howManyUp 0 = .ok (.iconst 0, 1) := by decide +kernel
theorem dX2_howManyUp_1 : decode cX2_howManyUp 1 = .ok (.istore_n 1, 1) := by decide +kernel
theorem dX2_howManyUp_2 : decode cX2_howManyUp 2 = .ok (.iconst 0, 1) := by decide +kernel
theorem dX2_howManyUp_3 : decode cX2_howManyUp 3 = .ok (.istore_n 2, 1) := by decide +kernel
theorem dX2_howManyUp_4 : decode cX2_howManyUp 4 = .ok (.iload_n 2, 1) := by decide +kernel
theorem dX2_howManyUp_5 : decode cX2_howManyUp 5 = .ok (.aload_n 0, 1) := by decide +kernel
theorem dX2_howManyUp_6 : decode cX2_howManyUp 6 = .ok (.getfield 33, 3) := by decide +kernel
theorem dX2_howManyUp_9 : decode cX2_howManyUp 9 = .ok (.if_icmp .ge 18, 3) := by decide +kernel
theorem dX2_howManyUp_12 : decode cX2_howManyUp 12 = .ok (.iload_n 1, 1) := by decide +kernel
theorem dX2_howManyUp_13 : decode cX2_howManyUp 13 = .ok (.aload_n 0, 1) := by decide +kernel
theorem dX2_howManyUp_14 : decode cX2_howManyUp 14 = .ok (.getfield 21, 3) := by decide +kernel
theorem dX2_howManyUp_17 : decode cX2_howManyUp 17 = .ok (.iload_n 2, 1) := by decide +kernel
theorem dX2_howManyUp_18 : decode cX2_howManyUp 18 = .ok (.iaload, 1) := by decide +kernel
theorem dX2_howManyUp_19 : decode cX2_howManyUp 19 = .ok (.iadd, 1) := by decide +kernel
theorem dX2_howManyUp_20 : decode cX2_howManyUp 20 = .ok (.istore_n 1, 1) := by decide +kernel
theorem dX2_howManyUp_21 : decode cX2_howManyUp 21 = .ok (.iinc 2 1, 3) := by decide +kernel
theorem dX2_howManyUp_24 : decode cX2_howManyUp 24 = .ok (.goto (-20), 3) := by decide +kernel
theorem dX2_howManyUp_27 : decode cX2_howManyUp 27 = .ok (.iload_n 1, 1) := by decide +kernel
theorem dX2_howManyUp_28 : decode cX2_howManyUp 28 = .ok (.ireturn, 1) := by decide +kernel
set_option maxRecDepth 20000 in
theorem ggX3_init_X4_init : GoodIn wsX3_init wsX4_init := goodIn_r _ [15, 16, 2, 3, 17, 18, 19, 20, 21, 22, 23, 24, 25, 26, 27, 36, 37, 38, 39, 40, 41] (by decide +kernel) (by decide +kernel)
set_option maxRecDepth 20000 in
theorem gX3_init_X4_init : GoodIn wsX3_init (wsX4_init) := ggX3_init_X4_init
set_option maxRecDepth 20000 in
theorem ggX3_init_X2_init : GoodIn wsX3_init wsX2_init := goodIn_r _ [29, 30, 2, 3, 17, 31, 32, 33, 34, 35, 51, 52, 53, 54, 55, 56] (by decide +kernel) (by decide +kernel)
set_option maxRecDepth 20000 in
theorem gX3_init_X2_init_n23 : GoodIn wsX3_init (wsX2_init) := ggX3_init_X2_init
theorem dX3_init_0 : decode cX3_init 0 = .ok (.aload_n 0, 1) := by decide +kernel
theorem dX3_init_1 : decode cX3_init 1 = .ok (.invokespecial 3, 3) := by decide +kernel
theorem dX3_init_4 : decode cX3_init 4 = .ok (.aload_n 0, 1) := by decide +kernel
theorem dX3_init_5 : decode cX3_init 5 = .ok (.new 9, 3) := by decide +kernel
theorem dX3_init_8 : decode cX3_init 8 = .ok (.dup, 1) := by decide +kernel
theorem dX3_init_9 : decode cX3_init 9 = .ok (.invokespecial 11, 3) := by decide +kernel
theorem dX3_init_12 : decode cX3_init 12 = .ok (.putfield 12, 3) := by decide +kernel
theorem dX3_init_15 : decode cX3_init 15 = .ok (.aload_n 0, 1) := by decide +kernel
theorem dX3_init_16 : decode cX3_init 16 = .ok (.new 9, 3) := by decide +kernel
theorem dX3_init_19 : decode cX3_init 19 = .ok (.dup, 1) := by decide +kernel
theorem dX3_init_20 : decode cX3_init 20 = .ok (.invokespecial 11, 3) := by decide +kernel
theorem dX3_init_23 : decode cX3_init 23 = .ok (.putfield 18, 3) := by decide +kernel
theorem dX3_init_26 : decode cX3_init 26 = .ok (.aload_n 0, 1) := by decide +kernel
theorem dX3_init_27 : decode cX3_init 27 = .ok (.new 21, 3) := by decide +kernel
theorem dX3_init_30 : decode cX3_init 30 = .ok (.dup, 1) := by decide +kernel
theorem dX3_init_31 : decode cX3_init 31 = .ok (.invokespecial 23, 3) := by decide +kernel
theorem dX3_init_34 : decode cX3_init 34 = .ok (.putfield 24, 3) := by decide +kernel
theorem dX3_init_37 : decode cX3_init 37 = .ok (.return_, 1) := by decide +kernel
set_option maxRecDepth 20000 in
theorem ggX3_become_X4_become : GoodIn wsX3_become wsX4_become := goodIn_r _ [13, 14, 15, 16, 17, 18, 19, 20, 21, 22, 23, 45, 46, 47, 48, 49, 50] (by decide +kernel) (by decide +kernel)
set_option maxRecDepth 20000 in
theorem gX3_become_X4_become : GoodIn wsX3_become (wsV RX3 28 RX4 yX4_become wsX4_become) := goodIn_app (goodIn_of _ (by decide +kernel)) ggX3_become_X4_become
set_option maxRecDepth 20000 in
theorem ggX3_become_X2_become : GoodIn wsX3_become wsX2_become := goodIn_r _ [28, 29, 30, 16, 17, 18, 31, 32, 33, 34, 35, 51, 52, 53, 54, 55, 56] (by decide +kernel) (by decide +kernel)
set_option maxRecDepth 20000 in
theorem gX3_become_X2_become : GoodIn wsX3_become (wsV RX3 32 RX2 yX2_become wsX2_become) := goodIn_app (goodIn_of _ (by decide +kernel)) ggX3_become_X2_become
theorem dX3_become_0 : decode cX3_become 0 = .ok (.aload_n 0, 1) := by decide +kernel
theorem dX3_become_1 : decode cX3_become 1 = .ok (.getfield 12, 3) := by decide +kernel
theorem dX3_become_4 : decode cX3_become 4 = .ok (.aload_n 1, 1) := by decide +kernel
theorem dX3_become_5 : decode cX3_become 5 = .ok (.getfield 12, 3) := by decide +kernel
theorem dX3_become_8 : decode cX3_become 8 = .ok (.invokevirtual 28, 3) := by decide +kernel
theorem dX3_become_11 : decode cX3_become 11 = .ok (.aload_n 0, 1) := by decide +kernel
theorem dX3_become_12 : decode cX3_become 12 = .ok (.getfield 24, 3) := by decide +kernel
theorem dX3_become_15 : decode cX3_become 15 = .ok (.aload_n 1, 1) := by decide +kernel
theorem dX3_become_16 : decode cX3_become 16 = .ok (.getfield 24, 3) := by decide +kernel
theorem dX3_become_19 : decode cX3_become 19 = .ok (.invokevirtual 32, 3) := by decide +kernel
theorem dX3_become_22 : decode cX3_become 22 = .ok (.aload_n 0, 1) := by decide +kernel
theorem dX3_become_23 : decode cX3_become 23 = .ok (.aload_n 1, 1) := by decide +kernel
theorem dX3_become_24 : decode cX3_become 24 = .ok (.getfield 35, 3) := by decide +kernel
theorem dX3_become_27 : decode cX3_become 27 = .ok (.putfield 35, 3) := by decide +kernel
theorem dX3_become_30 : decode cX3_become 30 = .ok (.aload_n 0, 1) := by decide +kernel
theorem dX3_become_31 : decode cX3_become 31 = .ok (.aload_n 1, 1) := by decide +kernel
theorem dX3_become_32 : decode cX3_become 32 = .ok (.getfield 39, 3) := by decide +kernel
theorem dX3_become_35 : decode cX3_become 35 = .ok (.putfield 39, 3) := by decide +kernel
theorem dX3_become_38 : decode cX3_become 38 = .ok (.aload_n 0, 1) := by decide +kernel
theorem dX3_become_39 : decode cX3_become 39 = .ok (.aload_n 1, 1) := by decide +kernel
theorem dX3_become_40 : decode cX3_become 40 = .ok (.getfield 42, 3) := by decide +kernel
theorem dX3_become_43 : decode cX3_become 43 = .ok (.putfield 42, 3) := by decide +kernel
theorem dX3_become_46 : decode cX3_become 46 = .ok (.aload_n 0, 1) := by decide +kernel
theorem dX3_become_47 : decode cX3_become 47 = .ok (.aload_n 1, 1) := by decide +kernel
theorem dX3_become_48 : decode cX3_become 48 = .ok (.getfield 45, 3) := by decide +kernel
theorem dX3_become_51 : decode cX3_become 51 = .ok (.putfield 45, 3) := by decide +kernel
theorem dX3_become_54 : decode cX3_become 54 = .ok (.aload_n 0, 1) := by decide +kernel
theorem dX3_become_55 : decode cX3_become 55 = .ok (.aload_n 1, 1) := by decide +kernel
theorem dX3_become_56 : decode cX3_become 56 = .ok (.getfield 48, 3) := by decide +kernel
theorem dX3_become_59 : decode cX3_become 59 = .ok (.putfield 48, 3) := by decide +kernel
theorem dX3_become_62 : decode cX3_become 62 = .ok (.aload_n 0, 1) := by decide +kernel
theorem dX3_become_63 : decode cX3_become 63 = .ok (.aload_n 1, 1) := by decide +kernel
theorem dX3_become_64 : decode cX3_become 64 = .ok (.getfield 51, 3) := by decide +kernel
theorem dX3_become_67 : decode cX3_become 67 = .ok (.putfield 51, 3) := by decide +kernel
theorem dX3_become_70 : decode cX3_become 70 = .ok (.return_, 1) := by decide +kernel
set_option maxRecDepth 20000 in
theorem ggX3_addRouter_X4_enter : GoodIn wsX3_addRouter wsX4_enter := goodIn_r _ [7, 8, 9, 10, 11, 12, 13, 23, 24, 25, 26, 27, 28] (by decide +kernel) (by decide +kernel)
set_option maxRecDepth 20000 in
theorem gX3_addRouter_X4_enter : GoodIn wsX3_addRouter (wsV RX3 54 RX4 yX4_enter wsX4_enter) := goodIn_app (goodIn_of _ (by decide +kernel)) ggX3_addRouter_X4_enter
theorem dX3_addRouter_0 : decode cX3_addRouter 0 = .ok (.aload_n 0, 1) := by decide +kernel
theorem dX3_addRouter_1 : decode cX3_addRouter 1 = .ok (.getfield 35, 3) := by decide +kernel
theorem dX3_addRouter_4 : decode cX3_addRouter 4 = .ok (.istore_n 1, 1) := by decide +kernel
theorem dX3_addRouter_5 : decode cX3_addRouter 5 = .ok (.aload_n 0, 1) := by decide +kernel
theorem dX3_addRouter_6 : decode cX3_addRouter 6 = .ok (.getfield 12, 3) := by decide +kernel
theorem dX3_addRouter_9 : decode cX3_addRouter 9 = .ok (.iload_n 1, 1) := by decide +kernel
theorem dX3_addRouter_10 : decode cX3_addRouter 10 = .ok (.iload_n 1, 1) := by decide +kernel
theorem dX3_addRouter_11 : decode cX3_addRouter 11 = .ok (.iconst 0, 1) := by decide +kernel
theorem dX3_addRouter_12 : decode cX3_addRouter 12 = .ok (.iload_n 1, 1) := by decide +kernel
theorem dX3_addRouter_13 : decode cX3_addRouter 13 = .ok (.iconst 0, 1) := by decide +kernel
theorem dX3_addRouter_14 : decode cX3_addRouter 14 = .ok (.invokevirtual 54, 3) := by decide +kernel
theorem dX3_addRouter_17 : decode cX3_addRouter 17 = .ok (.aload_n 0, 1) := by decide +kernel
theorem dX3_addRouter_18 : decode cX3_addRouter 18 = .ok (.dup, 1) := by decide +kernel
theorem dX3_addRouter_19 : decode cX3_addRouter 19 = .ok (.getfield 35, 3) := by decide +kernel
theorem dX3_addRouter_22 : decode cX3_addRouter 22 = .ok (.iconst 1, 1) := by decide +kernel
theorem dX3_addRouter_23 : decode cX3_addRouter 23 = .ok (.iadd, 1) := by decide +kernel
theorem dX3_addRouter_24 : decode cX3_addRouter 24 = .ok (.putfield 35, 3) := by decide +kernel
theorem dX3_addRouter_27 : decode cX3_addRouter 27 = .ok (.iload_n 1, 1) := by decide +kernel
theorem dX3_addRouter_28 : decode cX3_addRouter 28 = .ok (.ireturn, 1) := by decide +kernel
set_option maxRecDepth 20000 in
theorem ggX3_switchLink_X3_loseVia : GoodIn wsX3_switchLink wsX3_loseVia := goodIn_r _ [9, 10, 11, 12, 13, 14, 15, 16, 17, 18, 19, 20, 21, 22, 23, 8, 24, 25, 26, 27, 28, 29, 30, 31, 32, 33, 34, 35, 36, 37, 44, 45, 46, 47, 48, 49] (by decide +kernel) (by decide +kernel)
set_option maxRecDepth 20000 in
theorem gX3_switchLink_X3_loseVia : GoodIn wsX3_switchLink (wsV RX3 68 RX3 yX3_loseVia wsX3_loseVia) := goodIn_app (goodIn_of _ (by decide +kernel)) ggX3_switchLink_X3_loseVia
theorem dX3_switchLink_0 : decode cX3_switchLink 0 = .ok (.aload_n 0, 1) := by decide +kernel
theorem dX3_switchLink_1 : decode cX3_switchLink 1 = .ok (.getfield 24, 3) := by decide +kernel
theorem dX3_switchLink_4 : decode cX3_switchLink 4 = .ok (.getfield 58, 3) := by decide +kernel
theorem dX3_switchLink_7 : decode cX3_switchLink 7 = .ok (.iload_n 1, 1) := by decide +kernel
theorem dX3_switchLink_8 : decode cX3_switchLink 8 = .ok (.iconst 1, 1) := by decide +kernel
theorem dX3_switchLink_9 : decode cX3_switchLink 9 = .ok (.aload_n 0, 1) := by decide +kernel
theorem dX3_switchLink_10 : decode cX3_switchLink 10 = .ok (.getfield 24, 3) := by decide +kernel
theorem dX3_switchLink_13 : decode cX3_switchLink 13 = .ok (.getfield 58, 3) := by decide +kernel
theorem dX3_switchLink_16 : decode cX3_switchLink 16 = .ok (.iload_n 1, 1) := by decide +kernel
theorem dX3_switchLink_17 : decode cX3_switchLink 17 = .ok (.iaload, 1) := by decide +kernel
theorem dX3_switchLink_18 : decode cX3_switchLink 18 = .ok (.isub, 1) := by decide +kernel
theorem dX3_switchLink_19 : decode cX3_switchLink 19 = .ok (.iastore, 1) := by decide +kernel
theorem dX3_switchLink_20 : decode cX3_switchLink 20 = .ok (.aload_n 0, 1) := by decide +kernel
theorem dX3_switchLink_21 : decode cX3_switchLink 21 = .ok (.getfield 24, 3) := by decide +kernel
theorem dX3_switchLink_24 : decode cX3_switchLink 24 = .ok (.getfield 58, 3) := by decide +kernel
theorem dX3_switchLink_27 : decode cX3_switchLink 27 = .ok (.iload_n 1, 1) := by decide +kernel
theorem dX3_switchLink_28 : decode cX3_switchLink 28 = .ok (.iaload, 1) := by decide +kernel
theorem dX3_switchLink_29 : decode cX3_switchLink 29 = .ok (.ifCond .ne 47, 3) := by decide +kernel
theorem dX3_switchLink_32 : decode cX3_switchLink 32 = .ok (.aload_n 0, 1) := by decide +kernel
theorem dX3_switchLink_33 : decode cX3_switchLink 33 = .ok (.aload_n 0, 1) := by decide +kernel
theorem dX3_switchLink_34 : decode cX3_switchLink 34 = .ok (.getfield 24, 3) := by decide +kernel
theorem dX3_switchLink_37 : decode cX3_switchLink 37 = .ok (.getfield 62, 3) := by decide +kernel
theorem dX3_switchLink_40 : decode cX3_switchLink 40 = .ok (.iload_n 1, 1) := by decide +kernel
theorem dX3_switchLink_41 : decode cX3_switchLink 41 = .ok (.iaload, 1) := by decide +kernel
theorem dX3_switchLink_42 : decode cX3_switchLink 42 = .ok (.aload_n 0, 1) := by decide +kernel
theorem dX3_switchLink_43 : decode cX3_switchLink 43 = .ok (.getfield 24, 3) := by decide +kernel
theorem dX3_switchLink_46 : decode cX3_switchLink 46 = .ok (.getfield 65, 3) := by decide +kernel
theorem dX3_switchLink_49 : decode cX3_switchLink 49 = .ok (.iload_n 1, 1) := by decide +kernel
theorem dX3_switchLink_50 : decode cX3_switchLink 50 = .ok (.iaload, 1) := by decide +kernel
theorem dX3_switchLink_51 : decode cX3_switchLink 51 = .ok (.invokevirtual 68, 3) := by decide +kernel
theorem dX3_switchLink_54 : decode cX3_switchLink 54 = .ok (.aload_n 0, 1) := by decide +kernel
theorem dX3_switchLink_55 : decode cX3_switchLink 55 = .ok (.aload_n 0, 1) := by decide +kernel
theorem dX3_switchLink_56 : decode cX3_switchLink 56 = .ok (.getfield 24, 3) := by decide +kernel
theorem dX3_switchLink_59 : decode cX3_switchLink 59 = .ok (.getfield 65, 3) := by decide +kernel
theorem dX3_switchLink_62 : decode cX3_switchLink 62 = .ok (.iload_n 1, 1) := by decide +kernel
theorem dX3_switchLink_63 : decode cX3_switchLink 63 = .ok (.iaload, 1) := by decide +kernel
theorem dX3_switchLink_64 : decode cX3_switchLink 64 = .ok (.aload_n 0, 1) := by decide +kernel
theorem dX3_switchLink_65 : decode cX3_switchLink 65 = .ok (.getfield 24, 3) := by decide +kernel
theorem dX3_switchLink_68 : decode cX3_switchLink 68 = .ok (.getfield 62, 3) := by decide +kernel
theorem dX3_switchLink_71 : decode cX3_switchLink 71 = .ok (.iload_n 1, 1) := by decide +kernel
theorem dX3_switchLink_72 : decode cX3_switchLink 72 = .ok (.iaload, 1) := by decide +kernel
theorem dX3_switchLink_73 : decode cX3_switchLink 73 = .ok (.invokevirtual 68, 3) := by decide +kernel
theorem dX3_switchLink_76 : decode cX3_switchLink 76 = .ok (.return_, 1) := by decide +kernel
set_option maxRecDepth 20000 in
theorem ggX3_loseVia_X4_reaches : GoodIn wsX3_loseVia wsX4_reaches := goodIn_r _ [10, 11, 30, 31, 32, 33, 34, 35] (by decide +kernel) (by decide +kernel)
set_option maxRecDepth 20000 in
theorem gX3_loseVia_X4_reaches : GoodIn wsX3_loseVia (wsV RX3 72 RX4 yX4_reaches wsX4_reaches) := goodIn_app (goodIn_of _ (by decide +kernel)) ggX3_loseVia_X4_reaches
set_option maxRecDepth 20000 in
theorem ggX3_loseVia_X3_take : GoodIn wsX3_loseVia wsX3_take := goodIn_r _ [16, 2, 17, 18, 19, 20, 3, 21, 22, 23, 24, 25, 26, 27, 28, 29, 30, 31, 32, 33, 34, 35] (by decide +kernel) (by decide +kernel)
set_option maxRecDepth 20000 in
theorem gX3_loseVia_X3_take : GoodIn wsX3_loseVia (wsV RX3 79 RX3 yX3_take wsX3_take) := goodIn_app (goodIn_of _ (by decide +kernel)) ggX3_loseVia_X3_take
theorem dX3_loseVia_0 : decode cX3_loseVia 0 = .ok (.iconst 0, 1) := by decide +kernel
theorem dX3_loseVia_1 : decode cX3_loseVia 1 = .ok (.istore_n 3, 1) := by decide +kernel
theorem dX3_loseVia_2 : decode cX3_loseVia 2 = .ok (.iload_n 3, 1) := by decide +kernel
theorem dX3_loseVia_3 : decode cX3_loseVia 3 = .ok (.aload_n 0, 1) := by decide +kernel
theorem dX3_loseVia_4 : decode cX3_loseVia 4 = .ok (.getfield 35, 3) := by decide +kernel
theorem dX3_loseVia_7 : decode cX3_loseVia 7 = .ok (.if_icmp .ge 69, 3) := by decide +kernel
theorem dX3_loseVia_10 : decode cX3_loseVia 10 = .ok (.iload_n 1, 1) := by decide +kernel
theorem dX3_loseVia_11 : decode cX3_loseVia 11 = .ok (.bipush 10, 2) := by decide +kernel
theorem dX3_loseVia_13 : decode cX3_loseVia 13 = .ok (.imul, 1) := by decide +kernel
theorem dX3_loseVia_14 : decode cX3_loseVia 14 = .ok (.iload_n 3, 1) := by decide +kernel
theorem dX3_loseVia_15 : decode cX3_loseVia 15 = .ok (.iadd, 1) := by decide +kernel
theorem dX3_loseVia_16 : decode cX3_loseVia 16 = .ok (.istore 4, 2) := by decide +kernel
theorem dX3_loseVia_18 : decode cX3_loseVia 18 = .ok (.aload_n 0, 1) := by decide +kernel
theorem dX3_loseVia_19 : decode cX3_loseVia 19 = .ok (.getfield 12, 3) := by decide +kernel
theorem dX3_loseVia_22 : decode cX3_loseVia 22 = .ok (.iload 4, 2) := by decide +kernel
theorem dX3_loseVia_24 : decode cX3_loseVia 24 = .ok (.invokevirtual 72, 3) := by decide +kernel
theorem dX3_loseVia_27 : decode cX3_loseVia 27 = .ok (.ifCond .eq 43, 3) := by decide +kernel
theorem dX3_loseVia_30 : decode cX3_loseVia 30 = .ok (.aload_n 0, 1) := by decide +kernel
theorem dX3_loseVia_31 : decode cX3_loseVia 31 = .ok (.getfield 12, 3) := by decide +kernel
theorem dX3_loseVia_34 : decode cX3_loseVia 34 = .ok (.getfield 76, 3) := by decide +kernel
theorem dX3_loseVia_37 : decode cX3_loseVia 37 = .ok (.iload 4, 2) := by decide +kernel
theorem dX3_loseVia_39 : decode cX3_loseVia 39 = .ok (.iaload, 1) := by decide +kernel
theorem dX3_loseVia_40 : decode cX3_loseVia 40 = .ok (.iload_n 2, 1) := by decide +kernel
theorem dX3_loseVia_41 : decode cX3_loseVia 41 = .ok (.if_icmp .ne 29, 3) := by decide +kernel
theorem dX3_loseVia_44 : decode cX3_loseVia 44 = .ok (.aload_n 0, 1) := by decide +kernel
theorem dX3_loseVia_45 : decode cX3_loseVia 45 = .ok (.iload 4, 2) := by decide +kernel
theorem dX3_loseVia_47 : decode cX3_loseVia 47 = .ok (.bipush 16, 2) := by decide +kernel
theorem dX3_loseVia_49 : decode cX3_loseVia 49 = .ok (.iload_n 2, 1) := by decide +kernel
theorem dX3_loseVia_50 : decode cX3_loseVia 50 = .ok (.invokevirtual 79, 3) := by decide +kernel
theorem dX3_loseVia_53 : decode cX3_loseVia 53 = .ok (.aload_n 0, 1) := by decide +kernel
theorem dX3_loseVia_54 : decode cX3_loseVia 54 = .ok (.getfield 12, 3) := by decide +kernel
theorem dX3_loseVia_57 : decode cX3_loseVia 57 = .ok (.getfield 83, 3) := by decide +kernel
theorem dX3_loseVia_60 : decode cX3_loseVia 60 = .ok (.iload 4, 2) := by decide +kernel
theorem dX3_loseVia_62 : decode cX3_loseVia 62 = .ok (.dup2, 1) := by decide +kernel
theorem dX3_loseVia_63 : decode cX3_loseVia 63 = .ok (.iaload, 1) := by decide +kernel
theorem dX3_loseVia_64 : decode cX3_loseVia 64 = .ok (.aload_n 0, 1) := by decide +kernel
theorem dX3_loseVia_65 : decode cX3_loseVia 65 = .ok (.getfield 42, 3) := by decide +kernel
theorem dX3_loseVia_68 : decode cX3_loseVia 68 = .ok (.iadd, 1) := by decide +kernel
theorem dX3_loseVia_69 : decode cX3_loseVia 69 = .ok (.iastore, 1) := by decide +kernel
theorem dX3_loseVia_70 : decode cX3_loseVia 70 = .ok (.iinc 3 1, 3) := by decide +kernel
theorem dX3_loseVia_73 : decode cX3_loseVia 73 = .ok (.goto (-71), 3) := by decide +kernel
theorem dX3_loseVia_76 : decode cX3_loseVia 76 = .ok (.return_, 1) := by decide +kernel
set_option maxRecDepth 20000 in
theorem ggX3_goRound_X4_become : GoodIn wsX3_goRound wsX4_become := goodIn_r _ [14, 15, 16, 17, 18, 19, 20, 21, 22, 23, 24, 77, 78, 79, 80, 81, 82] (by decide +kernel) (by decide +kernel)
set_option maxRecDepth 20000 in
theorem gX3_goRound_X4_become : GoodIn wsX3_goRound (wsV RX3 28 RX4 yX4_become wsX4_become) := goodIn_app (goodIn_of _ (by decide +kernel)) ggX3_goRound_X4_become
set_option maxRecDepth 20000 in
theorem ggX3_goRound_X2_joining : GoodIn wsX3_goRound wsX2_joining := goodIn_r _ [29, 30, 83, 84, 85, 86, 87, 88] (by decide +kernel) (by decide +kernel)
set_option maxRecDepth 20000 in
theorem gX3_goRound_X2_joining : GoodIn wsX3_goRound (wsV RX3 86 RX2 yX2_joining wsX2_joining) := goodIn_app (goodIn_of _ (by decide +kernel)) ggX3_goRound_X2_joining
set_option maxRecDepth 20000 in
theorem ggX3_goRound_X3_tell : GoodIn wsX3_goRound wsX3_tell := goodIn_r _ [35, 6, 36, 37, 38, 39, 40, 41, 42, 43, 44, 45, 4, 46, 47, 48, 34, 49, 3, 50, 1, 5, 51, 52, 53, 13, 54, 15, 55, 56, 57, 58, 20, 21, 22, 23, 24, 59, 60, 61, 62, 63, 68, 69, 70, 71, 72, 73, 74, 75, 76, 77, 78, 79, 80, 81, 82] (by decide +kernel) (by decide +kernel)
set_option maxRecDepth 20000 in
theorem gX3_goRound_X3_tell : GoodIn wsX3_goRound (wsV RX3 93 RX3 yX3_tell wsX3_tell) := goodIn_app (goodIn_of _ (by decide +kernel)) ggX3_goRound_X3_tell
set_option maxRecDepth 20000 in
theorem ggX3_goRound_X4_howManyDiffer : GoodIn wsX3_goRound wsX4_howManyDiffer := goodIn_r _ [67, 15, 20, 77, 78, 79, 80, 81, 82] (by decide +kernel) (by decide +kernel)
set_option maxRecDepth 20000 in
theorem gX3_goRound_X4_howManyDiffer : GoodIn wsX3_goRound (wsV RX3 96 RX4 yX4_howManyDiffer wsX4_howManyDiffer) := goodIn_app (goodIn_of _ (by decide +kernel)) ggX3_goRound_X4_howManyDiffer
theorem dX3_goRound_0 : decode cX3_goRound 0 = .ok (.aload_n 0, 1) := by decide +kernel
theorem dX3_goRound_1 : decode cX3_goRound 1 = .ok (.dup, 1) := by decide +kernel
theorem dX3_goRound_2 : decode cX3_goRound 2 = .ok (.getfield 48, 3) := by decide +kernel
theorem dX3_goRound_5 : decode cX3_goRound 5 = .ok (.iconst 1, 1) := by decide +kernel
theorem dX3_goRound_6 : decode cX3_goRound 6 = .ok (.iadd, 1) := by decide +kernel
theorem dX3_goRound_7 : decode cX3_goRound 7 = .ok (.putfield 48, 3) := by decide +kernel
theorem dX3_goRound_10 : decode cX3_goRound 10 = .ok (.iconst 0, 1) := by decide +kernel
theorem dX3_goRound_11 : decode cX3_goRound 11 = .ok (.istore_n 1, 1) := by decide +kernel
theorem dX3_goRound_12 : decode cX3_goRound 12 = .ok (.iload_n 1, 1) := by decide +kernel
theorem dX3_goRound_13 : decode cX3_goRound 13 = .ok (.aload_n 0, 1) := by decide +kernel
theorem dX3_goRound_14 : decode cX3_goRound 14 = .ok (.getfield 35, 3) := by decide +kernel
theorem dX3_goRound_17 : decode cX3_goRound 17 = .ok (.if_icmp .ge 32, 3) := by decide +kernel
theorem dX3_goRound_20 : decode cX3_goRound 20 = .ok (.aload_n 0, 1) := by decide +kernel
theorem dX3_goRound_21 : decode cX3_goRound 21 = .ok (.getfield 12, 3) := by decide +kernel
theorem dX3_goRound_24 : decode cX3_goRound 24 = .ok (.getfield 83, 3) := by decide +kernel
theorem dX3_goRound_27 : decode cX3_goRound 27 = .ok (.iload_n 1, 1) := by decide +kernel
theorem dX3_goRound_28 : decode cX3_goRound 28 = .ok (.bipush 10, 2) := by decide +kernel
theorem dX3_goRound_30 : decode cX3_goRound 30 = .ok (.imul, 1) := by decide +kernel
theorem dX3_goRound_31 : decode cX3_goRound 31 = .ok (.iload_n 1, 1) := by decide +kernel
theorem dX3_goRound_32 : decode cX3_goRound 32 = .ok (.iadd, 1) := by decide +kernel
theorem dX3_goRound_33 : decode cX3_goRound 33 = .ok (.dup2, 1) := by decide +kernel
theorem dX3_goRound_34 : decode cX3_goRound 34 = .ok (.iaload, 1) := by decide +kernel
theorem dX3_goRound_35 : decode cX3_goRound 35 = .ok (.iconst 2, 1) := by decide +kernel
theorem dX3_goRound_36 : decode cX3_goRound 36 = .ok (.aload_n 0, 1) := by decide +kernel
theorem dX3_goRound_37 : decode cX3_goRound 37 = .ok (.getfield 42, 3) := by decide +kernel
theorem dX3_goRound_40 : decode cX3_goRound 40 = .ok (.imul, 1) := by decide +kernel
theorem dX3_goRound_41 : decode cX3_goRound 41 = .ok (.iadd, 1) := by decide +kernel
theorem dX3_goRound_42 : decode cX3_goRound 42 = .ok (.iastore, 1) := by decide +kernel
theorem dX3_goRound_43 : decode cX3_goRound 43 = .ok (.iinc 1 1, 3) := by decide +kernel
theorem dX3_goRound_46 : decode cX3_goRound 46 = .ok (.goto (-34), 3) := by decide +kernel
theorem dX3_goRound_49 : decode cX3_goRound 49 = .ok (.aload_n 0, 1) := by decide +kernel
theorem dX3_goRound_50 : decode cX3_goRound 50 = .ok (.getfield 18, 3) := by decide +kernel
theorem dX3_goRound_53 : decode cX3_goRound 53 = .ok (.aload_n 0, 1) := by decide +kernel
theorem dX3_goRound_54 : decode cX3_goRound 54 = .ok (.getfield 12, 3) := by decide +kernel
theorem dX3_goRound_57 : decode cX3_goRound 57 = .ok (.invokevirtual 28, 3) := by decide +kernel
theorem dX3_goRound_60 : decode cX3_goRound 60 = .ok (.iconst 0, 1) := by decide +kernel
theorem dX3_goRound_61 : decode cX3_goRound 61 = .ok (.istore_n 1, 1) := by decide +kernel
theorem dX3_goRound_62 : decode cX3_goRound 62 = .ok (.iload_n 1, 1) := by decide +kernel
theorem dX3_goRound_63 : decode cX3_goRound 63 = .ok (.aload_n 0, 1) := by decide +kernel
theorem dX3_goRound_64 : decode cX3_goRound 64 = .ok (.getfield 35, 3) := by decide +kernel
theorem dX3_goRound_67 : decode cX3_goRound 67 = .ok (.if_icmp .ge 67, 3) := by decide +kernel
theorem dX3_goRound_70 : decode cX3_goRound 70 = .ok (.iconst 0, 1) := by decide +kernel
theorem dX3_goRound_71 : decode cX3_goRound 71 = .ok (.istore_n 2, 1) := by decide +kernel
theorem dX3_goRound_72 : decode cX3_goRound 72 = .ok (.iload_n 2, 1) := by decide +kernel
theorem dX3_goRound_73 : decode cX3_goRound 73 = .ok (.aload_n 0, 1) := by decide +kernel
theorem dX3_goRound_74 : decode cX3_goRound 74 = .ok (.getfield 35, 3) := by decide +kernel
theorem dX3_goRound_77 : decode cX3_goRound 77 = .ok (.if_icmp .ge 51, 3) := by decide +kernel
theorem dX3_goRound_80 : decode cX3_goRound 80 = .ok (.aload_n 0, 1) := by decide +kernel
theorem dX3_goRound_81 : decode cX3_goRound 81 = .ok (.getfield 24, 3) := by decide +kernel
theorem dX3_goRound_84 : decode cX3_goRound 84 = .ok (.iload_n 1, 1) := by decide +kernel
theorem dX3_goRound_85 : decode cX3_goRound 85 = .ok (.iload_n 2, 1) := by decide +kernel
theorem dX3_goRound_86 : decode cX3_goRound 86 = .ok (.invokevirtual 86, 3) := by decide +kernel
theorem dX3_goRound_89 : decode cX3_goRound 89 = .ok (.istore_n 3, 1) := by decide +kernel
theorem dX3_goRound_90 : decode cX3_goRound 90 = .ok (.iload_n 3, 1) := by decide +kernel
theorem dX3_goRound_91 : decode cX3_goRound 91 = .ok (.ifCond .lt 31, 3) := by decide +kernel
theorem dX3_goRound_94 : decode cX3_goRound 94 = .ok (.aload_n 0, 1) := by decide +kernel
theorem dX3_goRound_95 : decode cX3_goRound 95 = .ok (.getfield 24, 3) := by decide +kernel
theorem dX3_goRound_98 : decode cX3_goRound 98 = .ok (.getfield 58, 3) := by decide +kernel
theorem dX3_goRound_101 : decode cX3_goRound 101 = .ok (.iload_n 3, 1) := by decide +kernel
theorem dX3_goRound_102 : decode cX3_goRound 102 = .ok (.iaload, 1) := by decide +kernel
theorem dX3_goRound_103 : decode cX3_goRound 103 = .ok (.iconst 1, 1) := by decide +kernel
theorem dX3_goRound_104 : decode cX3_goRound 104 = .ok (.if_icmp .ne 18, 3) := by decide +kernel
theorem dX3_goRound_107 : decode cX3_goRound 107 = .ok (.aload_n 0, 1) := by decide +kernel
theorem dX3_goRound_108 : decode cX3_goRound 108 = .ok (.iload_n 1, 1) := by decide +kernel
theorem dX3_goRound_109 : decode cX3_goRound 109 = .ok (.iload_n 2, 1) := by decide +kernel
theorem dX3_goRound_110 : decode cX3_goRound 110 = .ok (.aload_n 0, 1) := by decide +kernel
theorem dX3_goRound_111 : decode cX3_goRound 111 = .ok (.getfield 24, 3) := by decide +kernel
theorem dX3_goRound_114 : decode cX3_goRound 114 = .ok (.getfield 90, 3) := by decide +kernel
theorem dX3_goRound_117 : decode cX3_goRound 117 = .ok (.iload_n 3, 1) := by decide +kernel
theorem dX3_goRound_118 : decode cX3_goRound 118 = .ok (.iaload, 1) := by decide +kernel
theorem dX3_goRound_119 : decode cX3_goRound 119 = .ok (.invokevirtual 93, 3) := by decide +kernel
theorem dX3_goRound_122 : decode cX3_goRound 122 = .ok (.iinc 2 1, 3) := by decide +kernel
theorem dX3_goRound_125 : decode cX3_goRound 125 = .ok (.goto (-53), 3) := by decide +kernel
theorem dX3_goRound_128 : decode cX3_goRound 128 = .ok (.iinc 1 1, 3) := by decide +kernel
theorem dX3_goRound_131 : decode cX3_goRound 131 = .ok (.goto (-69), 3) := by decide +kernel
theorem dX3_goRound_134 : decode cX3_goRound 134 = .ok (.aload_n 0, 1) := by decide +kernel
theorem dX3_goRound_135 : decode cX3_goRound 135 = .ok (.getfield 12, 3) := by decide +kernel
theorem dX3_goRound_138 : decode cX3_goRound 138 = .ok (.aload_n 0, 1) := by decide +kernel
theorem dX3_goRound_139 : decode cX3_goRound 139 = .ok (.getfield 18, 3) := by decide +kernel
theorem dX3_goRound_142 : decode cX3_goRound 142 = .ok (.invokevirtual 96, 3) := by decide +kernel
theorem dX3_goRound_145 : decode cX3_goRound 145 = .ok (.ireturn, 1) := by decide +kernel
set_option maxRecDepth 20000 in
theorem ggX3_roundsToSettle_X3_goRound : GoodIn wsX3_roundsToSettle wsX3_goRound := goodIn_r _ [5, 6, 7, 8, 9, 10, 11, 12, 13, 14, 15, 16, 17, 18, 19, 20, 21, 22, 23, 24, 25, 26, 27, 28, 29, 30, 31, 32, 33, 34, 35, 36, 37, 38, 4, 39, 40, 41, 42, 43, 44, 45, 46, 47, 48, 49, 50, 51, 52, 53, 54, 55, 56, 57, 58, 59, 60, 61, 62, 63, 64, 65, 66, 67, 68, 69, 70, 71, 72, 73, 74, 75, 76, 77, 78, 79, 80, 81, 82, 83, 84, 85, 86, 87, 88, 89, 90, 91, 92] (by decide +kernel) (by decide +kernel)
set_option maxRecDepth 20000 in
theorem gX3_roundsToSettle_X3_goRound : GoodIn wsX3_roundsToSettle (wsV RX3 100 RX3 yX3_goRound wsX3_goRound) := goodIn_app (goodIn_of _ (by decide +kernel)) ggX3_roundsToSettle_X3_goRound
theorem dX3_roundsToSettle_0 : decode cX3_roundsToSettle 0 = .ok (.iconst 0, 1) := by decide +kernel
theorem dX3_roundsToSettle_1 : decode cX3_roundsToSettle 1 = .ok (.istore_n 1, 1) := by decide +kernel
theorem dX3_roundsToSettle_2 : decode cX3_roundsToSettle 2 = .ok (.iload_n 1, 1) := by decide +kernel
theorem dX3_roundsToSettle_3 : decode cX3_roundsToSettle 3 = .ok (.bipush 80, 2) := by decide +kernel
theorem dX3_roundsToSettle_5 : decode cX3_roundsToSettle 5 = .ok (.if_icmp .gt 18, 3) := by decide +kernel
theorem dX3_roundsToSettle_8 : decode cX3_roundsToSettle 8 = .ok (.aload_n 0, 1) := by decide +kernel
theorem dX3_roundsToSettle_9 : decode cX3_roundsToSettle 9 = .ok (.invokevirtual 100, 3) := by decide +kernel
theorem dX3_roundsToSettle_12 : decode cX3_roundsToSettle 12 = .ok (.ifCond .ne 5, 3) := by decide +kernel
theorem dX3_roundsToSettle_15 : decode cX3_roundsToSettle 15 = .ok (.iload_n 1, 1) := by decide +kernel
theorem dX3_roundsToSettle_16 : decode cX3_roundsToSettle 16 = .ok (.ireturn, 1) := by decide +kernel
theorem dX3_roundsToSettle_17 : decode cX3_roundsToSettle 17 = .ok (.iinc 1 1, 3) := by decide +kernel
theorem dX3_roundsToSettle_20 : decode cX3_roundsToSettle 20 = .ok (.goto (-18), 3) := by decide +kernel
theorem dX3_roundsToSettle_23 : decode cX3_roundsToSettle 23 = .ok (.bipush 81, 2) := by decide +kernel
theorem dX3_roundsToSettle_25 : decode cX3_roundsToSettle 25 = .ok (.ireturn, 1) := by decide +kernel
set_option maxRecDepth 20000 in
theorem ggX3_tell_X3_receive : GoodIn wsX3_tell wsX3_receive := goodIn_r _ [17, 18, 4, 19, 20, 21, 6, 12, 22, 23, 24, 25, 26, 27, 28, 29, 30, 31, 32, 33, 34, 35, 36, 37, 38, 39, 16, 40, 41, 42, 43, 44, 45, 46, 47, 48, 49, 50, 51, 52, 53, 54, 55, 56] (by decide +kernel) (by decide +kernel)
set_option maxRecDepth 20000 in
theorem gX3_tell_X3_receive : GoodIn wsX3_tell (wsV RX3 118 RX3 yX3_receive wsX3_receive) := goodIn_app (goodIn_of _ (by decide +kernel)) ggX3_tell_X3_receive
theorem dX3_tell_0 : decode cX3_tell 0 = .ok (.iconst 0, 1) := by decide +kernel
theorem dX3_tell_1 : decode cX3_tell 1 = .ok (.istore 4, 2) := by decide +kernel
theorem dX3_tell_3 : decode cX3_tell 3 = .ok (.iload 4, 2) := by decide +kernel
theorem dX3_tell_5 : decode cX3_tell 5 = .ok (.aload_n 0, 1) := by decide +kernel
theorem dX3_tell_6 : decode cX3_tell 6 = .ok (.getfield 18, 3) := by decide +kernel
theorem dX3_tell_9 : decode cX3_tell 9 = .ok (.getfield 104, 3) := by decide +kernel
theorem dX3_tell_12 : decode cX3_tell 12 = .ok (.iload_n 1, 1) := by decide +kernel
theorem dX3_tell_13 : decode cX3_tell 13 = .ok (.iaload, 1) := by decide +kernel
theorem dX3_tell_14 : decode cX3_tell 14 = .ok (.if_icmp .ge 126, 3) := by decide +kernel
theorem dX3_tell_17 : decode cX3_tell 17 = .ok (.aload_n 0, 1) := by decide +kernel
theorem dX3_tell_18 : decode cX3_tell 18 = .ok (.getfield 18, 3) := by decide +kernel
theorem dX3_tell_21 : decode cX3_tell 21 = .ok (.getfield 107, 3) := by decide +kernel
theorem dX3_tell_24 : decode cX3_tell 24 = .ok (.iload_n 1, 1) := by decide +kernel
theorem dX3_tell_25 : decode cX3_tell 25 = .ok (.bipush 10, 2) := by decide +kernel
theorem dX3_tell_27 : decode cX3_tell 27 = .ok (.imul, 1) := by decide +kernel
theorem dX3_tell_28 : decode cX3_tell 28 = .ok (.iload 4, 2) := by decide +kernel
theorem dX3_tell_30 : decode cX3_tell 30 = .ok (.iadd, 1) := by decide +kernel
theorem dX3_tell_31 : decode cX3_tell 31 = .ok (.iaload, 1) := by decide +kernel
theorem dX3_tell_32 : decode cX3_tell 32 = .ok (.istore 5, 2) := by decide +kernel
theorem dX3_tell_34 : decode cX3_tell 34 = .ok (.iload_n 1, 1) := by decide +kernel
theorem dX3_tell_35 : decode cX3_tell 35 = .ok (.bipush 10, 2) := by decide +kernel
theorem dX3_tell_37 : decode cX3_tell 37 = .ok (.imul, 1) := by decide +kernel
theorem dX3_tell_38 : decode cX3_tell 38 = .ok (.iload 5, 2) := by decide +kernel
theorem dX3_tell_40 : decode cX3_tell 40 = .ok (.iadd, 1) := by decide +kernel
theorem dX3_tell_41 : decode cX3_tell 41 = .ok (.istore 6, 2) := by decide +kernel
theorem dX3_tell_43 : decode cX3_tell 43 = .ok (.aload_n 0, 1) := by decide +kernel
theorem dX3_tell_44 : decode cX3_tell 44 = .ok (.getfield 18, 3) := by decide +kernel
theorem dX3_tell_47 : decode cX3_tell 47 = .ok (.getfield 110, 3) := by decide +kernel
theorem dX3_tell_50 : decode cX3_tell 50 = .ok (.iload 6, 2) := by decide +kernel
theorem dX3_tell_52 : decode cX3_tell 52 = .ok (.iaload, 1) := by decide +kernel
theorem dX3_tell_53 : decode cX3_tell 53 = .ok (.istore 7, 2) := by decide +kernel
theorem dX3_tell_55 : decode cX3_tell 55 = .ok (.aload_n 0, 1) := by decide +kernel
theorem dX3_tell_56 : decode cX3_tell 56 = .ok (.getfield 39, 3) := by decide +kernel
theorem dX3_tell_59 : decode cX3_tell 59 = .ok (.ifCond .eq 32, 3) := by decide +kernel
theorem dX3_tell_62 : decode cX3_tell 62 = .ok (.aload_n 0, 1) := by decide +kernel
theorem dX3_tell_63 : decode cX3_tell 63 = .ok (.getfield 18, 3) := by decide +kernel
theorem dX3_tell_66 : decode cX3_tell 66 = .ok (.getfield 76, 3) := by decide +kernel
theorem dX3_tell_69 : decode cX3_tell 69 = .ok (.iload 6, 2) := by decide +kernel
theorem dX3_tell_71 : decode cX3_tell 71 = .ok (.iaload, 1) := by decide +kernel
theorem dX3_tell_72 : decode cX3_tell 72 = .ok (.iload_n 2, 1) := by decide +kernel
theorem dX3_tell_73 : decode cX3_tell 73 = .ok (.if_icmp .ne 18, 3) := by decide +kernel
theorem dX3_tell_76 : decode cX3_tell 76 = .ok (.aload_n 0, 1) := by decide +kernel
theorem dX3_tell_77 : decode cX3_tell 77 = .ok (.getfield 39, 3) := by decide +kernel
theorem dX3_tell_80 : decode cX3_tell 80 = .ok (.iconst 1, 1) := by decide +kernel
theorem dX3_tell_81 : decode cX3_tell 81 = .ok (.if_icmp .ne 6, 3) := by decide +kernel
theorem dX3_tell_84 : decode cX3_tell 84 = .ok (.goto 50, 3) := by decide +kernel
theorem dX3_tell_87 : decode cX3_tell 87 = .ok (.bipush 16, 2) := by decide +kernel
theorem dX3_tell_89 : decode cX3_tell 89 = .ok (.istore 7, 2) := by decide +kernel
theorem dX3_tell_91 : decode cX3_tell 91 = .ok (.aload_n 0, 1) := by decide +kernel
theorem dX3_tell_92 : decode cX3_tell 92 = .ok (.dup, 1) := by decide +kernel
theorem dX3_tell_93 : decode cX3_tell 93 = .ok (.getfield 51, 3) := by decide +kernel
theorem dX3_tell_96 : decode cX3_tell 96 = .ok (.iconst 1, 1) := by decide +kernel
theorem dX3_tell_97 : decode cX3_tell 97 = .ok (.iadd, 1) := by decide +kernel
theorem dX3_tell_98 : decode cX3_tell 98 = .ok (.putfield 51, 3) := by decide +kernel
theorem dX3_tell_101 : decode cX3_tell 101 = .ok (.iload 5, 2) := by decide +kernel
theorem dX3_tell_103 : decode cX3_tell 103 = .ok (.iload_n 2, 1) := by decide +kernel
theorem dX3_tell_104 : decode cX3_tell 104 = .ok (.if_icmp .eq 30, 3) := by decide +kernel
theorem dX3_tell_107 : decode cX3_tell 107 = .ok (.aload_n 0, 1) := by decide +kernel
theorem dX3_tell_108 : decode cX3_tell 108 = .ok (.iload_n 2, 1) := by decide +kernel
theorem dX3_tell_109 : decode cX3_tell 109 = .ok (.iload_n 1, 1) := by decide +kernel
theorem dX3_tell_110 : decode cX3_tell 110 = .ok (.iload 5, 2) := by decide +kernel
theorem dX3_tell_112 : decode cX3_tell 112 = .ok (.bipush 16, 2) := by decide +kernel
theorem dX3_tell_114 : decode cX3_tell 114 = .ok (.iload 7, 2) := by decide +kernel
theorem dX3_tell_116 : decode cX3_tell 116 = .ok (.iload_n 3, 1) := by decide +kernel
theorem dX3_tell_117 : decode cX3_tell 117 = .ok (.iadd, 1) := by decide +kernel
theorem dX3_tell_118 : decode cX3_tell 118 = .ok (.invokestatic 113, 3) := by decide +kernel
theorem dX3_tell_121 : decode cX3_tell 121 = .ok (.aload_n 0, 1) := by decide +kernel
theorem dX3_tell_122 : decode cX3_tell 122 = .ok (.getfield 18, 3) := by decide +kernel
theorem dX3_tell_125 : decode cX3_tell 125 = .ok (.getfield 83, 3) := by decide +kernel
theorem dX3_tell_128 : decode cX3_tell 128 = .ok (.iload 6, 2) := by decide +kernel
theorem dX3_tell_130 : decode cX3_tell 130 = .ok (.iaload, 1) := by decide +kernel
theorem dX3_tell_131 : decode cX3_tell 131 = .ok (.invokevirtual 118, 3) := by decide +kernel
theorem dX3_tell_134 : decode cX3_tell 134 = .ok (.iinc 4 1, 3) := by decide +kernel
theorem dX3_tell_137 : decode cX3_tell 137 = .ok (.goto (-134), 3) := by decide +kernel
theorem dX3_tell_140 : decode cX3_tell 140 = .ok (.return_, 1) := by decide +kernel
set_option maxRecDepth 20000 in
theorem ggX3_receive_X4_has : GoodIn wsX3_receive wsX4_has := goodIn_r _ [12, 13, 38, 39, 40, 41, 42, 43] (by decide +kernel) (by decide +kernel)
set_option maxRecDepth 20000 in
theorem gX3_receive_X4_has : GoodIn wsX3_receive (wsV RX3 121 RX4 yX4_has wsX4_has) := goodIn_app (goodIn_of _ (by decide +kernel)) ggX3_receive_X4_has
set_option maxRecDepth 20000 in
theorem ggX3_receive_X4_enter : GoodIn wsX3_receive wsX4_enter := goodIn_r _ [17, 13, 18, 19, 20, 21, 22, 38, 39, 40, 41, 42, 43] (by decide +kernel) (by decide +kernel)
set_option maxRecDepth 20000 in
theorem gX3_receive_X4_enter : GoodIn wsX3_receive (wsV RX3 54 RX4 yX4_enter wsX4_enter) := goodIn_app (goodIn_of _ (by decide +kernel)) ggX3_receive_X4_enter
set_option maxRecDepth 20000 in
theorem ggX3_receive_X3_take : GoodIn wsX3_receive wsX3_take := goodIn_r _ [27, 1, 2, 3, 4, 28, 6, 29, 30, 31, 32, 33, 34, 35, 36, 37, 38, 39, 40, 41, 42, 43] (by decide +kernel) (by decide +kernel)
set_option maxRecDepth 20000 in
theorem gX3_receive_X3_take : GoodIn wsX3_receive (wsV RX3 79 RX3 yX3_take wsX3_take) := goodIn_app (goodIn_of _ (by decide +kernel)) ggX3_receive_X3_take
theorem dX3_receive_0 : decode cX3_receive 0 = .ok (.iload_n 1, 1) := by decide +kernel
theorem dX3_receive_1 : decode cX3_receive 1 = .ok (.bipush 10, 2) := by decide +kernel
theorem dX3_receive_3 : decode cX3_receive 3 = .ok (.imul, 1) := by decide +kernel
theorem dX3_receive_4 : decode cX3_receive 4 = .ok (.iload_n 3, 1) := by decide +kernel
theorem dX3_receive_5 : decode cX3_receive 5 = .ok (.iadd, 1) := by decide +kernel
theorem dX3_receive_6 : decode cX3_receive 6 = .ok (.istore 6, 2) := by decide +kernel
theorem dX3_receive_8 : decode cX3_receive 8 = .ok (.aload_n 0, 1) := by decide +kernel
theorem dX3_receive_9 : decode cX3_receive 9 = .ok (.getfield 12, 3) := by decide +kernel
theorem dX3_receive_12 : decode cX3_receive 12 = .ok (.iload 6, 2) := by decide +kernel
theorem dX3_receive_14 : decode cX3_receive 14 = .ok (.invokevirtual 121, 3) := by decide +kernel
theorem dX3_receive_17 : decode cX3_receive 17 = .ok (.ifCond .ne 25, 3) := by decide +kernel
theorem dX3_receive_20 : decode cX3_receive 20 = .ok (.iload 4, 2) := by decide +kernel
theorem dX3_receive_22 : decode cX3_receive 22 = .ok (.bipush 16, 2) := by decide +kernel
theorem dX3_receive_24 : decode cX3_receive 24 = .ok (.if_icmp .ge 17, 3) := by decide +kernel
theorem dX3_receive_27 : decode cX3_receive 27 = .ok (.aload_n 0, 1) := by decide +kernel
theorem dX3_receive_28 : decode cX3_receive 28 = .ok (.getfield 12, 3) := by decide +kernel
theorem dX3_receive_31 : decode cX3_receive 31 = .ok (.iload_n 1, 1) := by decide +kernel
theorem dX3_receive_32 : decode cX3_receive 32 = .ok (.iload_n 3, 1) := by decide +kernel
theorem dX3_receive_33 : decode cX3_receive 33 = .ok (.iload 4, 2) := by decide +kernel
theorem dX3_receive_35 : decode cX3_receive 35 = .ok (.iload_n 2, 1) := by decide +kernel
theorem dX3_receive_36 : decode cX3_receive 36 = .ok (.iload 5, 2) := by decide +kernel
theorem dX3_receive_38 : decode cX3_receive 38 = .ok (.invokevirtual 54, 3) := by decide +kernel
theorem dX3_receive_41 : decode cX3_receive 41 = .ok (.return_, 1) := by decide +kernel
theorem dX3_receive_42 : decode cX3_receive 42 = .ok (.iload 4, 2) := by decide +kernel
theorem dX3_receive_44 : decode cX3_receive 44 = .ok (.aload_n 0, 1) := by decide +kernel
theorem dX3_receive_45 : decode cX3_receive 45 = .ok (.getfield 12, 3) := by decide +kernel
theorem dX3_receive_48 : decode cX3_receive 48 = .ok (.getfield 110, 3) := by decide +kernel
theorem dX3_receive_51 : decode cX3_receive 51 = .ok (.iload 6, 2) := by decide +kernel
theorem dX3_receive_53 : decode cX3_receive 53 = .ok (.iaload, 1) := by decide +kernel
theorem dX3_receive_54 : decode cX3_receive 54 = .ok (.if_icmp .ge 24, 3) := by decide +kernel
theorem dX3_receive_57 : decode cX3_receive 57 = .ok (.aload_n 0, 1) := by decide +kernel
theorem dX3_receive_58 : decode cX3_receive 58 = .ok (.getfield 12, 3) := by decide +kernel
theorem dX3_receive_61 : decode cX3_receive 61 = .ok (.getfield 124, 3) := by decide +kernel
theorem dX3_receive_64 : decode cX3_receive 64 = .ok (.iload 6, 2) := by decide +kernel
theorem dX3_receive_66 : decode cX3_receive 66 = .ok (.iaload, 1) := by decide +kernel
theorem dX3_receive_67 : decode cX3_receive 67 = .ok (.aload_n 0, 1) := by decide +kernel
theorem dX3_receive_68 : decode cX3_receive 68 = .ok (.getfield 48, 3) := by decide +kernel
theorem dX3_receive_71 : decode cX3_receive 71 = .ok (.if_icmp .ge 7, 3) := by decide +kernel
theorem dX3_receive_74 : decode cX3_receive 74 = .ok (.iconst 1, 1) := by decide +kernel
theorem dX3_receive_75 : decode cX3_receive 75 = .ok (.goto 4, 3) := by decide +kernel
theorem dX3_receive_78 : decode cX3_receive 78 = .ok (.iconst 0, 1) := by decide +kernel
theorem dX3_receive_79 : decode cX3_receive 79 = .ok (.istore 7, 2) := by decide +kernel
theorem dX3_receive_81 : decode cX3_receive 81 = .ok (.aload_n 0, 1) := by decide +kernel
theorem dX3_receive_82 : decode cX3_receive 82 = .ok (.getfield 42, 3) := by decide +kernel
theorem dX3_receive_85 : decode cX3_receive 85 = .ok (.ifCond .ne 34, 3) := by decide +kernel
theorem dX3_receive_88 : decode cX3_receive 88 = .ok (.iload 7, 2) := by decide +kernel
theorem dX3_receive_90 : decode cX3_receive 90 = .ok (.ifCond .ne 17, 3) := by decide +kernel
theorem dX3_receive_93 : decode cX3_receive 93 = .ok (.aload_n 0, 1) := by decide +kernel
theorem dX3_receive_94 : decode cX3_receive 94 = .ok (.getfield 12, 3) := by decide +kernel
theorem dX3_receive_97 : decode cX3_receive 97 = .ok (.getfield 76, 3) := by decide +kernel
theorem dX3_receive_100 : decode cX3_receive 100 = .ok (.iload 6, 2) := by decide +kernel
theorem dX3_receive_102 : decode cX3_receive 102 = .ok (.iaload, 1) := by decide +kernel
theorem dX3_receive_103 : decode cX3_receive 103 = .ok (.iload_n 2, 1) := by decide +kernel
theorem dX3_receive_104 : decode cX3_receive 104 = .ok (.if_icmp .ne 104, 3) := by decide +kernel
theorem dX3_receive_107 : decode cX3_receive 107 = .ok (.aload_n 0, 1) := by decide +kernel
theorem dX3_receive_108 : decode cX3_receive 108 = .ok (.iload 6, 2) := by decide +kernel
theorem dX3_receive_110 : decode cX3_receive 110 = .ok (.iload 4, 2) := by decide +kernel
theorem dX3_receive_112 : decode cX3_receive 112 = .ok (.iload_n 2, 1) := by decide +kernel
theorem dX3_receive_113 : decode cX3_receive 113 = .ok (.invokevirtual 79, 3) := by decide +kernel
theorem dX3_receive_116 : decode cX3_receive 116 = .ok (.goto 92, 3) := by decide +kernel
theorem dX3_receive_119 : decode cX3_receive 119 = .ok (.iload 5, 2) := by decide +kernel
theorem dX3_receive_121 : decode cX3_receive 121 = .ok (.aload_n 0, 1) := by decide +kernel
theorem dX3_receive_122 : decode cX3_receive 122 = .ok (.getfield 12, 3) := by decide +kernel
theorem dX3_receive_125 : decode cX3_receive 125 = .ok (.getfield 83, 3) := by decide +kernel
theorem dX3_receive_128 : decode cX3_receive 128 = .ok (.iload 6, 2) := by decide +kernel
theorem dX3_receive_130 : decode cX3_receive 130 = .ok (.iaload, 1) := by decide +kernel
theorem dX3_receive_131 : decode cX3_receive 131 = .ok (.if_icmp .le 48, 3) := by decide +kernel
theorem dX3_receive_134 : decode cX3_receive 134 = .ok (.iload 4, 2) := by decide +kernel
theorem dX3_receive_136 : decode cX3_receive 136 = .ok (.bipush 16, 2) := by decide +kernel
theorem dX3_receive_138 : decode cX3_receive 138 = .ok (.if_icmp .lt 17, 3) := by decide +kernel
theorem dX3_receive_141 : decode cX3_receive 141 = .ok (.aload_n 0, 1) := by decide +kernel
theorem dX3_receive_142 : decode cX3_receive 142 = .ok (.getfield 12, 3) := by decide +kernel
theorem dX3_receive_145 : decode cX3_receive 145 = .ok (.getfield 76, 3) := by decide +kernel
theorem dX3_receive_148 : decode cX3_receive 148 = .ok (.iload 6, 2) := by decide +kernel
theorem dX3_receive_150 : decode cX3_receive 150 = .ok (.iaload, 1) := by decide +kernel
theorem dX3_receive_151 : decode cX3_receive 151 = .ok (.iload_n 2, 1) := by decide +kernel
theorem dX3_receive_152 : decode cX3_receive 152 = .ok (.if_icmp .ne 56, 3) := by decide +kernel
theorem dX3_receive_155 : decode cX3_receive 155 = .ok (.aload_n 0, 1) := by decide +kernel
theorem dX3_receive_156 : decode cX3_receive 156 = .ok (.iload 6, 2) := by decide +kernel
theorem dX3_receive_158 : decode cX3_receive 158 = .ok (.iload 4, 2) := by decide +kernel
theorem dX3_receive_160 : decode cX3_receive 160 = .ok (.iload_n 2, 1) := by decide +kernel
theorem dX3_receive_161 : decode cX3_receive 161 = .ok (.invokevirtual 79, 3) := by decide +kernel
theorem dX3_receive_164 : decode cX3_receive 164 = .ok (.aload_n 0, 1) := by decide +kernel
theorem dX3_receive_165 : decode cX3_receive 165 = .ok (.getfield 12, 3) := by decide +kernel
theorem dX3_receive_168 : decode cX3_receive 168 = .ok (.getfield 83, 3) := by decide +kernel
theorem dX3_receive_171 : decode cX3_receive 171 = .ok (.iload 6, 2) := by decide +kernel
theorem dX3_receive_173 : decode cX3_receive 173 = .ok (.iload 5, 2) := by decide +kernel
theorem dX3_receive_175 : decode cX3_receive 175 = .ok (.iastore, 1) := by decide +kernel
theorem dX3_receive_176 : decode cX3_receive 176 = .ok (.goto 32, 3) := by decide +kernel
theorem dX3_receive_179 : decode cX3_receive 179 = .ok (.iload 5, 2) := by decide +kernel
theorem dX3_receive_181 : decode cX3_receive 181 = .ok (.aload_n 0, 1) := by decide +kernel
theorem dX3_receive_182 : decode cX3_receive 182 = .ok (.getfield 12, 3) := by decide +kernel
theorem dX3_receive_185 : decode cX3_receive 185 = .ok (.getfield 83, 3) := by decide +kernel
theorem dX3_receive_188 : decode cX3_receive 188 = .ok (.iload 6, 2) := by decide +kernel
theorem dX3_receive_190 : decode cX3_receive 190 = .ok (.iaload, 1) := by decide +kernel
theorem dX3_receive_191 : decode cX3_receive 191 = .ok (.if_icmp .ne 17, 3) := by decide +kernel
theorem dX3_receive_194 : decode cX3_receive 194 = .ok (.iload 7, 2) := by decide +kernel
theorem dX3_receive_196 : decode cX3_receive 196 = .ok (.ifCond .eq 12, 3) := by decide +kernel
theorem dX3_receive_199 : decode cX3_receive 199 = .ok (.aload_n 0, 1) := by decide +kernel
theorem dX3_receive_200 : decode cX3_receive 200 = .ok (.iload 6, 2) := by decide +kernel
theorem dX3_receive_202 : decode cX3_receive 202 = .ok (.iload 4, 2) := by decide +kernel
theorem dX3_receive_204 : decode cX3_receive 204 = .ok (.iload_n 2, 1) := by decide +kernel
theorem dX3_receive_205 : decode cX3_receive 205 = .ok (.invokevirtual 79, 3) := by decide +kernel
theorem dX3_receive_208 : decode cX3_receive 208 = .ok (.return_, 1) := by decide +kernel
theorem dX3_take_0 : decode cX3_take 0 = .ok (.iload_n 2, 1) := by decide +kernel
theorem dX3_take_1 : decode cX3_take 1 = .ok (.bipush 16, 2) := by decide +kernel
theorem dX3_take_3 : decode cX3_take 3 = .ok (.if_icmp .ne 35, 3) := by decide +kernel
theorem dX3_take_6 : decode cX3_take 6 = .ok (.aload_n 0, 1) := by decide +kernel
theorem dX3_take_7 : decode cX3_take 7 = .ok (.getfield 12, 3) := by decide +kernel
theorem dX3_take_10 : decode cX3_take 10 = .ok (.getfield 110, 3) := by decide +kernel
theorem dX3_take_13 : decode cX3_take 13 = .ok (.iload_n 1, 1) := by decide +kernel
theorem dX3_take_14 : decode cX3_take 14 = .ok (.iaload, 1) := by decide +kernel
theorem dX3_take_15 : decode cX3_take 15 = .ok (.bipush 16, 2) := by decide +kernel
theorem dX3_take_17 : decode cX3_take 17 = .ok (.if_icmp .ge 21, 3) := by decide +kernel
theorem dX3_take_20 : decode cX3_take 20 = .ok (.aload_n 0, 1) := by decide +kernel
theorem dX3_take_21 : decode cX3_take 21 = .ok (.getfield 12, 3) := by decide +kernel
theorem dX3_take_24 : decode cX3_take 24 = .ok (.getfield 124, 3) := by decide +kernel
theorem dX3_take_27 : decode cX3_take 27 = .ok (.iload_n 1, 1) := by decide +kernel
theorem dX3_take_28 : decode cX3_take 28 = .ok (.aload_n 0, 1) := by decide +kernel
theorem dX3_take_29 : decode cX3_take 29 = .ok (.getfield 48, 3) := by decide +kernel
theorem dX3_take_32 : decode cX3_take 32 = .ok (.aload_n 0, 1) := by decide +kernel
theorem dX3_take_33 : decode cX3_take 33 = .ok (.getfield 45, 3) := by decide +kernel
theorem dX3_take_36 : decode cX3_take 36 = .ok (.iadd, 1) := by decide +kernel
theorem dX3_take_37 : decode cX3_take 37 = .ok (.iastore, 1) := by decide +kernel
theorem dX3_take_38 : decode cX3_take 38 = .ok (.aload_n 0, 1) := by decide +kernel
theorem dX3_take_39 : decode cX3_take 39 = .ok (.getfield 12, 3) := by decide +kernel
theorem dX3_take_42 : decode cX3_take 42 = .ok (.getfield 110, 3) := by decide +kernel
theorem dX3_take_45 : decode cX3_take 45 = .ok (.iload_n 1, 1) := by decide +kernel
theorem dX3_take_46 : decode cX3_take 46 = .ok (.iload_n 2, 1) := by decide +kernel
theorem dX3_take_47 : decode cX3_take 47 = .ok (.iastore, 1) := by decide +kernel
theorem dX3_take_48 : decode cX3_take 48 = .ok (.aload_n 0, 1) := by decide +kernel
theorem dX3_take_49 : decode cX3_take 49 = .ok (.getfield 12, 3) := by decide +kernel
theorem dX3_take_52 : decode cX3_take 52 = .ok (.getfield 76, 3) := by decide +kernel
theorem dX3_take_55 : decode cX3_take 55 = .ok (.iload_n 1, 1) := by decide +kernel
theorem dX3_take_56 : decode cX3_take 56 = .ok (.iload_n 3, 1) := by decide +kernel
theorem dX3_take_57 : decode cX3_take 57 = .ok (.iastore, 1) := by decide +kernel
theorem dX3_take_58 : decode cX3_take 58 = .ok (.return_, 1) := by decide +kernel
set_option maxRecDepth 20000 in
theorem ggX4_init_J7_fill_53178 : GoodIn wsX4_init wsJ7_fill_53178 := goodIn_r _ [14] (by decide +kernel) (by decide +kernel)
set_option maxRecDepth 20000 in
theorem gX4_init_J7_fill_53178 : GoodIn wsX4_init (va_wsS RX4 30 yJ7_fill_53178 wsJ7_fill_53178) := goodIn_app (goodIn_of _ (by decide +kernel)) ggX4_init_J7_fill_53178
theorem dX4_init_0 : decode cX4_init 0 = .ok (.aload_n 0, 1) := by decide +kernel
theorem dX4_init_1 : decode cX4_init 1 = .ok (.invokespecial 3, 3) := by decide +kernel
theorem dX4_init_4 : decode cX4_init 4 = .ok (.aload_n 0, 1) := by decide +kernel
theorem dX4_init_5 : decode cX4_init 5 = .ok (.bipush 100, 2) := by decide +kernel
theorem dX4_init_7 : decode cX4_init 7 = .ok (.newarray .int, 2) := by decide +kernel
theorem dX4_init_9 : decode cX4_init 9 = .ok (.putfield 9, 3) := by decide +kernel
theorem dX4_init_12 : decode cX4_init 12 = .ok (.aload_n 0, 1) := by decide +kernel
theorem dX4_init_13 : decode cX4_init 13 = .ok (.bipush 100, 2) := by decide +kernel
theorem dX4_init_15 : decode cX4_init 15 = .ok (.newarray .int, 2) := by decide +kernel
theorem dX4_init_17 : decode cX4_init 17 = .ok (.putfield 15, 3) := by decide +kernel
theorem dX4_init_20 : decode cX4_init 20 = .ok (.aload_n 0, 1) := by decide +kernel
theorem dX4_init_21 : decode cX4_init 21 = .ok (.bipush 100, 2) := by decide +kernel
theorem dX4_init_23 : decode cX4_init 23 = .ok (.newarray .int, 2) := by decide +kernel
theorem dX4_init_25 : decode cX4_init 25 = .ok (.putfield 18, 3) := by decide +kernel
theorem dX4_init_28 : decode cX4_init 28 = .ok (.aload_n 0, 1) := by decide +kernel
theorem dX4_init_29 : decode cX4_init 29 = .ok (.bipush 100, 2) := by decide +kernel
theorem dX4_init_31 : decode cX4_init 31 = .ok (.newarray .int, 2) := by decide +kernel
theorem dX4_init_33 : decode cX4_init 33 = .ok (.putfield 21, 3) := by decide +kernel
theorem dX4_init_36 : decode cX4_init 36 = .ok (.aload_n 0, 1) := by decide +kernel
theorem dX4_init_37 : decode cX4_init 37 = .ok (.bipush 100, 2) := by decide +kernel
theorem dX4_init_39 : decode cX4_init 39 = .ok (.newarray .int, 2) := by decide +kernel
theorem dX4_init_41 : decode cX4_init 41 = .ok (.putfield 24, 3) := by decide +kernel
theorem dX4_init_44 : decode cX4_init 44 = .ok (.aload_n 0, 1) := by decide +kernel
theorem dX4_init_45 : decode cX4_init 45 = .ok (.bipush 10, 2) := by decide +kernel
theorem dX4_init_47 : decode cX4_init 47 = .ok (.newarray .int, 2) := by decide +kernel
theorem dX4_init_49 : decode cX4_init 49 = .ok (.putfield 27, 3) := by decide +kernel
theorem dX4_init_52 : decode cX4_init 52 = .ok (.aload_n 0, 1) := by decide +kernel
theorem dX4_init_53 : decode cX4_init 53 = .ok (.getfield 9, 3) := by decide +kernel
theorem dX4_init_56 : decode cX4_init 56 = .ok (.iconst (-1), 1) := by decide +kernel
theorem dX4_init_57 : decode cX4_init 57 = .ok (.invokestatic 30, 3) := by decide +kernel
theorem dX4_init_60 : decode cX4_init 60 = .ok (.return_, 1) := by decide +kernel
theorem dX4_become_0 : decode cX4_become 0 = .ok (.aload_n 1, 1) := by decide +kernel
theorem dX4_become_1 : decode cX4_become 1 = .ok (.getfield 9, 3) := by decide +kernel
theorem dX4_become_4 : decode cX4_become 4 = .ok (.iconst 0, 1) := by decide +kernel
theorem dX4_become_5 : decode cX4_become 5 = .ok (.aload_n 0, 1) := by decide +kernel
theorem dX4_become_6 : decode cX4_become 6 = .ok (.getfield 9, 3) := by decide +kernel
theorem dX4_become_9 : decode cX4_become 9 = .ok (.iconst 0, 1) := by decide +kernel
theorem dX4_become_10 : decode cX4_become 10 = .ok (.bipush 100, 2) := by decide +kernel
theorem dX4_become_12 : decode cX4_become 12 = .ok (.invokestatic 36, 3) := by decide +kernel
theorem dX4_become_15 : decode cX4_become 15 = .ok (.aload_n 1, 1) := by decide +kernel
theorem dX4_become_16 : decode cX4_become 16 = .ok (.getfield 15, 3) := by decide +kernel
theorem dX4_become_19 : decode cX4_become 19 = .ok (.iconst 0, 1) := by decide +kernel
theorem dX4_become_20 : decode cX4_become 20 = .ok (.aload_n 0, 1) := by decide +kernel
theorem dX4_become_21 : decode cX4_become 21 = .ok (.getfield 15, 3) := by decide +kernel
theorem dX4_become_24 : decode cX4_become 24 = .ok (.iconst 0, 1) := by decide +kernel
theorem dX4_become_25 : decode cX4_become 25 = .ok (.bipush 100, 2) := by decide +kernel
theorem dX4_become_27 : decode cX4_become 27 = .ok (.invokestatic 36, 3) := by decide +kernel
theorem dX4_become_30 : decode cX4_become 30 = .ok (.aload_n 1, 1) := by decide +kernel
theorem dX4_become_31 : decode cX4_become 31 = .ok (.getfield 18, 3) := by decide +kernel
theorem dX4_become_34 : decode cX4_become 34 = .ok (.iconst 0, 1) := by decide +kernel
theorem dX4_become_35 : decode cX4_become 35 = .ok (.aload_n 0, 1) := by decide +kernel
theorem dX4_become_36 : decode cX4_become 36 = .ok (.getfield 18, 3) := by decide +kernel
theorem dX4_become_39 : decode cX4_become 39 = .ok (.iconst 0, 1) := by decide +kernel
theorem dX4_become_40 : decode cX4_become 40 = .ok (.bipush 100, 2) := by decide +kernel
theorem dX4_become_42 : decode cX4_become 42 = .ok (.invokestatic 36, 3) := by decide +kernel
theorem dX4_become_45 : decode cX4_become 45 = .ok (.aload_n 1, 1) := by decide +kernel
theorem dX4_become_46 : decode cX4_become 46 = .ok (.getfield 21, 3) := by decide +kernel
theorem dX4_become_49 : decode cX4_become 49 = .ok (.iconst 0, 1) := by decide +kernel
theorem dX4_become_50 : decode cX4_become 50 = .ok (.aload_n 0, 1) := by decide +kernel
theorem dX4_become_51 : decode cX4_become 51 = .ok (.getfield 21, 3) := by decide +kernel
theorem dX4_become_54 : decode cX4_become 54 = .ok (.iconst 0, 1) := by decide +kernel
theorem dX4_become_55 : decode cX4_become 55 = .ok (.bipush 100, 2) := by decide +kernel
theorem dX4_become_57 : decode cX4_become 57 = .ok (.invokestatic 36, 3) := by decide +kernel
theorem dX4_become_60 : decode cX4_become 60 = .ok (.aload_n 1, 1) := by decide +kernel
theorem dX4_become_61 : decode cX4_become 61 = .ok (.getfield 24, 3) := by decide +kernel
theorem dX4_become_64 : decode cX4_become 64 = .ok (.iconst 0, 1) := by decide +kernel
theorem dX4_become_65 : decode cX4_become 65 = .ok (.aload_n 0, 1) := by decide +kernel
theorem dX4_become_66 : decode cX4_become 66 = .ok (.getfield 24, 3) := by decide +kernel
theorem dX4_become_69 : decode cX4_become 69 = .ok (.iconst 0, 1) := by decide +kernel
theorem dX4_become_70 : decode cX4_become 70 = .ok (.bipush 100, 2) := by decide +kernel
theorem dX4_become_72 : decode cX4_become 72 = .ok (.invokestatic 36, 3) := by decide +kernel
theorem dX4_become_75 : decode cX4_become 75 = .ok (.aload_n 1, 1) := by decide +kernel
theorem dX4_become_76 : decode cX4_become 76 = .ok (.getfield 27, 3) := by decide +kernel
theorem dX4_become_79 : decode cX4_become 79 = .ok (.iconst 0, 1) := by decide +kernel
theorem dX4_become_80 : decode cX4_become 80 = .ok (.aload_n 0, 1) := by decide +kernel
theorem dX4_become_81 : decode cX4_become 81 = .ok (.getfield 27, 3) := by decide +kernel
theorem dX4_become_84 : decode cX4_become 84 = .ok (.iconst 0, 1) := by decide +kernel
theorem dX4_become_85 : decode cX4_become 85 = .ok (.bipush 10, 2) := by decide +kernel
theorem dX4_become_87 : decode cX4_become 87 = .ok (.invokestatic 36, 3) := by decide +kernel
theorem dX4_become_90 : decode cX4_become 90 = .ok (.return_, 1) := by decide +kernel
theorem dX4_has_0 : decode cX4_has 0 = .ok (.aload_n 0, 1) := by decide +kernel
theorem dX4_has_1 : decode cX4_has 1 = .ok (.getfield 9, 3) := by decide +kernel
theorem dX4_has_4 : decode cX4_has 4 = .ok (.iload_n 1, 1) := by decide +kernel
theorem dX4_has_5 : decode cX4_has 5 = .ok (.iaload, 1) := by decide +kernel
theorem dX4_has_6 : decode cX4_has 6 = .ok (.iconst (-1), 1) := by decide +kernel
theorem dX4_has_7 : decode cX4_has 7 = .ok (.if_icmp .eq 7, 3) := by decide +kernel
theorem dX4_has_10 : decode cX4_has 10 = .ok (.iconst 1, 1) := by decide +kernel
theorem dX4_has_11 : decode cX4_has 11 = .ok (.goto 4, 3) := by decide +kernel
theorem dX4_has_14 : decode cX4_has 14 = .ok (.iconst 0, 1) := by decide +kernel
theorem dX4_has_15 : decode cX4_has 15 = .ok (.ireturn, 1) := by decide +kernel
theorem dX4_reaches_0 : decode cX4_reaches 0 = .ok (.aload_n 0, 1) := by decide +kernel
theorem dX4_reaches_1 : decode cX4_reaches 1 = .ok (.getfield 9, 3) := by decide +kernel
theorem dX4_reaches_4 : decode cX4_reaches 4 = .ok (.iload_n 1, 1) := by decide +kernel
theorem dX4_reaches_5 : decode cX4_reaches 5 = .ok (.iaload, 1) := by decide +kernel
theorem dX4_reaches_6 : decode cX4_reaches 6 = .ok (.iconst (-1), 1) := by decide +kernel
theorem dX4_reaches_7 : decode cX4_reaches 7 = .ok (.if_icmp .eq 18, 3) := by decide +kernel
theorem dX4_reaches_10 : decode cX4_reaches 10 = .ok (.aload_n 0, 1) := by decide +kernel
theorem dX4_reaches_11 : decode cX4_reaches 11 = .ok (.getfield 9, 3) := by decide +kernel
theorem dX4_reaches_14 : decode cX4_reaches 14 = .ok (.iload_n 1, 1) := by decide +kernel
theorem dX4_reaches_15 : decode cX4_reaches 15 = .ok (.iaload, 1) := by decide +kernel
theorem dX4_reaches_16 : decode cX4_reaches 16 = .ok (.bipush 16, 2) := by decide +kernel
theorem dX4_reaches_18 : decode cX4_reaches 18 = .ok (.if_icmp .ge 7, 3) := by decide +kernel
theorem dX4_reaches_21 : decode cX4_reaches 21 = .ok (.iconst 1, 1) := by decide +kernel
theorem dX4_reaches_22 : decode cX4_reaches 22 = .ok (.goto 4, 3) := by decide +kernel
theorem dX4_reaches_25 : decode cX4_reaches 25 = .ok (.iconst 0, 1) := by decide +kernel
theorem dX4_reaches_26 : decode cX4_reaches 26 = .ok (.ireturn, 1) := by decide +kernel
theorem dX4_enter_0 : decode cX4_enter 0 = .ok (.iload_n 1, 1) := by decide +kernel
theorem dX4_enter_1 : decode cX4_enter 1 = .ok (.bipush 10, 2) := by decide +kernel
theorem dX4_enter_3 : decode cX4_enter 3 = .ok (.imul, 1) := by decide +kernel
theorem dX4_enter_4 : decode cX4_enter 4 = .ok (.iload_n 2, 1) := by decide +kernel
theorem dX4_enter_5 : decode cX4_enter 5 = .ok (.iadd, 1) := by decide +kernel
theorem dX4_enter_6 : decode cX4_enter 6 = .ok (.istore 6, 2) := by decide +kernel
theorem dX4_enter_8 : decode cX4_enter 8 = .ok (.aload_n 0, 1) := by decide +kernel
theorem dX4_enter_9 : decode cX4_enter 9 = .ok (.getfield 9, 3) := by decide +kernel
theorem dX4_enter_12 : decode cX4_enter 12 = .ok (.iload 6, 2) := by decide +kernel
theorem dX4_enter_14 : decode cX4_enter 14 = .ok (.iload_n 3, 1) := by decide +kernel
theorem dX4_enter_15 : decode cX4_enter 15 = .ok (.iastore, 1) := by decide +kernel
theorem dX4_enter_16 : decode cX4_enter 16 = .ok (.aload_n 0, 1) := by decide +kernel
theorem dX4_enter_17 : decode cX4_enter 17 = .ok (.getfield 15, 3) := by decide +kernel
theorem dX4_enter_20 : decode cX4_enter 20 = .ok (.iload 6, 2) := by decide +kernel
theorem dX4_enter_22 : decode cX4_enter 22 = .ok (.iload 4, 2) := by decide +kernel
theorem dX4_enter_24 : decode cX4_enter 24 = .ok (.iastore, 1) := by decide +kernel
theorem dX4_enter_25 : decode cX4_enter 25 = .ok (.aload_n 0, 1) := by decide +kernel
theorem dX4_enter_26 : decode cX4_enter 26 = .ok (.getfield 18, 3) := by decide +kernel
theorem dX4_enter_29 : decode cX4_enter 29 = .ok (.iload 6, 2) := by decide +kernel
theorem dX4_enter_31 : decode cX4_enter 31 = .ok (.iload 5, 2) := by decide +kernel
theorem dX4_enter_33 : decode cX4_enter 33 = .ok (.iastore, 1) := by decide +kernel
theorem dX4_enter_34 : decode cX4_enter 34 = .ok (.aload_n 0, 1) := by decide +kernel
theorem dX4_enter_35 : decode cX4_enter 35 = .ok (.getfield 21, 3) := by decide +kernel
theorem dX4_enter_38 : decode cX4_enter 38 = .ok (.iload 6, 2) := by decide +kernel
theorem dX4_enter_40 : decode cX4_enter 40 = .ok (.iconst 0, 1) := by decide +kernel
theorem dX4_enter_41 : decode cX4_enter 41 = .ok (.iastore, 1) := by decide +kernel
theorem dX4_enter_42 : decode cX4_enter 42 = .ok (.aload_n 0, 1) := by decide +kernel
theorem dX4_enter_43 : decode cX4_enter 43 = .ok (.getfield 24, 3) := by decide +kernel
theorem dX4_enter_46 : decode cX4_enter 46 = .ok (.iload_n 1, 1) := by decide +kernel
theorem dX4_enter_47 : decode cX4_enter 47 = .ok (.bipush 10, 2) := by decide +kernel
theorem dX4_enter_49 : decode cX4_enter 49 = .ok (.imul, 1) := by decide +kernel
theorem dX4_enter_50 : decode cX4_enter 50 = .ok (.aload_n 0, 1) := by decide +kernel
theorem dX4_enter_51 : decode cX4_enter 51 = .ok (.getfield 27, 3) := by decide +kernel
theorem dX4_enter_54 : decode cX4_enter 54 = .ok (.iload_n 1, 1) := by decide +kernel
theorem dX4_enter_55 : decode cX4_enter 55 = .ok (.iaload, 1) := by decide +kernel
theorem dX4_enter_56 : decode cX4_enter 56 = .ok (.iadd, 1) := by decide +kernel
theorem dX4_enter_57 : decode cX4_enter 57 = .ok (.iload_n 2, 1) := by decide +kernel
theorem dX4_enter_58 : decode cX4_enter 58 = .ok (.iastore, 1) := by decide +kernel
theorem dX4_enter_59 : decode cX4_enter 59 = .ok (.aload_n 0, 1) := by decide +kernel
theorem dX4_enter_60 : decode cX4_enter 60 = .ok (.getfield 27, 3) := by decide +kernel
theorem dX4_enter_63 : decode cX4_enter 63 = .ok (.iload_n 1, 1) := by decide +kernel
theorem dX4_enter_64 : decode cX4_enter 64 = .ok (.dup2, 1) := by decide +kernel
theorem dX4_enter_65 : decode cX4_enter 65 = .ok (.iaload, 1) := by decide +kernel
theorem dX4_enter_66 : decode cX4_enter 66 = .ok (.iconst 1, 1) := by decide +kernel
theorem dX4_enter_67 : decode cX4_enter 67 = .ok (.iadd, 1) := by decide +kernel
theorem dX4_enter_68 : decode cX4_enter 68 = .ok (.iastore, 1) := by decide +kernel
theorem dX4_enter_69 : decode cX4_enter 69 = .ok (.return_, 1) := by decide +kernel
theorem dX4_placeOf_0 : decode cX4_placeOf 0 = .ok (.iconst 0, 1) := by decide +kernel
theorem dX4_placeOf_1 : decode cX4_placeOf 1 = .ok (.istore_n 3, 1) := by decide +kernel
theorem dX4_placeOf_2 : decode cX4_placeOf 2 = .ok (.iload_n 3, 1) := by decide +kernel
theorem dX4_placeOf_3 : decode cX4_placeOf 3 = .ok (.aload_n 0, 1) := by decide +kernel
theorem dX4_placeOf_4 : decode cX4_placeOf 4 = .ok (.getfield 27, 3) := by decide +kernel
theorem dX4_placeOf_7 : decode cX4_placeOf 7 = .ok (.iload_n 1, 1) := by decide +kernel
theorem dX4_placeOf_8 : decode cX4_placeOf 8 = .ok (.iaload, 1) := by decide +kernel
theorem dX4_placeOf_9 : decode cX4_placeOf 9 = .ok (.if_icmp .ge 26, 3) := by decide +kernel
theorem dX4_placeOf_12 : decode cX4_placeOf 12 = .ok (.aload_n 0, 1) := by decide +kernel
theorem dX4_placeOf_13 : decode cX4_placeOf 13 = .ok (.getfield 24, 3) := by decide +kernel
theorem dX4_placeOf_16 : decode cX4_placeOf 16 = .ok (.iload_n 1, 1) := by decide +kernel
theorem dX4_placeOf_17 : decode cX4_placeOf 17 = .ok (.bipush 10, 2) := by decide +kernel
theorem dX4_placeOf_19 : decode cX4_placeOf 19 = .ok (.imul, 1) := by decide +kernel
theorem dX4_placeOf_20 : decode cX4_placeOf 20 = .ok (.iload_n 3, 1) := by decide +kernel
theorem dX4_placeOf_21 : decode cX4_placeOf 21 = .ok (.iadd, 1) := by decide +kernel
theorem dX4_placeOf_22 : decode cX4_placeOf 22 = .ok (.iaload, 1) := by decide +kernel
theorem dX4_placeOf_23 : decode cX4_placeOf 23 = .ok (.iload_n 2, 1) := by decide +kernel
theorem dX4_placeOf_24 : decode cX4_placeOf 24 = .ok (.if_icmp .ne 5, 3) := by decide +kernel
theorem dX4_placeOf_27 : decode cX4_placeOf 27 = .ok (.iload_n 3, 1) := by decide +kernel
theorem dX4_placeOf_28 : decode cX4_placeOf 28 = .ok (.ireturn, 1) := by decide +kernel
theorem dX4_placeOf_29 : decode cX4_placeOf 29 = .ok (.iinc 3 1, 3) := by decide +kernel
theorem dX4_placeOf_32 : decode cX4_placeOf 32 = .ok (.goto (-30), 3) := by decide +kernel
theorem dX4_placeOf_35 : decode cX4_placeOf 35 = .ok (.bipush (-2), 2) := by decide +kernel
theorem dX4_placeOf_37 : decode cX4_placeOf 37 = .ok (.ireturn, 1) := by decide +kernel
set_option maxRecDepth 20000 in
theorem ggX4_howMany_X4_has : GoodIn wsX4_howMany wsX4_has := goodIn_r _ [6, 1, 7, 8, 9, 10, 11, 12] (by decide +kernel) (by decide +kernel)
set_option maxRecDepth 20000 in
theorem gX4_howMany_X4_has : GoodIn wsX4_howMany (wsV RX4 42 RX4 yX4_has wsX4_has) := goodIn_app (goodIn_of _ (by decide +kernel)) ggX4_howMany_X4_has
theorem dX4_howMany_0 : decode cX4_howMany 0 = .ok (.iconst 0, 1) := by decide +kernel
theorem dX4_howMany_1 : decode cX4_howMany 1 = .ok (.istore_n 2, 1) := by decide +kernel
theorem dX4_howMany_2 : decode cX4_howMany 2 = .ok (.iconst 0, 1) := by decide +kernel
theorem dX4_howMany_3 : decode cX4_howMany 3 = .ok (.istore_n 3, 1) := by decide +kernel
theorem dX4_howMany_4 : decode cX4_howMany 4 = .ok (.iload_n 3, 1) := by decide +kernel
theorem dX4_howMany_5 : decode cX4_howMany 5 = .ok (.bipush 100, 2) := by decide +kernel
theorem dX4_howMany_7 : decode cX4_howMany 7 = .ok (.if_icmp .ge 38, 3) := by decide +kernel
theorem dX4_howMany_10 : decode cX4_howMany 10 = .ok (.iload_n 1, 1) := by decide +kernel
theorem dX4_howMany_11 : decode cX4_howMany 11 = .ok (.ifCond .eq 17, 3) := by decide +kernel
theorem dX4_howMany_14 : decode cX4_howMany 14 = .ok (.aload_n 0, 1) := by decide +kernel
theorem dX4_howMany_15 : decode cX4_howMany 15 = .ok (.getfield 9, 3) := by decide +kernel
theorem dX4_howMany_18 : decode cX4_howMany 18 = .ok (.iload_n 3, 1) := by decide +kernel
theorem dX4_howMany_19 : decode cX4_howMany 19 = .ok (.iaload, 1) := by decide +kernel
theorem dX4_howMany_20 : decode cX4_howMany 20 = .ok (.bipush 16, 2) := by decide +kernel
theorem dX4_howMany_22 : decode cX4_howMany 22 = .ok (.if_icmp .ne 17, 3) := by decide +kernel
theorem dX4_howMany_25 : decode cX4_howMany 25 = .ok (.goto 11, 3) := by decide +kernel
theorem dX4_howMany_28 : decode cX4_howMany 28 = .ok (.aload_n 0, 1) := by decide +kernel
theorem dX4_howMany_29 : decode cX4_howMany 29 = .ok (.iload_n 3, 1) := by decide +kernel
theorem dX4_howMany_30 : decode cX4_howMany 30 = .ok (.invokevirtual 42, 3) := by decide +kernel
theorem dX4_howMany_33 : decode cX4_howMany 33 = .ok (.ifCond .eq 6, 3) := by decide +kernel
theorem dX4_howMany_36 : decode cX4_howMany 36 = .ok (.iinc 2 1, 3) := by decide +kernel
theorem dX4_howMany_39 : decode cX4_howMany 39 = .ok (.iinc 3 1, 3) := by decide +kernel
theorem dX4_howMany_42 : decode cX4_howMany 42 = .ok (.goto (-38), 3) := by decide +kernel
theorem dX4_howMany_45 : decode cX4_howMany 45 = .ok (.iload_n 2, 1) := by decide +kernel
theorem dX4_howMany_46 : decode cX4_howMany 46 = .ok (.ireturn, 1) := by decide +kernel
theorem dX4_howManyDiffer_0 : decode cX4_howManyDiffer 0 = .ok (.iconst 0, 1) := by decide +kernel
theorem dX4_howManyDiffer_1 : decode cX4_howManyDiffer 1 = .ok (.istore_n 2, 1) := by decide +kernel
theorem dX4_howManyDiffer_2 : decode cX4_howManyDiffer 2 = .ok (.iconst 0, 1) := by decide +kernel
theorem dX4_howManyDiffer_3 : decode cX4_howManyDiffer 3 = .ok (.istore_n 3, 1) := by decide +kernel
theorem dX4_howManyDiffer_4 : decode cX4_howManyDiffer 4 = .ok (.iload_n 3, 1) := by decide +kernel
theorem dX4_howManyDiffer_5 : decode cX4_howManyDiffer 5 = .ok (.bipush 100, 2) := by decide +kernel
theorem dX4_howManyDiffer_7 : decode cX4_howManyDiffer 7 = .ok (.if_icmp .ge 42, 3) := by decide +kernel
theorem dX4_howManyDiffer_10 : decode cX4_howManyDiffer 10 = .ok (.aload_n 0, 1) := by decide +kernel
theorem dX4_howManyDiffer_11 : decode cX4_howManyDiffer 11 = .ok (.getfield 9, 3) := by decide +kernel
theorem dX4_howManyDiffer_14 : decode cX4_howManyDiffer 14 = .ok (.iload_n 3, 1) := by decide +kernel
theorem dX4_howManyDiffer_15 : decode cX4_howManyDiffer 15 = .ok (.iaload, 1) := by decide +kernel
theorem dX4_howManyDiffer_16 : decode cX4_howManyDiffer 16 = .ok (.aload_n 1, 1) := by decide +kernel
theorem dX4_howManyDiffer_17 : decode cX4_howManyDiffer 17 = .ok (.getfield 9, 3) := by decide +kernel
theorem dX4_howManyDiffer_20 : decode cX4_howManyDiffer 20 = .ok (.iload_n 3, 1) := by decide +kernel
theorem dX4_howManyDiffer_21 : decode cX4_howManyDiffer 21 = .ok (.iaload, 1) := by decide +kernel
theorem dX4_howManyDiffer_22 : decode cX4_howManyDiffer 22 = .ok (.if_icmp .ne 18, 3) := by decide +kernel
theorem dX4_howManyDiffer_25 : decode cX4_howManyDiffer 25 = .ok (.aload_n 0, 1) := by decide +kernel
theorem dX4_howManyDiffer_26 : decode cX4_howManyDiffer 26 = .ok (.getfield 15, 3) := by decide +kernel
theorem dX4_howManyDiffer_29 : decode cX4_howManyDiffer 29 = .ok (.iload_n 3, 1) := by decide +kernel
theorem dX4_howManyDiffer_30 : decode cX4_howManyDiffer 30 = .ok (.iaload, 1) := by decide +kernel
theorem dX4_howManyDiffer_31 : decode cX4_howManyDiffer 31 = .ok (.aload_n 1, 1) := by decide +kernel
theorem dX4_howManyDiffer_32 : decode cX4_howManyDiffer 32 = .ok (.getfield 15, 3) := by decide +kernel
theorem dX4_howManyDiffer_35 : decode cX4_howManyDiffer 35 = .ok (.iload_n 3, 1) := by decide +kernel
theorem dX4_howManyDiffer_36 : decode cX4_howManyDiffer 36 = .ok (.iaload, 1) := by decide +kernel
theorem dX4_howManyDiffer_37 : decode cX4_howManyDiffer 37 = .ok (.if_icmp .eq 6, 3) := by decide +kernel
theorem dX4_howManyDiffer_40 : decode cX4_howManyDiffer 40 = .ok (.iinc 2 1, 3) := by decide +kernel
theorem dX4_howManyDiffer_43 : decode cX4_howManyDiffer 43 = .ok (.iinc 3 1, 3) := by decide +kernel
theorem dX4_howManyDiffer_46 : decode cX4_howManyDiffer 46 = .ok (.goto (-42), 3) := by decide +kernel
theorem dX4_howManyDiffer_49 : decode cX4_howManyDiffer 49 = .ok (.iload_n 2, 1) := by decide +kernel
theorem dX4_howManyDiffer_50 : decode cX4_howManyDiffer 50 = .ok (.ireturn, 1) := by decide +kernel
theorem dX5_init_0 : decode cX5_init 0 = .ok (.aload_n 0, 1) := by decide +kernel
theorem dX5_init_1 : decode cX5_init 1 = .ok (.invokespecial 3, 3) := by decide +kernel
theorem dX5_init_4 : decode cX5_init 4 = .ok (.aload_n 0, 1) := by decide +kernel
theorem dX5_init_5 : decode cX5_init 5 = .ok (.bipush 120, 2) := by decide +kernel
theorem dX5_init_7 : decode cX5_init 7 = .ok (.newarray .int, 2) := by decide +kernel
theorem dX5_init_9 : decode cX5_init 9 = .ok (.putfield 9, 3) := by decide +kernel
theorem dX5_init_12 : decode cX5_init 12 = .ok (.aload_n 0, 1) := by decide +kernel
theorem dX5_init_13 : decode cX5_init 13 = .ok (.bipush 120, 2) := by decide +kernel
theorem dX5_init_15 : decode cX5_init 15 = .ok (.newarray .int, 2) := by decide +kernel
theorem dX5_init_17 : decode cX5_init 17 = .ok (.putfield 15, 3) := by decide +kernel
theorem dX5_init_20 : decode cX5_init 20 = .ok (.aload_n 0, 1) := by decide +kernel
theorem dX5_init_21 : decode cX5_init 21 = .ok (.sipush 360, 3) := by decide +kernel
theorem dX5_init_24 : decode cX5_init 24 = .ok (.newarray .int, 2) := by decide +kernel
theorem dX5_init_26 : decode cX5_init 26 = .ok (.putfield 18, 3) := by decide +kernel
theorem dX5_init_29 : decode cX5_init 29 = .ok (.return_, 1) := by decide +kernel
theorem dX5_add_0 : decode cX5_add 0 = .ok (.aload_n 0, 1) := by decide +kernel
theorem dX5_add_1 : decode cX5_add 1 = .ok (.getfield 9, 3) := by decide +kernel
theorem dX5_add_4 : decode cX5_add 4 = .ok (.aload_n 0, 1) := by decide +kernel
theorem dX5_add_5 : decode cX5_add 5 = .ok (.getfield 21, 3) := by decide +kernel
theorem dX5_add_8 : decode cX5_add 8 = .ok (.iload_n 1, 1) := by decide +kernel
theorem dX5_add_9 : decode cX5_add 9 = .ok (.iastore, 1) := by decide +kernel
theorem dX5_add_10 : decode cX5_add 10 = .ok (.aload_n 0, 1) := by decide +kernel
theorem dX5_add_11 : decode cX5_add 11 = .ok (.dup, 1) := by decide +kernel
theorem dX5_add_12 : decode cX5_add 12 = .ok (.getfield 21, 3) := by decide +kernel
theorem dX5_add_15 : decode cX5_add 15 = .ok (.iconst 1, 1) := by decide +kernel
theorem dX5_add_16 : decode cX5_add 16 = .ok (.iadd, 1) := by decide +kernel
theorem dX5_add_17 : decode cX5_add 17 = .ok (.putfield 21, 3) := by decide +kernel
theorem dX5_add_20 : decode cX5_add 20 = .ok (.aload_n 0, 1) := by decide +kernel
theorem dX5_add_21 : decode cX5_add 21 = .ok (.getfield 21, 3) := by decide +kernel
theorem dX5_add_24 : decode cX5_add 24 = .ok (.ireturn, 1) := by decide +kernel
set_option maxRecDepth 20000 in
theorem ggX5_readLines_X5_readLine : GoodIn wsX5_readLines wsX5_readLine := goodIn_r _ [9, 2, 3, 4, 10, 1, 11, 12, 8, 13, 14, 15, 16, 17, 18, 19, 20, 21, 22, 23, 24, 25, 26, 27, 28] (by decide +kernel) (by decide +kernel)
set_option maxRecDepth 20000 in
theorem gX5_readLines_X5_readLine : GoodIn wsX5_readLines (wsV RX5 31 RX5 yX5_readLine wsX5_readLine) := goodIn_app (goodIn_of _ (by decide +kernel)) ggX5_readLines_X5_readLine
theorem dX5_readLines_0 : decode cX5_readLines 0 = .ok (.aload_n 0, 1) := by decide +kernel
theorem dX5_readLines_1 : decode cX5_readLines 1 = .ok (.iconst 0, 1) := by decide +kernel
theorem dX5_readLines_2 : decode cX5_readLines 2 = .ok (.putfield 25, 3) := by decide +kernel
theorem dX5_readLines_5 : decode cX5_readLines 5 = .ok (.aload_n 0, 1) := by decide +kernel
theorem dX5_readLines_6 : decode cX5_readLines 6 = .ok (.iconst 0, 1) := by decide +kernel
theorem dX5_readLines_7 : decode cX5_readLines 7 = .ok (.putfield 28, 3) := by decide +kernel
theorem dX5_readLines_10 : decode cX5_readLines 10 = .ok (.iconst 0, 1) := by decide +kernel
theorem dX5_readLines_11 : decode cX5_readLines 11 = .ok (.istore_n 1, 1) := by decide +kernel
theorem dX5_readLines_12 : decode cX5_readLines 12 = .ok (.iload_n 1, 1) := by decide +kernel
theorem dX5_readLines_13 : decode cX5_readLines 13 = .ok (.bipush 120, 2) := by decide +kernel
theorem dX5_readLines_15 : decode cX5_readLines 15 = .ok (.if_icmp .ge 73, 3) := by decide +kernel
theorem dX5_readLines_18 : decode cX5_readLines 18 = .ok (.aload_n 0, 1) := by decide +kernel
theorem dX5_readLines_19 : decode cX5_readLines 19 = .ok (.invokevirtual 31, 3) := by decide +kernel
theorem dX5_readLines_22 : decode cX5_readLines 22 = .ok (.ifCond .ne 8, 3) := by decide +kernel
theorem dX5_readLines_25 : decode cX5_readLines 25 = .ok (.aload_n 0, 1) := by decide +kernel
theorem dX5_readLines_26 : decode cX5_readLines 26 = .ok (.getfield 28, 3) := by decide +kernel
theorem dX5_readLines_29 : decode cX5_readLines 29 = .ok (.ireturn, 1) := by decide +kernel
theorem dX5_readLines_30 : decode cX5_readLines 30 = .ok (.aload_n 0, 1) := by decide +kernel
theorem dX5_readLines_31 : decode cX5_readLines 31 = .ok (.dup, 1) := by decide +kernel
theorem dX5_readLines_32 : decode cX5_readLines 32 = .ok (.getfield 25, 3) := by decide +kernel
theorem dX5_readLines_35 : decode cX5_readLines 35 = .ok (.iconst 1, 1) := by decide +kernel
theorem dX5_readLines_36 : decode cX5_readLines 36 = .ok (.iadd, 1) := by decide +kernel
theorem dX5_readLines_37 : decode cX5_readLines 37 = .ok (.putfield 25, 3) := by decide +kernel
theorem dX5_readLines_40 : decode cX5_readLines 40 = .ok (.aload_n 0, 1) := by decide +kernel
theorem dX5_readLines_41 : decode cX5_readLines 41 = .ok (.getfield 28, 3) := by decide +kernel
theorem dX5_readLines_44 : decode cX5_readLines 44 = .ok (.aload_n 0, 1) := by decide +kernel
theorem dX5_readLines_45 : decode cX5_readLines 45 = .ok (.getfield 21, 3) := by decide +kernel
theorem dX5_readLines_48 : decode cX5_readLines 48 = .ok (.if_icmp .ne 5, 3) := by decide +kernel
theorem dX5_readLines_51 : decode cX5_readLines 51 = .ok (.iconst (-1), 1) := by decide +kernel
theorem dX5_readLines_52 : decode cX5_readLines 52 = .ok (.ireturn, 1) := by decide +kernel
theorem dX5_readLines_53 : decode cX5_readLines 53 = .ok (.aload_n 0, 1) := by decide +kernel
theorem dX5_readLines_54 : decode cX5_readLines 54 = .ok (.getfield 9, 3) := by decide +kernel
theorem dX5_readLines_57 : decode cX5_readLines 57 = .ok (.aload_n 0, 1) := by decide +kernel
theorem dX5_readLines_58 : decode cX5_readLines 58 = .ok (.getfield 28, 3) := by decide +kernel
theorem dX5_readLines_61 : decode cX5_readLines 61 = .ok (.iaload, 1) := by decide +kernel
theorem dX5_readLines_62 : decode cX5_readLines 62 = .ok (.bipush 59, 2) := by decide +kernel
theorem dX5_readLines_64 : decode cX5_readLines 64 = .ok (.if_icmp .eq 8, 3) := by decide +kernel
theorem dX5_readLines_67 : decode cX5_readLines 67 = .ok (.aload_n 0, 1) := by decide +kernel
theorem dX5_readLines_68 : decode cX5_readLines 68 = .ok (.getfield 28, 3) := by decide +kernel
theorem dX5_readLines_71 : decode cX5_readLines 71 = .ok (.ireturn, 1) := by decide +kernel
theorem dX5_readLines_72 : decode cX5_readLines 72 = .ok (.aload_n 0, 1) := by decide +kernel
theorem dX5_readLines_73 : decode cX5_readLines 73 = .ok (.dup, 1) := by decide +kernel
theorem dX5_readLines_74 : decode cX5_readLines 74 = .ok (.getfield 28, 3) := by decide +kernel
theorem dX5_readLines_77 : decode cX5_readLines 77 = .ok (.iconst 1, 1) := by decide +kernel
theorem dX5_readLines_78 : decode cX5_readLines 78 = .ok (.iadd, 1) := by decide +kernel
theorem dX5_readLines_79 : decode cX5_readLines 79 = .ok (.putfield 28, 3) := by decide +kernel
theorem dX5_readLines_82 : decode cX5_readLines 82 = .ok (.iinc 1 1, 3) := by decide +kernel
theorem dX5_readLines_85 : decode cX5_readLines 85 = .ok (.goto (-73), 3) := by decide +kernel
theorem dX5_readLines_88 : decode cX5_readLines 88 = .ok (.aload_n 0, 1) := by decide +kernel
theorem dX5_readLines_89 : decode cX5_readLines 89 = .ok (.getfield 28, 3) := by decide +kernel
theorem dX5_readLines_92 : decode cX5_readLines 92 = .ok (.ireturn, 1) := by decide +kernel
set_option maxRecDepth 20000 in
theorem ggX5_readLine_X5_howManyNumbers : GoodIn wsX5_readLine wsX5_howManyNumbers := goodIn_r _ [9] (by decide +kernel) (by decide +kernel)
set_option maxRecDepth 20000 in
theorem gX5_readLine_X5_howManyNumbers : GoodIn wsX5_readLine (va_wsS RX5 35 yX5_howManyNumbers wsX5_howManyNumbers) := goodIn_app (goodIn_of _ (by decide +kernel)) ggX5_readLine_X5_howManyNumbers
set_option maxRecDepth 20000 in
theorem ggX5_readLine_X5_readNumber : GoodIn wsX5_readLine wsX5_readNumber := goodIn_r _ [13, 1, 2, 3, 14, 15, 16, 17, 8, 18, 19, 20, 21, 22, 23, 24] (by decide +kernel) (by decide +kernel)
set_option maxRecDepth 20000 in
theorem gX5_readLine_X5_readNumber : GoodIn wsX5_readLine (wsV RX5 39 RX5 yX5_readNumber wsX5_readNumber) := goodIn_app (goodIn_of _ (by decide +kernel)) ggX5_readLine_X5_readNumber
theorem dX5_readLine_0 : decode cX5_readLine 0 = .ok (.aload_n 0, 1) := by decide +kernel
theorem dX5_readLine_1 : decode cX5_readLine 1 = .ok (.getfield 28, 3) := by decide +kernel
theorem dX5_readLine_4 : decode cX5_readLine 4 = .ok (.aload_n 0, 1) := by decide +kernel
theorem dX5_readLine_5 : decode cX5_readLine 5 = .ok (.getfield 21, 3) := by decide +kernel
theorem dX5_readLine_8 : decode cX5_readLine 8 = .ok (.if_icmp .lt 5, 3) := by decide +kernel
theorem dX5_readLine_11 : decode cX5_readLine 11 = .ok (.iconst 0, 1) := by decide +kernel
theorem dX5_readLine_12 : decode cX5_readLine 12 = .ok (.ireturn, 1) := by decide +kernel
theorem dX5_readLine_13 : decode cX5_readLine 13 = .ok (.aload_n 0, 1) := by decide +kernel
theorem dX5_readLine_14 : decode cX5_readLine 14 = .ok (.getfield 9, 3) := by decide +kernel
theorem dX5_readLine_17 : decode cX5_readLine 17 = .ok (.aload_n 0, 1) := by decide +kernel
theorem dX5_readLine_18 : decode cX5_readLine 18 = .ok (.getfield 28, 3) := by decide +kernel
theorem dX5_readLine_21 : decode cX5_readLine 21 = .ok (.iaload, 1) := by decide +kernel
theorem dX5_readLine_22 : decode cX5_readLine 22 = .ok (.invokestatic 35, 3) := by decide +kernel
theorem dX5_readLine_25 : decode cX5_readLine 25 = .ok (.istore_n 1, 1) := by decide +kernel
theorem dX5_readLine_26 : decode cX5_readLine 26 = .ok (.iload_n 1, 1) := by decide +kernel
theorem dX5_readLine_27 : decode cX5_readLine 27 = .ok (.ifCond .ge 5, 3) := by decide +kernel
theorem dX5_readLine_30 : decode cX5_readLine 30 = .ok (.iconst 0, 1) := by decide +kernel
theorem dX5_readLine_31 : decode cX5_readLine 31 = .ok (.ireturn, 1) := by decide +kernel
theorem dX5_readLine_32 : decode cX5_readLine 32 = .ok (.aload_n 0, 1) := by decide +kernel
theorem dX5_readLine_33 : decode cX5_readLine 33 = .ok (.getfield 15, 3) := by decide +kernel
theorem dX5_readLine_36 : decode cX5_readLine 36 = .ok (.aload_n 0, 1) := by decide +kernel
theorem dX5_readLine_37 : decode cX5_readLine 37 = .ok (.getfield 25, 3) := by decide +kernel
theorem dX5_readLine_40 : decode cX5_readLine 40 = .ok (.aload_n 0, 1) := by decide +kernel
theorem dX5_readLine_41 : decode cX5_readLine 41 = .ok (.getfield 9, 3) := by decide +kernel
theorem dX5_readLine_44 : decode cX5_readLine 44 = .ok (.aload_n 0, 1) := by decide +kernel
theorem dX5_readLine_45 : decode cX5_readLine 45 = .ok (.getfield 28, 3) := by decide +kernel
theorem dX5_readLine_48 : decode cX5_readLine 48 = .ok (.iaload, 1) := by decide +kernel
theorem dX5_readLine_49 : decode cX5_readLine 49 = .ok (.iastore, 1) := by decide +kernel
theorem dX5_readLine_50 : decode cX5_readLine 50 = .ok (.aload_n 0, 1) := by decide +kernel
theorem dX5_readLine_51 : decode cX5_readLine 51 = .ok (.dup, 1) := by decide +kernel
theorem dX5_readLine_52 : decode cX5_readLine 52 = .ok (.getfield 28, 3) := by decide +kernel
theorem dX5_readLine_55 : decode cX5_readLine 55 = .ok (.iconst 1, 1) := by decide +kernel
theorem dX5_readLine_56 : decode cX5_readLine 56 = .ok (.iadd, 1) := by decide +kernel
theorem dX5_readLine_57 : decode cX5_readLine 57 = .ok (.putfield 28, 3) := by decide +kernel
theorem dX5_readLine_60 : decode cX5_readLine 60 = .ok (.iconst 0, 1) := by decide +kernel
theorem dX5_readLine_61 : decode cX5_readLine 61 = .ok (.istore_n 2, 1) := by decide +kernel
theorem dX5_readLine_62 : decode cX5_readLine 62 = .ok (.iload_n 2, 1) := by decide +kernel
theorem dX5_readLine_63 : decode cX5_readLine 63 = .ok (.iload_n 1, 1) := by decide +kernel
theorem dX5_readLine_64 : decode cX5_readLine 64 = .ok (.if_icmp .ge 26, 3) := by decide +kernel
theorem dX5_readLine_67 : decode cX5_readLine 67 = .ok (.aload_n 0, 1) := by decide +kernel
theorem dX5_readLine_68 : decode cX5_readLine 68 = .ok (.iconst 3, 1) := by decide +kernel
theorem dX5_readLine_69 : decode cX5_readLine 69 = .ok (.aload_n 0, 1) := by decide +kernel
theorem dX5_readLine_70 : decode cX5_readLine 70 = .ok (.getfield 25, 3) := by decide +kernel
theorem dX5_readLine_73 : decode cX5_readLine 73 = .ok (.imul, 1) := by decide +kernel
theorem dX5_readLine_74 : decode cX5_readLine 74 = .ok (.iload_n 2, 1) := by decide +kernel
theorem dX5_readLine_75 : decode cX5_readLine 75 = .ok (.iadd, 1) := by decide +kernel
theorem dX5_readLine_76 : decode cX5_readLine 76 = .ok (.invokevirtual 39, 3) := by decide +kernel
theorem dX5_readLine_79 : decode cX5_readLine 79 = .ok (.ifCond .ne 5, 3) := by decide +kernel
theorem dX5_readLine_82 : decode cX5_readLine 82 = .ok (.iconst 0, 1) := by decide +kernel
theorem dX5_readLine_83 : decode cX5_readLine 83 = .ok (.ireturn, 1) := by decide +kernel
theorem dX5_readLine_84 : decode cX5_readLine 84 = .ok (.iinc 2 1, 3) := by decide +kernel
theorem dX5_readLine_87 : decode cX5_readLine 87 = .ok (.goto (-25), 3) := by decide +kernel
theorem dX5_readLine_90 : decode cX5_readLine 90 = .ok (.iconst 1, 1) := by decide +kernel
theorem dX5_readLine_91 : decode cX5_readLine 91 = .ok (.ireturn, 1) := by decide +kernel
set_option maxRecDepth 20000 in
theorem ggX5_readNumber_X5_isDigit : GoodIn wsX5_readNumber wsX5_isDigit := goodIn_r _ [9, 1, 2, 3, 10, 11, 12, 13, 14, 15] (by decide +kernel) (by decide +kernel)
set_option maxRecDepth 20000 in
theorem gX5_readNumber_X5_isDigit : GoodIn wsX5_readNumber (wsV RX5 43 RX5 yX5_isDigit wsX5_isDigit) := goodIn_app (goodIn_of _ (by decide +kernel)) ggX5_readNumber_X5_isDigit
theorem dX5_readNumber_0 : decode cX5_readNumber 0 = .ok (.aload_n 0, 1) := by decide +kernel
theorem dX5_readNumber_1 : decode cX5_readNumber 1 = .ok (.getfield 28, 3) := by decide +kernel
theorem dX5_readNumber_4 : decode cX5_readNumber 4 = .ok (.aload_n 0, 1) := by decide +kernel
theorem dX5_readNumber_5 : decode cX5_readNumber 5 = .ok (.getfield 21, 3) := by decide +kernel
theorem dX5_readNumber_8 : decode cX5_readNumber 8 = .ok (.if_icmp .ge 17, 3) := by decide +kernel
theorem dX5_readNumber_11 : decode cX5_readNumber 11 = .ok (.aload_n 0, 1) := by decide +kernel
theorem dX5_readNumber_12 : decode cX5_readNumber 12 = .ok (.getfield 9, 3) := by decide +kernel
theorem dX5_readNumber_15 : decode cX5_readNumber 15 = .ok (.aload_n 0, 1) := by decide +kernel
theorem dX5_readNumber_16 : decode cX5_readNumber 16 = .ok (.getfield 28, 3) := by decide +kernel
theorem dX5_readNumber_19 : decode cX5_readNumber 19 = .ok (.iaload, 1) := by decide +kernel
theorem dX5_readNumber_20 : decode cX5_readNumber 20 = .ok (.bipush 32, 2) := by decide +kernel
theorem dX5_readNumber_22 : decode cX5_readNumber 22 = .ok (.if_icmp .eq 5, 3) := by decide +kernel
theorem dX5_readNumber_25 : decode cX5_readNumber 25 = .ok (.iconst 0, 1) := by decide +kernel
theorem dX5_readNumber_26 : decode cX5_readNumber 26 = .ok (.ireturn, 1) := by decide +kernel
theorem dX5_readNumber_27 : decode cX5_readNumber 27 = .ok (.aload_n 0, 1) := by decide +kernel
theorem dX5_readNumber_28 : decode cX5_readNumber 28 = .ok (.dup, 1) := by decide +kernel
theorem dX5_readNumber_29 : decode cX5_readNumber 29 = .ok (.getfield 28, 3) := by decide +kernel
theorem dX5_readNumber_32 : decode cX5_readNumber 32 = .ok (.iconst 1, 1) := by decide +kernel
theorem dX5_readNumber_33 : decode cX5_readNumber 33 = .ok (.iadd, 1) := by decide +kernel
theorem dX5_readNumber_34 : decode cX5_readNumber 34 = .ok (.putfield 28, 3) := by decide +kernel
theorem dX5_readNumber_37 : decode cX5_readNumber 37 = .ok (.aload_n 0, 1) := by decide +kernel
theorem dX5_readNumber_38 : decode cX5_readNumber 38 = .ok (.invokevirtual 43, 3) := by decide +kernel
theorem dX5_readNumber_41 : decode cX5_readNumber 41 = .ok (.ifCond .ne 5, 3) := by decide +kernel
theorem dX5_readNumber_44 : decode cX5_readNumber 44 = .ok (.iconst 0, 1) := by decide +kernel
theorem dX5_readNumber_45 : decode cX5_readNumber 45 = .ok (.ireturn, 1) := by decide +kernel
theorem dX5_readNumber_46 : decode cX5_readNumber 46 = .ok (.aload_n 0, 1) := by decide +kernel
theorem dX5_readNumber_47 : decode cX5_readNumber 47 = .ok (.getfield 18, 3) := by decide +kernel
theorem dX5_readNumber_50 : decode cX5_readNumber 50 = .ok (.iload_n 1, 1) := by decide +kernel
theorem dX5_readNumber_51 : decode cX5_readNumber 51 = .ok (.aload_n 0, 1) := by decide +kernel
theorem dX5_readNumber_52 : decode cX5_readNumber 52 = .ok (.getfield 9, 3) := by decide +kernel
theorem dX5_readNumber_55 : decode cX5_readNumber 55 = .ok (.aload_n 0, 1) := by decide +kernel
theorem dX5_readNumber_56 : decode cX5_readNumber 56 = .ok (.getfield 28, 3) := by decide +kernel
theorem dX5_readNumber_59 : decode cX5_readNumber 59 = .ok (.iaload, 1) := by decide +kernel
theorem dX5_readNumber_60 : decode cX5_readNumber 60 = .ok (.bipush 48, 2) := by decide +kernel
theorem dX5_readNumber_62 : decode cX5_readNumber 62 = .ok (.isub, 1) := by decide +kernel
theorem dX5_readNumber_63 : decode cX5_readNumber 63 = .ok (.iastore, 1) := by decide +kernel
theorem dX5_readNumber_64 : decode cX5_readNumber 64 = .ok (.aload_n 0, 1) := by decide +kernel
theorem dX5_readNumber_65 : decode cX5_readNumber 65 = .ok (.dup, 1) := by decide +kernel
theorem dX5_readNumber_66 : decode cX5_readNumber 66 = .ok (.getfield 28, 3) := by decide +kernel
theorem dX5_readNumber_69 : decode cX5_readNumber 69 = .ok (.iconst 1, 1) := by decide +kernel
theorem dX5_readNumber_70 : decode cX5_readNumber 70 = .ok (.iadd, 1) := by decide +kernel
theorem dX5_readNumber_71 : decode cX5_readNumber 71 = .ok (.putfield 28, 3) := by decide +kernel
theorem dX5_readNumber_74 : decode cX5_readNumber 74 = .ok (.aload_n 0, 1) := by decide +kernel
theorem dX5_readNumber_75 : decode cX5_readNumber 75 = .ok (.invokevirtual 43, 3) := by decide +kernel
theorem dX5_readNumber_78 : decode cX5_readNumber 78 = .ok (.ifCond .eq 41, 3) := by decide +kernel
theorem dX5_readNumber_81 : decode cX5_readNumber 81 = .ok (.aload_n 0, 1) := by decide +kernel
theorem dX5_readNumber_82 : decode cX5_readNumber 82 = .ok (.getfield 18, 3) := by decide +kernel
theorem dX5_readNumber_85 : decode cX5_readNumber 85 = .ok (.iload_n 1, 1) := by decide +kernel
theorem dX5_readNumber_86 : decode cX5_readNumber 86 = .ok (.aload_n 0, 1) := by decide +kernel
theorem dX5_readNumber_87 : decode cX5_readNumber 87 = .ok (.getfield 18, 3) := by decide +kernel
theorem dX5_readNumber_90 : decode cX5_readNumber 90 = .ok (.iload_n 1, 1) := by decide +kernel
theorem dX5_readNumber_91 : decode cX5_readNumber 91 = .ok (.iaload, 1) := by decide +kernel
theorem dX5_readNumber_92 : decode cX5_readNumber 92 = .ok (.bipush 10, 2) := by decide +kernel
theorem dX5_readNumber_94 : decode cX5_readNumber 94 = .ok (.imul, 1) := by decide +kernel
theorem dX5_readNumber_95 : decode cX5_readNumber 95 = .ok (.aload_n 0, 1) := by decide +kernel
theorem dX5_readNumber_96 : decode cX5_readNumber 96 = .ok (.getfield 9, 3) := by decide +kernel
theorem dX5_readNumber_99 : decode cX5_readNumber 99 = .ok (.aload_n 0, 1) := by decide +kernel
theorem dX5_readNumber_100 : decode cX5_readNumber 100 = .ok (.getfield 28, 3) := by decide +kernel
theorem dX5_readNumber_103 : decode cX5_readNumber 103 = .ok (.iaload, 1) := by decide +kernel
theorem dX5_readNumber_104 : decode cX5_readNumber 104 = .ok (.iadd, 1) := by decide +kernel
theorem dX5_readNumber_105 : decode cX5_readNumber 105 = .ok (.bipush 48, 2) := by decide +kernel
theorem dX5_readNumber_107 : decode cX5_readNumber 107 = .ok (.isub, 1) := by decide +kernel
theorem dX5_readNumber_108 : decode cX5_readNumber 108 = .ok (.iastore, 1) := by decide +kernel
theorem dX5_readNumber_109 : decode cX5_readNumber 109 = .ok (.aload_n 0, 1) := by decide +kernel
theorem dX5_readNumber_110 : decode cX5_readNumber 110 = .ok (.dup, 1) := by decide +kernel
theorem dX5_readNumber_111 : decode cX5_readNumber 111 = .ok (.getfield 28, 3) := by decide +kernel
theorem dX5_readNumber_114 : decode cX5_readNumber 114 = .ok (.iconst 1, 1) := by decide +kernel
theorem dX5_readNumber_115 : decode cX5_readNumber 115 = .ok (.iadd, 1) := by decide +kernel
theorem dX5_readNumber_116 : decode cX5_readNumber 116 = .ok (.putfield 28, 3) := by decide +kernel
theorem dX5_readNumber_119 : decode cX5_readNumber 119 = .ok (.iconst 1, 1) := by decide +kernel
theorem dX5_readNumber_120 : decode cX5_readNumber 120 = .ok (.ireturn, 1) := by decide +kernel
theorem dX5_isDigit_0 : decode cX5_isDigit 0 = .ok (.aload_n 0, 1) := by decide +kernel
theorem dX5_isDigit_1 : decode cX5_isDigit 1 = .ok (.getfield 28, 3) := by decide +kernel
theorem dX5_isDigit_4 : decode cX5_isDigit 4 = .ok (.aload_n 0, 1) := by decide +kernel
theorem dX5_isDigit_5 : decode cX5_isDigit 5 = .ok (.getfield 21, 3) := by decide +kernel
theorem dX5_isDigit_8 : decode cX5_isDigit 8 = .ok (.if_icmp .ge 35, 3) := by decide +kernel
theorem dX5_isDigit_11 : decode cX5_isDigit 11 = .ok (.aload_n 0, 1) := by decide +kernel
theorem dX5_isDigit_12 : decode cX5_isDigit 12 = .ok (.getfield 9, 3) := by decide +kernel
theorem dX5_isDigit_15 : decode cX5_isDigit 15 = .ok (.aload_n 0, 1) := by decide +kernel
theorem dX5_isDigit_16 : decode cX5_isDigit 16 = .ok (.getfield 28, 3) := by decide +kernel
theorem dX5_isDigit_19 : decode cX5_isDigit 19 = .ok (.iaload, 1) := by decide +kernel
theorem dX5_isDigit_20 : decode cX5_isDigit 20 = .ok (.bipush 48, 2) := by decide +kernel
theorem dX5_isDigit_22 : decode cX5_isDigit 22 = .ok (.if_icmp .lt 21, 3) := by decide +kernel
theorem dX5_isDigit_25 : decode cX5_isDigit 25 = .ok (.aload_n 0, 1) := by decide +kernel
theorem dX5_isDigit_26 : decode cX5_isDigit 26 = .ok (.getfield 9, 3) := by decide +kernel
theorem dX5_isDigit_29 : decode cX5_isDigit 29 = .ok (.aload_n 0, 1) := by decide +kernel
theorem dX5_isDigit_30 : decode cX5_isDigit 30 = .ok (.getfield 28, 3) := by decide +kernel
theorem dX5_isDigit_33 : decode cX5_isDigit 33 = .ok (.iaload, 1) := by decide +kernel
theorem dX5_isDigit_34 : decode cX5_isDigit 34 = .ok (.bipush 57, 2) := by decide +kernel
theorem dX5_isDigit_36 : decode cX5_isDigit 36 = .ok (.if_icmp .gt 7, 3) := by decide +kernel
theorem dX5_isDigit_39 : decode cX5_isDigit 39 = .ok (.iconst 1, 1) := by decide +kernel
theorem dX5_isDigit_40 : decode cX5_isDigit 40 = .ok (.goto 4, 3) := by decide +kernel
theorem dX5_isDigit_43 : decode cX5_isDigit 43 = .ok (.iconst 0, 1) := by decide +kernel
theorem dX5_isDigit_44 : decode cX5_isDigit 44 = .ok (.ireturn, 1) := by decide +kernel
theorem dX5_howManyNumbers_0 : decode cX5_howManyNumbers 0 = .ok (.iload_n 0, 1) := by decide +kernel
theorem dX5_howManyNumbers_1 : decode cX5_howManyNumbers 1 = .ok (.tableswitch 107 99 119 #[101, 101, 107, 107, 107, 101, 107, 107, 107, 105, 107, 99, 107, 107, 101, 101, 107, 107, 101, 107, 103], 99) := by decide +kernel
theorem dX5_howManyNumbers_100 : decode cX5_howManyNumbers 100 = .ok (.iconst 0, 1) := by decide +kernel
theorem dX5_howManyNumbers_101 : decode cX5_howManyNumbers 101 = .ok (.ireturn, 1) := by decide +kernel
theorem dX5_howManyNumbers_102 : decode cX5_howManyNumbers 102 = .ok (.iconst 1, 1) := by decide +kernel
theorem dX5_howManyNumbers_103 : decode cX5_howManyNumbers 103 = .ok (.ireturn, 1) := by decide +kernel
theorem dX5_howManyNumbers_104 : decode cX5_howManyNumbers 104 = .ok (.iconst 2, 1) := by decide +kernel
theorem dX5_howManyNumbers_105 : decode cX5_howManyNumbers 105 = .ok (.ireturn, 1) := by decide +kernel
theorem dX5_howManyNumbers_106 : decode cX5_howManyNumbers 106 = .ok (.iconst 3, 1) := by decide +kernel
theorem dX5_howManyNumbers_107 : decode cX5_howManyNumbers 107 = .ok (.ireturn, 1) := by decide +kernel
theorem dX5_howManyNumbers_108 : decode cX5_howManyNumbers 108 = .ok (.iconst (-1), 1) := by decide +kernel
theorem dX5_howManyNumbers_109 : decode cX5_howManyNumbers 109 = .ok (.ireturn, 1) := by decide +kernel
theorem dX6_init_0 : decode cX6_init 0 = .ok (.aload_n 0, 1) := by decide +kernel
theorem dX6_init_1 : decode cX6_init 1 = .ok (.invokespecial 3, 3) := by decide +kernel
theorem dX6_init_4 : decode cX6_init 4 = .ok (.aload_n 0, 1) := by decide +kernel
theorem dX6_init_5 : decode cX6_init 5 = .ok (.bipush 10, 2) := by decide +kernel
theorem dX6_init_7 : decode cX6_init 7 = .ok (.newarray .int, 2) := by decide +kernel
theorem dX6_init_9 : decode cX6_init 9 = .ok (.putfield 9, 3) := by decide +kernel
theorem dX6_init_12 : decode cX6_init 12 = .ok (.return_, 1) := by decide +kernel
set_option maxRecDepth 20000 in
theorem ggX6_walk_X4_reaches : GoodIn wsX6_walk wsX4_reaches := goodIn_r _ [9, 10, 14, 15, 16, 17, 18, 19] (by decide +kernel) (by decide +kernel)
set_option maxRecDepth 20000 in
theorem gX6_walk_X4_reaches : GoodIn wsX6_walk (wsV RX6 22 RX4 yX4_reaches wsX4_reaches) := goodIn_app (goodIn_of _ (by decide +kernel)) ggX6_walk_X4_reaches
theorem dX6_walk_0 : decode cX6_walk 0 = .ok (.aload_n 0, 1) := by decide +kernel
theorem dX6_walk_1 : decode cX6_walk 1 = .ok (.iconst 0, 1) := by decide +kernel
theorem dX6_walk_2 : decode cX6_walk 2 = .ok (.putfield 15, 3) := by decide +kernel
theorem dX6_walk_5 : decode cX6_walk 5 = .ok (.aload_n 0, 1) := by decide +kernel
theorem dX6_walk_6 : decode cX6_walk 6 = .ok (.iconst 2, 1) := by decide +kernel
theorem dX6_walk_7 : decode cX6_walk 7 = .ok (.putfield 19, 3) := by decide +kernel
theorem dX6_walk_10 : decode cX6_walk 10 = .ok (.iconst 0, 1) := by decide +kernel
theorem dX6_walk_11 : decode cX6_walk 11 = .ok (.istore 4, 2) := by decide +kernel
theorem dX6_walk_13 : decode cX6_walk 13 = .ok (.iload_n 2, 1) := by decide +kernel
theorem dX6_walk_14 : decode cX6_walk 14 = .ok (.istore 5, 2) := by decide +kernel
theorem dX6_walk_16 : decode cX6_walk 16 = .ok (.aload_n 0, 1) := by decide +kernel
theorem dX6_walk_17 : decode cX6_walk 17 = .ok (.getfield 15, 3) := by decide +kernel
theorem dX6_walk_20 : decode cX6_walk 20 = .ok (.bipush 10, 2) := by decide +kernel
theorem dX6_walk_22 : decode cX6_walk 22 = .ok (.if_icmp .ge 92, 3) := by decide +kernel
theorem dX6_walk_25 : decode cX6_walk 25 = .ok (.iload 4, 2) := by decide +kernel
theorem dX6_walk_27 : decode cX6_walk 27 = .ok (.iload 5, 2) := by decide +kernel
theorem dX6_walk_29 : decode cX6_walk 29 = .ok (.ishr, 1) := by decide +kernel
theorem dX6_walk_30 : decode cX6_walk 30 = .ok (.iconst 1, 1) := by decide +kernel
theorem dX6_walk_31 : decode cX6_walk 31 = .ok (.iand, 1) := by decide +kernel
theorem dX6_walk_32 : decode cX6_walk 32 = .ok (.ifCond .ne 82, 3) := by decide +kernel
theorem dX6_walk_35 : decode cX6_walk 35 = .ok (.aload_n 0, 1) := by decide +kernel
theorem dX6_walk_36 : decode cX6_walk 36 = .ok (.getfield 9, 3) := by decide +kernel
theorem dX6_walk_39 : decode cX6_walk 39 = .ok (.aload_n 0, 1) := by decide +kernel
theorem dX6_walk_40 : decode cX6_walk 40 = .ok (.getfield 15, 3) := by decide +kernel
theorem dX6_walk_43 : decode cX6_walk 43 = .ok (.iload 5, 2) := by decide +kernel
theorem dX6_walk_45 : decode cX6_walk 45 = .ok (.iastore, 1) := by decide +kernel
theorem dX6_walk_46 : decode cX6_walk 46 = .ok (.aload_n 0, 1) := by decide +kernel
theorem dX6_walk_47 : decode cX6_walk 47 = .ok (.dup, 1) := by decide +kernel
theorem dX6_walk_48 : decode cX6_walk 48 = .ok (.getfield 15, 3) := by decide +kernel
theorem dX6_walk_51 : decode cX6_walk 51 = .ok (.iconst 1, 1) := by decide +kernel
theorem dX6_walk_52 : decode cX6_walk 52 = .ok (.iadd, 1) := by decide +kernel
theorem dX6_walk_53 : decode cX6_walk 53 = .ok (.putfield 15, 3) := by decide +kernel
theorem dX6_walk_56 : decode cX6_walk 56 = .ok (.iload 4, 2) := by decide +kernel
theorem dX6_walk_58 : decode cX6_walk 58 = .ok (.iconst 1, 1) := by decide +kernel
theorem dX6_walk_59 : decode cX6_walk 59 = .ok (.iload 5, 2) := by decide +kernel
theorem dX6_walk_61 : decode cX6_walk 61 = .ok (.ishl, 1) := by decide +kernel
theorem dX6_walk_62 : decode cX6_walk 62 = .ok (.ior, 1) := by decide +kernel
theorem dX6_walk_63 : decode cX6_walk 63 = .ok (.istore 4, 2) := by decide +kernel
theorem dX6_walk_65 : decode cX6_walk 65 = .ok (.iload 5, 2) := by decide +kernel
theorem dX6_walk_67 : decode cX6_walk 67 = .ok (.iload_n 3, 1) := by decide +kernel
theorem dX6_walk_68 : decode cX6_walk 68 = .ok (.if_icmp .ne 9, 3) := by decide +kernel
theorem dX6_walk_71 : decode cX6_walk 71 = .ok (.aload_n 0, 1) := by decide +kernel
theorem dX6_walk_72 : decode cX6_walk 72 = .ok (.iconst 1, 1) := by decide +kernel
theorem dX6_walk_73 : decode cX6_walk 73 = .ok (.putfield 19, 3) := by decide +kernel
theorem dX6_walk_76 : decode cX6_walk 76 = .ok (.return_, 1) := by decide +kernel
theorem dX6_walk_77 : decode cX6_walk 77 = .ok (.aload_n 1, 1) := by decide +kernel
theorem dX6_walk_78 : decode cX6_walk 78 = .ok (.iload 5, 2) := by decide +kernel
theorem dX6_walk_80 : decode cX6_walk 80 = .ok (.bipush 10, 2) := by decide +kernel
theorem dX6_walk_82 : decode cX6_walk 82 = .ok (.imul, 1) := by decide +kernel
theorem dX6_walk_83 : decode cX6_walk 83 = .ok (.iload_n 3, 1) := by decide +kernel
theorem dX6_walk_84 : decode cX6_walk 84 = .ok (.iadd, 1) := by decide +kernel
theorem dX6_walk_85 : decode cX6_walk 85 = .ok (.invokevirtual 22, 3) := by decide +kernel
theorem dX6_walk_88 : decode cX6_walk 88 = .ok (.ifCond .ne 9, 3) := by decide +kernel
theorem dX6_walk_91 : decode cX6_walk 91 = .ok (.aload_n 0, 1) := by decide +kernel
theorem dX6_walk_92 : decode cX6_walk 92 = .ok (.iconst 0, 1) := by decide +kernel
theorem dX6_walk_93 : decode cX6_walk 93 = .ok (.putfield 19, 3) := by decide +kernel
theorem dX6_walk_96 : decode cX6_walk 96 = .ok (.return_, 1) := by decide +kernel
theorem dX6_walk_97 : decode cX6_walk 97 = .ok (.aload_n 1, 1) := by decide +kernel
theorem dX6_walk_98 : decode cX6_walk 98 = .ok (.getfield 28, 3) := by decide +kernel
theorem dX6_walk_101 : decode cX6_walk 101 = .ok (.iload 5, 2) := by decide +kernel
theorem dX6_walk_103 : decode cX6_walk 103 = .ok (.bipush 10, 2) := by decide +kernel
theorem dX6_walk_105 : decode cX6_walk 105 = .ok (.imul, 1) := by decide +kernel
theorem dX6_walk_106 : decode cX6_walk 106 = .ok (.iload_n 3, 1) := by decide +kernel
theorem dX6_walk_107 : decode cX6_walk 107 = .ok (.iadd, 1) := by decide +kernel
theorem dX6_walk_108 : decode cX6_walk 108 = .ok (.iaload, 1) := by decide +kernel
theorem dX6_walk_109 : decode cX6_walk 109 = .ok (.istore 5, 2) := by decide +kernel
theorem dX6_walk_111 : decode cX6_walk 111 = .ok (.goto (-95), 3) := by decide +kernel
theorem dX6_walk_114 : decode cX6_walk 114 = .ok (.return_, 1) := by decide +kernel
set_option maxRecDepth 20000 in
theorem ggX6_loopsIn_X6_walk : GoodIn wsX6_loopsIn wsX6_walk := goodIn_r _ [8, 9, 3, 10, 11, 12, 13, 14, 15, 16, 17, 27, 28, 29, 30, 31, 32, 33, 34, 35] (by decide +kernel) (by decide +kernel)
set_option maxRecDepth 20000 in
theorem gX6_loopsIn_X6_walk : GoodIn wsX6_loopsIn (wsV RX6 40 RX6 yX6_walk wsX6_walk) := goodIn_app (goodIn_of _ (by decide +kernel)) ggX6_loopsIn_X6_walk
theorem dX6_loopsIn_0 : decode cX6_loopsIn 0 = .ok (.iconst 0, 1) := by decide +kernel
theorem dX6_loopsIn_1 : decode cX6_loopsIn 1 = .ok (.istore_n 2, 1) := by decide +kernel
theorem dX6_loopsIn_2 : decode cX6_loopsIn 2 = .ok (.iconst 0, 1) := by decide +kernel
theorem dX6_loopsIn_3 : decode cX6_loopsIn 3 = .ok (.istore_n 3, 1) := by decide +kernel
theorem dX6_loopsIn_4 : decode cX6_loopsIn 4 = .ok (.iload_n 3, 1) := by decide +kernel
theorem dX6_loopsIn_5 : decode cX6_loopsIn 5 = .ok (.aload_n 1, 1) := by decide +kernel
theorem dX6_loopsIn_6 : decode cX6_loopsIn 6 = .ok (.getfield 31, 3) := by decide +kernel
theorem dX6_loopsIn_9 : decode cX6_loopsIn 9 = .ok (.if_icmp .ge 49, 3) := by decide +kernel
theorem dX6_loopsIn_12 : decode cX6_loopsIn 12 = .ok (.iconst 0, 1) := by decide +kernel
theorem dX6_loopsIn_13 : decode cX6_loopsIn 13 = .ok (.istore 4, 2) := by decide +kernel
theorem dX6_loopsIn_15 : decode cX6_loopsIn 15 = .ok (.iload 4, 2) := by decide +kernel
theorem dX6_loopsIn_17 : decode cX6_loopsIn 17 = .ok (.aload_n 1, 1) := by decide +kernel
theorem dX6_loopsIn_18 : decode cX6_loopsIn 18 = .ok (.getfield 31, 3) := by decide +kernel
theorem dX6_loopsIn_21 : decode cX6_loopsIn 21 = .ok (.if_icmp .ge 31, 3) := by decide +kernel
theorem dX6_loopsIn_24 : decode cX6_loopsIn 24 = .ok (.aload_n 0, 1) := by decide +kernel
theorem dX6_loopsIn_25 : decode cX6_loopsIn 25 = .ok (.aload_n 1, 1) := by decide +kernel
theorem dX6_loopsIn_26 : decode cX6_loopsIn 26 = .ok (.getfield 36, 3) := by decide +kernel
theorem dX6_loopsIn_29 : decode cX6_loopsIn 29 = .ok (.iload_n 3, 1) := by decide +kernel
theorem dX6_loopsIn_30 : decode cX6_loopsIn 30 = .ok (.iload 4, 2) := by decide +kernel
theorem dX6_loopsIn_32 : decode cX6_loopsIn 32 = .ok (.invokevirtual 40, 3) := by decide +kernel
theorem dX6_loopsIn_35 : decode cX6_loopsIn 35 = .ok (.aload_n 0, 1) := by decide +kernel
theorem dX6_loopsIn_36 : decode cX6_loopsIn 36 = .ok (.getfield 19, 3) := by decide +kernel
theorem dX6_loopsIn_39 : decode cX6_loopsIn 39 = .ok (.iconst 2, 1) := by decide +kernel
theorem dX6_loopsIn_40 : decode cX6_loopsIn 40 = .ok (.if_icmp .ne 6, 3) := by decide +kernel
theorem dX6_loopsIn_43 : decode cX6_loopsIn 43 = .ok (.iinc 2 1, 3) := by decide +kernel
theorem dX6_loopsIn_46 : decode cX6_loopsIn 46 = .ok (.iinc 4 1, 3) := by decide +kernel
theorem dX6_loopsIn_49 : decode cX6_loopsIn 49 = .ok (.goto (-34), 3) := by decide +kernel
theorem dX6_loopsIn_52 : decode cX6_loopsIn 52 = .ok (.iinc 3 1, 3) := by decide +kernel
theorem dX6_loopsIn_55 : decode cX6_loopsIn 55 = .ok (.goto (-51), 3) := by decide +kernel
theorem dX6_loopsIn_58 : decode cX6_loopsIn 58 = .ok (.iload_n 2, 1) := by decide +kernel
theorem dX6_loopsIn_59 : decode cX6_loopsIn 59 = .ok (.ireturn, 1) := by decide +kernel
end
section
/-! THE PURE LAYER: a world of int arrays and int fields is a function of a region and a place; a method is a function that may be stuck (none) -/
abbrev qM : Type := Nat → Nat → Int32
abbrev qR : Type := Option (Int32 × qM)
def q_inB (i : Int32) (n : Nat) : Bool := decide (0 ≤ i.toInt ∧ i.toInt < n)
def q_wr (σ : qM) (r i : Nat) (v : Int32) : qM := fun k => cond (Nat.beq k r) (upd (σ r) i v) (σ k)
def q_rd {α : Type} (σ : qM) (r n : Nat) (i : Int32) (K : Int32 → Option α) : Option α := cond (q_inB i n) (K (σ r i.toNatClampNeg)) none
def q_wt {α : Type} (σ : qM) (r n : Nat) (i v : Int32) (K : qM → Option α) : Option α := cond (q_inB i n) (K (q_wr σ r i.toNatClampNeg v)) none
def q_nm {α β : Type} (e : β) (K : β → Option α) : Option α := K e
def q_dv {α : Type} (y : Int32) (K : Option α) : Option α := if y = 0 then none else K
def q_bo {α : Type} (x : Int32) (K : Option α) : Option α := if x = 0 ∨ x = 1 then K else none
def q_gd {α : Type} (b : Bool) (K : Option α) : Option α := cond b K none
def q_cl {α : Type} (o : qR) (put : qM → qM) (K : Int32 → qM → Option α) : Option α := match o with
  | some p => K p.1 (put p.2)
  | none => none
def q_sub {α : Type} (o : Nat) (f : Nat → α) : Nat → α := fun k => f (o + k)
def q_sub2 {α : Type} (n o1 o2 : Nat) (f : Nat → α) : Nat → α := fun k => cond (Nat.blt k n) (f (o1 + k)) (f (o2 + (k - n)))
def q_put (o n : Nat) (σ τ : qM) : qM := fun k => cond (Nat.ble o k && Nat.blt k (o + n)) (τ (k - o)) (σ k)
def q_put2 (n1 o1 n2 o2 : Nat) (σ τ : qM) : qM := fun k => cond (Nat.ble o1 k && Nat.blt k (o1 + n1)) (τ (k - o1)) (cond (Nat.ble o2 k && Nat.blt k (o2 + n2)) (τ (n1 + (k - o2))) (σ k))
def q_sw {α : Type} (f : Nat → α) : Nat → α := fun k => cond (Nat.beq k 1) (f 2) (cond (Nat.beq k 2) (f 1) (f k))
theorem q_in {i : Int32} {n : Nat} (h : q_inB i n = true) : vp_in i n := vp_in_iff.mpr (of_decide_eq_true h)
theorem q_gd_of {α : Type} {b : Bool} {K : Option α} {R : α} (h : q_gd b K = some R) : b = true ∧ K = some R := by
  cases b with
  | true => exact ⟨rfl, h⟩
  | false => cases h
theorem q_rd_of {α : Type} {σ : qM} {r n : Nat} {i : Int32} {K : Int32 → Option α} {R : α} (h : q_rd σ r n i K = some R) : vp_in i n ∧ K (σ r i.toNatClampNeg) = some R := by
  have h2 := q_gd_of (b := q_inB i n) (K := K (σ r i.toNatClampNeg)) h
  exact ⟨q_in h2.1, h2.2⟩
theorem q_wt_of {α : Type} {σ : qM} {r n : Nat} {i v : Int32} {K : qM → Option α} {R : α} (h : q_wt σ r n i v K = some R) : vp_in i n ∧ K (q_wr σ r i.toNatClampNeg v) = some R := by
  have h2 := q_gd_of (b := q_inB i n) (K := K (q_wr σ r i.toNatClampNeg v)) h
  exact ⟨q_in h2.1, h2.2⟩
theorem q_dv_of {α : Type} {y : Int32} {K : Option α} {R : α} (h : q_dv y K = some R) : ¬ y = 0 ∧ K = some R := by
  unfold q_dv at h
  split at h
  · cases h
  · exact ⟨by assumption, h⟩
theorem q_bo_of {α : Type} {x : Int32} {K : Option α} {R : α} (h : q_bo x K = some R) : (x = 0 ∨ x = 1) ∧ K = some R := by
  unfold q_bo at h
  split at h
  · exact ⟨by assumption, h⟩
  · cases h
theorem q_cl_of {α : Type} {o : qR} {put : qM → qM} {K : Int32 → qM → Option α} {R : α} (h : q_cl o put K = some R) : ∃ q, o = some q ∧ K q.1 (put q.2) = some R := by
  cases o with
  | none => cases h
  | some q => exact ⟨q, rfl, h⟩
theorem if_t {α : Type} {c : Prop} {_ : Decidable c} {A B : α} {R : α} (hc : c) (h : (if c then A else B) = R) : A = R := by rw [if_pos hc] at h; exact h
theorem if_f {α : Type} {c : Prop} {_ : Decidable c} {A B : α} {R : α} (hc : ¬ c) (h : (if c then A else B) = R) : B = R := by rw [if_neg hc] at h; exact h
/-! runs of loops: heads by number, with a bound on the jumps; what it tends to -/
abbrev qB : Type := Nat → qM → List Int32 → qR
def q_it (D : qB → qB) : Nat → qB
  | 0 => fun _ _ _ => none
  | n + 1 => D (q_it D n)
noncomputable def q_lim (D : qB → qB) : qB := fun i σ xs => @dite qR (∃ R : Int32 × qM, ∃ N, ∀ n, N ≤ n → q_it D n i σ xs = some R) (Classical.propDecidable _) (fun h => some (Classical.choose h)) (fun _ => none)
theorem q_lim_of {D : qB → qB} {i : Nat} {σ : qM} {xs : List Int32} {R : Int32 × qM} (h : q_lim D i σ xs = some R) : ∃ N, ∀ n, N ≤ n → q_it D n i σ xs = some R := by
  unfold q_lim at h
  split at h
  · rename_i hx
    cases h
    exact Classical.choose_spec hx
  · cases h
theorem q_lim_to {D : qB → qB} {i : Nat} {σ : qM} {xs : List Int32} {R : Int32 × qM} (h : ∃ N, ∀ n, N ≤ n → q_it D n i σ xs = some R) : q_lim D i σ xs = some R := by
  have hx : ∃ R : Int32 × qM, ∃ N, ∀ n, N ≤ n → q_it D n i σ xs = some R := ⟨R, h⟩
  have e : q_lim D i σ xs = some (Classical.choose hx) := by
    unfold q_lim
    rw [dif_pos hx]
  rw [e]
  obtain ⟨N, h1⟩ := h
  obtain ⟨N2, h2⟩ := Classical.choose_spec hx
  have a := h1 (max N N2) (Nat.le_max_left _ _)
  rw [h2 (max N N2) (Nat.le_max_right _ _)] at a
  exact a
theorem q_lim_ret {D : qB → qB} {i : Nat} {σ : qM} {xs : List Int32} {R : Int32 × qM} (h : ∀ go : qB, D go i σ xs = some R) : q_lim D i σ xs = some R :=
  q_lim_to ⟨1, fun n hn => by
    cases n with
    | zero => omega
    | succ n => exact h _⟩
theorem q_lim_go {D : qB → qB} {i j : Nat} {σ τ : qM} {xs ys : List Int32} {R : Int32 × qM} (h : ∀ go : qB, D go i σ xs = go j τ ys) (hR : q_lim D j τ ys = some R) : q_lim D i σ xs = some R := by
  obtain ⟨N, hN⟩ := q_lim_of hR
  refine q_lim_to ⟨N + 1, fun n hn => ?_⟩
  cases n with
  | zero => omega
  | succ n => rw [show q_it D (n + 1) i σ xs = D (q_it D n) i σ xs from rfl, h]; exact hN n (by omega)
theorem q_lim_n {D : qB → qB} {i : Nat} {σ : qM} {xs : List Int32} {R : Int32 × qM} (h : q_lim D i σ xs = some R) : ∃ n, q_it D n i σ xs = some R := by
  obtain ⟨N, hN⟩ := q_lim_of h
  exact ⟨N, hN N (Nat.le_refl _)⟩
/-! worlds: what a call's world is of its caller's -/
theorem q_D_fst {A : Nat → Prop} {w w' : va_W} (h : w.map (fun q => q.1) = w'.map (fun q => q.1)) (hD : va_D A w) : va_D A w' := by
  have key : ∀ (k : Nat) (q : Nat × va_E), w'[k]? = some q → ∃ q0, w[k]? = some q0 ∧ q0.1 = q.1 := by
    intro k q hq
    have h1 : (w'.map (fun q => q.1))[k]? = some q.1 := by rw [List.getElem?_map, hq]; rfl
    rw [← h, List.getElem?_map] at h1
    cases h2 : w[k]? with
    | none => rw [h2] at h1; cases h1
    | some q0 => rw [h2] at h1; exact ⟨q0, rfl, Option.some.inj h1⟩
  refine ⟨fun i j p q hi hj hpq => ?_, fun k q hk => ?_⟩
  · obtain ⟨p0, a1, a2⟩ := key i p hi
    obtain ⟨q0, b1, b2⟩ := key j q hj
    exact hD.1 i j p0 q0 a1 b1 (a2.trans (hpq.trans b2.symm))
  · obtain ⟨q0, a1, a2⟩ := key k q hk
    rw [← a2]
    exact hD.2 k q0 a1
theorem q_P_mem {D : va_G} {cl : List vw_C} {w w' : va_W} {H : Heap} (h : va_P D cl w H) (hm : ∀ q ∈ w', q ∈ w) : va_P D cl w' H := by
  intro k q hk
  obtain ⟨i, hi⟩ := List.getElem?_of_mem (hm q (List.mem_of_getElem? hk))
  exact h i q hi
theorem q_P_at {D : va_G} {cl : List vw_C} {w : va_W} {H : Heap} (h : va_P D cl w H) {q : Nat × va_E} (hq : q ∈ w) : va_at D cl q H := by
  obtain ⟨i, hi⟩ := List.getElem?_of_mem hq
  exact h i q hi
theorem q_D_in {A : Nat → Prop} {w : va_W} (h : va_D A w) {q : Nat × va_E} (hq : q ∈ w) : A q.1 := by
  obtain ⟨i, hi⟩ := List.getElem?_of_mem hq
  exact h.2 i q hi
theorem q_D_eq {A : Nat → Prop} {w : va_W} (h : va_D A w) {p q : Nat × va_E} (hp : p ∈ w) (hq : q ∈ w) (e : p.1 = q.1) : p = q := by
  obtain ⟨i, hi⟩ := List.getElem?_of_mem hp
  obtain ⟨j, hj⟩ := List.getElem?_of_mem hq
  have h1 := h.1 i j p q hi hj e
  subst h1
  exact Option.some.inj (hi.symm.trans hj)
theorem q_D_parts {A : Nat → Prop} {a b : va_W} (h : va_D A (a ++ b)) : va_D A a ∧ va_D A b ∧ ∀ p ∈ a, ∀ q ∈ b, p.1 ≠ q.1 := by
  refine ⟨⟨fun i j p q hi hj e => ?_, fun k q hk => ?_⟩, ⟨fun i j p q hi hj e => ?_, fun k q hk => ?_⟩, fun p hp q hq e => ?_⟩
  · exact h.1 i j p q (by rw [List.getElem?_append_left (List.getElem?_eq_some_iff.mp hi).1]; exact hi) (by rw [List.getElem?_append_left (List.getElem?_eq_some_iff.mp hj).1]; exact hj) e
  · exact q_D_in h (List.mem_append_left _ (List.mem_of_getElem? hk))
  · have h1 := h.1 (a.length + i) (a.length + j) p q (by rw [List.getElem?_append_right (by omega)]; rw [Nat.add_sub_cancel_left]; exact hi) (by rw [List.getElem?_append_right (by omega)]; rw [Nat.add_sub_cancel_left]; exact hj) e
    omega
  · exact q_D_in h (List.mem_append_right _ (List.mem_of_getElem? hk))
  · obtain ⟨i, hi⟩ := List.getElem?_of_mem hp
    obtain ⟨j, hj⟩ := List.getElem?_of_mem hq
    have hl := (List.getElem?_eq_some_iff.mp hi).1
    have h1 := h.1 i (a.length + j) p q (by rw [List.getElem?_append_left hl]; exact hi) (by rw [List.getElem?_append_right (by omega)]; rw [Nat.add_sub_cancel_left]; exact hj) e
    omega
theorem q_D_comm {A : Nat → Prop} {a b : va_W} (h : va_D A (a ++ b)) : va_D A (b ++ a) := by
  obtain ⟨h1, h2, h3⟩ := q_D_parts h
  exact h2.app h1 (fun i j p q hp hq e => h3 q (List.mem_of_getElem? hq) p (List.mem_of_getElem? hp) e.symm)
/-- w: the caller's world; wc: the callee's, out of it; behind the call the callee's is e, the caller's z -/
def q_Fr (w wc : va_W) (e z : qM → va_W) : Prop := (∀ q ∈ wc, q ∈ w) ∧ (∀ A : Nat → Prop, va_D A w → va_D A wc) ∧ ∀ A : Nat → Prop, va_D A w → ∀ τ : qM, ∀ q ∈ z τ, q ∈ e τ ∨ (q ∈ w ∧ ∀ q' ∈ wc, q'.1 ≠ q.1)
theorem q_fr0 {w : va_W} {z : qM → va_W} (hz : ∀ τ, z τ = w) : q_Fr w [] (fun _ => []) z := ⟨fun _ h => absurd h List.not_mem_nil, fun _ _ => ⟨fun i j p q h => absurd h (by simp), fun k q h => absurd h (by simp)⟩, fun _ _ τ q hq => Or.inr ⟨(hz τ) ▸ hq, fun _ h => absurd h List.not_mem_nil⟩⟩
theorem q_frI {w : va_W} {z : qM → va_W} : q_Fr w w z z := ⟨fun _ h => h, fun _ h => h, fun _ _ τ q hq => Or.inl hq⟩
theorem q_fr1 (P C S : va_W) (e : qM → va_W) : q_Fr (P ++ (C ++ S)) C e (fun τ => P ++ (e τ ++ S)) := by
  refine ⟨fun q h => List.mem_append_right _ (List.mem_append_left _ h), fun A h => (q_D_parts (q_D_parts h).2.1).1, fun A h τ q hq => ?_⟩
  obtain ⟨-, h2, h3⟩ := q_D_parts h
  obtain ⟨-, -, h4⟩ := q_D_parts h2
  rcases List.mem_append.mp hq with hq | hq
  · exact Or.inr ⟨List.mem_append_left _ hq, fun q' h' e => h3 q hq q' (List.mem_append_left _ h') e.symm⟩
  · rcases List.mem_append.mp hq with hq | hq
    · exact Or.inl hq
    · exact Or.inr ⟨List.mem_append_right _ (List.mem_append_right _ hq), fun q' h' => h4 q' h' q hq⟩
theorem q_fr2 (P C S E Z : va_W) (c e : qM → va_W) : q_Fr (P ++ (C ++ (S ++ (E ++ Z)))) (C ++ E) (fun τ => c τ ++ e τ) (fun τ => P ++ (c τ ++ (S ++ (e τ ++ Z)))) := by
  refine ⟨fun q h => ?_, fun A h => ?_, fun A h τ q hq => ?_⟩
  · rcases List.mem_append.mp h with h | h
    · exact List.mem_append_right _ (List.mem_append_left _ h)
    · exact List.mem_append_right _ (List.mem_append_right _ (List.mem_append_right _ (List.mem_append_left _ h)))
  · obtain ⟨-, h2, -⟩ := q_D_parts h
    obtain ⟨a1, a2, a3⟩ := q_D_parts h2
    obtain ⟨-, b2, -⟩ := q_D_parts a2
    exact a1.app (q_D_parts b2).1 (fun i j p q hp hq => a3 p (List.mem_of_getElem? hp) q (List.mem_append_right _ (List.mem_append_left _ (List.mem_of_getElem? hq))))
  · obtain ⟨-, h2, h3⟩ := q_D_parts h
    obtain ⟨a1, a2, a3⟩ := q_D_parts h2
    obtain ⟨b1, b2, b3⟩ := q_D_parts a2
    obtain ⟨c1, c2, c3⟩ := q_D_parts b2
    rcases List.mem_append.mp hq with hq | hq
    · refine Or.inr ⟨List.mem_append_left _ hq, fun q' h' e => ?_⟩
      rcases List.mem_append.mp h' with h' | h'
      · exact h3 q hq q' (List.mem_append_left _ h') e.symm
      · exact h3 q hq q' (List.mem_append_right _ (List.mem_append_right _ (List.mem_append_left _ h'))) e.symm
    · rcases List.mem_append.mp hq with hq | hq
      · exact Or.inl (List.mem_append_left _ hq)
      · rcases List.mem_append.mp hq with hq | hq
        · refine Or.inr ⟨List.mem_append_right _ (List.mem_append_right _ (List.mem_append_left _ hq)), fun q' h' e => ?_⟩
          rcases List.mem_append.mp h' with h' | h'
          · exact a3 q' h' q (List.mem_append_left _ hq) e
          · exact b3 q hq q' (List.mem_append_left _ h') e.symm
        · rcases List.mem_append.mp hq with hq | hq
          · exact Or.inl (List.mem_append_right _ hq)
          · refine Or.inr ⟨List.mem_append_right _ (List.mem_append_right _ (List.mem_append_right _ (List.mem_append_right _ hq))), fun q' h' e => ?_⟩
            rcases List.mem_append.mp h' with h' | h'
            · exact a3 q' h' q (List.mem_append_right _ (List.mem_append_right _ hq)) e
            · exact c3 q' h' q hq e
theorem q_frC {w a b : va_W} {c e z : qM → va_W} (h : q_Fr w (a ++ b) (fun τ => c τ ++ e τ) z) : q_Fr w (b ++ a) (fun τ => e τ ++ c τ) z :=
  ⟨fun q hq => h.1 q (List.mem_append.mpr (List.mem_append.mp hq).symm), fun A hD => q_D_comm (h.2.1 A hD), fun A hD τ q hq => by
    rcases h.2.2 A hD τ q hq with h1 | ⟨h1, h2⟩
    · exact Or.inl (List.mem_append.mpr (List.mem_append.mp h1).symm)
    · exact Or.inr ⟨h1, fun q' h' => h2 q' (List.mem_append.mpr (List.mem_append.mp h').symm)⟩⟩
/-! rows: the machine's step and the pure step at once -/
section QROWS
variable {p : Program} {l : Launch} {e : Env} {R : Room} {s : State} {m : MethodId} {args : Array Value} {below : List Frame} {meth : Method} {c : Code} {H : Heap} {locs : List Loc} {cells slots : Nat} {Q : State → Prop}
variable {cc : ByteArray} {pc : Nat} {ls : Array Slot} {rest : List Value} {D : va_G} {cl : List vw_C} {A : Nat → Prop} {a : Nat} {tys : List (ClassId × FieldType)} {H0 : Heap} {α : Type} {r0 : α}
theorem x_iadd (hx : p.tables.exec = Jvm.exec) (hb : c.code = cc) {x y : Int32} {K : Int32 → Option α} (hdg : decode cc pc = .ok (.iadd, 1)) (h : q_nm (x + y) K = some r0) (kk : ∀ z, K z = some r0 → W p l e R s m args below meth c H locs cells slots Q (F0 m (pc + 1) ls (.int z :: rest))) : W p l e R s m args below meth c H locs cells slots Q (F0 m pc ls (.int y :: .int x :: rest)) := lv_iadd hx hb hdg (kk _ h)
theorem x_isub (hx : p.tables.exec = Jvm.exec) (hb : c.code = cc) {x y : Int32} {K : Int32 → Option α} (hdg : decode cc pc = .ok (.isub, 1)) (h : q_nm (x - y) K = some r0) (kk : ∀ z, K z = some r0 → W p l e R s m args below meth c H locs cells slots Q (F0 m (pc + 1) ls (.int z :: rest))) : W p l e R s m args below meth c H locs cells slots Q (F0 m pc ls (.int y :: .int x :: rest)) := lv_isub hx hb hdg (kk _ h)
theorem x_imul (hx : p.tables.exec = Jvm.exec) (hb : c.code = cc) {x y : Int32} {K : Int32 → Option α} (hdg : decode cc pc = .ok (.imul, 1)) (h : q_nm (x * y) K = some r0) (kk : ∀ z, K z = some r0 → W p l e R s m args below meth c H locs cells slots Q (F0 m (pc + 1) ls (.int z :: rest))) : W p l e R s m args below meth c H locs cells slots Q (F0 m pc ls (.int y :: .int x :: rest)) := lv_imul hx hb hdg (kk _ h)
theorem x_iand (hx : p.tables.exec = Jvm.exec) (hb : c.code = cc) {x y : Int32} {K : Int32 → Option α} (hdg : decode cc pc = .ok (.iand, 1)) (h : q_nm (x &&& y) K = some r0) (kk : ∀ z, K z = some r0 → W p l e R s m args below meth c H locs cells slots Q (F0 m (pc + 1) ls (.int z :: rest))) : W p l e R s m args below meth c H locs cells slots Q (F0 m pc ls (.int y :: .int x :: rest)) := lv_iand hx hb hdg (kk _ h)
theorem x_ior (hx : p.tables.exec = Jvm.exec) (hb : c.code = cc) {x y : Int32} {K : Int32 → Option α} (hdg : decode cc pc = .ok (.ior, 1)) (h : q_nm (x ||| y) K = some r0) (kk : ∀ z, K z = some r0 → W p l e R s m args below meth c H locs cells slots Q (F0 m (pc + 1) ls (.int z :: rest))) : W p l e R s m args below meth c H locs cells slots Q (F0 m pc ls (.int y :: .int x :: rest)) := lv_ior hx hb hdg (kk _ h)
theorem x_ishl (hx : p.tables.exec = Jvm.exec) (hb : c.code = cc) {x y : Int32} {K : Int32 → Option α} (hdg : decode cc pc = .ok (.ishl, 1)) (h : q_nm (x <<< (y &&& 31)) K = some r0) (kk : ∀ z, K z = some r0 → W p l e R s m args below meth c H locs cells slots Q (F0 m (pc + 1) ls (.int z :: rest))) : W p l e R s m args below meth c H locs cells slots Q (F0 m pc ls (.int y :: .int x :: rest)) := lv_ishl hx hb hdg (kk _ h)
theorem x_ishr (hx : p.tables.exec = Jvm.exec) (hb : c.code = cc) {x y : Int32} {K : Int32 → Option α} (hdg : decode cc pc = .ok (.ishr, 1)) (h : q_nm (x >>> (y &&& 31)) K = some r0) (kk : ∀ z, K z = some r0 → W p l e R s m args below meth c H locs cells slots Q (F0 m (pc + 1) ls (.int z :: rest))) : W p l e R s m args below meth c H locs cells slots Q (F0 m pc ls (.int y :: .int x :: rest)) := lv_ishr hx hb hdg (kk _ h)
theorem x_iushr (hx : p.tables.exec = Jvm.exec) (hb : c.code = cc) {x y : Int32} {K : Int32 → Option α} (hdg : decode cc pc = .ok (.iushr, 1)) (h : q_nm ((x.toUInt32 >>> (y.toUInt32 &&& Int32.toUInt32 31)).toInt32) K = some r0) (kk : ∀ z, K z = some r0 → W p l e R s m args below meth c H locs cells slots Q (F0 m (pc + 1) ls (.int z :: rest))) : W p l e R s m args below meth c H locs cells slots Q (F0 m pc ls (.int y :: .int x :: rest)) := lv_iushr hx hb hdg rfl (kk _ h)
theorem x_idiv (hx : p.tables.exec = Jvm.exec) (hb : c.code = cc) {x y : Int32} {K : Int32 → Option α} (hdg : decode cc pc = .ok (.idiv, 1)) (h : q_dv y (q_nm (x / y) K) = some r0) (kk : ∀ z, K z = some r0 → W p l e R s m args below meth c H locs cells slots Q (F0 m (pc + 1) ls (.int z :: rest))) : W p l e R s m args below meth c H locs cells slots Q (F0 m pc ls (.int y :: .int x :: rest)) := lv_idiv hx hb hdg (q_dv_of h).1 (kk _ (q_dv_of h).2)
theorem x_irem (hx : p.tables.exec = Jvm.exec) (hb : c.code = cc) {x y : Int32} {K : Int32 → Option α} (hdg : decode cc pc = .ok (.irem, 1)) (h : q_dv y (q_nm (x - x / y * y) K) = some r0) (kk : ∀ z, K z = some r0 → W p l e R s m args below meth c H locs cells slots Q (F0 m (pc + 1) ls (.int z :: rest))) : W p l e R s m args below meth c H locs cells slots Q (F0 m pc ls (.int y :: .int x :: rest)) := lv_irem hx hb hdg (q_dv_of h).1 (kk _ (q_dv_of h).2)
theorem x_iinc (hx : p.tables.exec = Jvm.exec) (hb : c.code = cc) {i nL k : Nat} {n : Int} {x w : Int32} {lv : List (Nat × Value)} {K : Int32 → Option α} (hdg : decode cc pc = .ok (.iinc i n, 3)) (hl : lv_has ls nL lv) (hk : lv[k]? = some (i, .int x)) (hw : Int32.ofInt n = w) (hn : i < nL) (lv' : Int32 → List (Nat × Value)) (hl' : ∀ v, (i, Value.int v) :: lv.filter (fun q => !(q.1 == i) && !(q.1 + 1 == i && q.2.category == 2)) = lv' v) (h : q_nm (x + w) K = some r0)
    (kk : ∀ (z : Int32) (ls' : Array Slot), lv_has ls' nL (lv' z) → K z = some r0 → W p l e R s m args below meth c H locs cells slots Q (F0 m (pc + 3) ls' rest)) : W p l e R s m args below meth c H locs cells slots Q (F0 m pc ls rest) :=
  lv_iinc (v := x + w) (lv' := lv' (x + w)) hx hb hdg hl hk (by rw [hw]) hn (hl' _) (fun ls' hl' => kk _ ls' hl' h)
theorem x_iald {σ : qM} {r n q0 t0 : Nat} {cA : ClassId} {ws : va_W} {i : Int32} {K : Int32 → Option α} (hx : p.tables.exec = Jvm.exec) (hb : c.code = cc) (hK : va_K D cl tys s) (hP : va_P D cl ws H) (ht : tys[t0]? = some (cA, .int)) (h : q_rd σ r n i K = some r0) (ha : ws[q0]? = some (a, .inl (cA, n, .inl (σ r)))) (hdg : decode cc pc = .ok (.iaload, 1))
    (kk : ∀ z, K z = some r0 → W p l e R s m args below meth c H locs cells slots Q (F0 m (pc + 1) ls (.int z :: rest))) : W p l e R s m args below meth c H locs cells slots Q (F0 m pc ls (.int i :: .ref a :: rest)) :=
  va_iald hx hb hK hP q0 t0 ha ht (q_rd_of h).1 hdg (kk _ (q_rd_of h).2)
theorem x_iast (pic : qM → va_W) {σ : qM} {r n q0 t0 : Nat} {cA : ClassId} {i x : Int32} {K : qM → Option α} (hx : p.tables.exec = Jvm.exec) (hb : c.code = cc) (hK : va_K D cl tys s) (hP : va_P D cl (pic σ) H) (hD : ∀ σ, va_D A (pic σ)) (hS : va_S A H0 H locs) (ht : tys[t0]? = some (cA, .int)) (h : q_wt σ r n i x K = some r0) (ha : (pic σ)[q0]? = some (a, .inl (cA, n, .inl (σ r)))) (hs : ∀ (j : Nat) (v : Int32), (pic σ).set q0 (a, .inl (cA, n, .inl (upd (σ r) j v))) = pic (q_wr σ r j v)) (hdg : decode cc pc = .ok (.iastore, 1))
    (kk : ∀ (H1 : Heap) (locs1 : List Loc) (σ1 : qM), va_P D cl (pic σ1) H1 → va_S A H0 H1 locs1 → K σ1 = some r0 → W p l e R s m args below meth c H1 locs1 cells slots Q (F0 m (pc + 1) ls rest)) : W p l e R s m args below meth c H locs cells slots Q (F0 m pc ls (.int x :: .int i :: .ref a :: rest)) :=
  va_iast hx hb hK hP (hD σ) hS q0 t0 ha ht (q_wt_of h).1 hdg (fun H1 locs1 hP1 _ hS1 => kk H1 locs1 _ (by rw [hs] at hP1; exact hP1) hS1 (q_wt_of h).2)
theorem x_alen {q0 t0 : Nat} {cA : ClassId} {ws : va_W} {x : vp_A} {K : Int32 → Option α} (hx : p.tables.exec = Jvm.exec) (hb : c.code = cc) (hK : va_K D cl tys s) (hP : va_P D cl ws H) (ht : tys[t0]? = some (cA, .int)) (ha : ws[q0]? = some (a, .inl (cA, x))) (hdg : decode cc pc = .ok (.arraylength, 1)) (h : q_nm (Int32.ofNat x.1) K = some r0)
    (kk : ∀ z, K z = some r0 → W p l e R s m args below meth c H locs cells slots Q (F0 m (pc + 1) ls (.int z :: rest))) : W p l e R s m args below meth c H locs cells slots Q (F0 m pc ls (.ref a :: rest)) :=
  va_alen hx hb hK hP q0 t0 ha ht rfl hdg (kk _ h)
theorem x_geti {own C : String} {T : u_T} {N ci index q0 k : Nat} {Ts : List Cond} {fs : List Value} {v : Int32} {nm ds : String} {ws : va_W} {K : Int32 → Option α} (hx : p.tables.exec = Jvm.exec) (hb : c.code = cc) (hts : ∀ w ∈ Ts, w.before args s = true) (hin : ∀ w ∈ u_ws C T N, w ∈ Ts) (hown : s.vm.findClass own = some m.cls) (hK : va_K D cl tys s) (hP : va_P D cl ws H) (he : ws[q0]? = some (a, .inr (ci, fs))) (hc : cl[ci]? = some (C, T, N)) (hk : k < N) (hT : (T k).1 = C ∧ (T k).2.1 = nm ∧ (T k).2.2.1 = ds) (hlink : Cond.fieldLink own index C nm ds ∈ Ts) (hv : fs[k]? = some (.int v)) (hdg : decode cc pc = .ok (.getfield index, 3)) (h : q_nm v K = some r0)
    (kk : ∀ z, K z = some r0 → W p l e R s m args below meth c H locs cells slots Q (F0 m (pc + 3) ls (.int z :: rest))) : W p l e R s m args below meth c H locs cells slots Q (F0 m pc ls (.ref a :: rest)) := by
  obtain ⟨h1, h2, h3⟩ := hT
  exact va_get hx hb hts hin hown hK hP q0 he hc k hk (ref := C) (by rw [h2, h3]; exact hts _ hlink) (fun x9 h9 => by rw [h1] at h9; exact h9) hv hdg (kk _ h)
theorem x_getr {own C : String} {T : u_T} {N ci index q0 k b : Nat} {Ts : List Cond} {fs : List Value} {nm ds : String} {ws : va_W} (hx : p.tables.exec = Jvm.exec) (hb : c.code = cc) (hts : ∀ w ∈ Ts, w.before args s = true) (hin : ∀ w ∈ u_ws C T N, w ∈ Ts) (hown : s.vm.findClass own = some m.cls) (hK : va_K D cl tys s) (hP : va_P D cl ws H) (he : ws[q0]? = some (a, .inr (ci, fs))) (hc : cl[ci]? = some (C, T, N)) (hk : k < N) (hT : (T k).1 = C ∧ (T k).2.1 = nm ∧ (T k).2.2.1 = ds) (hlink : Cond.fieldLink own index C nm ds ∈ Ts) (hv : fs[k]? = some (.ref b)) (hdg : decode cc pc = .ok (.getfield index, 3))
    (kk : W p l e R s m args below meth c H locs cells slots Q (F0 m (pc + 3) ls (.ref b :: rest))) : W p l e R s m args below meth c H locs cells slots Q (F0 m pc ls (.ref a :: rest)) := by
  obtain ⟨h1, h2, h3⟩ := hT
  exact va_get hx hb hts hin hown hK hP q0 he hc k hk (ref := C) (by rw [h2, h3]; exact hts _ hlink) (fun x9 h9 => by rw [h1] at h9; exact h9) hv hdg kk
theorem x_puti (pic : qM → va_W) {σ : qM} {own C : String} {T : u_T} {N ci index q0 k r : Nat} {Ts : List Cond} {fs : List Value} {v : Int32} {nm ds : String} {ty : FieldType} {K : qM → Option α} (hx : p.tables.exec = Jvm.exec) (hb : c.code = cc) (hts : ∀ w ∈ Ts, w.before args s = true) (hin : ∀ w ∈ u_ws C T N, w ∈ Ts) (ty0 : Nat → FieldType) (hty : ∀ k, k < N → parseFieldDescriptor (T k).2.2.1 = some (ty0 k)) (hnm : ∀ a, a < N → ∀ b, b < N → a ≠ b → (T a).2.1 ≠ (T b).2.1) (hown : s.vm.findClass own = some m.cls) (hK : va_K D cl tys s) (hP : va_P D cl (pic σ) H) (hD : ∀ σ, va_D A (pic σ)) (hS : va_S A H0 H locs) (h : q_nm (q_wr σ r k v) K = some r0) (he : (pic σ)[q0]? = some (a, .inr (ci, fs))) (hc : cl[ci]? = some (C, T, N)) (hk : k < N) (hT : (T k).1 = C ∧ (T k).2.1 = nm ∧ (T k).2.2.1 = ds) (hlink : Cond.fieldLink own index C nm ds ∈ Ts) (hfin : (T k).2.2.2 = false) (hy : ty0 k = ty) (hn : narrow ty (.int v) = .int v) (hf : fits ty (.int v) = true) (hl : k < fs.length) (hs : (pic σ).set q0 (a, .inr (ci, fs.set k (.int v))) = pic (q_wr σ r k v)) (hdg : decode cc pc = .ok (.putfield index, 3))
    (kk : ∀ (H1 : Heap) (locs1 : List Loc) (σ1 : qM), va_P D cl (pic σ1) H1 → va_S A H0 H1 locs1 → K σ1 = some r0 → W p l e R s m args below meth c H1 locs1 cells slots Q (F0 m (pc + 3) ls rest)) : W p l e R s m args below meth c H locs cells slots Q (F0 m pc ls (.int v :: .ref a :: rest)) := by
  obtain ⟨h1, h2, h3⟩ := hT
  exact va_put hx hb hts hin ty0 hty hnm hown hK hP (hD σ) hS q0 he hc k hk (ref := C) (by rw [h2, h3]; exact hts _ hlink) (fun x9 h9 => by rw [h1] at h9; exact h9) hfin (ty := ty) (by rw [hty k hk, hy]) hn hf hl hdg (fun H1 locs1 hP1 _ hS1 => kk H1 locs1 _ (by rw [hs] at hP1; exact hP1) hS1 h)
theorem q_nb {v : Int32} (h : v = 0 ∨ v = 1) : narrow .boolean (.int v) = .int v ∧ fits .boolean (.int v) = true := by
  rcases h with rfl | rfl <;> decide +kernel
theorem x_mmin {own : String} {index : Nat} {Ts : List Cond} {x y : Int32} {K : Int32 → Option α} (hx : p.tables.exec = Jvm.exec) (hb : c.code = cc) (hml : c.maxLocals = ls.size) (hown : s.vm.findClass own = some m.cls) (hts : ∀ w ∈ Ts, w.before args s = true) (h4 : Cond.methodLink own index Lib.Math.min.name ∈ Ts ∧ Cond.static Lib.Math.min.name ∈ Ts ∧ Cond.initialized "java/lang/Math" ∈ Ts ∧ Cond.code Lib.Math.min.name Lib.Math.min.code 2 (some .int) ∈ Ts) (hr : 1 ≤ R.frames ∧ (rest.map fun v => v.category).sum + 13 ≤ R.locals ∧ cells ≤ R.cells ∧ slots ≤ R.slots) (hdg : decode cc pc = .ok (.invokestatic index, 3)) (h : q_nm (if y < x then y else x) K = some r0)
    (kk : ∀ z, K z = some r0 → W p l e R s m args below meth c H locs cells slots Q (F0 m (pc + 3) ls (.int z :: rest))) : W p l e R s m args below meth c H locs cells slots Q (F0 m pc ls (.int y :: .int x :: rest)) :=
  va_mmin hx hb hml hown (hts _ h4.1) (hts _ h4.2.1) (hts _ h4.2.2.1) (hts _ h4.2.2.2) hr.1 hr.2.1 hr.2.2.1 hr.2.2.2 hdg (kk _ h)
end QROWS
/-! contracts: the method's end is the pure method's answer, where that isn't stuck -/
def q_Pre (D : va_G) (tys : List (ClassId × FieldType)) (w : va_W) (sz : Nat) : State → Prop := fun U => U.heap.size = sz ∧ va_P D vwCl w U.heap ∧ va_K D vwCl tys U ∧ va_D (fun _ => True) w
def q_Met (l : Launch) (y : MethodName) (ws : List Cond) (rm : Room) (av : List Value) (D : va_G) (tys : List (ClassId × FieldType)) (pic : qM → va_W) (σ : qM) (o : qR) : Prop := ∀ (sz : Nat) (q : Int32 × qM), o = some q → Met l y ws rm (va_Pc av (q_Pre D tys (pic σ) sz)) (va_Qi (fun r τ => (r, τ) = q) (fun τ t => va_P D vwCl (pic τ) t.heap) (va_A (pic σ) sz)) 0 0 (va_A (pic σ) sz)
def q_Mev (l : Launch) (y : MethodName) (ws : List Cond) (rm : Room) (av : List Value) (D : va_G) (tys : List (ClassId × FieldType)) (pic : qM → va_W) (σ : qM) (o : qR) : Prop := ∀ (sz : Nat) (q : Int32 × qM), o = some q → Met l y ws rm (va_Pc av (q_Pre D tys (pic σ) sz)) (va_Qv (fun τ => ((0 : Int32), τ) = q) (fun τ t => va_P D vwCl (pic τ) t.heap) (va_A (pic σ) sz)) 0 0 (va_A (pic σ) sz)
theorem q_blind {av : List Value} {D : va_G} {tys : List (ClassId × FieldType)} {w : va_W} {sz : Nat} : FrameBlind (va_Pc av (q_Pre D tys w sz)) := fun a U g mk q => by
  obtain ⟨q0, q1, qP, qK, qD⟩ := q
  exact ⟨q0, q1, qP, va_K.moved (u := U) (U := U.calling g mk a) (Vm.Alike.refl U.vm) qK, qD⟩
theorem q_preU {s : State} {H : Heap} {av : List Value} {D : va_G} {tys : List (ClassId × FieldType)} {w : va_W} {A : Nat → Prop} (hK : va_K D vwCl tys s) (hP : va_P D vwCl w H) (hD : va_D A w) : ∀ U : State, U.heap = H → s.WarmedH U.vm → va_Pc av (q_Pre D tys w H.size) av.toArray U := fun U hU hW => ⟨rfl, by rw [hU], by rw [hU]; exact hP, va_K.moved hW.alike hK, hD.weaken (fun _ _ _ _ => trivial)⟩
theorem q_free {w wc : va_W} {A : Nat → Prop} {H0 H : Heap} {locs : List Loc} (hw : ∀ q ∈ wc, q ∈ w) (hD : va_D A w) (hS : va_S A H0 H locs) (hA : ∀ q, H0.size ≤ q → A q) : ∀ q, va_A wc H.size q → A q := by
  intro q h
  rcases h with ⟨k, e, h⟩ | h
  · exact q_D_in hD (hw _ (List.mem_of_getElem? h))
  · exact hA q (Nat.le_trans hS.1 h)
theorem q_join {D : va_G} {w wc : va_W} {A : Nat → Prop} {H H1 : Heap} {e z : qM → va_W} {τ : qM} (hF : q_Fr w wc e z) (hD : va_D A w) (hP : va_P D vwCl w H) (hk : ∀ q : Nat, q < H.size → ¬ va_A wc H.size q → H1[q]? = H[q]?) (hP1 : va_P D vwCl (e τ) H1) : va_P D vwCl (z τ) H1 := by
  intro k q hq
  rcases hF.2.2 A hD τ q (List.mem_of_getElem? hq) with h | ⟨h1, h2⟩
  · exact q_P_at hP1 h
  · have h3 := q_P_at hP h1
    refine h3.kept (hk q.1 h3.lt (fun h => ?_))
    rcases h with ⟨j, ee, h⟩ | h
    · exact h2 _ (List.mem_of_getElem? h) rfl
    · have := h3.lt
      omega
section QCALLS
variable {p : Program} {l : Launch} {e : Env} {R : Room} {s : State} {m : MethodId} {args : Array Value} {below : List Frame} {meth : Method} {c : Code} {H : Heap} {locs : List Loc} {cells slots : Nat} {Q : State → Prop}
variable {cc : ByteArray} {pc : Nat} {ls : Array Slot} {st0 rest As : List Value} {D : va_G} {A : Nat → Prop} {tys : List (ClassId × FieldType)} {H0 : Heap} {α : Type} {r0 : α}
variable {own C : String} {index maxL nL n : Nat} {y : MethodName} {bytes : ByteArray} {ret : Option FieldType} {ws ws' Ts : List Cond} {rm : Room} {pic picC : qM → va_W} {σ σC : qM} {b q0 ci : Nat} {fs : List Value} {T : u_T} {N : Nat} {o : qR} {put : qM → qM} {K : Int32 → qM → Option α}
theorem x_cVi (pic picC : qM → va_W) (put : qM → qM) (rest As : List Value) (hx : p.tables.exec = Jvm.exec) (hb : c.code = cc) (hml : c.maxLocals = nL) (hls : ls.size = nL) (hown : s.vm.findClass own = some m.cls) (hts : ∀ w ∈ Ts, w.before args s = true) (hK : va_K D vwCl tys s) (hP : va_P D vwCl (pic σ) H) (hD : ∀ σ, va_D A (pic σ)) (hS : va_S A H0 H locs) (hA : ∀ q, H0.size ≤ q → A q)
    (hst : st0 = As.reverse ++ .ref b :: rest) (hM : q_Met l y ws rm (.ref b :: As) D tys picC σC o) (hG : GoodIn Ts (wsV own index C y ws)) (hw : ws = Cond.code y bytes maxL ret :: ws') (hrm : rm.cells = 0 ∧ rm.slots = 0) (hd : y.cls = C ∧ y.cls ≠ "java/lang/invoke/MethodHandle" ∧ y.cls ≠ "java/lang/invoke/VarHandle" ∧ (parseMethodDescriptor y.desc).map (fun d => d.parameters.length) = some n) (hR : rm.frames + 1 ≤ R.frames ∧ 8 + (maxL + 11) + rm.locals ≤ R.locals)
    (hF : q_Fr (pic σ) (picC σC) picC (fun τ => pic (put τ))) (he : (picC σC)[q0]? = some (b, .inr (ci, fs))) (hc : vwCl[ci]? = some (C, T, N)) (hn : As.length = n) (hcat : (rest.map fun v => v.category).sum ≤ 8) (hf : cells ≤ R.cells ∧ slots ≤ R.slots) (hdg : decode cc pc = .ok (.invokevirtual index, 3)) (h : q_cl o put K = some r0)
    (kk : ∀ (z : Int32) (H1 : Heap) (locs1 : List Loc) (σ1 : qM), va_P D vwCl (pic σ1) H1 → va_S A H0 H1 locs1 → K z σ1 = some r0 → W p l e R s m args below meth c H1 locs1 cells slots Q (F0 m (pc + 3) ls (.int z :: rest))) : W p l e R s m args below meth c H locs cells slots Q (F0 m pc ls st0) := by
  obtain ⟨qq, ho, hk0⟩ := q_cl_of h
  have hPc := q_P_mem hP hF.1
  have hDc := hF.2.1 A (hD σ)
  have hFc := q_free hF.1 (hD σ) hS hA
  have hKm : ∀ U : State, U.heap = H → s.WarmedH U.vm → va_Pc (.ref b :: As) (q_Pre D tys (picC σC) H.size) (Value.ref b :: As).toArray U := q_preU hK hPc hDc
  refine va_calli (va_runV (As := As) (rest := rest) ⟨hx, hb, hml, hown, hts⟩ (hM H.size qq ho) (cwV n hts hG hw hrm.1 hrm.2 hd hR) ⟨q_blind, va_recv hK hPc hc he, hKm⟩ rfl hn hls hst (lv_room hcat) hdg hf) hS (fun q _ h => hFc q h) hFc (fun r u t H1 locs1 ht hvm hw1 hB hz1 hk1 hS1 => ?_)
  rw [ht] at hB
  refine kk r H1 locs1 (put u) (q_join (z := fun τ => pic (put τ)) hF (hD σ) hP hk1 hB) hS1 ?_
  rw [← hw1] at hk0
  exact hk0
theorem x_cVv (pic picC : qM → va_W) (put : qM → qM) (rest As : List Value) (hx : p.tables.exec = Jvm.exec) (hb : c.code = cc) (hml : c.maxLocals = nL) (hls : ls.size = nL) (hown : s.vm.findClass own = some m.cls) (hts : ∀ w ∈ Ts, w.before args s = true) (hK : va_K D vwCl tys s) (hP : va_P D vwCl (pic σ) H) (hD : ∀ σ, va_D A (pic σ)) (hS : va_S A H0 H locs) (hA : ∀ q, H0.size ≤ q → A q)
    (hst : st0 = As.reverse ++ .ref b :: rest) (hM : q_Mev l y ws rm (.ref b :: As) D tys picC σC o) (hG : GoodIn Ts (wsV own index C y ws)) (hw : ws = Cond.code y bytes maxL ret :: ws') (hrm : rm.cells = 0 ∧ rm.slots = 0) (hd : y.cls = C ∧ y.cls ≠ "java/lang/invoke/MethodHandle" ∧ y.cls ≠ "java/lang/invoke/VarHandle" ∧ (parseMethodDescriptor y.desc).map (fun d => d.parameters.length) = some n) (hR : rm.frames + 1 ≤ R.frames ∧ 8 + (maxL + 11) + rm.locals ≤ R.locals)
    (hF : q_Fr (pic σ) (picC σC) picC (fun τ => pic (put τ))) (he : (picC σC)[q0]? = some (b, .inr (ci, fs))) (hc : vwCl[ci]? = some (C, T, N)) (hn : As.length = n) (hcat : (rest.map fun v => v.category).sum ≤ 8) (hf : cells ≤ R.cells ∧ slots ≤ R.slots) (hdg : decode cc pc = .ok (.invokevirtual index, 3)) (h : q_cl o put K = some r0)
    (kk : ∀ (H1 : Heap) (locs1 : List Loc) (σ1 : qM), va_P D vwCl (pic σ1) H1 → va_S A H0 H1 locs1 → K 0 σ1 = some r0 → W p l e R s m args below meth c H1 locs1 cells slots Q (F0 m (pc + 3) ls rest)) : W p l e R s m args below meth c H locs cells slots Q (F0 m pc ls st0) := by
  obtain ⟨qq, ho, hk0⟩ := q_cl_of h
  have hPc := q_P_mem hP hF.1
  have hDc := hF.2.1 A (hD σ)
  have hFc := q_free hF.1 (hD σ) hS hA
  have hKm : ∀ U : State, U.heap = H → s.WarmedH U.vm → va_Pc (.ref b :: As) (q_Pre D tys (picC σC) H.size) (Value.ref b :: As).toArray U := q_preU hK hPc hDc
  refine va_callv (va_runV (As := As) (rest := rest) ⟨hx, hb, hml, hown, hts⟩ (hM H.size qq ho) (cwV n hts hG hw hrm.1 hrm.2 hd hR) ⟨q_blind, va_recv hK hPc hc he, hKm⟩ rfl hn hls hst (lv_room hcat) hdg hf) hS (fun q _ h => hFc q h) hFc (fun u t H1 locs1 ht hvm hw1 hB hz1 hk1 hS1 => ?_)
  rw [ht] at hB
  refine kk H1 locs1 (put u) (q_join (z := fun τ => pic (put τ)) hF (hD σ) hP hk1 hB) hS1 ?_
  rw [← hw1] at hk0
  exact hk0
theorem x_cSi (pic picC : qM → va_W) (put : qM → qM) (rest As : List Value) (hx : p.tables.exec = Jvm.exec) (hb : c.code = cc) (hml : c.maxLocals = nL) (hls : ls.size = nL) (hown : s.vm.findClass own = some m.cls) (hts : ∀ w ∈ Ts, w.before args s = true) (hK : va_K D vwCl tys s) (hP : va_P D vwCl (pic σ) H) (hD : ∀ σ, va_D A (pic σ)) (hS : va_S A H0 H locs) (hA : ∀ q, H0.size ≤ q → A q)
    (hst : st0 = As.reverse ++ rest) (hM : q_Met l y ws rm As D tys picC σC o) (hG : GoodIn Ts (va_wsS own index y ws)) (hw : ws = Cond.code y bytes maxL ret :: ws') (hrm : rm.cells = 0 ∧ rm.slots = 0) (hd : y.cls ≠ "java/lang/invoke/MethodHandle" ∧ y.cls ≠ "java/lang/invoke/VarHandle" ∧ (parseMethodDescriptor y.desc).map (fun d => d.parameters.length) = some n) (hR : rm.frames + 1 ≤ R.frames ∧ 8 + (maxL + 11) + rm.locals ≤ R.locals)
    (hF : q_Fr (pic σ) (picC σC) picC (fun τ => pic (put τ))) (hn : As.length = n) (hcat : (rest.map fun v => v.category).sum ≤ 8) (hf : cells ≤ R.cells ∧ slots ≤ R.slots) (hdg : decode cc pc = .ok (.invokestatic index, 3)) (h : q_cl o put K = some r0)
    (kk : ∀ (z : Int32) (H1 : Heap) (locs1 : List Loc) (σ1 : qM), va_P D vwCl (pic σ1) H1 → va_S A H0 H1 locs1 → K z σ1 = some r0 → W p l e R s m args below meth c H1 locs1 cells slots Q (F0 m (pc + 3) ls (.int z :: rest))) : W p l e R s m args below meth c H locs cells slots Q (F0 m pc ls st0) := by
  obtain ⟨qq, ho, hk0⟩ := q_cl_of h
  have hPc := q_P_mem hP hF.1
  have hDc := hF.2.1 A (hD σ)
  have hFc := q_free hF.1 (hD σ) hS hA
  have hKm : ∀ U : State, U.heap = H → s.WarmedH U.vm → va_Pc As (q_Pre D tys (picC σC) H.size) As.toArray U := q_preU hK hPc hDc
  refine va_calli (va_runS (As := As) (rest := rest) ⟨hx, hb, hml, hown, hts⟩ (hM H.size qq ho) (va_cwS n hts hG hw hrm.1 hrm.2 hd hR) ⟨q_blind, hKm⟩ rfl hn hls hst (lv_room hcat) hdg hf) hS (fun q _ h => hFc q h) hFc (fun r u t H1 locs1 ht hvm hw1 hB hz1 hk1 hS1 => ?_)
  rw [ht] at hB
  refine kk r H1 locs1 (put u) (q_join (z := fun τ => pic (put τ)) hF (hD σ) hP hk1 hB) hS1 ?_
  rw [← hw1] at hk0
  exact hk0
theorem x_cSv (pic picC : qM → va_W) (put : qM → qM) (rest As : List Value) (hx : p.tables.exec = Jvm.exec) (hb : c.code = cc) (hml : c.maxLocals = nL) (hls : ls.size = nL) (hown : s.vm.findClass own = some m.cls) (hts : ∀ w ∈ Ts, w.before args s = true) (hK : va_K D vwCl tys s) (hP : va_P D vwCl (pic σ) H) (hD : ∀ σ, va_D A (pic σ)) (hS : va_S A H0 H locs) (hA : ∀ q, H0.size ≤ q → A q)
    (hst : st0 = As.reverse ++ rest) (hM : q_Mev l y ws rm As D tys picC σC o) (hG : GoodIn Ts (va_wsS own index y ws)) (hw : ws = Cond.code y bytes maxL ret :: ws') (hrm : rm.cells = 0 ∧ rm.slots = 0) (hd : y.cls ≠ "java/lang/invoke/MethodHandle" ∧ y.cls ≠ "java/lang/invoke/VarHandle" ∧ (parseMethodDescriptor y.desc).map (fun d => d.parameters.length) = some n) (hR : rm.frames + 1 ≤ R.frames ∧ 8 + (maxL + 11) + rm.locals ≤ R.locals)
    (hF : q_Fr (pic σ) (picC σC) picC (fun τ => pic (put τ))) (hn : As.length = n) (hcat : (rest.map fun v => v.category).sum ≤ 8) (hf : cells ≤ R.cells ∧ slots ≤ R.slots) (hdg : decode cc pc = .ok (.invokestatic index, 3)) (h : q_cl o put K = some r0)
    (kk : ∀ (H1 : Heap) (locs1 : List Loc) (σ1 : qM), va_P D vwCl (pic σ1) H1 → va_S A H0 H1 locs1 → K 0 σ1 = some r0 → W p l e R s m args below meth c H1 locs1 cells slots Q (F0 m (pc + 3) ls rest)) : W p l e R s m args below meth c H locs cells slots Q (F0 m pc ls st0) := by
  obtain ⟨qq, ho, hk0⟩ := q_cl_of h
  have hPc := q_P_mem hP hF.1
  have hDc := hF.2.1 A (hD σ)
  have hFc := q_free hF.1 (hD σ) hS hA
  have hKm : ∀ U : State, U.heap = H → s.WarmedH U.vm → va_Pc As (q_Pre D tys (picC σC) H.size) As.toArray U := q_preU hK hPc hDc
  refine va_callv (va_runS (As := As) (rest := rest) ⟨hx, hb, hml, hown, hts⟩ (hM H.size qq ho) (va_cwS n hts hG hw hrm.1 hrm.2 hd hR) ⟨q_blind, hKm⟩ rfl hn hls hst (lv_room hcat) hdg hf) hS (fun q _ h => hFc q h) hFc (fun u t H1 locs1 ht hvm hw1 hB hz1 hk1 hS1 => ?_)
  rw [ht] at hB
  refine kk H1 locs1 (put u) (q_join (z := fun τ => pic (put τ)) hF (hD σ) hP hk1 hB) hS1 ?_
  rw [← hw1] at hk0
  exact hk0
/-- ends -/
theorem x_iret (pic : qM → va_W) {x : Int32} {qq : Int32 × qM} (hx : p.tables.exec = Jvm.exec) (hb : c.code = cc) (hr : meth.sig.returnType = some .int) (hlocks : meth.locks = false) (hP : va_P D vwCl (pic σ) H) (hS : va_S A s.heap H locs) (hdg : decode cc pc = .ok (.ireturn, 1)) (h : (some (x, σ) : qR) = some qq) : W p l e R s m args below meth c H locs 0 0 (MQ below (va_Qi (fun r τ => (r, τ) = qq) (fun τ t => va_P D vwCl (pic τ) t.heap) (A)) args s 0 0 (A)) (F0 m pc ls [.int x]) :=
  W.iret hx hb hr (fun t ht hW => ⟨⟨x, σ, rfl, Option.some.inj h, by dsimp only; rw [ht]; exact hP⟩, hS.F ht⟩) hS.2.2 hdg hlocks
theorem x_zret (pic : qM → va_W) {x : Int32} {qq : Int32 × qM} (hx : p.tables.exec = Jvm.exec) (hb : c.code = cc) (hr : meth.sig.returnType = some .boolean) (hlocks : meth.locks = false) (hP : va_P D vwCl (pic σ) H) (hS : va_S A s.heap H locs) (hdg : decode cc pc = .ok (.ireturn, 1)) (h : q_bo x (some (x, σ) : qR) = some qq) : W p l e R s m args below meth c H locs 0 0 (MQ below (va_Qi (fun r τ => (r, τ) = qq) (fun τ t => va_P D vwCl (pic τ) t.heap) (A)) args s 0 0 (A)) (F0 m pc ls [.int x]) :=
  W.zret hx hb hr (q_nb (q_bo_of h).1).1 (fun t ht hW => ⟨⟨x, σ, rfl, Option.some.inj (q_bo_of h).2, by dsimp only; rw [ht]; exact hP⟩, hS.F ht⟩) hS.2.2 hdg hlocks
theorem x_vret (pic : qM → va_W) {qq : Int32 × qM} (hx : p.tables.exec = Jvm.exec) (hb : c.code = cc) (hr : meth.sig.returnType = none) (hlocks : meth.locks = false) (hP : va_P D vwCl (pic σ) H) (hS : va_S A s.heap H locs) (hdg : decode cc pc = .ok (.return_, 1)) (h : (some (0, σ) : qR) = some qq) : W p l e R s m args below meth c H locs 0 0 (MQ below (va_Qv (fun τ => ((0 : Int32), τ) = qq) (fun τ t => va_P D vwCl (pic τ) t.heap) (A)) args s 0 0 (A)) (F0 m pc ls []) :=
  W.vret hx hb hr (fun t ht hW => ⟨⟨σ, rfl, Option.some.inj h, by dsimp only; rw [ht]; exact hP⟩, hS.F ht⟩) hS.2.2 hdg hlocks
end QCALLS

theorem x_ofWi {l : Launch} {y : MethodName} {ws ws' : List Cond} {rm : Room} {av : List Value} {D : va_G} {tys : List (ClassId × FieldType)} {pic : qM → va_W} {σ : qM} {o : qR} {cc : ByteArray} {maxL : Nat} {ret : Option FieldType} (hy : plainName y.cls = true) (hw : ws = Cond.code y cc maxL ret :: ws') (hfst : ∀ σ1 σ2 : qM, (pic σ1).map (fun q => q.1) = (pic σ2).map (fun q => q.1)) (hlen : (lg_sl av).length ≤ maxL)
    (body : ∀ (p : Program) (e : Env) (s : State) (m : MethodId) (below : List Frame) (meth : Method) (c : Code) (A : Nat → Prop) (ls : Array Slot) (qq : Int32 × qM), o = some qq → p.tables.exec = Jvm.exec → c.code = cc → c.maxLocals = maxL → meth.sig.returnType = ret → meth.locks = false → s.vm.findClass y.cls = some m.cls → (∀ w ∈ ws, w.before av.toArray s = true) → va_K D vwCl tys s → va_P D vwCl (pic σ) s.heap → (∀ σ1, va_D A (pic σ1)) → (∀ q : Nat, s.heap.size ≤ q → A q) → va_S A s.heap s.heap [] → lv_has ls maxL (lv_args 0 av) →
      W p l e rm s m av.toArray below meth c s.heap [] 0 0 (MQ below (va_Qi (fun r τ => (r, τ) = qq) (fun τ t => va_P D vwCl (pic τ) t.heap) A) av.toArray s 0 0 A) (F0 m 0 ls [])) : q_Met l y ws rm av D tys pic σ o := by
  intro sz qq ho
  refine Met.ofW (cc := cc) (maxL := maxL) (ret := ret) hy hw ?_
  intro p e s m args below meth c s₁ B hml hv
  obtain ⟨rfl, hsz, hP, hK, hD0⟩ := hv
  have hts := atoms_spec (ws := ws) B.pre
  have hown : s.vm.findClass y.cls = some m.cls := findClass_of_methodNamed B.named
  subst hsz
  have hD := hD0.self (sz := s.heap.size)
  have hl := lv_entry av (n := maxL) hlen
  rw [lg_entry_eq]
  exact body p e s m below meth c (va_A (pic σ) s.heap.size) _ qq ho B.exec B.bytes hml B.returns B.notSynchronized hown hts hK hP (fun σ1 => q_D_fst (hfst σ σ1) hD) (fun q h => Or.inr h) va_S.rf hl
theorem x_ofWv {l : Launch} {y : MethodName} {ws ws' : List Cond} {rm : Room} {av : List Value} {D : va_G} {tys : List (ClassId × FieldType)} {pic : qM → va_W} {σ : qM} {o : qR} {cc : ByteArray} {maxL : Nat} {ret : Option FieldType} (hy : plainName y.cls = true) (hw : ws = Cond.code y cc maxL ret :: ws') (hfst : ∀ σ1 σ2 : qM, (pic σ1).map (fun q => q.1) = (pic σ2).map (fun q => q.1)) (hlen : (lg_sl av).length ≤ maxL)
    (body : ∀ (p : Program) (e : Env) (s : State) (m : MethodId) (below : List Frame) (meth : Method) (c : Code) (A : Nat → Prop) (ls : Array Slot) (qq : Int32 × qM), o = some qq → p.tables.exec = Jvm.exec → c.code = cc → c.maxLocals = maxL → meth.sig.returnType = ret → meth.locks = false → s.vm.findClass y.cls = some m.cls → (∀ w ∈ ws, w.before av.toArray s = true) → va_K D vwCl tys s → va_P D vwCl (pic σ) s.heap → (∀ σ1, va_D A (pic σ1)) → (∀ q : Nat, s.heap.size ≤ q → A q) → va_S A s.heap s.heap [] → lv_has ls maxL (lv_args 0 av) →
      W p l e rm s m av.toArray below meth c s.heap [] 0 0 (MQ below (va_Qv (fun τ => ((0 : Int32), τ) = qq) (fun τ t => va_P D vwCl (pic τ) t.heap) A) av.toArray s 0 0 A) (F0 m 0 ls [])) : q_Mev l y ws rm av D tys pic σ o := by
  intro sz qq ho
  refine Met.ofW (cc := cc) (maxL := maxL) (ret := ret) hy hw ?_
  intro p e s m args below meth c s₁ B hml hv
  obtain ⟨rfl, hsz, hP, hK, hD0⟩ := hv
  have hts := atoms_spec (ws := ws) B.pre
  have hown : s.vm.findClass y.cls = some m.cls := findClass_of_methodNamed B.named
  subst hsz
  have hD := hD0.self (sz := s.heap.size)
  have hl := lv_entry av (n := maxL) hlen
  rw [lg_entry_eq]
  exact body p e s m below meth c (va_A (pic σ) s.heap.size) _ qq ho B.exec B.bytes hml B.returns B.notSynchronized hown hts hK hP (fun σ1 => q_D_fst (hfst σ σ1) hD) (fun q h => Or.inr h) va_S.rf hl
def q_wa (σ : qM) (r : Nat) (g : Nat → Int32) : qM := fun k => cond (Nat.beq k r) g (σ k)
section QROWS2
variable {p : Program} {l : Launch} {e : Env} {R : Room} {s : State} {m : MethodId} {args : Array Value} {below : List Frame} {meth : Method} {c : Code} {H : Heap} {locs : List Loc} {cells slots : Nat} {Q : State → Prop}
variable {cc : ByteArray} {pc : Nat} {ls : Array Slot} {rest : List Value} {D : va_G} {cl : List vw_C} {A : Nat → Prop} {a : Nat} {tys : List (ClassId × FieldType)} {H0 : Heap} {α : Type} {r0 : α}
theorem x_mmax {own : String} {index : Nat} {Ts : List Cond} {x y : Int32} {K : Int32 → Option α} (hx : p.tables.exec = Jvm.exec) (hb : c.code = cc) (hml : c.maxLocals = ls.size) (hown : s.vm.findClass own = some m.cls) (hts : ∀ w ∈ Ts, w.before args s = true) (h4 : Cond.methodLink own index Lib.Math.max.name ∈ Ts ∧ Cond.static Lib.Math.max.name ∈ Ts ∧ Cond.initialized "java/lang/Math" ∈ Ts ∧ Cond.code Lib.Math.max.name Lib.Math.max.code 2 (some .int) ∈ Ts) (hr : 1 ≤ R.frames ∧ (rest.map fun v => v.category).sum + 13 ≤ R.locals ∧ cells ≤ R.cells ∧ slots ≤ R.slots) (hdg : decode cc pc = .ok (.invokestatic index, 3)) (h : q_nm (if x < y then y else x) K = some r0)
    (kk : ∀ z, K z = some r0 → W p l e R s m args below meth c H locs cells slots Q (F0 m (pc + 3) ls (.int z :: rest))) : W p l e R s m args below meth c H locs cells slots Q (F0 m pc ls (.int y :: .int x :: rest)) :=
  va_mmax hx hb hml hown (hts _ h4.1) (hts _ h4.2.1) (hts _ h4.2.2.1) (hts _ h4.2.2.2) hr.1 hr.2.1 hr.2.2.1 hr.2.2.2 hdg (kk _ h)
theorem x_copy (pic : qM → va_W) {own : String} {index q0 q1 t0 ra rb n0 n1 a0 : Nat} {cA : ClassId} {Ts : List Cond} {σ : qM} {v : Int32} (k : Nat) {K : qM → Option α} (hx : p.tables.exec = Jvm.exec) (hb : c.code = cc) (hml : c.maxLocals = ls.size) (hown : s.vm.findClass own = some m.cls) (hts : ∀ w ∈ Ts, w.before args s = true) (hK : va_K D cl tys s) (hP : va_P D cl (pic σ) H) (hD : ∀ σ, va_D A (pic σ)) (hS : va_S A H0 H locs) (h4 : Cond.methodLink own index arraycopyName ∈ Ts ∧ Cond.native arraycopyName ∈ Ts ∧ Cond.static arraycopyName ∈ Ts ∧ Cond.initialized "java/lang/System" ∈ Ts) (ht : tys[t0]? = some (cA, .int)) (h : q_nm (q_wa σ rb (va_cpy (σ ra) (σ rb) 0 0 k)) K = some r0) (ha0 : (pic σ)[q0]? = some (a0, .inl (cA, n0, .inl (σ ra)))) (ha1 : (pic σ)[q1]? = some (a, .inl (cA, n1, .inl (σ rb)))) (hv : v.toNatClampNeg = k ∧ ¬ v < 0 ∧ k ≤ n0 ∧ k ≤ n1) (hs : ∀ g, (pic σ).set q1 (a, .inl (cA, n1, .inl g)) = pic (q_wa σ rb g)) (hr : 1 ≤ R.frames ∧ (rest.map fun v => v.category).sum + (nativeFrameWords "java/lang/System" "arraycopy" 5 + 11) ≤ R.locals) (hdg : decode cc pc = .ok (.invokestatic index, 3))
    (kk : ∀ (H1 : Heap) (locs1 : List Loc) (σ1 : qM), va_P D cl (pic σ1) H1 → va_S A H0 H1 locs1 → K σ1 = some r0 → W p l e R s m args below meth c H1 locs1 cells slots Q (F0 m (pc + 3) ls rest)) : W p l e R s m args below meth c H locs cells slots Q (F0 m pc ls (.int v :: .int 0 :: .ref a :: .int 0 :: .ref a0 :: rest)) := by
  obtain ⟨hv1, hv2, hv3, hv4⟩ := hv
  have z0 : (0 : Int32).toNatClampNeg = 0 := by decide +kernel
  refine va_copyi hx hb hml hown (hts _ h4.1) (hts _ h4.2.1) (hts _ h4.2.2.1) (hts _ h4.2.2.2) hK hP (hD σ) hS q0 q1 t0 t0 ha0 ha1 ht ht rfl (by decide +kernel) (by decide +kernel) hv2 (by rw [z0, hv1]; omega) (by rw [z0, hv1]; omega) (fun _ _ => rfl) hr.1 hr.2 hdg (fun H1 locs1 hP1 _ hS1 => ?_)
  rw [z0, hv1, hs] at hP1
  exact kk H1 locs1 _ hP1 hS1 h
theorem x_tsw_in {dflt lo hi : Int} {offs : Array Int} {len : Nat} {x v : Int32} {off : Int} {tgt : Nat} (hx : p.tables.exec = Jvm.exec) (hb : c.code = cc) (hdg : decode cc pc = .ok (.tableswitch dflt lo hi offs, len)) (hc : x = v) (hv : ¬ v.toInt < lo ∧ ¬ hi < v.toInt ∧ offs[(v.toInt - lo).toNat]? = some off ∧ (pc : Int) + off = (tgt : Int)) (k : W p l e R s m args below meth c H locs cells slots Q (F0 m tgt ls rest)) : W p l e R s m args below meth c H locs cells slots Q (F0 m pc ls (.int x :: rest)) := by
  subst hc
  exact lv_tableIn hx hb hdg hv.1 hv.2.1 hv.2.2.1 hv.2.2.2 k
theorem q_tsw_out {x : Int32} {lo hi : Int} (n : Nat) (hn : hi = lo + n - 1) (h : ∀ k : Nat, k < n → x ≠ Int32.ofInt (lo + k)) : x.toInt < lo ∨ hi < x.toInt := by
  rcases Int.lt_or_le x.toInt lo with h1 | h1
  · exact Or.inl h1
  · rcases Int.lt_or_le hi x.toInt with h2 | h2
    · exact Or.inr h2
    · exfalso
      refine h (x.toInt - lo).toNat (by omega) ?_
      rw [show lo + ((x.toInt - lo).toNat : Int) = x.toInt by omega]
      simp
theorem x_tsw_out {dflt lo hi : Int} {offs : Array Int} {len : Nat} {x : Int32} {tgt : Nat} (hx : p.tables.exec = Jvm.exec) (hb : c.code = cc) (hdg : decode cc pc = .ok (.tableswitch dflt lo hi offs, len)) (n : Nat) (hn : hi = lo + n - 1) (h : ∀ k : Nat, k < n → x ≠ Int32.ofInt (lo + k)) (ht : (pc : Int) + dflt = (tgt : Int)) (k : W p l e R s m args below meth c H locs cells slots Q (F0 m tgt ls rest)) : W p l e R s m args below meth c H locs cells slots Q (F0 m pc ls (.int x :: rest)) := lv_tableOut hx hb hdg (q_tsw_out n hn h) ht k
end QROWS2
theorem q_lt6 {x : Int32} (h : q_inB x 6 = true) : x.toNatClampNeg < 6 := Nat.not_le.mp fun q => q_in h (Or.inr q)
theorem q_no {q : Int32 × qM} (h : (none : qR) = some q) : False := by cases h
end
section
/-! worlds: their cells, what a place holds, what a write makes, what a call reaches -/
def q_hf (a : Nat → Nat) : Nat → Option Nat := fun i => some (a (94 + 2 * i))
def p_T (cI : ClassId) (a : Nat → Nat) (σ : qM) : va_W := [(a 0, .inr (4, [.ref (a 1), .ref (a 2), .ref (a 3), .ref (a 4), .ref (a 5), .ref (a 6)])), (a 1, .inl (cI, 100, .inl (σ 1))), (a 2, .inl (cI, 100, .inl (σ 2))), (a 3, .inl (cI, 100, .inl (σ 3))), (a 4, .inl (cI, 100, .inl (σ 4))), (a 5, .inl (cI, 100, .inl (σ 5))), (a 6, .inl (cI, 10, .inl (σ 6)))]
theorem pf_T (cI : ClassId) (a : Nat → Nat) (σ1 σ2 : qM) : (p_T cI a σ1).map (fun q => q.1) = (p_T cI a σ2).map (fun q => q.1) := rfl
def p_TT (cI : ClassId) (a : Nat → Nat) (σ : qM) : va_W := [(a 0, .inr (4, [.ref (a 1), .ref (a 2), .ref (a 3), .ref (a 4), .ref (a 5), .ref (a 6)])), (a 1, .inl (cI, 100, .inl (σ 1))), (a 2, .inl (cI, 100, .inl (σ 2))), (a 3, .inl (cI, 100, .inl (σ 3))), (a 4, .inl (cI, 100, .inl (σ 4))), (a 5, .inl (cI, 100, .inl (σ 5))), (a 6, .inl (cI, 10, .inl (σ 6))), (a 7, .inr (4, [.ref (a 8), .ref (a 9), .ref (a 10), .ref (a 11), .ref (a 12), .ref (a 13)])), (a 8, .inl (cI, 100, .inl (σ 8))), (a 9, .inl (cI, 100, .inl (σ 9))), (a 10, .inl (cI, 100, .inl (σ 10))), (a 11, .inl (cI, 100, .inl (σ 11))), (a 12, .inl (cI, 100, .inl (σ 12))), (a 13, .inl (cI, 10, .inl (σ 13)))]
theorem pf_TT (cI : ClassId) (a : Nat → Nat) (σ1 σ2 : qM) : (p_TT cI a σ1).map (fun q => q.1) = (p_TT cI a σ2).map (fun q => q.1) := rfl
def p_L (cI : ClassId) (a : Nat → Nat) (σ : qM) : va_W := [(a 0, .inr (2, [.ref (a 1), .ref (a 2), .ref (a 3), .ref (a 4), .ref (a 5), .int (σ 0 5)])), (a 1, .inl (cI, 24, .inl (σ 1))), (a 2, .inl (cI, 24, .inl (σ 2))), (a 3, .inl (cI, 24, .inl (σ 3))), (a 4, .inl (cI, 24, .inl (σ 4))), (a 5, .inl (cI, 100, .inl (σ 5)))]
theorem pf_L (cI : ClassId) (a : Nat → Nat) (σ1 σ2 : qM) : (p_L cI a σ1).map (fun q => q.1) = (p_L cI a σ2).map (fun q => q.1) := rfl
def p_LL (cI : ClassId) (a : Nat → Nat) (σ : qM) : va_W := [(a 0, .inr (2, [.ref (a 1), .ref (a 2), .ref (a 3), .ref (a 4), .ref (a 5), .int (σ 0 5)])), (a 1, .inl (cI, 24, .inl (σ 1))), (a 2, .inl (cI, 24, .inl (σ 2))), (a 3, .inl (cI, 24, .inl (σ 3))), (a 4, .inl (cI, 24, .inl (σ 4))), (a 5, .inl (cI, 100, .inl (σ 5))), (a 6, .inr (2, [.ref (a 7), .ref (a 8), .ref (a 9), .ref (a 10), .ref (a 11), .int (σ 6 5)])), (a 7, .inl (cI, 24, .inl (σ 7))), (a 8, .inl (cI, 24, .inl (σ 8))), (a 9, .inl (cI, 24, .inl (σ 9))), (a 10, .inl (cI, 24, .inl (σ 10))), (a 11, .inl (cI, 100, .inl (σ 11)))]
theorem pf_LL (cI : ClassId) (a : Nat → Nat) (σ1 σ2 : qM) : (p_LL cI a σ1).map (fun q => q.1) = (p_LL cI a σ2).map (fun q => q.1) := rfl
def p_N (cI : ClassId) (a : Nat → Nat) (σ : qM) : va_W := [(a 0, .inr (3, [.ref (a 1), .ref (a 8), .ref (a 15), .int (σ 0 3), .int (σ 0 4), .int (σ 0 5), .int (σ 0 6), .int (σ 0 7), .int (σ 0 8)])), (a 1, .inr (4, [.ref (a 2), .ref (a 3), .ref (a 4), .ref (a 5), .ref (a 6), .ref (a 7)])), (a 2, .inl (cI, 100, .inl (σ 2))), (a 3, .inl (cI, 100, .inl (σ 3))), (a 4, .inl (cI, 100, .inl (σ 4))), (a 5, .inl (cI, 100, .inl (σ 5))), (a 6, .inl (cI, 100, .inl (σ 6))), (a 7, .inl (cI, 10, .inl (σ 7))), (a 8, .inr (4, [.ref (a 9), .ref (a 10), .ref (a 11), .ref (a 12), .ref (a 13), .ref (a 14)])), (a 9, .inl (cI, 100, .inl (σ 9))), (a 10, .inl (cI, 100, .inl (σ 10))), (a 11, .inl (cI, 100, .inl (σ 11))), (a 12, .inl (cI, 100, .inl (σ 12))), (a 13, .inl (cI, 100, .inl (σ 13))), (a 14, .inl (cI, 10, .inl (σ 14))), (a 15, .inr (2, [.ref (a 16), .ref (a 17), .ref (a 18), .ref (a 19), .ref (a 20), .int (σ 15 5)])), (a 16, .inl (cI, 24, .inl (σ 16))), (a 17, .inl (cI, 24, .inl (σ 17))), (a 18, .inl (cI, 24, .inl (σ 18))), (a 19, .inl (cI, 24, .inl (σ 19))), (a 20, .inl (cI, 100, .inl (σ 20)))]
theorem pf_N (cI : ClassId) (a : Nat → Nat) (σ1 σ2 : qM) : (p_N cI a σ1).map (fun q => q.1) = (p_N cI a σ2).map (fun q => q.1) := rfl
def p_NN (cI : ClassId) (a : Nat → Nat) (σ : qM) : va_W := [(a 0, .inr (3, [.ref (a 1), .ref (a 8), .ref (a 15), .int (σ 0 3), .int (σ 0 4), .int (σ 0 5), .int (σ 0 6), .int (σ 0 7), .int (σ 0 8)])), (a 1, .inr (4, [.ref (a 2), .ref (a 3), .ref (a 4), .ref (a 5), .ref (a 6), .ref (a 7)])), (a 2, .inl (cI, 100, .inl (σ 2))), (a 3, .inl (cI, 100, .inl (σ 3))), (a 4, .inl (cI, 100, .inl (σ 4))), (a 5, .inl (cI, 100, .inl (σ 5))), (a 6, .inl (cI, 100, .inl (σ 6))), (a 7, .inl (cI, 10, .inl (σ 7))), (a 8, .inr (4, [.ref (a 9), .ref (a 10), .ref (a 11), .ref (a 12), .ref (a 13), .ref (a 14)])), (a 9, .inl (cI, 100, .inl (σ 9))), (a 10, .inl (cI, 100, .inl (σ 10))), (a 11, .inl (cI, 100, .inl (σ 11))), (a 12, .inl (cI, 100, .inl (σ 12))), (a 13, .inl (cI, 100, .inl (σ 13))), (a 14, .inl (cI, 10, .inl (σ 14))), (a 15, .inr (2, [.ref (a 16), .ref (a 17), .ref (a 18), .ref (a 19), .ref (a 20), .int (σ 15 5)])), (a 16, .inl (cI, 24, .inl (σ 16))), (a 17, .inl (cI, 24, .inl (σ 17))), (a 18, .inl (cI, 24, .inl (σ 18))), (a 19, .inl (cI, 24, .inl (σ 19))), (a 20, .inl (cI, 100, .inl (σ 20))), (a 21, .inr (3, [.ref (a 22), .ref (a 29), .ref (a 36), .int (σ 21 3), .int (σ 21 4), .int (σ 21 5), .int (σ 21 6), .int (σ 21 7), .int (σ 21 8)])), (a 22, .inr (4, [.ref (a 23), .ref (a 24), .ref (a 25), .ref (a 26), .ref (a 27), .ref (a 28)])), (a 23, .inl (cI, 100, .inl (σ 23))), (a 24, .inl (cI, 100, .inl (σ 24))), (a 25, .inl (cI, 100, .inl (σ 25))), (a 26, .inl (cI, 100, .inl (σ 26))), (a 27, .inl (cI, 100, .inl (σ 27))), (a 28, .inl (cI, 10, .inl (σ 28))), (a 29, .inr (4, [.ref (a 30), .ref (a 31), .ref (a 32), .ref (a 33), .ref (a 34), .ref (a 35)])), (a 30, .inl (cI, 100, .inl (σ 30))), (a 31, .inl (cI, 100, .inl (σ 31))), (a 32, .inl (cI, 100, .inl (σ 32))), (a 33, .inl (cI, 100, .inl (σ 33))), (a 34, .inl (cI, 100, .inl (σ 34))), (a 35, .inl (cI, 10, .inl (σ 35))), (a 36, .inr (2, [.ref (a 37), .ref (a 38), .ref (a 39), .ref (a 40), .ref (a 41), .int (σ 36 5)])), (a 37, .inl (cI, 24, .inl (σ 37))), (a 38, .inl (cI, 24, .inl (σ 38))), (a 39, .inl (cI, 24, .inl (σ 39))), (a 40, .inl (cI, 24, .inl (σ 40))), (a 41, .inl (cI, 100, .inl (σ 41)))]
theorem pf_NN (cI : ClassId) (a : Nat → Nat) (σ1 σ2 : qM) : (p_NN cI a σ1).map (fun q => q.1) = (p_NN cI a σ2).map (fun q => q.1) := rfl
def p_Y (cI : ClassId) (a : Nat → Nat) (σ : qM) : va_W := [(a 0, .inr (6, [.ref (a 1), .int (σ 0 1), .int (σ 0 2)])), (a 1, .inl (cI, 10, .inl (σ 1)))]
theorem pf_Y (cI : ClassId) (a : Nat → Nat) (σ1 σ2 : qM) : (p_Y cI a σ1).map (fun q => q.1) = (p_Y cI a σ2).map (fun q => q.1) := rfl
def p_YT (cI : ClassId) (a : Nat → Nat) (σ : qM) : va_W := [(a 0, .inr (6, [.ref (a 1), .int (σ 0 1), .int (σ 0 2)])), (a 1, .inl (cI, 10, .inl (σ 1))), (a 2, .inr (4, [.ref (a 3), .ref (a 4), .ref (a 5), .ref (a 6), .ref (a 7), .ref (a 8)])), (a 3, .inl (cI, 100, .inl (σ 3))), (a 4, .inl (cI, 100, .inl (σ 4))), (a 5, .inl (cI, 100, .inl (σ 5))), (a 6, .inl (cI, 100, .inl (σ 6))), (a 7, .inl (cI, 100, .inl (σ 7))), (a 8, .inl (cI, 10, .inl (σ 8)))]
theorem pf_YT (cI : ClassId) (a : Nat → Nat) (σ1 σ2 : qM) : (p_YT cI a σ1).map (fun q => q.1) = (p_YT cI a σ2).map (fun q => q.1) := rfl
def p_YN (cI : ClassId) (a : Nat → Nat) (σ : qM) : va_W := [(a 0, .inr (6, [.ref (a 1), .int (σ 0 1), .int (σ 0 2)])), (a 1, .inl (cI, 10, .inl (σ 1))), (a 2, .inr (3, [.ref (a 3), .ref (a 10), .ref (a 17), .int (σ 2 3), .int (σ 2 4), .int (σ 2 5), .int (σ 2 6), .int (σ 2 7), .int (σ 2 8)])), (a 3, .inr (4, [.ref (a 4), .ref (a 5), .ref (a 6), .ref (a 7), .ref (a 8), .ref (a 9)])), (a 4, .inl (cI, 100, .inl (σ 4))), (a 5, .inl (cI, 100, .inl (σ 5))), (a 6, .inl (cI, 100, .inl (σ 6))), (a 7, .inl (cI, 100, .inl (σ 7))), (a 8, .inl (cI, 100, .inl (σ 8))), (a 9, .inl (cI, 10, .inl (σ 9))), (a 10, .inr (4, [.ref (a 11), .ref (a 12), .ref (a 13), .ref (a 14), .ref (a 15), .ref (a 16)])), (a 11, .inl (cI, 100, .inl (σ 11))), (a 12, .inl (cI, 100, .inl (σ 12))), (a 13, .inl (cI, 100, .inl (σ 13))), (a 14, .inl (cI, 100, .inl (σ 14))), (a 15, .inl (cI, 100, .inl (σ 15))), (a 16, .inl (cI, 10, .inl (σ 16))), (a 17, .inr (2, [.ref (a 18), .ref (a 19), .ref (a 20), .ref (a 21), .ref (a 22), .int (σ 17 5)])), (a 18, .inl (cI, 24, .inl (σ 18))), (a 19, .inl (cI, 24, .inl (σ 19))), (a 20, .inl (cI, 24, .inl (σ 20))), (a 21, .inl (cI, 24, .inl (σ 21))), (a 22, .inl (cI, 100, .inl (σ 22)))]
theorem pf_YN (cI : ClassId) (a : Nat → Nat) (σ1 σ2 : qM) : (p_YN cI a σ1).map (fun q => q.1) = (p_YN cI a σ2).map (fun q => q.1) := rfl
def p_D (cI : ClassId) (a : Nat → Nat) (σ : qM) : va_W := [(a 0, .inr (0, [.ref (a 1)])), (a 1, .inl (cI, 10, .inl (σ 1)))]
theorem pf_D (cI : ClassId) (a : Nat → Nat) (σ1 σ2 : qM) : (p_D cI a σ1).map (fun q => q.1) = (p_D cI a σ2).map (fun q => q.1) := rfl
def p_DL (cI : ClassId) (a : Nat → Nat) (σ : qM) : va_W := [(a 0, .inr (0, [.ref (a 1)])), (a 1, .inl (cI, 10, .inl (σ 1))), (a 2, .inr (2, [.ref (a 3), .ref (a 4), .ref (a 5), .ref (a 6), .ref (a 7), .int (σ 2 5)])), (a 3, .inl (cI, 24, .inl (σ 3))), (a 4, .inl (cI, 24, .inl (σ 4))), (a 5, .inl (cI, 24, .inl (σ 5))), (a 6, .inl (cI, 24, .inl (σ 6))), (a 7, .inl (cI, 100, .inl (σ 7)))]
theorem pf_DL (cI : ClassId) (a : Nat → Nat) (σ1 σ2 : qM) : (p_DL cI a σ1).map (fun q => q.1) = (p_DL cI a σ2).map (fun q => q.1) := rfl
def p_DN (cI : ClassId) (a : Nat → Nat) (σ : qM) : va_W := [(a 0, .inr (0, [.ref (a 1)])), (a 1, .inl (cI, 10, .inl (σ 1))), (a 2, .inr (3, [.ref (a 3), .ref (a 10), .ref (a 17), .int (σ 2 3), .int (σ 2 4), .int (σ 2 5), .int (σ 2 6), .int (σ 2 7), .int (σ 2 8)])), (a 3, .inr (4, [.ref (a 4), .ref (a 5), .ref (a 6), .ref (a 7), .ref (a 8), .ref (a 9)])), (a 4, .inl (cI, 100, .inl (σ 4))), (a 5, .inl (cI, 100, .inl (σ 5))), (a 6, .inl (cI, 100, .inl (σ 6))), (a 7, .inl (cI, 100, .inl (σ 7))), (a 8, .inl (cI, 100, .inl (σ 8))), (a 9, .inl (cI, 10, .inl (σ 9))), (a 10, .inr (4, [.ref (a 11), .ref (a 12), .ref (a 13), .ref (a 14), .ref (a 15), .ref (a 16)])), (a 11, .inl (cI, 100, .inl (σ 11))), (a 12, .inl (cI, 100, .inl (σ 12))), (a 13, .inl (cI, 100, .inl (σ 13))), (a 14, .inl (cI, 100, .inl (σ 14))), (a 15, .inl (cI, 100, .inl (σ 15))), (a 16, .inl (cI, 10, .inl (σ 16))), (a 17, .inr (2, [.ref (a 18), .ref (a 19), .ref (a 20), .ref (a 21), .ref (a 22), .int (σ 17 5)])), (a 18, .inl (cI, 24, .inl (σ 18))), (a 19, .inl (cI, 24, .inl (σ 19))), (a 20, .inl (cI, 24, .inl (σ 20))), (a 21, .inl (cI, 24, .inl (σ 21))), (a 22, .inl (cI, 100, .inl (σ 22)))]
theorem pf_DN (cI : ClassId) (a : Nat → Nat) (σ1 σ2 : qM) : (p_DN cI a σ1).map (fun q => q.1) = (p_DN cI a σ2).map (fun q => q.1) := rfl
def p_P (cI : ClassId) (a : Nat → Nat) (σ : qM) : va_W := [(a 0, .inr (5, [.ref (a 1), .int (σ 0 1), .ref (a 2), .ref (a 3), .int (σ 0 4), .int (σ 0 5)])), (a 1, .inl (cI, 120, .inl (σ 1))), (a 2, .inl (cI, 120, .inl (σ 2))), (a 3, .inl (cI, 360, .inl (σ 3)))]
theorem pf_P (cI : ClassId) (a : Nat → Nat) (σ1 σ2 : qM) : (p_P cI a σ1).map (fun q => q.1) = (p_P cI a σ2).map (fun q => q.1) := rfl
def p_H (cI : ClassId) (a : Nat → Nat) (σ : qM) : va_W := [(a 0, .inr (1, [.int (σ 0 0), .int (σ 0 1), .int (σ 0 2), .int (σ 0 3), .int (σ 0 4), .int (σ 0 5), .ref (a 1), .int (σ 0 7)])), (a 1, .inl (cI, 60, .inl (σ 1)))]
theorem pf_H (cI : ClassId) (a : Nat → Nat) (σ1 σ2 : qM) : (p_H cI a σ1).map (fun q => q.1) = (p_H cI a σ2).map (fun q => q.1) := rfl
def p_HT (cI : ClassId) (a : Nat → Nat) (σ : qM) : va_W := [(a 0, .inr (1, [.int (σ 0 0), .int (σ 0 1), .int (σ 0 2), .int (σ 0 3), .int (σ 0 4), .int (σ 0 5), .ref (a 1), .int (σ 0 7)])), (a 1, .inl (cI, 60, .inl (σ 1))), (a 2, .inr (4, [.ref (a 3), .ref (a 4), .ref (a 5), .ref (a 6), .ref (a 7), .ref (a 8)])), (a 3, .inl (cI, 100, .inl (σ 3))), (a 4, .inl (cI, 100, .inl (σ 4))), (a 5, .inl (cI, 100, .inl (σ 5))), (a 6, .inl (cI, 100, .inl (σ 6))), (a 7, .inl (cI, 100, .inl (σ 7))), (a 8, .inl (cI, 10, .inl (σ 8)))]
theorem pf_HT (cI : ClassId) (a : Nat → Nat) (σ1 σ2 : qM) : (p_HT cI a σ1).map (fun q => q.1) = (p_HT cI a σ2).map (fun q => q.1) := rfl
def p_V (cI cO : ClassId) (a : Nat → Nat) (σ : qM) : va_W := [(a 0, .inr (7, [.ref (a 1), .ref (a 22), .ref (a 43), .ref (a 64), .ref (a 85), .ref (a 87), .ref (a 89), .ref (a 93), .int (σ 0 8)])), (a 1, .inr (3, [.ref (a 2), .ref (a 9), .ref (a 16), .int (σ 1 3), .int (σ 1 4), .int (σ 1 5), .int (σ 1 6), .int (σ 1 7), .int (σ 1 8)])), (a 2, .inr (4, [.ref (a 3), .ref (a 4), .ref (a 5), .ref (a 6), .ref (a 7), .ref (a 8)])), (a 3, .inl (cI, 100, .inl (σ 3))), (a 4, .inl (cI, 100, .inl (σ 4))), (a 5, .inl (cI, 100, .inl (σ 5))), (a 6, .inl (cI, 100, .inl (σ 6))), (a 7, .inl (cI, 100, .inl (σ 7))), (a 8, .inl (cI, 10, .inl (σ 8))), (a 9, .inr (4, [.ref (a 10), .ref (a 11), .ref (a 12), .ref (a 13), .ref (a 14), .ref (a 15)])), (a 10, .inl (cI, 100, .inl (σ 10))), (a 11, .inl (cI, 100, .inl (σ 11))), (a 12, .inl (cI, 100, .inl (σ 12))), (a 13, .inl (cI, 100, .inl (σ 13))), (a 14, .inl (cI, 100, .inl (σ 14))), (a 15, .inl (cI, 10, .inl (σ 15))), (a 16, .inr (2, [.ref (a 17), .ref (a 18), .ref (a 19), .ref (a 20), .ref (a 21), .int (σ 16 5)])), (a 17, .inl (cI, 24, .inl (σ 17))), (a 18, .inl (cI, 24, .inl (σ 18))), (a 19, .inl (cI, 24, .inl (σ 19))), (a 20, .inl (cI, 24, .inl (σ 20))), (a 21, .inl (cI, 100, .inl (σ 21))), (a 22, .inr (3, [.ref (a 23), .ref (a 30), .ref (a 37), .int (σ 22 3), .int (σ 22 4), .int (σ 22 5), .int (σ 22 6), .int (σ 22 7), .int (σ 22 8)])), (a 23, .inr (4, [.ref (a 24), .ref (a 25), .ref (a 26), .ref (a 27), .ref (a 28), .ref (a 29)])), (a 24, .inl (cI, 100, .inl (σ 24))), (a 25, .inl (cI, 100, .inl (σ 25))), (a 26, .inl (cI, 100, .inl (σ 26))), (a 27, .inl (cI, 100, .inl (σ 27))), (a 28, .inl (cI, 100, .inl (σ 28))), (a 29, .inl (cI, 10, .inl (σ 29))), (a 30, .inr (4, [.ref (a 31), .ref (a 32), .ref (a 33), .ref (a 34), .ref (a 35), .ref (a 36)])), (a 31, .inl (cI, 100, .inl (σ 31))), (a 32, .inl (cI, 100, .inl (σ 32))), (a 33, .inl (cI, 100, .inl (σ 33))), (a 34, .inl (cI, 100, .inl (σ 34))), (a 35, .inl (cI, 100, .inl (σ 35))), (a 36, .inl (cI, 10, .inl (σ 36))), (a 37, .inr (2, [.ref (a 38), .ref (a 39), .ref (a 40), .ref (a 41), .ref (a 42), .int (σ 37 5)])), (a 38, .inl (cI, 24, .inl (σ 38))), (a 39, .inl (cI, 24, .inl (σ 39))), (a 40, .inl (cI, 24, .inl (σ 40))), (a 41, .inl (cI, 24, .inl (σ 41))), (a 42, .inl (cI, 100, .inl (σ 42))), (a 43, .inr (3, [.ref (a 44), .ref (a 51), .ref (a 58), .int (σ 43 3), .int (σ 43 4), .int (σ 43 5), .int (σ 43 6), .int (σ 43 7), .int (σ 43 8)])), (a 44, .inr (4, [.ref (a 45), .ref (a 46), .ref (a 47), .ref (a 48), .ref (a 49), .ref (a 50)])), (a 45, .inl (cI, 100, .inl (σ 45))), (a 46, .inl (cI, 100, .inl (σ 46))), (a 47, .inl (cI, 100, .inl (σ 47))), (a 48, .inl (cI, 100, .inl (σ 48))), (a 49, .inl (cI, 100, .inl (σ 49))), (a 50, .inl (cI, 10, .inl (σ 50))), (a 51, .inr (4, [.ref (a 52), .ref (a 53), .ref (a 54), .ref (a 55), .ref (a 56), .ref (a 57)])), (a 52, .inl (cI, 100, .inl (σ 52))), (a 53, .inl (cI, 100, .inl (σ 53))), (a 54, .inl (cI, 100, .inl (σ 54))), (a 55, .inl (cI, 100, .inl (σ 55))), (a 56, .inl (cI, 100, .inl (σ 56))), (a 57, .inl (cI, 10, .inl (σ 57))), (a 58, .inr (2, [.ref (a 59), .ref (a 60), .ref (a 61), .ref (a 62), .ref (a 63), .int (σ 58 5)])), (a 59, .inl (cI, 24, .inl (σ 59))), (a 60, .inl (cI, 24, .inl (σ 60))), (a 61, .inl (cI, 24, .inl (σ 61))), (a 62, .inl (cI, 24, .inl (σ 62))), (a 63, .inl (cI, 100, .inl (σ 63))), (a 64, .inr (3, [.ref (a 65), .ref (a 72), .ref (a 79), .int (σ 64 3), .int (σ 64 4), .int (σ 64 5), .int (σ 64 6), .int (σ 64 7), .int (σ 64 8)])), (a 65, .inr (4, [.ref (a 66), .ref (a 67), .ref (a 68), .ref (a 69), .ref (a 70), .ref (a 71)])), (a 66, .inl (cI, 100, .inl (σ 66))), (a 67, .inl (cI, 100, .inl (σ 67))), (a 68, .inl (cI, 100, .inl (σ 68))), (a 69, .inl (cI, 100, .inl (σ 69))), (a 70, .inl (cI, 100, .inl (σ 70))), (a 71, .inl (cI, 10, .inl (σ 71))), (a 72, .inr (4, [.ref (a 73), .ref (a 74), .ref (a 75), .ref (a 76), .ref (a 77), .ref (a 78)])), (a 73, .inl (cI, 100, .inl (σ 73))), (a 74, .inl (cI, 100, .inl (σ 74))), (a 75, .inl (cI, 100, .inl (σ 75))), (a 76, .inl (cI, 100, .inl (σ 76))), (a 77, .inl (cI, 100, .inl (σ 77))), (a 78, .inl (cI, 10, .inl (σ 78))), (a 79, .inr (2, [.ref (a 80), .ref (a 81), .ref (a 82), .ref (a 83), .ref (a 84), .int (σ 79 5)])), (a 80, .inl (cI, 24, .inl (σ 80))), (a 81, .inl (cI, 24, .inl (σ 81))), (a 82, .inl (cI, 24, .inl (σ 82))), (a 83, .inl (cI, 24, .inl (σ 83))), (a 84, .inl (cI, 100, .inl (σ 84))), (a 85, .inr (6, [.ref (a 86), .int (σ 85 1), .int (σ 85 2)])), (a 86, .inl (cI, 10, .inl (σ 86))), (a 87, .inr (0, [.ref (a 88)])), (a 88, .inl (cI, 10, .inl (σ 88))), (a 89, .inr (5, [.ref (a 90), .int (σ 89 1), .ref (a 91), .ref (a 92), .int (σ 89 4), .int (σ 89 5)])), (a 90, .inl (cI, 120, .inl (σ 90))), (a 91, .inl (cI, 120, .inl (σ 91))), (a 92, .inl (cI, 360, .inl (σ 92))), (a 93, .inl (cO, 6, .inr (.inr (.inr (.inr (q_hf a)))))), (a 94, .inr (1, [.int (σ 94 0), .int (σ 94 1), .int (σ 94 2), .int (σ 94 3), .int (σ 94 4), .int (σ 94 5), .ref (a 95), .int (σ 94 7)])), (a 95, .inl (cI, 60, .inl (σ 95))), (a 96, .inr (1, [.int (σ 96 0), .int (σ 96 1), .int (σ 96 2), .int (σ 96 3), .int (σ 96 4), .int (σ 96 5), .ref (a 97), .int (σ 96 7)])), (a 97, .inl (cI, 60, .inl (σ 97))), (a 98, .inr (1, [.int (σ 98 0), .int (σ 98 1), .int (σ 98 2), .int (σ 98 3), .int (σ 98 4), .int (σ 98 5), .ref (a 99), .int (σ 98 7)])), (a 99, .inl (cI, 60, .inl (σ 99))), (a 100, .inr (1, [.int (σ 100 0), .int (σ 100 1), .int (σ 100 2), .int (σ 100 3), .int (σ 100 4), .int (σ 100 5), .ref (a 101), .int (σ 100 7)])), (a 101, .inl (cI, 60, .inl (σ 101))), (a 102, .inr (1, [.int (σ 102 0), .int (σ 102 1), .int (σ 102 2), .int (σ 102 3), .int (σ 102 4), .int (σ 102 5), .ref (a 103), .int (σ 102 7)])), (a 103, .inl (cI, 60, .inl (σ 103))), (a 104, .inr (1, [.int (σ 104 0), .int (σ 104 1), .int (σ 104 2), .int (σ 104 3), .int (σ 104 4), .int (σ 104 5), .ref (a 105), .int (σ 104 7)])), (a 105, .inl (cI, 60, .inl (σ 105)))]
theorem pf_V (cI cO : ClassId) (a : Nat → Nat) (σ1 σ2 : qM) : (p_V cI cO a σ1).map (fun q => q.1) = (p_V cI cO a σ2).map (fun q => q.1) := rfl
def p_M (cI : ClassId) (a : Nat → Nat) (σ : qM) : va_W := [(a 0, .inr (8, [.int (σ 0 0), .ref (a 1), .ref (a 2), .ref (a 3), .ref (a 4), .ref (a 5), .ref (a 6), .ref (a 7), .ref (a 8), .ref (a 9), .int (σ 0 10), .ref (a 10), .ref (a 11), .ref (a 12), .int (σ 0 14), .ref (a 13), .ref (a 14), .int (σ 0 17), .int (σ 0 18), .int (σ 0 19), .ref (a 15), .ref (a 16), .int (σ 0 22), .ref (a 17), .ref (a 18), .ref (a 19)])), (a 1, .inl (cI, 650, .inl (σ 1))), (a 2, .inl (cI, 650, .inl (σ 2))), (a 3, .inl (cI, 650, .inl (σ 3))), (a 4, .inl (cI, 1000, .inl (σ 4))), (a 5, .inl (cI, 1000, .inl (σ 5))), (a 6, .inl (cI, 1000, .inl (σ 6))), (a 7, .inl (cI, 1000, .inl (σ 7))), (a 8, .inl (cI, 1000, .inl (σ 8))), (a 9, .inl (cI, 1000, .inl (σ 9))), (a 10, .inl (cI, 10, .inl (σ 10))), (a 11, .inl (cI, 100, .inl (σ 11))), (a 12, .inl (cI, 10, .inl (σ 12))), (a 13, .inl (cI, 10, .inl (σ 13))), (a 14, .inl (cI, 120, .inl (σ 14))), (a 15, .inl (cI, 121, .inl (σ 15))), (a 16, .inl (cI, 363, .inl (σ 16))), (a 17, .inl (cI, 650, .inl (σ 17))), (a 18, .inl (cI, 6, .inl (σ 18))), (a 19, .inl (cI, 360, .inl (σ 19)))]
theorem pf_M (cI : ClassId) (a : Nat → Nat) (σ1 σ2 : qM) : (p_M cI a σ1).map (fun q => q.1) = (p_M cI a σ2).map (fun q => q.1) := rfl
def p_R (cI : ClassId) (a : Nat → Nat) (σ : qM) : va_W := [(a 0, .inl (cI, 650, .inl (σ 0)))]
theorem pf_R (cI : ClassId) (a : Nat → Nat) (σ1 σ2 : qM) : (p_R cI a σ1).map (fun q => q.1) = (p_R cI a σ2).map (fun q => q.1) := rfl
def p_RR (cI : ClassId) (a : Nat → Nat) (σ : qM) : va_W := [(a 0, .inl (cI, 650, .inl (σ 0))), (a 1, .inl (cI, 650, .inl (σ 1)))]
theorem pf_RR (cI : ClassId) (a : Nat → Nat) (σ1 σ2 : qM) : (p_RR cI a σ1).map (fun q => q.1) = (p_RR cI a σ2).map (fun q => q.1) := rfl
def p_A (cI : ClassId) (n : Nat) (a : Nat → Nat) (σ : qM) : va_W := [(a 0, .inl (cI, n, .inl (σ 0)))]
theorem pf_A (cI : ClassId) (n : Nat) (a : Nat → Nat) (σ1 σ2 : qM) : (p_A cI n a σ1).map (fun q => q.1) = (p_A cI n a σ2).map (fun q => q.1) := rfl
theorem g_A_0 (cI : ClassId) (n : Nat) (a : Nat → Nat) (σ : qM) : (p_A cI n a σ)[0]? = some (a 0, .inl (cI, n, .inl (σ 0))) := rfl
theorem g_DL_0 (cI : ClassId) (a : Nat → Nat) (σ : qM) : (p_DL cI a σ)[0]? = some (a 0, .inr (0, [.ref (a 1)])) := rfl
theorem g_DL_1 (cI : ClassId) (a : Nat → Nat) (σ : qM) : (p_DL cI a σ)[1]? = some (a 1, .inl (cI, 10, .inl (σ 1))) := rfl
theorem g_DL_2 (cI : ClassId) (a : Nat → Nat) (σ : qM) : (p_DL cI a σ)[2]? = some (a 2, .inr (2, [.ref (a 3), .ref (a 4), .ref (a 5), .ref (a 6), .ref (a 7), .int (σ 2 5)])) := rfl
theorem g_DL_3 (cI : ClassId) (a : Nat → Nat) (σ : qM) : (p_DL cI a σ)[3]? = some (a 3, .inl (cI, 24, .inl (σ 3))) := rfl
theorem g_DL_4 (cI : ClassId) (a : Nat → Nat) (σ : qM) : (p_DL cI a σ)[4]? = some (a 4, .inl (cI, 24, .inl (σ 4))) := rfl
theorem g_DL_5 (cI : ClassId) (a : Nat → Nat) (σ : qM) : (p_DL cI a σ)[5]? = some (a 5, .inl (cI, 24, .inl (σ 5))) := rfl
theorem g_DN_0 (cI : ClassId) (a : Nat → Nat) (σ : qM) : (p_DN cI a σ)[0]? = some (a 0, .inr (0, [.ref (a 1)])) := rfl
theorem g_DN_1 (cI : ClassId) (a : Nat → Nat) (σ : qM) : (p_DN cI a σ)[1]? = some (a 1, .inl (cI, 10, .inl (σ 1))) := rfl
theorem g_DN_2 (cI : ClassId) (a : Nat → Nat) (σ : qM) : (p_DN cI a σ)[2]? = some (a 2, .inr (3, [.ref (a 3), .ref (a 10), .ref (a 17), .int (σ 2 3), .int (σ 2 4), .int (σ 2 5), .int (σ 2 6), .int (σ 2 7), .int (σ 2 8)])) := rfl
theorem g_DN_17 (cI : ClassId) (a : Nat → Nat) (σ : qM) : (p_DN cI a σ)[17]? = some (a 17, .inr (2, [.ref (a 18), .ref (a 19), .ref (a 20), .ref (a 21), .ref (a 22), .int (σ 17 5)])) := rfl
theorem g_DN_21 (cI : ClassId) (a : Nat → Nat) (σ : qM) : (p_DN cI a σ)[21]? = some (a 21, .inl (cI, 24, .inl (σ 21))) := rfl
theorem g_H_0 (cI : ClassId) (a : Nat → Nat) (σ : qM) : (p_H cI a σ)[0]? = some (a 0, .inr (1, [.int (σ 0 0), .int (σ 0 1), .int (σ 0 2), .int (σ 0 3), .int (σ 0 4), .int (σ 0 5), .ref (a 1), .int (σ 0 7)])) := rfl
theorem g_HT_0 (cI : ClassId) (a : Nat → Nat) (σ : qM) : (p_HT cI a σ)[0]? = some (a 0, .inr (1, [.int (σ 0 0), .int (σ 0 1), .int (σ 0 2), .int (σ 0 3), .int (σ 0 4), .int (σ 0 5), .ref (a 1), .int (σ 0 7)])) := rfl
theorem g_HT_2 (cI : ClassId) (a : Nat → Nat) (σ : qM) : (p_HT cI a σ)[2]? = some (a 2, .inr (4, [.ref (a 3), .ref (a 4), .ref (a 5), .ref (a 6), .ref (a 7), .ref (a 8)])) := rfl
theorem g_HT_3 (cI : ClassId) (a : Nat → Nat) (σ : qM) : (p_HT cI a σ)[3]? = some (a 3, .inl (cI, 100, .inl (σ 3))) := rfl
theorem g_HT_4 (cI : ClassId) (a : Nat → Nat) (σ : qM) : (p_HT cI a σ)[4]? = some (a 4, .inl (cI, 100, .inl (σ 4))) := rfl
theorem g_HT_5 (cI : ClassId) (a : Nat → Nat) (σ : qM) : (p_HT cI a σ)[5]? = some (a 5, .inl (cI, 100, .inl (σ 5))) := rfl
theorem g_HT_6 (cI : ClassId) (a : Nat → Nat) (σ : qM) : (p_HT cI a σ)[6]? = some (a 6, .inl (cI, 100, .inl (σ 6))) := rfl
theorem g_L_0 (cI : ClassId) (a : Nat → Nat) (σ : qM) : (p_L cI a σ)[0]? = some (a 0, .inr (2, [.ref (a 1), .ref (a 2), .ref (a 3), .ref (a 4), .ref (a 5), .int (σ 0 5)])) := rfl
theorem g_L_1 (cI : ClassId) (a : Nat → Nat) (σ : qM) : (p_L cI a σ)[1]? = some (a 1, .inl (cI, 24, .inl (σ 1))) := rfl
theorem g_L_2 (cI : ClassId) (a : Nat → Nat) (σ : qM) : (p_L cI a σ)[2]? = some (a 2, .inl (cI, 24, .inl (σ 2))) := rfl
theorem g_L_3 (cI : ClassId) (a : Nat → Nat) (σ : qM) : (p_L cI a σ)[3]? = some (a 3, .inl (cI, 24, .inl (σ 3))) := rfl
theorem g_L_4 (cI : ClassId) (a : Nat → Nat) (σ : qM) : (p_L cI a σ)[4]? = some (a 4, .inl (cI, 24, .inl (σ 4))) := rfl
theorem g_L_5 (cI : ClassId) (a : Nat → Nat) (σ : qM) : (p_L cI a σ)[5]? = some (a 5, .inl (cI, 100, .inl (σ 5))) := rfl
theorem g_LL_0 (cI : ClassId) (a : Nat → Nat) (σ : qM) : (p_LL cI a σ)[0]? = some (a 0, .inr (2, [.ref (a 1), .ref (a 2), .ref (a 3), .ref (a 4), .ref (a 5), .int (σ 0 5)])) := rfl
theorem g_LL_1 (cI : ClassId) (a : Nat → Nat) (σ : qM) : (p_LL cI a σ)[1]? = some (a 1, .inl (cI, 24, .inl (σ 1))) := rfl
theorem g_LL_2 (cI : ClassId) (a : Nat → Nat) (σ : qM) : (p_LL cI a σ)[2]? = some (a 2, .inl (cI, 24, .inl (σ 2))) := rfl
theorem g_LL_3 (cI : ClassId) (a : Nat → Nat) (σ : qM) : (p_LL cI a σ)[3]? = some (a 3, .inl (cI, 24, .inl (σ 3))) := rfl
theorem g_LL_4 (cI : ClassId) (a : Nat → Nat) (σ : qM) : (p_LL cI a σ)[4]? = some (a 4, .inl (cI, 24, .inl (σ 4))) := rfl
theorem g_LL_5 (cI : ClassId) (a : Nat → Nat) (σ : qM) : (p_LL cI a σ)[5]? = some (a 5, .inl (cI, 100, .inl (σ 5))) := rfl
theorem g_LL_6 (cI : ClassId) (a : Nat → Nat) (σ : qM) : (p_LL cI a σ)[6]? = some (a 6, .inr (2, [.ref (a 7), .ref (a 8), .ref (a 9), .ref (a 10), .ref (a 11), .int (σ 6 5)])) := rfl
theorem g_LL_7 (cI : ClassId) (a : Nat → Nat) (σ : qM) : (p_LL cI a σ)[7]? = some (a 7, .inl (cI, 24, .inl (σ 7))) := rfl
theorem g_LL_8 (cI : ClassId) (a : Nat → Nat) (σ : qM) : (p_LL cI a σ)[8]? = some (a 8, .inl (cI, 24, .inl (σ 8))) := rfl
theorem g_LL_9 (cI : ClassId) (a : Nat → Nat) (σ : qM) : (p_LL cI a σ)[9]? = some (a 9, .inl (cI, 24, .inl (σ 9))) := rfl
theorem g_LL_10 (cI : ClassId) (a : Nat → Nat) (σ : qM) : (p_LL cI a σ)[10]? = some (a 10, .inl (cI, 24, .inl (σ 10))) := rfl
theorem g_LL_11 (cI : ClassId) (a : Nat → Nat) (σ : qM) : (p_LL cI a σ)[11]? = some (a 11, .inl (cI, 100, .inl (σ 11))) := rfl
theorem g_M_0 (cI : ClassId) (a : Nat → Nat) (σ : qM) : (p_M cI a σ)[0]? = some (a 0, .inr (8, [.int (σ 0 0), .ref (a 1), .ref (a 2), .ref (a 3), .ref (a 4), .ref (a 5), .ref (a 6), .ref (a 7), .ref (a 8), .ref (a 9), .int (σ 0 10), .ref (a 10), .ref (a 11), .ref (a 12), .int (σ 0 14), .ref (a 13), .ref (a 14), .int (σ 0 17), .int (σ 0 18), .int (σ 0 19), .ref (a 15), .ref (a 16), .int (σ 0 22), .ref (a 17), .ref (a 18), .ref (a 19)])) := rfl
theorem g_M_1 (cI : ClassId) (a : Nat → Nat) (σ : qM) : (p_M cI a σ)[1]? = some (a 1, .inl (cI, 650, .inl (σ 1))) := rfl
theorem g_M_4 (cI : ClassId) (a : Nat → Nat) (σ : qM) : (p_M cI a σ)[4]? = some (a 4, .inl (cI, 1000, .inl (σ 4))) := rfl
theorem g_M_5 (cI : ClassId) (a : Nat → Nat) (σ : qM) : (p_M cI a σ)[5]? = some (a 5, .inl (cI, 1000, .inl (σ 5))) := rfl
theorem g_M_6 (cI : ClassId) (a : Nat → Nat) (σ : qM) : (p_M cI a σ)[6]? = some (a 6, .inl (cI, 1000, .inl (σ 6))) := rfl
theorem g_M_7 (cI : ClassId) (a : Nat → Nat) (σ : qM) : (p_M cI a σ)[7]? = some (a 7, .inl (cI, 1000, .inl (σ 7))) := rfl
theorem g_M_8 (cI : ClassId) (a : Nat → Nat) (σ : qM) : (p_M cI a σ)[8]? = some (a 8, .inl (cI, 1000, .inl (σ 8))) := rfl
theorem g_M_9 (cI : ClassId) (a : Nat → Nat) (σ : qM) : (p_M cI a σ)[9]? = some (a 9, .inl (cI, 1000, .inl (σ 9))) := rfl
theorem g_M_10 (cI : ClassId) (a : Nat → Nat) (σ : qM) : (p_M cI a σ)[10]? = some (a 10, .inl (cI, 10, .inl (σ 10))) := rfl
theorem g_M_11 (cI : ClassId) (a : Nat → Nat) (σ : qM) : (p_M cI a σ)[11]? = some (a 11, .inl (cI, 100, .inl (σ 11))) := rfl
theorem g_M_12 (cI : ClassId) (a : Nat → Nat) (σ : qM) : (p_M cI a σ)[12]? = some (a 12, .inl (cI, 10, .inl (σ 12))) := rfl
theorem g_M_13 (cI : ClassId) (a : Nat → Nat) (σ : qM) : (p_M cI a σ)[13]? = some (a 13, .inl (cI, 10, .inl (σ 13))) := rfl
theorem g_M_14 (cI : ClassId) (a : Nat → Nat) (σ : qM) : (p_M cI a σ)[14]? = some (a 14, .inl (cI, 120, .inl (σ 14))) := rfl
theorem g_M_15 (cI : ClassId) (a : Nat → Nat) (σ : qM) : (p_M cI a σ)[15]? = some (a 15, .inl (cI, 121, .inl (σ 15))) := rfl
theorem g_M_16 (cI : ClassId) (a : Nat → Nat) (σ : qM) : (p_M cI a σ)[16]? = some (a 16, .inl (cI, 363, .inl (σ 16))) := rfl
theorem g_M_18 (cI : ClassId) (a : Nat → Nat) (σ : qM) : (p_M cI a σ)[18]? = some (a 18, .inl (cI, 6, .inl (σ 18))) := rfl
theorem g_M_19 (cI : ClassId) (a : Nat → Nat) (σ : qM) : (p_M cI a σ)[19]? = some (a 19, .inl (cI, 360, .inl (σ 19))) := rfl
theorem g_N_0 (cI : ClassId) (a : Nat → Nat) (σ : qM) : (p_N cI a σ)[0]? = some (a 0, .inr (3, [.ref (a 1), .ref (a 8), .ref (a 15), .int (σ 0 3), .int (σ 0 4), .int (σ 0 5), .int (σ 0 6), .int (σ 0 7), .int (σ 0 8)])) := rfl
theorem g_N_1 (cI : ClassId) (a : Nat → Nat) (σ : qM) : (p_N cI a σ)[1]? = some (a 1, .inr (4, [.ref (a 2), .ref (a 3), .ref (a 4), .ref (a 5), .ref (a 6), .ref (a 7)])) := rfl
theorem g_N_2 (cI : ClassId) (a : Nat → Nat) (σ : qM) : (p_N cI a σ)[2]? = some (a 2, .inl (cI, 100, .inl (σ 2))) := rfl
theorem g_N_3 (cI : ClassId) (a : Nat → Nat) (σ : qM) : (p_N cI a σ)[3]? = some (a 3, .inl (cI, 100, .inl (σ 3))) := rfl
theorem g_N_4 (cI : ClassId) (a : Nat → Nat) (σ : qM) : (p_N cI a σ)[4]? = some (a 4, .inl (cI, 100, .inl (σ 4))) := rfl
theorem g_N_5 (cI : ClassId) (a : Nat → Nat) (σ : qM) : (p_N cI a σ)[5]? = some (a 5, .inl (cI, 100, .inl (σ 5))) := rfl
theorem g_N_8 (cI : ClassId) (a : Nat → Nat) (σ : qM) : (p_N cI a σ)[8]? = some (a 8, .inr (4, [.ref (a 9), .ref (a 10), .ref (a 11), .ref (a 12), .ref (a 13), .ref (a 14)])) := rfl
theorem g_N_9 (cI : ClassId) (a : Nat → Nat) (σ : qM) : (p_N cI a σ)[9]? = some (a 9, .inl (cI, 100, .inl (σ 9))) := rfl
theorem g_N_10 (cI : ClassId) (a : Nat → Nat) (σ : qM) : (p_N cI a σ)[10]? = some (a 10, .inl (cI, 100, .inl (σ 10))) := rfl
theorem g_N_11 (cI : ClassId) (a : Nat → Nat) (σ : qM) : (p_N cI a σ)[11]? = some (a 11, .inl (cI, 100, .inl (σ 11))) := rfl
theorem g_N_13 (cI : ClassId) (a : Nat → Nat) (σ : qM) : (p_N cI a σ)[13]? = some (a 13, .inl (cI, 100, .inl (σ 13))) := rfl
theorem g_N_14 (cI : ClassId) (a : Nat → Nat) (σ : qM) : (p_N cI a σ)[14]? = some (a 14, .inl (cI, 10, .inl (σ 14))) := rfl
theorem g_N_15 (cI : ClassId) (a : Nat → Nat) (σ : qM) : (p_N cI a σ)[15]? = some (a 15, .inr (2, [.ref (a 16), .ref (a 17), .ref (a 18), .ref (a 19), .ref (a 20), .int (σ 15 5)])) := rfl
theorem g_N_16 (cI : ClassId) (a : Nat → Nat) (σ : qM) : (p_N cI a σ)[16]? = some (a 16, .inl (cI, 24, .inl (σ 16))) := rfl
theorem g_N_17 (cI : ClassId) (a : Nat → Nat) (σ : qM) : (p_N cI a σ)[17]? = some (a 17, .inl (cI, 24, .inl (σ 17))) := rfl
theorem g_N_18 (cI : ClassId) (a : Nat → Nat) (σ : qM) : (p_N cI a σ)[18]? = some (a 18, .inl (cI, 24, .inl (σ 18))) := rfl
theorem g_N_19 (cI : ClassId) (a : Nat → Nat) (σ : qM) : (p_N cI a σ)[19]? = some (a 19, .inl (cI, 24, .inl (σ 19))) := rfl
theorem g_NN_0 (cI : ClassId) (a : Nat → Nat) (σ : qM) : (p_NN cI a σ)[0]? = some (a 0, .inr (3, [.ref (a 1), .ref (a 8), .ref (a 15), .int (σ 0 3), .int (σ 0 4), .int (σ 0 5), .int (σ 0 6), .int (σ 0 7), .int (σ 0 8)])) := rfl
theorem g_NN_21 (cI : ClassId) (a : Nat → Nat) (σ : qM) : (p_NN cI a σ)[21]? = some (a 21, .inr (3, [.ref (a 22), .ref (a 29), .ref (a 36), .int (σ 21 3), .int (σ 21 4), .int (σ 21 5), .int (σ 21 6), .int (σ 21 7), .int (σ 21 8)])) := rfl
theorem g_P_0 (cI : ClassId) (a : Nat → Nat) (σ : qM) : (p_P cI a σ)[0]? = some (a 0, .inr (5, [.ref (a 1), .int (σ 0 1), .ref (a 2), .ref (a 3), .int (σ 0 4), .int (σ 0 5)])) := rfl
theorem g_P_1 (cI : ClassId) (a : Nat → Nat) (σ : qM) : (p_P cI a σ)[1]? = some (a 1, .inl (cI, 120, .inl (σ 1))) := rfl
theorem g_P_2 (cI : ClassId) (a : Nat → Nat) (σ : qM) : (p_P cI a σ)[2]? = some (a 2, .inl (cI, 120, .inl (σ 2))) := rfl
theorem g_P_3 (cI : ClassId) (a : Nat → Nat) (σ : qM) : (p_P cI a σ)[3]? = some (a 3, .inl (cI, 360, .inl (σ 3))) := rfl
theorem g_RR_0 (cI : ClassId) (a : Nat → Nat) (σ : qM) : (p_RR cI a σ)[0]? = some (a 0, .inl (cI, 650, .inl (σ 0))) := rfl
theorem g_RR_1 (cI : ClassId) (a : Nat → Nat) (σ : qM) : (p_RR cI a σ)[1]? = some (a 1, .inl (cI, 650, .inl (σ 1))) := rfl
theorem g_T_0 (cI : ClassId) (a : Nat → Nat) (σ : qM) : (p_T cI a σ)[0]? = some (a 0, .inr (4, [.ref (a 1), .ref (a 2), .ref (a 3), .ref (a 4), .ref (a 5), .ref (a 6)])) := rfl
theorem g_T_1 (cI : ClassId) (a : Nat → Nat) (σ : qM) : (p_T cI a σ)[1]? = some (a 1, .inl (cI, 100, .inl (σ 1))) := rfl
theorem g_T_2 (cI : ClassId) (a : Nat → Nat) (σ : qM) : (p_T cI a σ)[2]? = some (a 2, .inl (cI, 100, .inl (σ 2))) := rfl
theorem g_T_3 (cI : ClassId) (a : Nat → Nat) (σ : qM) : (p_T cI a σ)[3]? = some (a 3, .inl (cI, 100, .inl (σ 3))) := rfl
theorem g_T_4 (cI : ClassId) (a : Nat → Nat) (σ : qM) : (p_T cI a σ)[4]? = some (a 4, .inl (cI, 100, .inl (σ 4))) := rfl
theorem g_T_5 (cI : ClassId) (a : Nat → Nat) (σ : qM) : (p_T cI a σ)[5]? = some (a 5, .inl (cI, 100, .inl (σ 5))) := rfl
theorem g_T_6 (cI : ClassId) (a : Nat → Nat) (σ : qM) : (p_T cI a σ)[6]? = some (a 6, .inl (cI, 10, .inl (σ 6))) := rfl
theorem g_TT_0 (cI : ClassId) (a : Nat → Nat) (σ : qM) : (p_TT cI a σ)[0]? = some (a 0, .inr (4, [.ref (a 1), .ref (a 2), .ref (a 3), .ref (a 4), .ref (a 5), .ref (a 6)])) := rfl
theorem g_TT_1 (cI : ClassId) (a : Nat → Nat) (σ : qM) : (p_TT cI a σ)[1]? = some (a 1, .inl (cI, 100, .inl (σ 1))) := rfl
theorem g_TT_2 (cI : ClassId) (a : Nat → Nat) (σ : qM) : (p_TT cI a σ)[2]? = some (a 2, .inl (cI, 100, .inl (σ 2))) := rfl
theorem g_TT_3 (cI : ClassId) (a : Nat → Nat) (σ : qM) : (p_TT cI a σ)[3]? = some (a 3, .inl (cI, 100, .inl (σ 3))) := rfl
theorem g_TT_4 (cI : ClassId) (a : Nat → Nat) (σ : qM) : (p_TT cI a σ)[4]? = some (a 4, .inl (cI, 100, .inl (σ 4))) := rfl
theorem g_TT_5 (cI : ClassId) (a : Nat → Nat) (σ : qM) : (p_TT cI a σ)[5]? = some (a 5, .inl (cI, 100, .inl (σ 5))) := rfl
theorem g_TT_6 (cI : ClassId) (a : Nat → Nat) (σ : qM) : (p_TT cI a σ)[6]? = some (a 6, .inl (cI, 10, .inl (σ 6))) := rfl
theorem g_TT_7 (cI : ClassId) (a : Nat → Nat) (σ : qM) : (p_TT cI a σ)[7]? = some (a 7, .inr (4, [.ref (a 8), .ref (a 9), .ref (a 10), .ref (a 11), .ref (a 12), .ref (a 13)])) := rfl
theorem g_TT_8 (cI : ClassId) (a : Nat → Nat) (σ : qM) : (p_TT cI a σ)[8]? = some (a 8, .inl (cI, 100, .inl (σ 8))) := rfl
theorem g_TT_9 (cI : ClassId) (a : Nat → Nat) (σ : qM) : (p_TT cI a σ)[9]? = some (a 9, .inl (cI, 100, .inl (σ 9))) := rfl
theorem g_TT_10 (cI : ClassId) (a : Nat → Nat) (σ : qM) : (p_TT cI a σ)[10]? = some (a 10, .inl (cI, 100, .inl (σ 10))) := rfl
theorem g_TT_11 (cI : ClassId) (a : Nat → Nat) (σ : qM) : (p_TT cI a σ)[11]? = some (a 11, .inl (cI, 100, .inl (σ 11))) := rfl
theorem g_TT_12 (cI : ClassId) (a : Nat → Nat) (σ : qM) : (p_TT cI a σ)[12]? = some (a 12, .inl (cI, 100, .inl (σ 12))) := rfl
theorem g_TT_13 (cI : ClassId) (a : Nat → Nat) (σ : qM) : (p_TT cI a σ)[13]? = some (a 13, .inl (cI, 10, .inl (σ 13))) := rfl
theorem g_V_0 (cI cO : ClassId) (a : Nat → Nat) (σ : qM) : (p_V cI cO a σ)[0]? = some (a 0, .inr (7, [.ref (a 1), .ref (a 22), .ref (a 43), .ref (a 64), .ref (a 85), .ref (a 87), .ref (a 89), .ref (a 93), .int (σ 0 8)])) := rfl
theorem g_V_1 (cI cO : ClassId) (a : Nat → Nat) (σ : qM) : (p_V cI cO a σ)[1]? = some (a 1, .inr (3, [.ref (a 2), .ref (a 9), .ref (a 16), .int (σ 1 3), .int (σ 1 4), .int (σ 1 5), .int (σ 1 6), .int (σ 1 7), .int (σ 1 8)])) := rfl
theorem g_V_2 (cI cO : ClassId) (a : Nat → Nat) (σ : qM) : (p_V cI cO a σ)[2]? = some (a 2, .inr (4, [.ref (a 3), .ref (a 4), .ref (a 5), .ref (a 6), .ref (a 7), .ref (a 8)])) := rfl
theorem g_V_3 (cI cO : ClassId) (a : Nat → Nat) (σ : qM) : (p_V cI cO a σ)[3]? = some (a 3, .inl (cI, 100, .inl (σ 3))) := rfl
theorem g_V_4 (cI cO : ClassId) (a : Nat → Nat) (σ : qM) : (p_V cI cO a σ)[4]? = some (a 4, .inl (cI, 100, .inl (σ 4))) := rfl
theorem g_V_5 (cI cO : ClassId) (a : Nat → Nat) (σ : qM) : (p_V cI cO a σ)[5]? = some (a 5, .inl (cI, 100, .inl (σ 5))) := rfl
theorem g_V_6 (cI cO : ClassId) (a : Nat → Nat) (σ : qM) : (p_V cI cO a σ)[6]? = some (a 6, .inl (cI, 100, .inl (σ 6))) := rfl
theorem g_V_7 (cI cO : ClassId) (a : Nat → Nat) (σ : qM) : (p_V cI cO a σ)[7]? = some (a 7, .inl (cI, 100, .inl (σ 7))) := rfl
theorem g_V_8 (cI cO : ClassId) (a : Nat → Nat) (σ : qM) : (p_V cI cO a σ)[8]? = some (a 8, .inl (cI, 10, .inl (σ 8))) := rfl
theorem g_V_16 (cI cO : ClassId) (a : Nat → Nat) (σ : qM) : (p_V cI cO a σ)[16]? = some (a 16, .inr (2, [.ref (a 17), .ref (a 18), .ref (a 19), .ref (a 20), .ref (a 21), .int (σ 16 5)])) := rfl
theorem g_V_17 (cI cO : ClassId) (a : Nat → Nat) (σ : qM) : (p_V cI cO a σ)[17]? = some (a 17, .inl (cI, 24, .inl (σ 17))) := rfl
theorem g_V_18 (cI cO : ClassId) (a : Nat → Nat) (σ : qM) : (p_V cI cO a σ)[18]? = some (a 18, .inl (cI, 24, .inl (σ 18))) := rfl
theorem g_V_19 (cI cO : ClassId) (a : Nat → Nat) (σ : qM) : (p_V cI cO a σ)[19]? = some (a 19, .inl (cI, 24, .inl (σ 19))) := rfl
theorem g_V_20 (cI cO : ClassId) (a : Nat → Nat) (σ : qM) : (p_V cI cO a σ)[20]? = some (a 20, .inl (cI, 24, .inl (σ 20))) := rfl
theorem g_V_22 (cI cO : ClassId) (a : Nat → Nat) (σ : qM) : (p_V cI cO a σ)[22]? = some (a 22, .inr (3, [.ref (a 23), .ref (a 30), .ref (a 37), .int (σ 22 3), .int (σ 22 4), .int (σ 22 5), .int (σ 22 6), .int (σ 22 7), .int (σ 22 8)])) := rfl
theorem g_V_23 (cI cO : ClassId) (a : Nat → Nat) (σ : qM) : (p_V cI cO a σ)[23]? = some (a 23, .inr (4, [.ref (a 24), .ref (a 25), .ref (a 26), .ref (a 27), .ref (a 28), .ref (a 29)])) := rfl
theorem g_V_24 (cI cO : ClassId) (a : Nat → Nat) (σ : qM) : (p_V cI cO a σ)[24]? = some (a 24, .inl (cI, 100, .inl (σ 24))) := rfl
theorem g_V_25 (cI cO : ClassId) (a : Nat → Nat) (σ : qM) : (p_V cI cO a σ)[25]? = some (a 25, .inl (cI, 100, .inl (σ 25))) := rfl
theorem g_V_85 (cI cO : ClassId) (a : Nat → Nat) (σ : qM) : (p_V cI cO a σ)[85]? = some (a 85, .inr (6, [.ref (a 86), .int (σ 85 1), .int (σ 85 2)])) := rfl
theorem g_V_86 (cI cO : ClassId) (a : Nat → Nat) (σ : qM) : (p_V cI cO a σ)[86]? = some (a 86, .inl (cI, 10, .inl (σ 86))) := rfl
theorem g_V_87 (cI cO : ClassId) (a : Nat → Nat) (σ : qM) : (p_V cI cO a σ)[87]? = some (a 87, .inr (0, [.ref (a 88)])) := rfl
theorem g_V_88 (cI cO : ClassId) (a : Nat → Nat) (σ : qM) : (p_V cI cO a σ)[88]? = some (a 88, .inl (cI, 10, .inl (σ 88))) := rfl
theorem g_V_89 (cI cO : ClassId) (a : Nat → Nat) (σ : qM) : (p_V cI cO a σ)[89]? = some (a 89, .inr (5, [.ref (a 90), .int (σ 89 1), .ref (a 91), .ref (a 92), .int (σ 89 4), .int (σ 89 5)])) := rfl
theorem g_V_91 (cI cO : ClassId) (a : Nat → Nat) (σ : qM) : (p_V cI cO a σ)[91]? = some (a 91, .inl (cI, 120, .inl (σ 91))) := rfl
theorem g_V_92 (cI cO : ClassId) (a : Nat → Nat) (σ : qM) : (p_V cI cO a σ)[92]? = some (a 92, .inl (cI, 360, .inl (σ 92))) := rfl
theorem g_V_93 (cI cO : ClassId) (a : Nat → Nat) (σ : qM) : (p_V cI cO a σ)[93]? = some (a 93, .inl (cO, 6, .inr (.inr (.inr (.inr (q_hf a)))))) := rfl
theorem g_YN_0 (cI : ClassId) (a : Nat → Nat) (σ : qM) : (p_YN cI a σ)[0]? = some (a 0, .inr (6, [.ref (a 1), .int (σ 0 1), .int (σ 0 2)])) := rfl
theorem g_YN_2 (cI : ClassId) (a : Nat → Nat) (σ : qM) : (p_YN cI a σ)[2]? = some (a 2, .inr (3, [.ref (a 3), .ref (a 10), .ref (a 17), .int (σ 2 3), .int (σ 2 4), .int (σ 2 5), .int (σ 2 6), .int (σ 2 7), .int (σ 2 8)])) := rfl
theorem g_YT_0 (cI : ClassId) (a : Nat → Nat) (σ : qM) : (p_YT cI a σ)[0]? = some (a 0, .inr (6, [.ref (a 1), .int (σ 0 1), .int (σ 0 2)])) := rfl
theorem g_YT_1 (cI : ClassId) (a : Nat → Nat) (σ : qM) : (p_YT cI a σ)[1]? = some (a 1, .inl (cI, 10, .inl (σ 1))) := rfl
theorem g_YT_2 (cI : ClassId) (a : Nat → Nat) (σ : qM) : (p_YT cI a σ)[2]? = some (a 2, .inr (4, [.ref (a 3), .ref (a 4), .ref (a 5), .ref (a 6), .ref (a 7), .ref (a 8)])) := rfl
theorem g_YT_4 (cI : ClassId) (a : Nat → Nat) (σ : qM) : (p_YT cI a σ)[4]? = some (a 4, .inl (cI, 100, .inl (σ 4))) := rfl
theorem s_A_0 (cI : ClassId) (n : Nat) (a : Nat → Nat) (σ : qM) (g : Nat → Int32) : (p_A cI n a σ).set 0 (a 0, .inl (cI, n, .inl g)) = p_A cI n a (q_wa σ 0 g) := rfl
theorem s_DL_1 (cI : ClassId) (a : Nat → Nat) (σ : qM) (g : Nat → Int32) : (p_DL cI a σ).set 1 (a 1, .inl (cI, 10, .inl g)) = p_DL cI a (q_wa σ 1 g) := rfl
theorem s_DN_1 (cI : ClassId) (a : Nat → Nat) (σ : qM) (g : Nat → Int32) : (p_DN cI a σ).set 1 (a 1, .inl (cI, 10, .inl g)) = p_DN cI a (q_wa σ 1 g) := rfl
theorem s_H_0_0 (cI : ClassId) (a : Nat → Nat) (σ : qM) (v : Int32) : (p_H cI a σ).set 0 (a 0, .inr (1, [.int (σ 0 0), .int (σ 0 1), .int (σ 0 2), .int (σ 0 3), .int (σ 0 4), .int (σ 0 5), .ref (a 1), .int (σ 0 7)].set 0 (.int v))) = p_H cI a (q_wr σ 0 0 v) := rfl
theorem s_H_0_7 (cI : ClassId) (a : Nat → Nat) (σ : qM) (v : Int32) : (p_H cI a σ).set 0 (a 0, .inr (1, [.int (σ 0 0), .int (σ 0 1), .int (σ 0 2), .int (σ 0 3), .int (σ 0 4), .int (σ 0 5), .ref (a 1), .int (σ 0 7)].set 7 (.int v))) = p_H cI a (q_wr σ 0 7 v) := rfl
theorem s_HT_0_0 (cI : ClassId) (a : Nat → Nat) (σ : qM) (v : Int32) : (p_HT cI a σ).set 0 (a 0, .inr (1, [.int (σ 0 0), .int (σ 0 1), .int (σ 0 2), .int (σ 0 3), .int (σ 0 4), .int (σ 0 5), .ref (a 1), .int (σ 0 7)].set 0 (.int v))) = p_HT cI a (q_wr σ 0 0 v) := rfl
theorem s_HT_0_1 (cI : ClassId) (a : Nat → Nat) (σ : qM) (v : Int32) : (p_HT cI a σ).set 0 (a 0, .inr (1, [.int (σ 0 0), .int (σ 0 1), .int (σ 0 2), .int (σ 0 3), .int (σ 0 4), .int (σ 0 5), .ref (a 1), .int (σ 0 7)].set 1 (.int v))) = p_HT cI a (q_wr σ 0 1 v) := rfl
theorem s_HT_0_2 (cI : ClassId) (a : Nat → Nat) (σ : qM) (v : Int32) : (p_HT cI a σ).set 0 (a 0, .inr (1, [.int (σ 0 0), .int (σ 0 1), .int (σ 0 2), .int (σ 0 3), .int (σ 0 4), .int (σ 0 5), .ref (a 1), .int (σ 0 7)].set 2 (.int v))) = p_HT cI a (q_wr σ 0 2 v) := rfl
theorem s_HT_0_3 (cI : ClassId) (a : Nat → Nat) (σ : qM) (v : Int32) : (p_HT cI a σ).set 0 (a 0, .inr (1, [.int (σ 0 0), .int (σ 0 1), .int (σ 0 2), .int (σ 0 3), .int (σ 0 4), .int (σ 0 5), .ref (a 1), .int (σ 0 7)].set 3 (.int v))) = p_HT cI a (q_wr σ 0 3 v) := rfl
theorem s_HT_0_4 (cI : ClassId) (a : Nat → Nat) (σ : qM) (v : Int32) : (p_HT cI a σ).set 0 (a 0, .inr (1, [.int (σ 0 0), .int (σ 0 1), .int (σ 0 2), .int (σ 0 3), .int (σ 0 4), .int (σ 0 5), .ref (a 1), .int (σ 0 7)].set 4 (.int v))) = p_HT cI a (q_wr σ 0 4 v) := rfl
theorem s_HT_0_5 (cI : ClassId) (a : Nat → Nat) (σ : qM) (v : Int32) : (p_HT cI a σ).set 0 (a 0, .inr (1, [.int (σ 0 0), .int (σ 0 1), .int (σ 0 2), .int (σ 0 3), .int (σ 0 4), .int (σ 0 5), .ref (a 1), .int (σ 0 7)].set 5 (.int v))) = p_HT cI a (q_wr σ 0 5 v) := rfl
theorem s_L_0_5 (cI : ClassId) (a : Nat → Nat) (σ : qM) (v : Int32) : (p_L cI a σ).set 0 (a 0, .inr (2, [.ref (a 1), .ref (a 2), .ref (a 3), .ref (a 4), .ref (a 5), .int (σ 0 5)].set 5 (.int v))) = p_L cI a (q_wr σ 0 5 v) := rfl
theorem s_L_1 (cI : ClassId) (a : Nat → Nat) (σ : qM) (g : Nat → Int32) : (p_L cI a σ).set 1 (a 1, .inl (cI, 24, .inl g)) = p_L cI a (q_wa σ 1 g) := rfl
theorem s_L_2 (cI : ClassId) (a : Nat → Nat) (σ : qM) (g : Nat → Int32) : (p_L cI a σ).set 2 (a 2, .inl (cI, 24, .inl g)) = p_L cI a (q_wa σ 2 g) := rfl
theorem s_L_3 (cI : ClassId) (a : Nat → Nat) (σ : qM) (g : Nat → Int32) : (p_L cI a σ).set 3 (a 3, .inl (cI, 24, .inl g)) = p_L cI a (q_wa σ 3 g) := rfl
theorem s_L_4 (cI : ClassId) (a : Nat → Nat) (σ : qM) (g : Nat → Int32) : (p_L cI a σ).set 4 (a 4, .inl (cI, 24, .inl g)) = p_L cI a (q_wa σ 4 g) := rfl
theorem s_L_5 (cI : ClassId) (a : Nat → Nat) (σ : qM) (g : Nat → Int32) : (p_L cI a σ).set 5 (a 5, .inl (cI, 100, .inl g)) = p_L cI a (q_wa σ 5 g) := rfl
theorem s_LL_0_5 (cI : ClassId) (a : Nat → Nat) (σ : qM) (v : Int32) : (p_LL cI a σ).set 0 (a 0, .inr (2, [.ref (a 1), .ref (a 2), .ref (a 3), .ref (a 4), .ref (a 5), .int (σ 0 5)].set 5 (.int v))) = p_LL cI a (q_wr σ 0 5 v) := rfl
theorem s_LL_1 (cI : ClassId) (a : Nat → Nat) (σ : qM) (g : Nat → Int32) : (p_LL cI a σ).set 1 (a 1, .inl (cI, 24, .inl g)) = p_LL cI a (q_wa σ 1 g) := rfl
theorem s_LL_2 (cI : ClassId) (a : Nat → Nat) (σ : qM) (g : Nat → Int32) : (p_LL cI a σ).set 2 (a 2, .inl (cI, 24, .inl g)) = p_LL cI a (q_wa σ 2 g) := rfl
theorem s_LL_3 (cI : ClassId) (a : Nat → Nat) (σ : qM) (g : Nat → Int32) : (p_LL cI a σ).set 3 (a 3, .inl (cI, 24, .inl g)) = p_LL cI a (q_wa σ 3 g) := rfl
theorem s_LL_4 (cI : ClassId) (a : Nat → Nat) (σ : qM) (g : Nat → Int32) : (p_LL cI a σ).set 4 (a 4, .inl (cI, 24, .inl g)) = p_LL cI a (q_wa σ 4 g) := rfl
theorem s_LL_5 (cI : ClassId) (a : Nat → Nat) (σ : qM) (g : Nat → Int32) : (p_LL cI a σ).set 5 (a 5, .inl (cI, 100, .inl g)) = p_LL cI a (q_wa σ 5 g) := rfl
theorem s_M_0_10 (cI : ClassId) (a : Nat → Nat) (σ : qM) (v : Int32) : (p_M cI a σ).set 0 (a 0, .inr (8, [.int (σ 0 0), .ref (a 1), .ref (a 2), .ref (a 3), .ref (a 4), .ref (a 5), .ref (a 6), .ref (a 7), .ref (a 8), .ref (a 9), .int (σ 0 10), .ref (a 10), .ref (a 11), .ref (a 12), .int (σ 0 14), .ref (a 13), .ref (a 14), .int (σ 0 17), .int (σ 0 18), .int (σ 0 19), .ref (a 15), .ref (a 16), .int (σ 0 22), .ref (a 17), .ref (a 18), .ref (a 19)].set 10 (.int v))) = p_M cI a (q_wr σ 0 10 v) := rfl
theorem s_M_0_14 (cI : ClassId) (a : Nat → Nat) (σ : qM) (v : Int32) : (p_M cI a σ).set 0 (a 0, .inr (8, [.int (σ 0 0), .ref (a 1), .ref (a 2), .ref (a 3), .ref (a 4), .ref (a 5), .ref (a 6), .ref (a 7), .ref (a 8), .ref (a 9), .int (σ 0 10), .ref (a 10), .ref (a 11), .ref (a 12), .int (σ 0 14), .ref (a 13), .ref (a 14), .int (σ 0 17), .int (σ 0 18), .int (σ 0 19), .ref (a 15), .ref (a 16), .int (σ 0 22), .ref (a 17), .ref (a 18), .ref (a 19)].set 14 (.int v))) = p_M cI a (q_wr σ 0 14 v) := rfl
theorem s_M_0_17 (cI : ClassId) (a : Nat → Nat) (σ : qM) (v : Int32) : (p_M cI a σ).set 0 (a 0, .inr (8, [.int (σ 0 0), .ref (a 1), .ref (a 2), .ref (a 3), .ref (a 4), .ref (a 5), .ref (a 6), .ref (a 7), .ref (a 8), .ref (a 9), .int (σ 0 10), .ref (a 10), .ref (a 11), .ref (a 12), .int (σ 0 14), .ref (a 13), .ref (a 14), .int (σ 0 17), .int (σ 0 18), .int (σ 0 19), .ref (a 15), .ref (a 16), .int (σ 0 22), .ref (a 17), .ref (a 18), .ref (a 19)].set 17 (.int v))) = p_M cI a (q_wr σ 0 17 v) := rfl
theorem s_M_0_18 (cI : ClassId) (a : Nat → Nat) (σ : qM) (v : Int32) : (p_M cI a σ).set 0 (a 0, .inr (8, [.int (σ 0 0), .ref (a 1), .ref (a 2), .ref (a 3), .ref (a 4), .ref (a 5), .ref (a 6), .ref (a 7), .ref (a 8), .ref (a 9), .int (σ 0 10), .ref (a 10), .ref (a 11), .ref (a 12), .int (σ 0 14), .ref (a 13), .ref (a 14), .int (σ 0 17), .int (σ 0 18), .int (σ 0 19), .ref (a 15), .ref (a 16), .int (σ 0 22), .ref (a 17), .ref (a 18), .ref (a 19)].set 18 (.int v))) = p_M cI a (q_wr σ 0 18 v) := rfl
theorem s_M_0_19 (cI : ClassId) (a : Nat → Nat) (σ : qM) (v : Int32) : (p_M cI a σ).set 0 (a 0, .inr (8, [.int (σ 0 0), .ref (a 1), .ref (a 2), .ref (a 3), .ref (a 4), .ref (a 5), .ref (a 6), .ref (a 7), .ref (a 8), .ref (a 9), .int (σ 0 10), .ref (a 10), .ref (a 11), .ref (a 12), .int (σ 0 14), .ref (a 13), .ref (a 14), .int (σ 0 17), .int (σ 0 18), .int (σ 0 19), .ref (a 15), .ref (a 16), .int (σ 0 22), .ref (a 17), .ref (a 18), .ref (a 19)].set 19 (.int v))) = p_M cI a (q_wr σ 0 19 v) := rfl
theorem s_M_0_22 (cI : ClassId) (a : Nat → Nat) (σ : qM) (v : Int32) : (p_M cI a σ).set 0 (a 0, .inr (8, [.int (σ 0 0), .ref (a 1), .ref (a 2), .ref (a 3), .ref (a 4), .ref (a 5), .ref (a 6), .ref (a 7), .ref (a 8), .ref (a 9), .int (σ 0 10), .ref (a 10), .ref (a 11), .ref (a 12), .int (σ 0 14), .ref (a 13), .ref (a 14), .int (σ 0 17), .int (σ 0 18), .int (σ 0 19), .ref (a 15), .ref (a 16), .int (σ 0 22), .ref (a 17), .ref (a 18), .ref (a 19)].set 22 (.int v))) = p_M cI a (q_wr σ 0 22 v) := rfl
theorem s_M_1 (cI : ClassId) (a : Nat → Nat) (σ : qM) (g : Nat → Int32) : (p_M cI a σ).set 1 (a 1, .inl (cI, 650, .inl g)) = p_M cI a (q_wa σ 1 g) := rfl
theorem s_M_4 (cI : ClassId) (a : Nat → Nat) (σ : qM) (g : Nat → Int32) : (p_M cI a σ).set 4 (a 4, .inl (cI, 1000, .inl g)) = p_M cI a (q_wa σ 4 g) := rfl
theorem s_M_5 (cI : ClassId) (a : Nat → Nat) (σ : qM) (g : Nat → Int32) : (p_M cI a σ).set 5 (a 5, .inl (cI, 1000, .inl g)) = p_M cI a (q_wa σ 5 g) := rfl
theorem s_M_6 (cI : ClassId) (a : Nat → Nat) (σ : qM) (g : Nat → Int32) : (p_M cI a σ).set 6 (a 6, .inl (cI, 1000, .inl g)) = p_M cI a (q_wa σ 6 g) := rfl
theorem s_M_7 (cI : ClassId) (a : Nat → Nat) (σ : qM) (g : Nat → Int32) : (p_M cI a σ).set 7 (a 7, .inl (cI, 1000, .inl g)) = p_M cI a (q_wa σ 7 g) := rfl
theorem s_M_8 (cI : ClassId) (a : Nat → Nat) (σ : qM) (g : Nat → Int32) : (p_M cI a σ).set 8 (a 8, .inl (cI, 1000, .inl g)) = p_M cI a (q_wa σ 8 g) := rfl
theorem s_M_9 (cI : ClassId) (a : Nat → Nat) (σ : qM) (g : Nat → Int32) : (p_M cI a σ).set 9 (a 9, .inl (cI, 1000, .inl g)) = p_M cI a (q_wa σ 9 g) := rfl
theorem s_M_10 (cI : ClassId) (a : Nat → Nat) (σ : qM) (g : Nat → Int32) : (p_M cI a σ).set 10 (a 10, .inl (cI, 10, .inl g)) = p_M cI a (q_wa σ 10 g) := rfl
theorem s_M_11 (cI : ClassId) (a : Nat → Nat) (σ : qM) (g : Nat → Int32) : (p_M cI a σ).set 11 (a 11, .inl (cI, 100, .inl g)) = p_M cI a (q_wa σ 11 g) := rfl
theorem s_M_12 (cI : ClassId) (a : Nat → Nat) (σ : qM) (g : Nat → Int32) : (p_M cI a σ).set 12 (a 12, .inl (cI, 10, .inl g)) = p_M cI a (q_wa σ 12 g) := rfl
theorem s_M_13 (cI : ClassId) (a : Nat → Nat) (σ : qM) (g : Nat → Int32) : (p_M cI a σ).set 13 (a 13, .inl (cI, 10, .inl g)) = p_M cI a (q_wa σ 13 g) := rfl
theorem s_M_14 (cI : ClassId) (a : Nat → Nat) (σ : qM) (g : Nat → Int32) : (p_M cI a σ).set 14 (a 14, .inl (cI, 120, .inl g)) = p_M cI a (q_wa σ 14 g) := rfl
theorem s_M_15 (cI : ClassId) (a : Nat → Nat) (σ : qM) (g : Nat → Int32) : (p_M cI a σ).set 15 (a 15, .inl (cI, 121, .inl g)) = p_M cI a (q_wa σ 15 g) := rfl
theorem s_M_16 (cI : ClassId) (a : Nat → Nat) (σ : qM) (g : Nat → Int32) : (p_M cI a σ).set 16 (a 16, .inl (cI, 363, .inl g)) = p_M cI a (q_wa σ 16 g) := rfl
theorem s_M_18 (cI : ClassId) (a : Nat → Nat) (σ : qM) (g : Nat → Int32) : (p_M cI a σ).set 18 (a 18, .inl (cI, 6, .inl g)) = p_M cI a (q_wa σ 18 g) := rfl
theorem s_M_19 (cI : ClassId) (a : Nat → Nat) (σ : qM) (g : Nat → Int32) : (p_M cI a σ).set 19 (a 19, .inl (cI, 360, .inl g)) = p_M cI a (q_wa σ 19 g) := rfl
theorem s_N_0_3 (cI : ClassId) (a : Nat → Nat) (σ : qM) (v : Int32) : (p_N cI a σ).set 0 (a 0, .inr (3, [.ref (a 1), .ref (a 8), .ref (a 15), .int (σ 0 3), .int (σ 0 4), .int (σ 0 5), .int (σ 0 6), .int (σ 0 7), .int (σ 0 8)].set 3 (.int v))) = p_N cI a (q_wr σ 0 3 v) := rfl
theorem s_N_0_7 (cI : ClassId) (a : Nat → Nat) (σ : qM) (v : Int32) : (p_N cI a σ).set 0 (a 0, .inr (3, [.ref (a 1), .ref (a 8), .ref (a 15), .int (σ 0 3), .int (σ 0 4), .int (σ 0 5), .int (σ 0 6), .int (σ 0 7), .int (σ 0 8)].set 7 (.int v))) = p_N cI a (q_wr σ 0 7 v) := rfl
theorem s_N_0_8 (cI : ClassId) (a : Nat → Nat) (σ : qM) (v : Int32) : (p_N cI a σ).set 0 (a 0, .inr (3, [.ref (a 1), .ref (a 8), .ref (a 15), .int (σ 0 3), .int (σ 0 4), .int (σ 0 5), .int (σ 0 6), .int (σ 0 7), .int (σ 0 8)].set 8 (.int v))) = p_N cI a (q_wr σ 0 8 v) := rfl
theorem s_N_2 (cI : ClassId) (a : Nat → Nat) (σ : qM) (g : Nat → Int32) : (p_N cI a σ).set 2 (a 2, .inl (cI, 100, .inl g)) = p_N cI a (q_wa σ 2 g) := rfl
theorem s_N_3 (cI : ClassId) (a : Nat → Nat) (σ : qM) (g : Nat → Int32) : (p_N cI a σ).set 3 (a 3, .inl (cI, 100, .inl g)) = p_N cI a (q_wa σ 3 g) := rfl
theorem s_N_4 (cI : ClassId) (a : Nat → Nat) (σ : qM) (g : Nat → Int32) : (p_N cI a σ).set 4 (a 4, .inl (cI, 100, .inl g)) = p_N cI a (q_wa σ 4 g) := rfl
theorem s_N_5 (cI : ClassId) (a : Nat → Nat) (σ : qM) (g : Nat → Int32) : (p_N cI a σ).set 5 (a 5, .inl (cI, 100, .inl g)) = p_N cI a (q_wa σ 5 g) := rfl
theorem s_N_19 (cI : ClassId) (a : Nat → Nat) (σ : qM) (g : Nat → Int32) : (p_N cI a σ).set 19 (a 19, .inl (cI, 24, .inl g)) = p_N cI a (q_wa σ 19 g) := rfl
theorem s_NN_0_3 (cI : ClassId) (a : Nat → Nat) (σ : qM) (v : Int32) : (p_NN cI a σ).set 0 (a 0, .inr (3, [.ref (a 1), .ref (a 8), .ref (a 15), .int (σ 0 3), .int (σ 0 4), .int (σ 0 5), .int (σ 0 6), .int (σ 0 7), .int (σ 0 8)].set 3 (.int v))) = p_NN cI a (q_wr σ 0 3 v) := rfl
theorem s_NN_0_4 (cI : ClassId) (a : Nat → Nat) (σ : qM) (v : Int32) : (p_NN cI a σ).set 0 (a 0, .inr (3, [.ref (a 1), .ref (a 8), .ref (a 15), .int (σ 0 3), .int (σ 0 4), .int (σ 0 5), .int (σ 0 6), .int (σ 0 7), .int (σ 0 8)].set 4 (.int v))) = p_NN cI a (q_wr σ 0 4 v) := rfl
theorem s_NN_0_5 (cI : ClassId) (a : Nat → Nat) (σ : qM) (v : Int32) : (p_NN cI a σ).set 0 (a 0, .inr (3, [.ref (a 1), .ref (a 8), .ref (a 15), .int (σ 0 3), .int (σ 0 4), .int (σ 0 5), .int (σ 0 6), .int (σ 0 7), .int (σ 0 8)].set 5 (.int v))) = p_NN cI a (q_wr σ 0 5 v) := rfl
theorem s_NN_0_6 (cI : ClassId) (a : Nat → Nat) (σ : qM) (v : Int32) : (p_NN cI a σ).set 0 (a 0, .inr (3, [.ref (a 1), .ref (a 8), .ref (a 15), .int (σ 0 3), .int (σ 0 4), .int (σ 0 5), .int (σ 0 6), .int (σ 0 7), .int (σ 0 8)].set 6 (.int v))) = p_NN cI a (q_wr σ 0 6 v) := rfl
theorem s_NN_0_7 (cI : ClassId) (a : Nat → Nat) (σ : qM) (v : Int32) : (p_NN cI a σ).set 0 (a 0, .inr (3, [.ref (a 1), .ref (a 8), .ref (a 15), .int (σ 0 3), .int (σ 0 4), .int (σ 0 5), .int (σ 0 6), .int (σ 0 7), .int (σ 0 8)].set 7 (.int v))) = p_NN cI a (q_wr σ 0 7 v) := rfl
theorem s_NN_0_8 (cI : ClassId) (a : Nat → Nat) (σ : qM) (v : Int32) : (p_NN cI a σ).set 0 (a 0, .inr (3, [.ref (a 1), .ref (a 8), .ref (a 15), .int (σ 0 3), .int (σ 0 4), .int (σ 0 5), .int (σ 0 6), .int (σ 0 7), .int (σ 0 8)].set 8 (.int v))) = p_NN cI a (q_wr σ 0 8 v) := rfl
theorem s_P_0_1 (cI : ClassId) (a : Nat → Nat) (σ : qM) (v : Int32) : (p_P cI a σ).set 0 (a 0, .inr (5, [.ref (a 1), .int (σ 0 1), .ref (a 2), .ref (a 3), .int (σ 0 4), .int (σ 0 5)].set 1 (.int v))) = p_P cI a (q_wr σ 0 1 v) := rfl
theorem s_P_0_4 (cI : ClassId) (a : Nat → Nat) (σ : qM) (v : Int32) : (p_P cI a σ).set 0 (a 0, .inr (5, [.ref (a 1), .int (σ 0 1), .ref (a 2), .ref (a 3), .int (σ 0 4), .int (σ 0 5)].set 4 (.int v))) = p_P cI a (q_wr σ 0 4 v) := rfl
theorem s_P_0_5 (cI : ClassId) (a : Nat → Nat) (σ : qM) (v : Int32) : (p_P cI a σ).set 0 (a 0, .inr (5, [.ref (a 1), .int (σ 0 1), .ref (a 2), .ref (a 3), .int (σ 0 4), .int (σ 0 5)].set 5 (.int v))) = p_P cI a (q_wr σ 0 5 v) := rfl
theorem s_P_1 (cI : ClassId) (a : Nat → Nat) (σ : qM) (g : Nat → Int32) : (p_P cI a σ).set 1 (a 1, .inl (cI, 120, .inl g)) = p_P cI a (q_wa σ 1 g) := rfl
theorem s_P_2 (cI : ClassId) (a : Nat → Nat) (σ : qM) (g : Nat → Int32) : (p_P cI a σ).set 2 (a 2, .inl (cI, 120, .inl g)) = p_P cI a (q_wa σ 2 g) := rfl
theorem s_P_3 (cI : ClassId) (a : Nat → Nat) (σ : qM) (g : Nat → Int32) : (p_P cI a σ).set 3 (a 3, .inl (cI, 360, .inl g)) = p_P cI a (q_wa σ 3 g) := rfl
theorem s_RR_1 (cI : ClassId) (a : Nat → Nat) (σ : qM) (g : Nat → Int32) : (p_RR cI a σ).set 1 (a 1, .inl (cI, 650, .inl g)) = p_RR cI a (q_wa σ 1 g) := rfl
theorem s_T_1 (cI : ClassId) (a : Nat → Nat) (σ : qM) (g : Nat → Int32) : (p_T cI a σ).set 1 (a 1, .inl (cI, 100, .inl g)) = p_T cI a (q_wa σ 1 g) := rfl
theorem s_T_2 (cI : ClassId) (a : Nat → Nat) (σ : qM) (g : Nat → Int32) : (p_T cI a σ).set 2 (a 2, .inl (cI, 100, .inl g)) = p_T cI a (q_wa σ 2 g) := rfl
theorem s_T_3 (cI : ClassId) (a : Nat → Nat) (σ : qM) (g : Nat → Int32) : (p_T cI a σ).set 3 (a 3, .inl (cI, 100, .inl g)) = p_T cI a (q_wa σ 3 g) := rfl
theorem s_T_4 (cI : ClassId) (a : Nat → Nat) (σ : qM) (g : Nat → Int32) : (p_T cI a σ).set 4 (a 4, .inl (cI, 100, .inl g)) = p_T cI a (q_wa σ 4 g) := rfl
theorem s_T_5 (cI : ClassId) (a : Nat → Nat) (σ : qM) (g : Nat → Int32) : (p_T cI a σ).set 5 (a 5, .inl (cI, 100, .inl g)) = p_T cI a (q_wa σ 5 g) := rfl
theorem s_T_6 (cI : ClassId) (a : Nat → Nat) (σ : qM) (g : Nat → Int32) : (p_T cI a σ).set 6 (a 6, .inl (cI, 10, .inl g)) = p_T cI a (q_wa σ 6 g) := rfl
theorem s_TT_1 (cI : ClassId) (a : Nat → Nat) (σ : qM) (g : Nat → Int32) : (p_TT cI a σ).set 1 (a 1, .inl (cI, 100, .inl g)) = p_TT cI a (q_wa σ 1 g) := rfl
theorem s_TT_2 (cI : ClassId) (a : Nat → Nat) (σ : qM) (g : Nat → Int32) : (p_TT cI a σ).set 2 (a 2, .inl (cI, 100, .inl g)) = p_TT cI a (q_wa σ 2 g) := rfl
theorem s_TT_3 (cI : ClassId) (a : Nat → Nat) (σ : qM) (g : Nat → Int32) : (p_TT cI a σ).set 3 (a 3, .inl (cI, 100, .inl g)) = p_TT cI a (q_wa σ 3 g) := rfl
theorem s_TT_4 (cI : ClassId) (a : Nat → Nat) (σ : qM) (g : Nat → Int32) : (p_TT cI a σ).set 4 (a 4, .inl (cI, 100, .inl g)) = p_TT cI a (q_wa σ 4 g) := rfl
theorem s_TT_5 (cI : ClassId) (a : Nat → Nat) (σ : qM) (g : Nat → Int32) : (p_TT cI a σ).set 5 (a 5, .inl (cI, 100, .inl g)) = p_TT cI a (q_wa σ 5 g) := rfl
theorem s_TT_6 (cI : ClassId) (a : Nat → Nat) (σ : qM) (g : Nat → Int32) : (p_TT cI a σ).set 6 (a 6, .inl (cI, 10, .inl g)) = p_TT cI a (q_wa σ 6 g) := rfl
theorem s_V_0_8 (cI cO : ClassId) (a : Nat → Nat) (σ : qM) (v : Int32) : (p_V cI cO a σ).set 0 (a 0, .inr (7, [.ref (a 1), .ref (a 22), .ref (a 43), .ref (a 64), .ref (a 85), .ref (a 87), .ref (a 89), .ref (a 93), .int (σ 0 8)].set 8 (.int v))) = p_V cI cO a (q_wr σ 0 8 v) := rfl
theorem s_V_1_4 (cI cO : ClassId) (a : Nat → Nat) (σ : qM) (v : Int32) : (p_V cI cO a σ).set 1 (a 1, .inr (3, [.ref (a 2), .ref (a 9), .ref (a 16), .int (σ 1 3), .int (σ 1 4), .int (σ 1 5), .int (σ 1 6), .int (σ 1 7), .int (σ 1 8)].set 4 (.int v))) = p_V cI cO a (q_wr σ 1 4 v) := rfl
theorem s_V_1_5 (cI cO : ClassId) (a : Nat → Nat) (σ : qM) (v : Int32) : (p_V cI cO a σ).set 1 (a 1, .inr (3, [.ref (a 2), .ref (a 9), .ref (a 16), .int (σ 1 3), .int (σ 1 4), .int (σ 1 5), .int (σ 1 6), .int (σ 1 7), .int (σ 1 8)].set 5 (.int v))) = p_V cI cO a (q_wr σ 1 5 v) := rfl
theorem s_V_1_6 (cI cO : ClassId) (a : Nat → Nat) (σ : qM) (v : Int32) : (p_V cI cO a σ).set 1 (a 1, .inr (3, [.ref (a 2), .ref (a 9), .ref (a 16), .int (σ 1 3), .int (σ 1 4), .int (σ 1 5), .int (σ 1 6), .int (σ 1 7), .int (σ 1 8)].set 6 (.int v))) = p_V cI cO a (q_wr σ 1 6 v) := rfl
theorem s_V_19 (cI cO : ClassId) (a : Nat → Nat) (σ : qM) (g : Nat → Int32) : (p_V cI cO a σ).set 19 (a 19, .inl (cI, 24, .inl g)) = p_V cI cO a (q_wa σ 19 g) := rfl
theorem s_V_22_4 (cI cO : ClassId) (a : Nat → Nat) (σ : qM) (v : Int32) : (p_V cI cO a σ).set 22 (a 22, .inr (3, [.ref (a 23), .ref (a 30), .ref (a 37), .int (σ 22 3), .int (σ 22 4), .int (σ 22 5), .int (σ 22 6), .int (σ 22 7), .int (σ 22 8)].set 4 (.int v))) = p_V cI cO a (q_wr σ 22 4 v) := rfl
theorem s_V_22_5 (cI cO : ClassId) (a : Nat → Nat) (σ : qM) (v : Int32) : (p_V cI cO a σ).set 22 (a 22, .inr (3, [.ref (a 23), .ref (a 30), .ref (a 37), .int (σ 22 3), .int (σ 22 4), .int (σ 22 5), .int (σ 22 6), .int (σ 22 7), .int (σ 22 8)].set 5 (.int v))) = p_V cI cO a (q_wr σ 22 5 v) := rfl
theorem s_V_89_1 (cI cO : ClassId) (a : Nat → Nat) (σ : qM) (v : Int32) : (p_V cI cO a σ).set 89 (a 89, .inr (5, [.ref (a 90), .int (σ 89 1), .ref (a 91), .ref (a 92), .int (σ 89 4), .int (σ 89 5)].set 1 (.int v))) = p_V cI cO a (q_wr σ 89 1 v) := rfl
theorem s_YT_0_1 (cI : ClassId) (a : Nat → Nat) (σ : qM) (v : Int32) : (p_YT cI a σ).set 0 (a 0, .inr (6, [.ref (a 1), .int (σ 0 1), .int (σ 0 2)].set 1 (.int v))) = p_YT cI a (q_wr σ 0 1 v) := rfl
theorem s_YT_0_2 (cI : ClassId) (a : Nat → Nat) (σ : qM) (v : Int32) : (p_YT cI a σ).set 0 (a 0, .inr (6, [.ref (a 1), .int (σ 0 1), .int (σ 0 2)].set 2 (.int v))) = p_YT cI a (q_wr σ 0 2 v) := rfl
theorem s_YT_1 (cI : ClassId) (a : Nat → Nat) (σ : qM) (g : Nat → Int32) : (p_YT cI a σ).set 1 (a 1, .inl (cI, 10, .inl g)) = p_YT cI a (q_wa σ 1 g) := rfl
theorem fr_DN_A_1 (cI : ClassId) (a : Nat → Nat) (σ : qM) : q_Fr (p_DN cI a σ) (p_A cI 10 (q_sub 1 a) (q_sub 1 σ)) (p_A cI 10 (q_sub 1 a)) (fun τ => p_DN cI a ((q_put 1 1 σ) τ)) := q_fr1 ((p_DN cI a σ).take 1) (p_A cI 10 (q_sub 1 a) (q_sub 1 σ)) ((p_DN cI a σ).drop 2) (p_A cI 10 (q_sub 1 a))
theorem fr_DN_DL_0_17 (cI : ClassId) (a : Nat → Nat) (σ : qM) : q_Fr (p_DN cI a σ) (p_DL cI (q_sub2 2 0 17 a) (q_sub2 2 0 17 σ)) (p_DL cI (q_sub2 2 0 17 a)) (fun τ => p_DN cI a ((q_put2 2 0 6 17 σ) τ)) := q_fr2 ((p_DN cI a σ).take 0) (p_D cI (q_sub 0 a) (q_sub 0 σ)) (((p_DN cI a σ).drop 2).take 15) (p_L cI (q_sub 17 a) (q_sub 17 σ)) ((p_DN cI a σ).drop 23) (fun τ => p_D cI (q_sub 0 a) τ) (fun τ => p_L cI (q_sub 17 a) (q_sub 2 τ))
theorem fr_H_A_1 (cI : ClassId) (a : Nat → Nat) (σ : qM) : q_Fr (p_H cI a σ) (p_A cI 60 (q_sub 1 a) (q_sub 1 σ)) (p_A cI 60 (q_sub 1 a)) (fun τ => p_H cI a ((q_put 1 1 σ) τ)) := q_fr1 ((p_H cI a σ).take 1) (p_A cI 60 (q_sub 1 a) (q_sub 1 σ)) ((p_H cI a σ).drop 2) (p_A cI 60 (q_sub 1 a))
theorem fr_M_RR_17_1 (cI : ClassId) (a : Nat → Nat) (σ : qM) : q_Fr (p_M cI a σ) (p_RR cI (q_sub2 1 17 1 a) (q_sub2 1 17 1 σ)) (p_RR cI (q_sub2 1 17 1 a)) (fun τ => p_M cI a ((q_put2 1 17 1 1 σ) τ)) := q_frC (q_fr2 ((p_M cI a σ).take 1) (p_R cI (q_sub 1 a) (q_sub 1 σ)) (((p_M cI a σ).drop 2).take 15) (p_R cI (q_sub 17 a) (q_sub 17 σ)) ((p_M cI a σ).drop 18) (fun τ => p_R cI (q_sub 1 a) (q_sub 1 τ)) (fun τ => p_R cI (q_sub 17 a) τ))
theorem fr_M_RR_1_17 (cI : ClassId) (a : Nat → Nat) (σ : qM) : q_Fr (p_M cI a σ) (p_RR cI (q_sub2 1 1 17 a) (q_sub2 1 1 17 σ)) (p_RR cI (q_sub2 1 1 17 a)) (fun τ => p_M cI a ((q_put2 1 1 1 17 σ) τ)) := q_fr2 ((p_M cI a σ).take 1) (p_R cI (q_sub 1 a) (q_sub 1 σ)) (((p_M cI a σ).drop 2).take 15) (p_R cI (q_sub 17 a) (q_sub 17 σ)) ((p_M cI a σ).drop 18) (fun τ => p_R cI (q_sub 1 a) τ) (fun τ => p_R cI (q_sub 17 a) (q_sub 1 τ))
theorem fr_M_RR_1_3 (cI : ClassId) (a : Nat → Nat) (σ : qM) : q_Fr (p_M cI a σ) (p_RR cI (q_sub2 1 1 3 a) (q_sub2 1 1 3 σ)) (p_RR cI (q_sub2 1 1 3 a)) (fun τ => p_M cI a ((q_put2 1 1 1 3 σ) τ)) := q_fr2 ((p_M cI a σ).take 1) (p_R cI (q_sub 1 a) (q_sub 1 σ)) (((p_M cI a σ).drop 2).take 1) (p_R cI (q_sub 3 a) (q_sub 3 σ)) ((p_M cI a σ).drop 4) (fun τ => p_R cI (q_sub 1 a) τ) (fun τ => p_R cI (q_sub 3 a) (q_sub 1 τ))
theorem fr_M_RR_3_1 (cI : ClassId) (a : Nat → Nat) (σ : qM) : q_Fr (p_M cI a σ) (p_RR cI (q_sub2 1 3 1 a) (q_sub2 1 3 1 σ)) (p_RR cI (q_sub2 1 3 1 a)) (fun τ => p_M cI a ((q_put2 1 3 1 1 σ) τ)) := q_frC (q_fr2 ((p_M cI a σ).take 1) (p_R cI (q_sub 1 a) (q_sub 1 σ)) (((p_M cI a σ).drop 2).take 1) (p_R cI (q_sub 3 a) (q_sub 3 σ)) ((p_M cI a σ).drop 4) (fun τ => p_R cI (q_sub 1 a) (q_sub 1 τ)) (fun τ => p_R cI (q_sub 3 a) τ))
theorem fr_NN_LL_15_36 (cI : ClassId) (a : Nat → Nat) (σ : qM) : q_Fr (p_NN cI a σ) (p_LL cI (q_sub2 6 15 36 a) (q_sub2 6 15 36 σ)) (p_LL cI (q_sub2 6 15 36 a)) (fun τ => p_NN cI a ((q_put2 6 15 6 36 σ) τ)) := q_fr2 ((p_NN cI a σ).take 15) (p_L cI (q_sub 15 a) (q_sub 15 σ)) (((p_NN cI a σ).drop 21).take 15) (p_L cI (q_sub 36 a) (q_sub 36 σ)) ((p_NN cI a σ).drop 42) (fun τ => p_L cI (q_sub 15 a) τ) (fun τ => p_L cI (q_sub 36 a) (q_sub 6 τ))
theorem fr_NN_TT_1_22 (cI : ClassId) (a : Nat → Nat) (σ : qM) : q_Fr (p_NN cI a σ) (p_TT cI (q_sub2 7 1 22 a) (q_sub2 7 1 22 σ)) (p_TT cI (q_sub2 7 1 22 a)) (fun τ => p_NN cI a ((q_put2 7 1 7 22 σ) τ)) := q_fr2 ((p_NN cI a σ).take 1) (p_T cI (q_sub 1 a) (q_sub 1 σ)) (((p_NN cI a σ).drop 8).take 14) (p_T cI (q_sub 22 a) (q_sub 22 σ)) ((p_NN cI a σ).drop 29) (fun τ => p_T cI (q_sub 1 a) τ) (fun τ => p_T cI (q_sub 22 a) (q_sub 7 τ))
theorem fr_N_L_15 (cI : ClassId) (a : Nat → Nat) (σ : qM) : q_Fr (p_N cI a σ) (p_L cI (q_sub 15 a) (q_sub 15 σ)) (p_L cI (q_sub 15 a)) (fun τ => p_N cI a ((q_put 15 6 σ) τ)) := q_fr1 ((p_N cI a σ).take 15) (p_L cI (q_sub 15 a) (q_sub 15 σ)) ((p_N cI a σ).drop 21) (p_L cI (q_sub 15 a))
theorem fr_N_TT_1_8 (cI : ClassId) (a : Nat → Nat) (σ : qM) : q_Fr (p_N cI a σ) (p_TT cI (q_sub2 7 1 8 a) (q_sub2 7 1 8 σ)) (p_TT cI (q_sub2 7 1 8 a)) (fun τ => p_N cI a ((q_put2 7 1 7 8 σ) τ)) := q_fr2 ((p_N cI a σ).take 1) (p_T cI (q_sub 1 a) (q_sub 1 σ)) (((p_N cI a σ).drop 8).take 0) (p_T cI (q_sub 8 a) (q_sub 8 σ)) ((p_N cI a σ).drop 15) (fun τ => p_T cI (q_sub 1 a) τ) (fun τ => p_T cI (q_sub 8 a) (q_sub 7 τ))
theorem fr_N_TT_8_1 (cI : ClassId) (a : Nat → Nat) (σ : qM) : q_Fr (p_N cI a σ) (p_TT cI (q_sub2 7 8 1 a) (q_sub2 7 8 1 σ)) (p_TT cI (q_sub2 7 8 1 a)) (fun τ => p_N cI a ((q_put2 7 8 7 1 σ) τ)) := q_frC (q_fr2 ((p_N cI a σ).take 1) (p_T cI (q_sub 1 a) (q_sub 1 σ)) (((p_N cI a σ).drop 8).take 0) (p_T cI (q_sub 8 a) (q_sub 8 σ)) ((p_N cI a σ).drop 15) (fun τ => p_T cI (q_sub 1 a) (q_sub 7 τ)) (fun τ => p_T cI (q_sub 8 a) τ))
theorem fr_N_T_1 (cI : ClassId) (a : Nat → Nat) (σ : qM) : q_Fr (p_N cI a σ) (p_T cI (q_sub 1 a) (q_sub 1 σ)) (p_T cI (q_sub 1 a)) (fun τ => p_N cI a ((q_put 1 7 σ) τ)) := q_fr1 ((p_N cI a σ).take 1) (p_T cI (q_sub 1 a) (q_sub 1 σ)) ((p_N cI a σ).drop 8) (p_T cI (q_sub 1 a))
theorem fr_V_DN_87_1 (cI cO : ClassId) (a : Nat → Nat) (σ : qM) : q_Fr (p_V cI cO a σ) (p_DN cI (q_sub2 2 87 1 a) (q_sub2 2 87 1 σ)) (p_DN cI (q_sub2 2 87 1 a)) (fun τ => p_V cI cO a ((q_put2 2 87 21 1 σ) τ)) := q_frC (q_fr2 ((p_V cI cO a σ).take 1) (p_N cI (q_sub 1 a) (q_sub 1 σ)) (((p_V cI cO a σ).drop 22).take 65) (p_D cI (q_sub 87 a) (q_sub 87 σ)) ((p_V cI cO a σ).drop 89) (fun τ => p_N cI (q_sub 1 a) (q_sub 2 τ)) (fun τ => p_D cI (q_sub 87 a) τ))
theorem fr_V_L_16 (cI cO : ClassId) (a : Nat → Nat) (σ : qM) : q_Fr (p_V cI cO a σ) (p_L cI (q_sub 16 a) (q_sub 16 σ)) (p_L cI (q_sub 16 a)) (fun τ => p_V cI cO a ((q_put 16 6 σ) τ)) := q_fr1 ((p_V cI cO a σ).take 16) (p_L cI (q_sub 16 a) (q_sub 16 σ)) ((p_V cI cO a σ).drop 22) (p_L cI (q_sub 16 a))
theorem fr_V_NN_1_43 (cI cO : ClassId) (a : Nat → Nat) (σ : qM) : q_Fr (p_V cI cO a σ) (p_NN cI (q_sub2 21 1 43 a) (q_sub2 21 1 43 σ)) (p_NN cI (q_sub2 21 1 43 a)) (fun τ => p_V cI cO a ((q_put2 21 1 21 43 σ) τ)) := q_fr2 ((p_V cI cO a σ).take 1) (p_N cI (q_sub 1 a) (q_sub 1 σ)) (((p_V cI cO a σ).drop 22).take 21) (p_N cI (q_sub 43 a) (q_sub 43 σ)) ((p_V cI cO a σ).drop 64) (fun τ => p_N cI (q_sub 1 a) τ) (fun τ => p_N cI (q_sub 43 a) (q_sub 21 τ))
theorem fr_V_NN_1_64 (cI cO : ClassId) (a : Nat → Nat) (σ : qM) : q_Fr (p_V cI cO a σ) (p_NN cI (q_sub2 21 1 64 a) (q_sub2 21 1 64 σ)) (p_NN cI (q_sub2 21 1 64 a)) (fun τ => p_V cI cO a ((q_put2 21 1 21 64 σ) τ)) := q_fr2 ((p_V cI cO a σ).take 1) (p_N cI (q_sub 1 a) (q_sub 1 σ)) (((p_V cI cO a σ).drop 22).take 42) (p_N cI (q_sub 64 a) (q_sub 64 σ)) ((p_V cI cO a σ).drop 85) (fun τ => p_N cI (q_sub 1 a) τ) (fun τ => p_N cI (q_sub 64 a) (q_sub 21 τ))
theorem fr_V_NN_22_1 (cI cO : ClassId) (a : Nat → Nat) (σ : qM) : q_Fr (p_V cI cO a σ) (p_NN cI (q_sub2 21 22 1 a) (q_sub2 21 22 1 σ)) (p_NN cI (q_sub2 21 22 1 a)) (fun τ => p_V cI cO a ((q_put2 21 22 21 1 σ) τ)) := q_frC (q_fr2 ((p_V cI cO a σ).take 1) (p_N cI (q_sub 1 a) (q_sub 1 σ)) (((p_V cI cO a σ).drop 22).take 0) (p_N cI (q_sub 22 a) (q_sub 22 σ)) ((p_V cI cO a σ).drop 43) (fun τ => p_N cI (q_sub 1 a) (q_sub 21 τ)) (fun τ => p_N cI (q_sub 22 a) τ))
theorem fr_V_NN_43_1 (cI cO : ClassId) (a : Nat → Nat) (σ : qM) : q_Fr (p_V cI cO a σ) (p_NN cI (q_sub2 21 43 1 a) (q_sub2 21 43 1 σ)) (p_NN cI (q_sub2 21 43 1 a)) (fun τ => p_V cI cO a ((q_put2 21 43 21 1 σ) τ)) := q_frC (q_fr2 ((p_V cI cO a σ).take 1) (p_N cI (q_sub 1 a) (q_sub 1 σ)) (((p_V cI cO a σ).drop 22).take 21) (p_N cI (q_sub 43 a) (q_sub 43 σ)) ((p_V cI cO a σ).drop 64) (fun τ => p_N cI (q_sub 1 a) (q_sub 21 τ)) (fun τ => p_N cI (q_sub 43 a) τ))
theorem fr_V_NN_64_1 (cI cO : ClassId) (a : Nat → Nat) (σ : qM) : q_Fr (p_V cI cO a σ) (p_NN cI (q_sub2 21 64 1 a) (q_sub2 21 64 1 σ)) (p_NN cI (q_sub2 21 64 1 a)) (fun τ => p_V cI cO a ((q_put2 21 64 21 1 σ) τ)) := q_frC (q_fr2 ((p_V cI cO a σ).take 1) (p_N cI (q_sub 1 a) (q_sub 1 σ)) (((p_V cI cO a σ).drop 22).take 42) (p_N cI (q_sub 64 a) (q_sub 64 σ)) ((p_V cI cO a σ).drop 85) (fun τ => p_N cI (q_sub 1 a) (q_sub 21 τ)) (fun τ => p_N cI (q_sub 64 a) τ))
theorem fr_V_N_1 (cI cO : ClassId) (a : Nat → Nat) (σ : qM) : q_Fr (p_V cI cO a σ) (p_N cI (q_sub 1 a) (q_sub 1 σ)) (p_N cI (q_sub 1 a)) (fun τ => p_V cI cO a ((q_put 1 21 σ) τ)) := q_fr1 ((p_V cI cO a σ).take 1) (p_N cI (q_sub 1 a) (q_sub 1 σ)) ((p_V cI cO a σ).drop 22) (p_N cI (q_sub 1 a))
theorem fr_V_N_22 (cI cO : ClassId) (a : Nat → Nat) (σ : qM) : q_Fr (p_V cI cO a σ) (p_N cI (q_sub 22 a) (q_sub 22 σ)) (p_N cI (q_sub 22 a)) (fun τ => p_V cI cO a ((q_put 22 21 σ) τ)) := q_fr1 ((p_V cI cO a σ).take 22) (p_N cI (q_sub 22 a) (q_sub 22 σ)) ((p_V cI cO a σ).drop 43) (p_N cI (q_sub 22 a))
theorem fr_V_P_89 (cI cO : ClassId) (a : Nat → Nat) (σ : qM) : q_Fr (p_V cI cO a σ) (p_P cI (q_sub 89 a) (q_sub 89 σ)) (p_P cI (q_sub 89 a)) (fun τ => p_V cI cO a ((q_put 89 4 σ) τ)) := q_fr1 ((p_V cI cO a σ).take 89) (p_P cI (q_sub 89 a) (q_sub 89 σ)) ((p_V cI cO a σ).drop 93) (p_P cI (q_sub 89 a))
theorem fr_V_T_2 (cI cO : ClassId) (a : Nat → Nat) (σ : qM) : q_Fr (p_V cI cO a σ) (p_T cI (q_sub 2 a) (q_sub 2 σ)) (p_T cI (q_sub 2 a)) (fun τ => p_V cI cO a ((q_put 2 7 σ) τ)) := q_fr1 ((p_V cI cO a σ).take 2) (p_T cI (q_sub 2 a) (q_sub 2 σ)) ((p_V cI cO a σ).drop 9) (p_T cI (q_sub 2 a))
theorem fr_V_T_23 (cI cO : ClassId) (a : Nat → Nat) (σ : qM) : q_Fr (p_V cI cO a σ) (p_T cI (q_sub 23 a) (q_sub 23 σ)) (p_T cI (q_sub 23 a)) (fun τ => p_V cI cO a ((q_put 23 7 σ) τ)) := q_fr1 ((p_V cI cO a σ).take 23) (p_T cI (q_sub 23 a) (q_sub 23 σ)) ((p_V cI cO a σ).drop 30) (p_T cI (q_sub 23 a))
theorem fr_V_YN_85_1 (cI cO : ClassId) (a : Nat → Nat) (σ : qM) : q_Fr (p_V cI cO a σ) (p_YN cI (q_sub2 2 85 1 a) (q_sub2 2 85 1 σ)) (p_YN cI (q_sub2 2 85 1 a)) (fun τ => p_V cI cO a ((q_put2 2 85 21 1 σ) τ)) := q_frC (q_fr2 ((p_V cI cO a σ).take 1) (p_N cI (q_sub 1 a) (q_sub 1 σ)) (((p_V cI cO a σ).drop 22).take 63) (p_Y cI (q_sub 85 a) (q_sub 85 σ)) ((p_V cI cO a σ).drop 87) (fun τ => p_N cI (q_sub 1 a) (q_sub 2 τ)) (fun τ => p_Y cI (q_sub 85 a) τ))
theorem fr_V_YN_85_22 (cI cO : ClassId) (a : Nat → Nat) (σ : qM) : q_Fr (p_V cI cO a σ) (p_YN cI (q_sub2 2 85 22 a) (q_sub2 2 85 22 σ)) (p_YN cI (q_sub2 2 85 22 a)) (fun τ => p_V cI cO a ((q_put2 2 85 21 22 σ) τ)) := q_frC (q_fr2 ((p_V cI cO a σ).take 22) (p_N cI (q_sub 22 a) (q_sub 22 σ)) (((p_V cI cO a σ).drop 43).take 42) (p_Y cI (q_sub 85 a) (q_sub 85 σ)) ((p_V cI cO a σ).drop 87) (fun τ => p_N cI (q_sub 22 a) (q_sub 2 τ)) (fun τ => p_Y cI (q_sub 85 a) τ))
theorem fr_V_YT_85_2 (cI cO : ClassId) (a : Nat → Nat) (σ : qM) : q_Fr (p_V cI cO a σ) (p_YT cI (q_sub2 2 85 2 a) (q_sub2 2 85 2 σ)) (p_YT cI (q_sub2 2 85 2 a)) (fun τ => p_V cI cO a ((q_put2 2 85 7 2 σ) τ)) := q_frC (q_fr2 ((p_V cI cO a σ).take 2) (p_T cI (q_sub 2 a) (q_sub 2 σ)) (((p_V cI cO a σ).drop 9).take 76) (p_Y cI (q_sub 85 a) (q_sub 85 σ)) ((p_V cI cO a σ).drop 87) (fun τ => p_T cI (q_sub 2 a) (q_sub 2 τ)) (fun τ => p_Y cI (q_sub 85 a) τ))
theorem fr_YN_YT_0_3 (cI : ClassId) (a : Nat → Nat) (σ : qM) : q_Fr (p_YN cI a σ) (p_YT cI (q_sub2 2 0 3 a) (q_sub2 2 0 3 σ)) (p_YT cI (q_sub2 2 0 3 a)) (fun τ => p_YN cI a ((q_put2 2 0 7 3 σ) τ)) := q_fr2 ((p_YN cI a σ).take 0) (p_Y cI (q_sub 0 a) (q_sub 0 σ)) (((p_YN cI a σ).drop 2).take 1) (p_T cI (q_sub 3 a) (q_sub 3 σ)) ((p_YN cI a σ).drop 10) (fun τ => p_Y cI (q_sub 0 a) τ) (fun τ => p_T cI (q_sub 3 a) (q_sub 2 τ))
theorem fr_YT_T_2 (cI : ClassId) (a : Nat → Nat) (σ : qM) : q_Fr (p_YT cI a σ) (p_T cI (q_sub 2 a) (q_sub 2 σ)) (p_T cI (q_sub 2 a)) (fun τ => p_YT cI a ((q_put 2 7 σ) τ)) := q_fr1 ((p_YT cI a σ).take 2) (p_T cI (q_sub 2 a) (q_sub 2 σ)) ((p_YT cI a σ).drop 9) (p_T cI (q_sub 2 a))
end
section
/-! ===== java/util/Arrays.fill([II)V: world A ===== -/
theorem i_J7_fill_53178 : yJ7_fill_53178.cls ≠ "java/lang/invoke/MethodHandle" ∧ yJ7_fill_53178.cls ≠ "java/lang/invoke/VarHandle" ∧ (parseMethodDescriptor yJ7_fill_53178.desc).map (fun d => d.parameters.length) = some 2 := by decide +kernel
noncomputable def b_J7_fill_53178_5 (n : Nat) (go : qB) (σ : qM) (x3 x4 x5 : Int32) : qR :=
  if x5 ≤ x4 then (
  some (0, σ))
  else (
  q_wt σ 0 n x4 x3 fun s7 =>
  q_nm (x4 + 1) fun x8 =>
  go 0 s7 [x3, x8, x5])
noncomputable def D_J7_fill_53178 (n : Nat) (go : qB) : qB := fun i σ xs => if i = 0 then (match xs with | [x3, x4, x5] => b_J7_fill_53178_5 n go σ x3 x4 x5 | _ => none) else none
noncomputable def e_J7_fill_53178 (n : Nat) (go : qB) (σ : qM) (x1 : Int32) : qR :=
  q_nm (Int32.ofNat n) fun x2 =>
  go 0 σ [x1, 0, x2]
noncomputable def f_J7_fill_53178 (n : Nat) (σ : qM) (x1 : Int32) : qR := e_J7_fill_53178 n (q_lim (D_J7_fill_53178 n)) σ x1
set_option maxHeartbeats 4000000 in
set_option maxRecDepth 100000 in
theorem c_J7_fill_53178 (l : Launch) (D : va_G) (cI : ClassId) (tys : List (ClassId × FieldType)) (ht : tys[0]? = some (cI, .int)) (n : Nat) (a : Nat → Nat) (σ : qM) (x1 : Int32) : q_Mev l yJ7_fill_53178 wsJ7_fill_53178 ({ frames := 0, cells := 0, slots := 0, locals := 0 }) [.ref (a 0), .int x1] D tys (p_A cI n a) σ (f_J7_fill_53178 n σ x1) := by
  refine x_ofWv (cc := cJ7_fill_53178) (maxL := 4) (ret := none) (by decide +kernel) rfl (pf_A cI n a) (Nat.le_of_ble_eq_true rfl) ?_
  intro p e s m below meth c A ls qq h hx hb hml hr hlocks hown hts hK hP hD hA hS hl
  have hown : s.vm.findClass RJ7 = some m.cls := hown
  have hl : lv_has ls 4 [(0, .ref (a 0)), (1, .int x1)] := hl
  have main : ∀ k9 : Nat, (∀ (σ : qM) (x3 x4 x5 : Int32) (H : Heap) (locs : List Loc) (ls : Array Slot), q_it (D_J7_fill_53178 n) k9 0 σ [x3, x4, x5] = some qq → va_P D vwCl (p_A cI n a σ) H → va_S A s.heap H locs → lv_has ls 4 [(0, .ref (a 0)), (1, .int x3), (2, .int x4), (3, .int x5)] → W p l e ({ frames := 0, cells := 0, slots := 0, locals := 0 }) s m [.ref (a 0), .int x1].toArray below meth c H locs 0 0 (MQ below (va_Qv (fun τ => ((0 : Int32), τ) = qq) (fun τ t => va_P D vwCl ((p_A cI n a) τ) t.heap) A) [.ref (a 0), .int x1].toArray s 0 0 A) (F0 m 5 ls [])) := by
    intro k9
    induction k9 with
    | zero => exact (fun _ _ _ _ _ _ _ h _ _ _ => (q_no (show (none : qR) = some qq from h)).elim)
    | succ k9 ih =>
      have i5 := ih
      refine ?_
      · intro σ x3 x4 x5 H locs ls h hP hS hl
        have h : b_J7_fill_53178_5 n (q_it (D_J7_fill_53178 n) k9) σ x3 x4 x5 = some qq := h
        unfold b_J7_fill_53178_5 at h
        refine lv_iload_n hx hb dJ7_fill_53178_5 rfl (lv_at hl 2 rfl) ?_
        refine lv_iload_n hx hb dJ7_fill_53178_6 rfl (lv_at hl 3 rfl) ?_
        refine lv_icmp_ge (tgt := 20) hx hb dJ7_fill_53178_7 (by decide) (fun c6 => ?_) (fun c6 => ?_)
        · have h := if_t c6 h
          exact x_vret (p_A cI n a) hx hb hr hlocks hP hS dJ7_fill_53178_20 h
        · have h := if_f c6 h
          refine lv_aload_n hx hb dJ7_fill_53178_10 rfl (lv_at hl 0 rfl) ?_
          refine lv_iload_n hx hb dJ7_fill_53178_11 rfl (lv_at hl 2 rfl) ?_
          refine lv_iload_n hx hb dJ7_fill_53178_12 rfl (lv_at hl 1 rfl) ?_
          refine x_iast (p_A cI n a) (t0 := 0) hx hb hK hP hD hS ht h (g_A_0 cI n a σ) (fun j9 v9 => (s_A_0 cI n a σ _)) dJ7_fill_53178_13 (fun H locs s7 hP hS h => ?_)
          refine x_iinc (k := 2) (w := 1) hx hb dJ7_fill_53178_14 hl rfl (by decide +kernel) (by decide) (fun v9 => [(2, .int v9), (0, .ref (a 0)), (1, .int x3), (3, .int x5)]) (fun v9 => rfl) h (fun x8 ls hl h => ?_)
          have hl : lv_has ls 4 [(2, .int x8), (0, .ref (a 0)), (1, .int x3), (3, .int x5)] := hl
          refine lv_goto (tgt := 5) hx hb dJ7_fill_53178_17 (by decide) ?_
          exact i5 s7 x3 x8 x5 _ _ _ h hP hS (lv_sub hl [1, 2, 0, 3] rfl)
  have i5 : ∀ (σ : qM) (x3 x4 x5 : Int32) (H : Heap) (locs : List Loc) (ls : Array Slot), q_lim (D_J7_fill_53178 n) 0 σ [x3, x4, x5] = some qq → va_P D vwCl (p_A cI n a σ) H → va_S A s.heap H locs → lv_has ls 4 [(0, .ref (a 0)), (1, .int x3), (2, .int x4), (3, .int x5)] → W p l e ({ frames := 0, cells := 0, slots := 0, locals := 0 }) s m [.ref (a 0), .int x1].toArray below meth c H locs 0 0 (MQ below (va_Qv (fun τ => ((0 : Int32), τ) = qq) (fun τ t => va_P D vwCl ((p_A cI n a) τ) t.heap) A) [.ref (a 0), .int x1].toArray s 0 0 A) (F0 m 5 ls []) := by
    intro σ x3 x4 x5 H locs ls h hP hS hl
    obtain ⟨k9, h⟩ := q_lim_n h
    exact (main k9) σ x3 x4 x5 H locs ls h hP hS hl
  have h : e_J7_fill_53178 n (q_lim (D_J7_fill_53178 n)) σ x1 = some qq := h
  unfold e_J7_fill_53178 at h
  refine lv_iconst (v := 0) hx hb dJ7_fill_53178_0 (by decide +kernel) ?_
  refine lv_istore_n (lv' := [(2, .int 0), (0, .ref (a 0)), (1, .int x1)]) hx hb dJ7_fill_53178_1 rfl hl (by decide) rfl (fun ls hl => ?_)
  refine lv_aload_n hx hb dJ7_fill_53178_2 rfl (lv_at hl 1 rfl) ?_
  refine x_alen (t0 := 0) hx hb hK hP ht (g_A_0 cI n a σ) dJ7_fill_53178_3 h (fun x2 h => ?_)
  refine lv_istore_n (lv' := [(3, .int x2), (2, .int 0), (0, .ref (a 0)), (1, .int x1)]) hx hb dJ7_fill_53178_4 rfl hl (by decide) rfl (fun ls hl => ?_)
  exact i5 σ x1 0 x2 _ _ _ h hP hS (lv_sub hl [2, 3, 1, 0] rfl)
/-! ===== VectorRounds$Tables.has(I)Z: world T ===== -/
theorem i_X4_has : yX4_has.cls = RX4 ∧ yX4_has.cls ≠ "java/lang/invoke/MethodHandle" ∧ yX4_has.cls ≠ "java/lang/invoke/VarHandle" ∧ (parseMethodDescriptor yX4_has.desc).map (fun d => d.parameters.length) = some 1 := by decide +kernel
theorem k_X4_has_f9 : Cond.fieldLink RX4 9 RX4 "metric" "[I" ∈ wsX4_has := by decide +kernel
theorem u_X4_has_4 : ∀ w ∈ u_ws RX4 TX4 6, w ∈ wsX4_has := by decide +kernel
noncomputable def f_X4_has (σ : qM) (x1 : Int32) : qR :=
  q_rd σ 1 100 x1 fun x2 =>
  if x2 = (-1) then (
  q_bo 0 (some (0, σ)))
  else (
  q_bo 1 (some (1, σ)))
set_option maxHeartbeats 4000000 in
set_option maxRecDepth 100000 in
theorem c_X4_has (l : Launch) (D : va_G) (cI : ClassId) (tys : List (ClassId × FieldType)) (ht : tys[0]? = some (cI, .int)) (a : Nat → Nat) (σ : qM) (x1 : Int32) : q_Met l yX4_has wsX4_has ({ frames := 0, cells := 0, slots := 0, locals := 0 }) [.ref (a 0), .int x1] D tys (p_T cI a) σ (f_X4_has σ x1) := by
  refine x_ofWi (cc := cX4_has) (maxL := 2) (ret := (some .boolean)) (by decide +kernel) rfl (pf_T cI a) (Nat.le_of_ble_eq_true rfl) ?_
  intro p e s m below meth c A ls qq h hx hb hml hr hlocks hown hts hK hP hD hA hS hl
  have hown : s.vm.findClass RX4 = some m.cls := hown
  have hl : lv_has ls 2 [(0, .ref (a 0)), (1, .int x1)] := hl
  unfold f_X4_has at h
  refine lv_aload_n hx hb dX4_has_0 rfl (lv_at hl 0 rfl) ?_
  refine x_getr (C := RX4) (k := 0) hx hb hts u_X4_has_4 hown hK hP (g_T_0 cI a σ) rfl (by decide) ⟨rfl, rfl, rfl⟩ k_X4_has_f9 rfl dX4_has_1 ?_
  refine lv_iload_n hx hb dX4_has_4 rfl (lv_at hl 1 rfl) ?_
  refine x_iald (t0 := 0) hx hb hK hP ht h (g_T_1 cI a σ) dX4_has_5 (fun x2 h => ?_)
  refine lv_iconst (v := (-1)) hx hb dX4_has_6 (by decide +kernel) ?_
  refine lv_icmp_eq (tgt := 14) hx hb dX4_has_7 (by decide) (fun c3 => ?_) (fun c3 => ?_)
  · have h := if_t c3 h
    refine lv_iconst (v := 0) hx hb dX4_has_14 (by decide +kernel) ?_
    exact x_zret (p_T cI a) hx hb hr hlocks hP hS dX4_has_15 h
  · have h := if_f c3 h
    refine lv_iconst (v := 1) hx hb dX4_has_10 (by decide +kernel) ?_
    refine lv_goto (tgt := 15) hx hb dX4_has_11 (by decide) ?_
    exact x_zret (p_T cI a) hx hb hr hlocks hP hS dX4_has_15 h
/-! ===== VectorRounds$Tables.reaches(I)Z: world T ===== -/
theorem i_X4_reaches : yX4_reaches.cls = RX4 ∧ yX4_reaches.cls ≠ "java/lang/invoke/MethodHandle" ∧ yX4_reaches.cls ≠ "java/lang/invoke/VarHandle" ∧ (parseMethodDescriptor yX4_reaches.desc).map (fun d => d.parameters.length) = some 1 := by decide +kernel
theorem k_X4_reaches_f9 : Cond.fieldLink RX4 9 RX4 "metric" "[I" ∈ wsX4_reaches := by decide +kernel
theorem u_X4_reaches_4 : ∀ w ∈ u_ws RX4 TX4 6, w ∈ wsX4_reaches := by decide +kernel
noncomputable def f_X4_reaches (σ : qM) (x1 : Int32) : qR :=
  q_rd σ 1 100 x1 fun x2 =>
  if x2 = (-1) then (
  q_bo 0 (some (0, σ)))
  else (
  q_rd σ 1 100 x1 fun x4 =>
  if (16 : Int32) ≤ x4 then (
  q_bo 0 (some (0, σ)))
  else (
  q_bo 1 (some (1, σ))))
set_option maxHeartbeats 4000000 in
set_option maxRecDepth 100000 in
theorem c_X4_reaches (l : Launch) (D : va_G) (cI : ClassId) (tys : List (ClassId × FieldType)) (ht : tys[0]? = some (cI, .int)) (a : Nat → Nat) (σ : qM) (x1 : Int32) : q_Met l yX4_reaches wsX4_reaches ({ frames := 0, cells := 0, slots := 0, locals := 0 }) [.ref (a 0), .int x1] D tys (p_T cI a) σ (f_X4_reaches σ x1) := by
  refine x_ofWi (cc := cX4_reaches) (maxL := 2) (ret := (some .boolean)) (by decide +kernel) rfl (pf_T cI a) (Nat.le_of_ble_eq_true rfl) ?_
  intro p e s m below meth c A ls qq h hx hb hml hr hlocks hown hts hK hP hD hA hS hl
  have hown : s.vm.findClass RX4 = some m.cls := hown
  have hl : lv_has ls 2 [(0, .ref (a 0)), (1, .int x1)] := hl
  unfold f_X4_reaches at h
  refine lv_aload_n hx hb dX4_reaches_0 rfl (lv_at hl 0 rfl) ?_
  refine x_getr (C := RX4) (k := 0) hx hb hts u_X4_reaches_4 hown hK hP (g_T_0 cI a σ) rfl (by decide) ⟨rfl, rfl, rfl⟩ k_X4_reaches_f9 rfl dX4_reaches_1 ?_
  refine lv_iload_n hx hb dX4_reaches_4 rfl (lv_at hl 1 rfl) ?_
  refine x_iald (t0 := 0) hx hb hK hP ht h (g_T_1 cI a σ) dX4_reaches_5 (fun x2 h => ?_)
  refine lv_iconst (v := (-1)) hx hb dX4_reaches_6 (by decide +kernel) ?_
  refine lv_icmp_eq (tgt := 25) hx hb dX4_reaches_7 (by decide) (fun c3 => ?_) (fun c3 => ?_)
  · have h := if_t c3 h
    refine lv_iconst (v := 0) hx hb dX4_reaches_25 (by decide +kernel) ?_
    exact x_zret (p_T cI a) hx hb hr hlocks hP hS dX4_reaches_26 h
  · have h := if_f c3 h
    refine lv_aload_n hx hb dX4_reaches_10 rfl (lv_at hl 0 rfl) ?_
    refine x_getr (C := RX4) (k := 0) hx hb hts u_X4_reaches_4 hown hK hP (g_T_0 cI a σ) rfl (by decide) ⟨rfl, rfl, rfl⟩ k_X4_reaches_f9 rfl dX4_reaches_11 ?_
    refine lv_iload_n hx hb dX4_reaches_14 rfl (lv_at hl 1 rfl) ?_
    refine x_iald (t0 := 0) hx hb hK hP ht h (g_T_1 cI a σ) dX4_reaches_15 (fun x4 h => ?_)
    refine lv_bipush (v := 16) hx hb dX4_reaches_16 (by decide +kernel) ?_
    refine lv_icmp_ge (tgt := 25) hx hb dX4_reaches_18 (by decide) (fun c5 => ?_) (fun c5 => ?_)
    · have h := if_t c5 h
      refine lv_iconst (v := 0) hx hb dX4_reaches_25 (by decide +kernel) ?_
      exact x_zret (p_T cI a) hx hb hr hlocks hP hS dX4_reaches_26 h
    · have h := if_f c5 h
      refine lv_iconst (v := 1) hx hb dX4_reaches_21 (by decide +kernel) ?_
      refine lv_goto (tgt := 26) hx hb dX4_reaches_22 (by decide) ?_
      exact x_zret (p_T cI a) hx hb hr hlocks hP hS dX4_reaches_26 h
/-! ===== VectorRounds$Tables.enter(IIIII)V: world T ===== -/
theorem i_X4_enter : yX4_enter.cls = RX4 ∧ yX4_enter.cls ≠ "java/lang/invoke/MethodHandle" ∧ yX4_enter.cls ≠ "java/lang/invoke/VarHandle" ∧ (parseMethodDescriptor yX4_enter.desc).map (fun d => d.parameters.length) = some 5 := by decide +kernel
theorem k_X4_enter_f15 : Cond.fieldLink RX4 15 RX4 "via" "[I" ∈ wsX4_enter := by decide +kernel
theorem k_X4_enter_f18 : Cond.fieldLink RX4 18 RX4 "sequence" "[I" ∈ wsX4_enter := by decide +kernel
theorem k_X4_enter_f21 : Cond.fieldLink RX4 21 RX4 "held" "[I" ∈ wsX4_enter := by decide +kernel
theorem k_X4_enter_f24 : Cond.fieldLink RX4 24 RX4 "order" "[I" ∈ wsX4_enter := by decide +kernel
theorem k_X4_enter_f27 : Cond.fieldLink RX4 27 RX4 "size" "[I" ∈ wsX4_enter := by decide +kernel
theorem k_X4_enter_f9 : Cond.fieldLink RX4 9 RX4 "metric" "[I" ∈ wsX4_enter := by decide +kernel
theorem u_X4_enter_4 : ∀ w ∈ u_ws RX4 TX4 6, w ∈ wsX4_enter := by decide +kernel
noncomputable def f_X4_enter (σ : qM) (x1 : Int32) (x2 : Int32) (x3 : Int32) (x4 : Int32) (x5 : Int32) : qR :=
  q_nm ((x1 * 10)) fun x6 =>
  q_nm ((x6 + x2)) fun x7 =>
  q_wt σ 1 100 x7 x3 fun s8 =>
  q_wt s8 2 100 x7 x4 fun s9 =>
  q_wt s9 3 100 x7 x5 fun s10 =>
  q_wt s10 4 100 x7 0 fun s11 =>
  q_nm ((x1 * 10)) fun x12 =>
  q_rd s11 6 10 x1 fun x13 =>
  q_nm ((x12 + x13)) fun x14 =>
  q_wt s11 5 100 x14 x2 fun s15 =>
  q_rd s15 6 10 x1 fun x16 =>
  q_nm ((x16 + 1)) fun x17 =>
  q_wt s15 6 10 x1 x17 fun s18 =>
  some (0, s18)
set_option maxHeartbeats 4000000 in
set_option maxRecDepth 100000 in
theorem c_X4_enter (l : Launch) (D : va_G) (cI : ClassId) (tys : List (ClassId × FieldType)) (ht : tys[0]? = some (cI, .int)) (a : Nat → Nat) (σ : qM) (x1 : Int32) (x2 : Int32) (x3 : Int32) (x4 : Int32) (x5 : Int32) : q_Mev l yX4_enter wsX4_enter ({ frames := 0, cells := 0, slots := 0, locals := 0 }) [.ref (a 0), .int x1, .int x2, .int x3, .int x4, .int x5] D tys (p_T cI a) σ (f_X4_enter σ x1 x2 x3 x4 x5) := by
  refine x_ofWv (cc := cX4_enter) (maxL := 7) (ret := none) (by decide +kernel) rfl (pf_T cI a) (Nat.le_of_ble_eq_true rfl) ?_
  intro p e s m below meth c A ls qq h hx hb hml hr hlocks hown hts hK hP hD hA hS hl
  have hown : s.vm.findClass RX4 = some m.cls := hown
  have hl : lv_has ls 7 [(0, .ref (a 0)), (1, .int x1), (2, .int x2), (3, .int x3), (4, .int x4), (5, .int x5)] := hl
  unfold f_X4_enter at h
  refine lv_iload_n hx hb dX4_enter_0 rfl (lv_at hl 1 rfl) ?_
  refine lv_bipush (v := 10) hx hb dX4_enter_1 (by decide +kernel) ?_
  refine x_imul hx hb dX4_enter_3 h (fun x6 h => ?_)
  refine lv_iload_n hx hb dX4_enter_4 rfl (lv_at hl 2 rfl) ?_
  refine x_iadd hx hb dX4_enter_5 h (fun x7 h => ?_)
  refine lv_istore (lv' := [(6, .int x7), (0, .ref (a 0)), (1, .int x1), (2, .int x2), (3, .int x3), (4, .int x4), (5, .int x5)]) hx hb dX4_enter_6 hl (by decide) rfl (fun ls hl => ?_)
  refine lv_aload_n hx hb dX4_enter_8 rfl (lv_at hl 1 rfl) ?_
  refine x_getr (C := RX4) (k := 0) hx hb hts u_X4_enter_4 hown hK hP (g_T_0 cI a σ) rfl (by decide) ⟨rfl, rfl, rfl⟩ k_X4_enter_f9 rfl dX4_enter_9 ?_
  refine lv_iload hx hb dX4_enter_12 (lv_at hl 0 rfl) ?_
  refine lv_iload_n hx hb dX4_enter_14 rfl (lv_at hl 4 rfl) ?_
  refine x_iast (p_T cI a) (t0 := 0) hx hb hK hP hD hS ht h (g_T_1 cI a σ) (fun j9 v9 => (s_T_1 cI a σ _)) dX4_enter_15 (fun H locs s8 hP hS h => ?_)
  refine lv_aload_n hx hb dX4_enter_16 rfl (lv_at hl 1 rfl) ?_
  refine x_getr (C := RX4) (k := 1) hx hb hts u_X4_enter_4 hown hK hP (g_T_0 cI a s8) rfl (by decide) ⟨rfl, rfl, rfl⟩ k_X4_enter_f15 rfl dX4_enter_17 ?_
  refine lv_iload hx hb dX4_enter_20 (lv_at hl 0 rfl) ?_
  refine lv_iload hx hb dX4_enter_22 (lv_at hl 5 rfl) ?_
  refine x_iast (p_T cI a) (t0 := 0) hx hb hK hP hD hS ht h (g_T_2 cI a s8) (fun j9 v9 => (s_T_2 cI a s8 _)) dX4_enter_24 (fun H locs s9 hP hS h => ?_)
  refine lv_aload_n hx hb dX4_enter_25 rfl (lv_at hl 1 rfl) ?_
  refine x_getr (C := RX4) (k := 2) hx hb hts u_X4_enter_4 hown hK hP (g_T_0 cI a s9) rfl (by decide) ⟨rfl, rfl, rfl⟩ k_X4_enter_f18 rfl dX4_enter_26 ?_
  refine lv_iload hx hb dX4_enter_29 (lv_at hl 0 rfl) ?_
  refine lv_iload hx hb dX4_enter_31 (lv_at hl 6 rfl) ?_
  refine x_iast (p_T cI a) (t0 := 0) hx hb hK hP hD hS ht h (g_T_3 cI a s9) (fun j9 v9 => (s_T_3 cI a s9 _)) dX4_enter_33 (fun H locs s10 hP hS h => ?_)
  refine lv_aload_n hx hb dX4_enter_34 rfl (lv_at hl 1 rfl) ?_
  refine x_getr (C := RX4) (k := 3) hx hb hts u_X4_enter_4 hown hK hP (g_T_0 cI a s10) rfl (by decide) ⟨rfl, rfl, rfl⟩ k_X4_enter_f21 rfl dX4_enter_35 ?_
  refine lv_iload hx hb dX4_enter_38 (lv_at hl 0 rfl) ?_
  refine lv_iconst (v := 0) hx hb dX4_enter_40 (by decide +kernel) ?_
  refine x_iast (p_T cI a) (t0 := 0) hx hb hK hP hD hS ht h (g_T_4 cI a s10) (fun j9 v9 => (s_T_4 cI a s10 _)) dX4_enter_41 (fun H locs s11 hP hS h => ?_)
  refine lv_aload_n hx hb dX4_enter_42 rfl (lv_at hl 1 rfl) ?_
  refine x_getr (C := RX4) (k := 4) hx hb hts u_X4_enter_4 hown hK hP (g_T_0 cI a s11) rfl (by decide) ⟨rfl, rfl, rfl⟩ k_X4_enter_f24 rfl dX4_enter_43 ?_
  refine lv_iload_n hx hb dX4_enter_46 rfl (lv_at hl 2 rfl) ?_
  refine lv_bipush (v := 10) hx hb dX4_enter_47 (by decide +kernel) ?_
  refine x_imul hx hb dX4_enter_49 h (fun x12 h => ?_)
  refine lv_aload_n hx hb dX4_enter_50 rfl (lv_at hl 1 rfl) ?_
  refine x_getr (C := RX4) (k := 5) hx hb hts u_X4_enter_4 hown hK hP (g_T_0 cI a s11) rfl (by decide) ⟨rfl, rfl, rfl⟩ k_X4_enter_f27 rfl dX4_enter_51 ?_
  refine lv_iload_n hx hb dX4_enter_54 rfl (lv_at hl 2 rfl) ?_
  refine x_iald (t0 := 0) hx hb hK hP ht h (g_T_6 cI a s11) dX4_enter_55 (fun x13 h => ?_)
  refine x_iadd hx hb dX4_enter_56 h (fun x14 h => ?_)
  refine lv_iload_n hx hb dX4_enter_57 rfl (lv_at hl 3 rfl) ?_
  refine x_iast (p_T cI a) (t0 := 0) hx hb hK hP hD hS ht h (g_T_5 cI a s11) (fun j9 v9 => (s_T_5 cI a s11 _)) dX4_enter_58 (fun H locs s15 hP hS h => ?_)
  refine lv_aload_n hx hb dX4_enter_59 rfl (lv_at hl 1 rfl) ?_
  refine x_getr (C := RX4) (k := 5) hx hb hts u_X4_enter_4 hown hK hP (g_T_0 cI a s15) rfl (by decide) ⟨rfl, rfl, rfl⟩ k_X4_enter_f27 rfl dX4_enter_60 ?_
  refine lv_iload_n hx hb dX4_enter_63 rfl (lv_at hl 2 rfl) ?_
  refine lv_dup2_11 hx hb dX4_enter_64 rfl rfl ?_
  refine x_iald (t0 := 0) hx hb hK hP ht h (g_T_6 cI a s15) dX4_enter_65 (fun x16 h => ?_)
  refine lv_iconst (v := 1) hx hb dX4_enter_66 (by decide +kernel) ?_
  refine x_iadd hx hb dX4_enter_67 h (fun x17 h => ?_)
  refine x_iast (p_T cI a) (t0 := 0) hx hb hK hP hD hS ht h (g_T_6 cI a s15) (fun j9 v9 => (s_T_6 cI a s15 _)) dX4_enter_68 (fun H locs s18 hP hS h => ?_)
  exact x_vret (p_T cI a) hx hb hr hlocks hP hS dX4_enter_69 h
/-! ===== VectorRounds$Tables.placeOf(II)I: world T ===== -/
theorem i_X4_placeOf : yX4_placeOf.cls = RX4 ∧ yX4_placeOf.cls ≠ "java/lang/invoke/MethodHandle" ∧ yX4_placeOf.cls ≠ "java/lang/invoke/VarHandle" ∧ (parseMethodDescriptor yX4_placeOf.desc).map (fun d => d.parameters.length) = some 2 := by decide +kernel
theorem k_X4_placeOf_f24 : Cond.fieldLink RX4 24 RX4 "order" "[I" ∈ wsX4_placeOf := by decide +kernel
theorem k_X4_placeOf_f27 : Cond.fieldLink RX4 27 RX4 "size" "[I" ∈ wsX4_placeOf := by decide +kernel
theorem u_X4_placeOf_4 : ∀ w ∈ u_ws RX4 TX4 6, w ∈ wsX4_placeOf := by decide +kernel
noncomputable def b_X4_placeOf_2 (go : qB) (σ : qM) (x3 x4 x5 : Int32) : qR :=
  q_rd σ 6 10 x3 fun x6 =>
  if x6 ≤ x5 then (
  some ((-2), σ))
  else (
  q_nm ((x3 * 10)) fun x8 =>
  q_nm ((x8 + x5)) fun x9 =>
  q_rd σ 5 100 x9 fun x10 =>
  if x10 = x4 then (
  some (x5, σ))
  else (
  q_nm (x5 + 1) fun x12 =>
  go 0 σ [x3, x4, x12]))
noncomputable def D_X4_placeOf (go : qB) : qB := fun i σ xs => if i = 0 then (match xs with | [x3, x4, x5] => b_X4_placeOf_2 go σ x3 x4 x5 | _ => none) else none
noncomputable def e_X4_placeOf (go : qB) (σ : qM) (x1 : Int32) (x2 : Int32) : qR :=
  go 0 σ [x1, x2, 0]
noncomputable def f_X4_placeOf (σ : qM) (x1 : Int32) (x2 : Int32) : qR := e_X4_placeOf (q_lim (D_X4_placeOf)) σ x1 x2
set_option maxHeartbeats 4000000 in
set_option maxRecDepth 100000 in
theorem c_X4_placeOf (l : Launch) (D : va_G) (cI : ClassId) (tys : List (ClassId × FieldType)) (ht : tys[0]? = some (cI, .int)) (a : Nat → Nat) (σ : qM) (x1 : Int32) (x2 : Int32) : q_Met l yX4_placeOf wsX4_placeOf ({ frames := 0, cells := 0, slots := 0, locals := 0 }) [.ref (a 0), .int x1, .int x2] D tys (p_T cI a) σ (f_X4_placeOf σ x1 x2) := by
  refine x_ofWi (cc := cX4_placeOf) (maxL := 4) (ret := (some .int)) (by decide +kernel) rfl (pf_T cI a) (Nat.le_of_ble_eq_true rfl) ?_
  intro p e s m below meth c A ls qq h hx hb hml hr hlocks hown hts hK hP hD hA hS hl
  have hown : s.vm.findClass RX4 = some m.cls := hown
  have hl : lv_has ls 4 [(0, .ref (a 0)), (1, .int x1), (2, .int x2)] := hl
  have main : ∀ k9 : Nat, (∀ (σ : qM) (x3 x4 x5 : Int32) (H : Heap) (locs : List Loc) (ls : Array Slot), q_it (D_X4_placeOf) k9 0 σ [x3, x4, x5] = some qq → va_P D vwCl (p_T cI a σ) H → va_S A s.heap H locs → lv_has ls 4 [(0, .ref (a 0)), (1, .int x3), (2, .int x4), (3, .int x5)] → W p l e ({ frames := 0, cells := 0, slots := 0, locals := 0 }) s m [.ref (a 0), .int x1, .int x2].toArray below meth c H locs 0 0 (MQ below (va_Qi (fun r τ => (r, τ) = qq) (fun τ t => va_P D vwCl ((p_T cI a) τ) t.heap) A) [.ref (a 0), .int x1, .int x2].toArray s 0 0 A) (F0 m 2 ls [])) := by
    intro k9
    induction k9 with
    | zero => exact (fun _ _ _ _ _ _ _ h _ _ _ => (q_no (show (none : qR) = some qq from h)).elim)
    | succ k9 ih =>
      have i2 := ih
      refine ?_
      · intro σ x3 x4 x5 H locs ls h hP hS hl
        have h : b_X4_placeOf_2 (q_it (D_X4_placeOf) k9) σ x3 x4 x5 = some qq := h
        unfold b_X4_placeOf_2 at h
        refine lv_iload_n hx hb dX4_placeOf_2 rfl (lv_at hl 3 rfl) ?_
        refine lv_aload_n hx hb dX4_placeOf_3 rfl (lv_at hl 0 rfl) ?_
        refine x_getr (C := RX4) (k := 5) hx hb hts u_X4_placeOf_4 hown hK hP (g_T_0 cI a σ) rfl (by decide) ⟨rfl, rfl, rfl⟩ k_X4_placeOf_f27 rfl dX4_placeOf_4 ?_
        refine lv_iload_n hx hb dX4_placeOf_7 rfl (lv_at hl 1 rfl) ?_
        refine x_iald (t0 := 0) hx hb hK hP ht h (g_T_6 cI a σ) dX4_placeOf_8 (fun x6 h => ?_)
        refine lv_icmp_ge (tgt := 35) hx hb dX4_placeOf_9 (by decide) (fun c7 => ?_) (fun c7 => ?_)
        · have h := if_t c7 h
          refine lv_bipush (v := (-2)) hx hb dX4_placeOf_35 (by decide +kernel) ?_
          exact x_iret (p_T cI a) hx hb hr hlocks hP hS dX4_placeOf_37 h
        · have h := if_f c7 h
          refine lv_aload_n hx hb dX4_placeOf_12 rfl (lv_at hl 0 rfl) ?_
          refine x_getr (C := RX4) (k := 4) hx hb hts u_X4_placeOf_4 hown hK hP (g_T_0 cI a σ) rfl (by decide) ⟨rfl, rfl, rfl⟩ k_X4_placeOf_f24 rfl dX4_placeOf_13 ?_
          refine lv_iload_n hx hb dX4_placeOf_16 rfl (lv_at hl 1 rfl) ?_
          refine lv_bipush (v := 10) hx hb dX4_placeOf_17 (by decide +kernel) ?_
          refine x_imul hx hb dX4_placeOf_19 h (fun x8 h => ?_)
          refine lv_iload_n hx hb dX4_placeOf_20 rfl (lv_at hl 3 rfl) ?_
          refine x_iadd hx hb dX4_placeOf_21 h (fun x9 h => ?_)
          refine x_iald (t0 := 0) hx hb hK hP ht h (g_T_5 cI a σ) dX4_placeOf_22 (fun x10 h => ?_)
          refine lv_iload_n hx hb dX4_placeOf_23 rfl (lv_at hl 2 rfl) ?_
          refine lv_icmp_ne (tgt := 29) hx hb dX4_placeOf_24 (by decide) (fun c11 => ?_) (fun c11 => ?_)
          · have h := if_f c11 h
            refine x_iinc (k := 3) (w := 1) hx hb dX4_placeOf_29 hl rfl (by decide +kernel) (by decide) (fun v9 => [(3, .int v9), (0, .ref (a 0)), (1, .int x3), (2, .int x4)]) (fun v9 => rfl) h (fun x12 ls hl h => ?_)
            have hl : lv_has ls 4 [(3, .int x12), (0, .ref (a 0)), (1, .int x3), (2, .int x4)] := hl
            refine lv_goto (tgt := 2) hx hb dX4_placeOf_32 (by decide) ?_
            exact i2 σ x3 x4 x12 _ _ _ h hP hS (lv_sub hl [1, 2, 3, 0] rfl)
          · have h := if_t c11 h
            refine lv_iload_n hx hb dX4_placeOf_27 rfl (lv_at hl 3 rfl) ?_
            exact x_iret (p_T cI a) hx hb hr hlocks hP hS dX4_placeOf_28 h
  have i2 : ∀ (σ : qM) (x3 x4 x5 : Int32) (H : Heap) (locs : List Loc) (ls : Array Slot), q_lim (D_X4_placeOf) 0 σ [x3, x4, x5] = some qq → va_P D vwCl (p_T cI a σ) H → va_S A s.heap H locs → lv_has ls 4 [(0, .ref (a 0)), (1, .int x3), (2, .int x4), (3, .int x5)] → W p l e ({ frames := 0, cells := 0, slots := 0, locals := 0 }) s m [.ref (a 0), .int x1, .int x2].toArray below meth c H locs 0 0 (MQ below (va_Qi (fun r τ => (r, τ) = qq) (fun τ t => va_P D vwCl ((p_T cI a) τ) t.heap) A) [.ref (a 0), .int x1, .int x2].toArray s 0 0 A) (F0 m 2 ls []) := by
    intro σ x3 x4 x5 H locs ls h hP hS hl
    obtain ⟨k9, h⟩ := q_lim_n h
    exact (main k9) σ x3 x4 x5 H locs ls h hP hS hl
  have h : e_X4_placeOf (q_lim (D_X4_placeOf)) σ x1 x2 = some qq := h
  unfold e_X4_placeOf at h
  refine lv_iconst (v := 0) hx hb dX4_placeOf_0 (by decide +kernel) ?_
  refine lv_istore_n (lv' := [(3, .int 0), (0, .ref (a 0)), (1, .int x1), (2, .int x2)]) hx hb dX4_placeOf_1 rfl hl (by decide) rfl (fun ls hl => ?_)
  exact i2 σ x1 x2 0 _ _ _ h hP hS (lv_sub hl [1, 2, 3, 0] rfl)
/-! ===== VectorRounds$Tables.howMany(Z)I: world T ===== -/
theorem i_X4_howMany : yX4_howMany.cls = RX4 ∧ yX4_howMany.cls ≠ "java/lang/invoke/MethodHandle" ∧ yX4_howMany.cls ≠ "java/lang/invoke/VarHandle" ∧ (parseMethodDescriptor yX4_howMany.desc).map (fun d => d.parameters.length) = some 1 := by decide +kernel
theorem k_X4_howMany_f9 : Cond.fieldLink RX4 9 RX4 "metric" "[I" ∈ wsX4_howMany := by decide +kernel
theorem u_X4_howMany_4 : ∀ w ∈ u_ws RX4 TX4 6, w ∈ wsX4_howMany := by decide +kernel
noncomputable def b_X4_howMany_4 (go : qB) (σ : qM) (x2 x3 x4 : Int32) : qR :=
  if (100 : Int32) ≤ x4 then (
  some (x3, σ))
  else (
  if x2 = 0 then (
  q_cl (f_X4_has σ x4) (fun τ => τ) fun x8 s7 =>
  if x8 = 0 then (
  q_nm (x4 + 1) fun x10 =>
  go 0 s7 [x2, x3, x10])
  else (
  q_nm (x3 + 1) fun x11 =>
  q_nm (x4 + 1) fun x12 =>
  go 0 s7 [x2, x11, x12]))
  else (
  q_rd σ 1 100 x4 fun x13 =>
  if x13 = 16 then (
  q_nm (x3 + 1) fun x16 =>
  q_nm (x4 + 1) fun x17 =>
  go 0 σ [x2, x16, x17])
  else (
  q_nm (x4 + 1) fun x15 =>
  go 0 σ [x2, x3, x15])))
noncomputable def D_X4_howMany (go : qB) : qB := fun i σ xs => if i = 0 then (match xs with | [x2, x3, x4] => b_X4_howMany_4 go σ x2 x3 x4 | _ => none) else none
noncomputable def e_X4_howMany (go : qB) (σ : qM) (x1 : Int32) : qR :=
  go 0 σ [x1, 0, 0]
noncomputable def f_X4_howMany (σ : qM) (x1 : Int32) : qR := e_X4_howMany (q_lim (D_X4_howMany)) σ x1
set_option maxHeartbeats 4000000 in
set_option maxRecDepth 100000 in
theorem c_X4_howMany (l : Launch) (D : va_G) (cI : ClassId) (tys : List (ClassId × FieldType)) (ht : tys[0]? = some (cI, .int)) (a : Nat → Nat) (σ : qM) (x1 : Int32) : q_Met l yX4_howMany wsX4_howMany ({ frames := 1, cells := 0, slots := 0, locals := 21 }) [.ref (a 0), .int x1] D tys (p_T cI a) σ (f_X4_howMany σ x1) := by
  refine x_ofWi (cc := cX4_howMany) (maxL := 4) (ret := (some .int)) (by decide +kernel) rfl (pf_T cI a) (Nat.le_of_ble_eq_true rfl) ?_
  intro p e s m below meth c A ls qq h hx hb hml hr hlocks hown hts hK hP hD hA hS hl
  have hown : s.vm.findClass RX4 = some m.cls := hown
  have hl : lv_has ls 4 [(0, .ref (a 0)), (1, .int x1)] := hl
  have main : ∀ k9 : Nat, (∀ (σ : qM) (x2 x3 x4 : Int32) (H : Heap) (locs : List Loc) (ls : Array Slot), q_it (D_X4_howMany) k9 0 σ [x2, x3, x4] = some qq → va_P D vwCl (p_T cI a σ) H → va_S A s.heap H locs → lv_has ls 4 [(0, .ref (a 0)), (1, .int x2), (2, .int x3), (3, .int x4)] → W p l e ({ frames := 1, cells := 0, slots := 0, locals := 21 }) s m [.ref (a 0), .int x1].toArray below meth c H locs 0 0 (MQ below (va_Qi (fun r τ => (r, τ) = qq) (fun τ t => va_P D vwCl ((p_T cI a) τ) t.heap) A) [.ref (a 0), .int x1].toArray s 0 0 A) (F0 m 4 ls [])) := by
    intro k9
    induction k9 with
    | zero => exact (fun _ _ _ _ _ _ _ h _ _ _ => (q_no (show (none : qR) = some qq from h)).elim)
    | succ k9 ih =>
      have i4 := ih
      refine ?_
      · intro σ x2 x3 x4 H locs ls h hP hS hl
        have h : b_X4_howMany_4 (q_it (D_X4_howMany) k9) σ x2 x3 x4 = some qq := h
        unfold b_X4_howMany_4 at h
        refine lv_iload_n hx hb dX4_howMany_4 rfl (lv_at hl 3 rfl) ?_
        refine lv_bipush (v := 100) hx hb dX4_howMany_5 (by decide +kernel) ?_
        refine lv_icmp_ge (tgt := 45) hx hb dX4_howMany_7 (by decide) (fun c5 => ?_) (fun c5 => ?_)
        · have h := if_t c5 h
          refine lv_iload_n hx hb dX4_howMany_45 rfl (lv_at hl 2 rfl) ?_
          exact x_iret (p_T cI a) hx hb hr hlocks hP hS dX4_howMany_46 h
        · have h := if_f c5 h
          refine lv_iload_n hx hb dX4_howMany_10 rfl (lv_at hl 1 rfl) ?_
          refine lv_if_eq (tgt := 28) hx hb dX4_howMany_11 (by decide) (fun c6 => ?_) (fun c6 => ?_)
          · have h := if_t c6 h
            refine lv_aload_n hx hb dX4_howMany_28 rfl (lv_at hl 0 rfl) ?_
            refine lv_iload_n hx hb dX4_howMany_29 rfl (lv_at hl 3 rfl) ?_
            refine x_cVi (p_T cI a) (p_T cI a) (fun τ => τ) [] [.int x4] hx hb hml hl.1 hown hts hK hP hD hS hA rfl (c_X4_has l D cI tys ht a σ x4) gX4_howMany_X4_has rfl ⟨rfl, rfl⟩ i_X4_has ⟨Nat.le_of_ble_eq_true rfl, Nat.le_of_ble_eq_true rfl⟩ q_frI (g_T_0 cI a σ) rfl rfl (Nat.le_of_ble_eq_true rfl) ⟨Nat.zero_le _, Nat.zero_le _⟩ dX4_howMany_30 h (fun x8 H locs s7 hP hS h => ?_)
            refine lv_if_eq (tgt := 39) hx hb dX4_howMany_33 (by decide) (fun c9 => ?_) (fun c9 => ?_)
            · have h := if_t c9 h
              refine x_iinc (k := 3) (w := 1) hx hb dX4_howMany_39 hl rfl (by decide +kernel) (by decide) (fun v9 => [(3, .int v9), (0, .ref (a 0)), (1, .int x2), (2, .int x3)]) (fun v9 => rfl) h (fun x10 ls hl h => ?_)
              have hl : lv_has ls 4 [(3, .int x10), (0, .ref (a 0)), (1, .int x2), (2, .int x3)] := hl
              refine lv_goto (tgt := 4) hx hb dX4_howMany_42 (by decide) ?_
              exact i4 s7 x2 x3 x10 _ _ _ h hP hS (lv_sub hl [1, 2, 3, 0] rfl)
            · have h := if_f c9 h
              refine x_iinc (k := 2) (w := 1) hx hb dX4_howMany_36 hl rfl (by decide +kernel) (by decide) (fun v9 => [(2, .int v9), (0, .ref (a 0)), (1, .int x2), (3, .int x4)]) (fun v9 => rfl) h (fun x11 ls hl h => ?_)
              have hl : lv_has ls 4 [(2, .int x11), (0, .ref (a 0)), (1, .int x2), (3, .int x4)] := hl
              refine x_iinc (k := 3) (w := 1) hx hb dX4_howMany_39 hl rfl (by decide +kernel) (by decide) (fun v9 => [(3, .int v9), (2, .int x11), (0, .ref (a 0)), (1, .int x2)]) (fun v9 => rfl) h (fun x12 ls hl h => ?_)
              have hl : lv_has ls 4 [(3, .int x12), (2, .int x11), (0, .ref (a 0)), (1, .int x2)] := hl
              refine lv_goto (tgt := 4) hx hb dX4_howMany_42 (by decide) ?_
              exact i4 s7 x2 x11 x12 _ _ _ h hP hS (lv_sub hl [2, 3, 1, 0] rfl)
          · have h := if_f c6 h
            refine lv_aload_n hx hb dX4_howMany_14 rfl (lv_at hl 0 rfl) ?_
            refine x_getr (C := RX4) (k := 0) hx hb hts u_X4_howMany_4 hown hK hP (g_T_0 cI a σ) rfl (by decide) ⟨rfl, rfl, rfl⟩ k_X4_howMany_f9 rfl dX4_howMany_15 ?_
            refine lv_iload_n hx hb dX4_howMany_18 rfl (lv_at hl 3 rfl) ?_
            refine x_iald (t0 := 0) hx hb hK hP ht h (g_T_1 cI a σ) dX4_howMany_19 (fun x13 h => ?_)
            refine lv_bipush (v := 16) hx hb dX4_howMany_20 (by decide +kernel) ?_
            refine lv_icmp_ne (tgt := 39) hx hb dX4_howMany_22 (by decide) (fun c14 => ?_) (fun c14 => ?_)
            · have h := if_f c14 h
              refine x_iinc (k := 3) (w := 1) hx hb dX4_howMany_39 hl rfl (by decide +kernel) (by decide) (fun v9 => [(3, .int v9), (0, .ref (a 0)), (1, .int x2), (2, .int x3)]) (fun v9 => rfl) h (fun x15 ls hl h => ?_)
              have hl : lv_has ls 4 [(3, .int x15), (0, .ref (a 0)), (1, .int x2), (2, .int x3)] := hl
              refine lv_goto (tgt := 4) hx hb dX4_howMany_42 (by decide) ?_
              exact i4 σ x2 x3 x15 _ _ _ h hP hS (lv_sub hl [1, 2, 3, 0] rfl)
            · have h := if_t c14 h
              refine lv_goto (tgt := 36) hx hb dX4_howMany_25 (by decide) ?_
              refine x_iinc (k := 2) (w := 1) hx hb dX4_howMany_36 hl rfl (by decide +kernel) (by decide) (fun v9 => [(2, .int v9), (0, .ref (a 0)), (1, .int x2), (3, .int x4)]) (fun v9 => rfl) h (fun x16 ls hl h => ?_)
              have hl : lv_has ls 4 [(2, .int x16), (0, .ref (a 0)), (1, .int x2), (3, .int x4)] := hl
              refine x_iinc (k := 3) (w := 1) hx hb dX4_howMany_39 hl rfl (by decide +kernel) (by decide) (fun v9 => [(3, .int v9), (2, .int x16), (0, .ref (a 0)), (1, .int x2)]) (fun v9 => rfl) h (fun x17 ls hl h => ?_)
              have hl : lv_has ls 4 [(3, .int x17), (2, .int x16), (0, .ref (a 0)), (1, .int x2)] := hl
              refine lv_goto (tgt := 4) hx hb dX4_howMany_42 (by decide) ?_
              exact i4 σ x2 x16 x17 _ _ _ h hP hS (lv_sub hl [2, 3, 1, 0] rfl)
  have i4 : ∀ (σ : qM) (x2 x3 x4 : Int32) (H : Heap) (locs : List Loc) (ls : Array Slot), q_lim (D_X4_howMany) 0 σ [x2, x3, x4] = some qq → va_P D vwCl (p_T cI a σ) H → va_S A s.heap H locs → lv_has ls 4 [(0, .ref (a 0)), (1, .int x2), (2, .int x3), (3, .int x4)] → W p l e ({ frames := 1, cells := 0, slots := 0, locals := 21 }) s m [.ref (a 0), .int x1].toArray below meth c H locs 0 0 (MQ below (va_Qi (fun r τ => (r, τ) = qq) (fun τ t => va_P D vwCl ((p_T cI a) τ) t.heap) A) [.ref (a 0), .int x1].toArray s 0 0 A) (F0 m 4 ls []) := by
    intro σ x2 x3 x4 H locs ls h hP hS hl
    obtain ⟨k9, h⟩ := q_lim_n h
    exact (main k9) σ x2 x3 x4 H locs ls h hP hS hl
  have h : e_X4_howMany (q_lim (D_X4_howMany)) σ x1 = some qq := h
  unfold e_X4_howMany at h
  refine lv_iconst (v := 0) hx hb dX4_howMany_0 (by decide +kernel) ?_
  refine lv_istore_n (lv' := [(2, .int 0), (0, .ref (a 0)), (1, .int x1)]) hx hb dX4_howMany_1 rfl hl (by decide) rfl (fun ls hl => ?_)
  refine lv_iconst (v := 0) hx hb dX4_howMany_2 (by decide +kernel) ?_
  refine lv_istore_n (lv' := [(3, .int 0), (2, .int 0), (0, .ref (a 0)), (1, .int x1)]) hx hb dX4_howMany_3 rfl hl (by decide) rfl (fun ls hl => ?_)
  exact i4 σ x1 0 0 _ _ _ h hP hS (lv_sub hl [2, 3, 1, 0] rfl)
/-! ===== VectorRounds$Tables.howManyDiffer(LVectorRounds$Tables;)I: world TT ===== -/
theorem i_X4_howManyDiffer : yX4_howManyDiffer.cls = RX4 ∧ yX4_howManyDiffer.cls ≠ "java/lang/invoke/MethodHandle" ∧ yX4_howManyDiffer.cls ≠ "java/lang/invoke/VarHandle" ∧ (parseMethodDescriptor yX4_howManyDiffer.desc).map (fun d => d.parameters.length) = some 1 := by decide +kernel
theorem k_X4_howManyDiffer_f15 : Cond.fieldLink RX4 15 RX4 "via" "[I" ∈ wsX4_howManyDiffer := by decide +kernel
theorem k_X4_howManyDiffer_f9 : Cond.fieldLink RX4 9 RX4 "metric" "[I" ∈ wsX4_howManyDiffer := by decide +kernel
theorem u_X4_howManyDiffer_4 : ∀ w ∈ u_ws RX4 TX4 6, w ∈ wsX4_howManyDiffer := by decide +kernel
noncomputable def b_X4_howManyDiffer_4 (go : qB) (σ : qM) (x1 x2 : Int32) : qR :=
  if (100 : Int32) ≤ x2 then (
  some (x1, σ))
  else (
  q_rd σ 1 100 x2 fun x4 =>
  q_rd σ 8 100 x2 fun x5 =>
  if x4 = x5 then (
  q_rd σ 2 100 x2 fun x9 =>
  q_rd σ 9 100 x2 fun x10 =>
  if x9 = x10 then (
  q_nm (x2 + 1) fun x12 =>
  go 0 σ [x1, x12])
  else (
  q_nm (x1 + 1) fun x13 =>
  q_nm (x2 + 1) fun x14 =>
  go 0 σ [x13, x14]))
  else (
  q_nm (x1 + 1) fun x7 =>
  q_nm (x2 + 1) fun x8 =>
  go 0 σ [x7, x8]))
noncomputable def D_X4_howManyDiffer (go : qB) : qB := fun i σ xs => if i = 0 then (match xs with | [x1, x2] => b_X4_howManyDiffer_4 go σ x1 x2 | _ => none) else none
noncomputable def e_X4_howManyDiffer (go : qB) (σ : qM) : qR :=
  go 0 σ [0, 0]
noncomputable def f_X4_howManyDiffer (σ : qM) : qR := e_X4_howManyDiffer (q_lim (D_X4_howManyDiffer)) σ
set_option maxHeartbeats 4000000 in
set_option maxRecDepth 100000 in
theorem c_X4_howManyDiffer (l : Launch) (D : va_G) (cI : ClassId) (tys : List (ClassId × FieldType)) (ht : tys[0]? = some (cI, .int)) (a : Nat → Nat) (σ : qM) : q_Met l yX4_howManyDiffer wsX4_howManyDiffer ({ frames := 0, cells := 0, slots := 0, locals := 0 }) [.ref (a 0), .ref (a 7)] D tys (p_TT cI a) σ (f_X4_howManyDiffer σ) := by
  refine x_ofWi (cc := cX4_howManyDiffer) (maxL := 4) (ret := (some .int)) (by decide +kernel) rfl (pf_TT cI a) (Nat.le_of_ble_eq_true rfl) ?_
  intro p e s m below meth c A ls qq h hx hb hml hr hlocks hown hts hK hP hD hA hS hl
  have hown : s.vm.findClass RX4 = some m.cls := hown
  have hl : lv_has ls 4 [(0, .ref (a 0)), (1, .ref (a 7))] := hl
  have main : ∀ k9 : Nat, (∀ (σ : qM) (x1 x2 : Int32) (H : Heap) (locs : List Loc) (ls : Array Slot), q_it (D_X4_howManyDiffer) k9 0 σ [x1, x2] = some qq → va_P D vwCl (p_TT cI a σ) H → va_S A s.heap H locs → lv_has ls 4 [(0, .ref (a 0)), (1, .ref (a 7)), (2, .int x1), (3, .int x2)] → W p l e ({ frames := 0, cells := 0, slots := 0, locals := 0 }) s m [.ref (a 0), .ref (a 7)].toArray below meth c H locs 0 0 (MQ below (va_Qi (fun r τ => (r, τ) = qq) (fun τ t => va_P D vwCl ((p_TT cI a) τ) t.heap) A) [.ref (a 0), .ref (a 7)].toArray s 0 0 A) (F0 m 4 ls [])) := by
    intro k9
    induction k9 with
    | zero => exact (fun _ _ _ _ _ _ h _ _ _ => (q_no (show (none : qR) = some qq from h)).elim)
    | succ k9 ih =>
      have i4 := ih
      refine ?_
      · intro σ x1 x2 H locs ls h hP hS hl
        have h : b_X4_howManyDiffer_4 (q_it (D_X4_howManyDiffer) k9) σ x1 x2 = some qq := h
        unfold b_X4_howManyDiffer_4 at h
        refine lv_iload_n hx hb dX4_howManyDiffer_4 rfl (lv_at hl 3 rfl) ?_
        refine lv_bipush (v := 100) hx hb dX4_howManyDiffer_5 (by decide +kernel) ?_
        refine lv_icmp_ge (tgt := 49) hx hb dX4_howManyDiffer_7 (by decide) (fun c3 => ?_) (fun c3 => ?_)
        · have h := if_t c3 h
          refine lv_iload_n hx hb dX4_howManyDiffer_49 rfl (lv_at hl 2 rfl) ?_
          exact x_iret (p_TT cI a) hx hb hr hlocks hP hS dX4_howManyDiffer_50 h
        · have h := if_f c3 h
          refine lv_aload_n hx hb dX4_howManyDiffer_10 rfl (lv_at hl 0 rfl) ?_
          refine x_getr (C := RX4) (k := 0) hx hb hts u_X4_howManyDiffer_4 hown hK hP (g_TT_0 cI a σ) rfl (by decide) ⟨rfl, rfl, rfl⟩ k_X4_howManyDiffer_f9 rfl dX4_howManyDiffer_11 ?_
          refine lv_iload_n hx hb dX4_howManyDiffer_14 rfl (lv_at hl 3 rfl) ?_
          refine x_iald (t0 := 0) hx hb hK hP ht h (g_TT_1 cI a σ) dX4_howManyDiffer_15 (fun x4 h => ?_)
          refine lv_aload_n hx hb dX4_howManyDiffer_16 rfl (lv_at hl 1 rfl) ?_
          refine x_getr (C := RX4) (k := 0) hx hb hts u_X4_howManyDiffer_4 hown hK hP (g_TT_7 cI a σ) rfl (by decide) ⟨rfl, rfl, rfl⟩ k_X4_howManyDiffer_f9 rfl dX4_howManyDiffer_17 ?_
          refine lv_iload_n hx hb dX4_howManyDiffer_20 rfl (lv_at hl 3 rfl) ?_
          refine x_iald (t0 := 0) hx hb hK hP ht h (g_TT_8 cI a σ) dX4_howManyDiffer_21 (fun x5 h => ?_)
          refine lv_icmp_ne (tgt := 40) hx hb dX4_howManyDiffer_22 (by decide) (fun c6 => ?_) (fun c6 => ?_)
          · have h := if_f c6 h
            refine x_iinc (k := 2) (w := 1) hx hb dX4_howManyDiffer_40 hl rfl (by decide +kernel) (by decide) (fun v9 => [(2, .int v9), (0, .ref (a 0)), (1, .ref (a 7)), (3, .int x2)]) (fun v9 => rfl) h (fun x7 ls hl h => ?_)
            have hl : lv_has ls 4 [(2, .int x7), (0, .ref (a 0)), (1, .ref (a 7)), (3, .int x2)] := hl
            refine x_iinc (k := 3) (w := 1) hx hb dX4_howManyDiffer_43 hl rfl (by decide +kernel) (by decide) (fun v9 => [(3, .int v9), (2, .int x7), (0, .ref (a 0)), (1, .ref (a 7))]) (fun v9 => rfl) h (fun x8 ls hl h => ?_)
            have hl : lv_has ls 4 [(3, .int x8), (2, .int x7), (0, .ref (a 0)), (1, .ref (a 7))] := hl
            refine lv_goto (tgt := 4) hx hb dX4_howManyDiffer_46 (by decide) ?_
            exact i4 σ x7 x8 _ _ _ h hP hS (lv_sub hl [2, 3, 1, 0] rfl)
          · have h := if_t c6 h
            refine lv_aload_n hx hb dX4_howManyDiffer_25 rfl (lv_at hl 0 rfl) ?_
            refine x_getr (C := RX4) (k := 1) hx hb hts u_X4_howManyDiffer_4 hown hK hP (g_TT_0 cI a σ) rfl (by decide) ⟨rfl, rfl, rfl⟩ k_X4_howManyDiffer_f15 rfl dX4_howManyDiffer_26 ?_
            refine lv_iload_n hx hb dX4_howManyDiffer_29 rfl (lv_at hl 3 rfl) ?_
            refine x_iald (t0 := 0) hx hb hK hP ht h (g_TT_2 cI a σ) dX4_howManyDiffer_30 (fun x9 h => ?_)
            refine lv_aload_n hx hb dX4_howManyDiffer_31 rfl (lv_at hl 1 rfl) ?_
            refine x_getr (C := RX4) (k := 1) hx hb hts u_X4_howManyDiffer_4 hown hK hP (g_TT_7 cI a σ) rfl (by decide) ⟨rfl, rfl, rfl⟩ k_X4_howManyDiffer_f15 rfl dX4_howManyDiffer_32 ?_
            refine lv_iload_n hx hb dX4_howManyDiffer_35 rfl (lv_at hl 3 rfl) ?_
            refine x_iald (t0 := 0) hx hb hK hP ht h (g_TT_9 cI a σ) dX4_howManyDiffer_36 (fun x10 h => ?_)
            refine lv_icmp_eq (tgt := 43) hx hb dX4_howManyDiffer_37 (by decide) (fun c11 => ?_) (fun c11 => ?_)
            · have h := if_t c11 h
              refine x_iinc (k := 3) (w := 1) hx hb dX4_howManyDiffer_43 hl rfl (by decide +kernel) (by decide) (fun v9 => [(3, .int v9), (0, .ref (a 0)), (1, .ref (a 7)), (2, .int x1)]) (fun v9 => rfl) h (fun x12 ls hl h => ?_)
              have hl : lv_has ls 4 [(3, .int x12), (0, .ref (a 0)), (1, .ref (a 7)), (2, .int x1)] := hl
              refine lv_goto (tgt := 4) hx hb dX4_howManyDiffer_46 (by decide) ?_
              exact i4 σ x1 x12 _ _ _ h hP hS (lv_sub hl [1, 2, 3, 0] rfl)
            · have h := if_f c11 h
              refine x_iinc (k := 2) (w := 1) hx hb dX4_howManyDiffer_40 hl rfl (by decide +kernel) (by decide) (fun v9 => [(2, .int v9), (0, .ref (a 0)), (1, .ref (a 7)), (3, .int x2)]) (fun v9 => rfl) h (fun x13 ls hl h => ?_)
              have hl : lv_has ls 4 [(2, .int x13), (0, .ref (a 0)), (1, .ref (a 7)), (3, .int x2)] := hl
              refine x_iinc (k := 3) (w := 1) hx hb dX4_howManyDiffer_43 hl rfl (by decide +kernel) (by decide) (fun v9 => [(3, .int v9), (2, .int x13), (0, .ref (a 0)), (1, .ref (a 7))]) (fun v9 => rfl) h (fun x14 ls hl h => ?_)
              have hl : lv_has ls 4 [(3, .int x14), (2, .int x13), (0, .ref (a 0)), (1, .ref (a 7))] := hl
              refine lv_goto (tgt := 4) hx hb dX4_howManyDiffer_46 (by decide) ?_
              exact i4 σ x13 x14 _ _ _ h hP hS (lv_sub hl [2, 3, 1, 0] rfl)
  have i4 : ∀ (σ : qM) (x1 x2 : Int32) (H : Heap) (locs : List Loc) (ls : Array Slot), q_lim (D_X4_howManyDiffer) 0 σ [x1, x2] = some qq → va_P D vwCl (p_TT cI a σ) H → va_S A s.heap H locs → lv_has ls 4 [(0, .ref (a 0)), (1, .ref (a 7)), (2, .int x1), (3, .int x2)] → W p l e ({ frames := 0, cells := 0, slots := 0, locals := 0 }) s m [.ref (a 0), .ref (a 7)].toArray below meth c H locs 0 0 (MQ below (va_Qi (fun r τ => (r, τ) = qq) (fun τ t => va_P D vwCl ((p_TT cI a) τ) t.heap) A) [.ref (a 0), .ref (a 7)].toArray s 0 0 A) (F0 m 4 ls []) := by
    intro σ x1 x2 H locs ls h hP hS hl
    obtain ⟨k9, h⟩ := q_lim_n h
    exact (main k9) σ x1 x2 H locs ls h hP hS hl
  have h : e_X4_howManyDiffer (q_lim (D_X4_howManyDiffer)) σ = some qq := h
  unfold e_X4_howManyDiffer at h
  refine lv_iconst (v := 0) hx hb dX4_howManyDiffer_0 (by decide +kernel) ?_
  refine lv_istore_n (lv' := [(2, .int 0), (0, .ref (a 0)), (1, .ref (a 7))]) hx hb dX4_howManyDiffer_1 rfl hl (by decide) rfl (fun ls hl => ?_)
  refine lv_iconst (v := 0) hx hb dX4_howManyDiffer_2 (by decide +kernel) ?_
  refine lv_istore_n (lv' := [(3, .int 0), (2, .int 0), (0, .ref (a 0)), (1, .ref (a 7))]) hx hb dX4_howManyDiffer_3 rfl hl (by decide) rfl (fun ls hl => ?_)
  exact i4 σ 0 0 _ _ _ h hP hS (lv_sub hl [2, 3, 1, 0] rfl)
/-! ===== VectorRounds$Tables.become(LVectorRounds$Tables;)V: world TT ===== -/
theorem i_X4_become : yX4_become.cls = RX4 ∧ yX4_become.cls ≠ "java/lang/invoke/MethodHandle" ∧ yX4_become.cls ≠ "java/lang/invoke/VarHandle" ∧ (parseMethodDescriptor yX4_become.desc).map (fun d => d.parameters.length) = some 1 := by decide +kernel
theorem k_X4_become_f15 : Cond.fieldLink RX4 15 RX4 "via" "[I" ∈ wsX4_become := by decide +kernel
theorem k_X4_become_f18 : Cond.fieldLink RX4 18 RX4 "sequence" "[I" ∈ wsX4_become := by decide +kernel
theorem k_X4_become_f21 : Cond.fieldLink RX4 21 RX4 "held" "[I" ∈ wsX4_become := by decide +kernel
theorem k_X4_become_f24 : Cond.fieldLink RX4 24 RX4 "order" "[I" ∈ wsX4_become := by decide +kernel
theorem k_X4_become_f27 : Cond.fieldLink RX4 27 RX4 "size" "[I" ∈ wsX4_become := by decide +kernel
theorem k_X4_become_f9 : Cond.fieldLink RX4 9 RX4 "metric" "[I" ∈ wsX4_become := by decide +kernel
theorem k_X4_become_m36 : Cond.methodLink RX4 36 arraycopyName ∈ wsX4_become ∧ Cond.native arraycopyName ∈ wsX4_become ∧ Cond.static arraycopyName ∈ wsX4_become ∧ Cond.initialized "java/lang/System" ∈ wsX4_become := by decide +kernel
theorem u_X4_become_4 : ∀ w ∈ u_ws RX4 TX4 6, w ∈ wsX4_become := by decide +kernel
noncomputable def f_X4_become (σ : qM) : qR :=
  q_nm (q_wa σ 1 (va_cpy (σ 8) (σ 1) 0 0 100)) fun s1 =>
  q_nm (q_wa s1 2 (va_cpy (s1 9) (s1 2) 0 0 100)) fun s2 =>
  q_nm (q_wa s2 3 (va_cpy (s2 10) (s2 3) 0 0 100)) fun s3 =>
  q_nm (q_wa s3 4 (va_cpy (s3 11) (s3 4) 0 0 100)) fun s4 =>
  q_nm (q_wa s4 5 (va_cpy (s4 12) (s4 5) 0 0 100)) fun s5 =>
  q_nm (q_wa s5 6 (va_cpy (s5 13) (s5 6) 0 0 10)) fun s6 =>
  some (0, s6)
set_option maxHeartbeats 4000000 in
set_option maxRecDepth 100000 in
theorem c_X4_become (l : Launch) (D : va_G) (cI : ClassId) (tys : List (ClassId × FieldType)) (ht : tys[0]? = some (cI, .int)) (a : Nat → Nat) (σ : qM) : q_Mev l yX4_become wsX4_become ({ frames := 1, cells := 0, slots := 0, locals := 60 }) [.ref (a 0), .ref (a 7)] D tys (p_TT cI a) σ (f_X4_become σ) := by
  refine x_ofWv (cc := cX4_become) (maxL := 2) (ret := none) (by decide +kernel) rfl (pf_TT cI a) (Nat.le_of_ble_eq_true rfl) ?_
  intro p e s m below meth c A ls qq h hx hb hml hr hlocks hown hts hK hP hD hA hS hl
  have hown : s.vm.findClass RX4 = some m.cls := hown
  have hl : lv_has ls 2 [(0, .ref (a 0)), (1, .ref (a 7))] := hl
  unfold f_X4_become at h
  refine lv_aload_n hx hb dX4_become_0 rfl (lv_at hl 1 rfl) ?_
  refine x_getr (C := RX4) (k := 0) hx hb hts u_X4_become_4 hown hK hP (g_TT_7 cI a σ) rfl (by decide) ⟨rfl, rfl, rfl⟩ k_X4_become_f9 rfl dX4_become_1 ?_
  refine lv_iconst (v := 0) hx hb dX4_become_4 (by decide +kernel) ?_
  refine lv_aload_n hx hb dX4_become_5 rfl (lv_at hl 0 rfl) ?_
  refine x_getr (C := RX4) (k := 0) hx hb hts u_X4_become_4 hown hK hP (g_TT_0 cI a σ) rfl (by decide) ⟨rfl, rfl, rfl⟩ k_X4_become_f9 rfl dX4_become_6 ?_
  refine lv_iconst (v := 0) hx hb dX4_become_9 (by decide +kernel) ?_
  refine lv_bipush (v := 100) hx hb dX4_become_10 (by decide +kernel) ?_
  refine x_copy (p_TT cI a) 100 (t0 := 0) hx hb (hml.trans hl.1.symm) hown hts hK hP hD hS k_X4_become_m36 ht h (g_TT_8 cI a σ) (g_TT_1 cI a σ) (by decide +kernel) (fun g9 => (s_TT_1 cI a σ g9)) ⟨Nat.le_of_ble_eq_true rfl, by decide +kernel⟩ dX4_become_12 (fun H locs s1 hP hS h => ?_)
  refine lv_aload_n hx hb dX4_become_15 rfl (lv_at hl 1 rfl) ?_
  refine x_getr (C := RX4) (k := 1) hx hb hts u_X4_become_4 hown hK hP (g_TT_7 cI a s1) rfl (by decide) ⟨rfl, rfl, rfl⟩ k_X4_become_f15 rfl dX4_become_16 ?_
  refine lv_iconst (v := 0) hx hb dX4_become_19 (by decide +kernel) ?_
  refine lv_aload_n hx hb dX4_become_20 rfl (lv_at hl 0 rfl) ?_
  refine x_getr (C := RX4) (k := 1) hx hb hts u_X4_become_4 hown hK hP (g_TT_0 cI a s1) rfl (by decide) ⟨rfl, rfl, rfl⟩ k_X4_become_f15 rfl dX4_become_21 ?_
  refine lv_iconst (v := 0) hx hb dX4_become_24 (by decide +kernel) ?_
  refine lv_bipush (v := 100) hx hb dX4_become_25 (by decide +kernel) ?_
  refine x_copy (p_TT cI a) 100 (t0 := 0) hx hb (hml.trans hl.1.symm) hown hts hK hP hD hS k_X4_become_m36 ht h (g_TT_9 cI a s1) (g_TT_2 cI a s1) (by decide +kernel) (fun g9 => (s_TT_2 cI a s1 g9)) ⟨Nat.le_of_ble_eq_true rfl, by decide +kernel⟩ dX4_become_27 (fun H locs s2 hP hS h => ?_)
  refine lv_aload_n hx hb dX4_become_30 rfl (lv_at hl 1 rfl) ?_
  refine x_getr (C := RX4) (k := 2) hx hb hts u_X4_become_4 hown hK hP (g_TT_7 cI a s2) rfl (by decide) ⟨rfl, rfl, rfl⟩ k_X4_become_f18 rfl dX4_become_31 ?_
  refine lv_iconst (v := 0) hx hb dX4_become_34 (by decide +kernel) ?_
  refine lv_aload_n hx hb dX4_become_35 rfl (lv_at hl 0 rfl) ?_
  refine x_getr (C := RX4) (k := 2) hx hb hts u_X4_become_4 hown hK hP (g_TT_0 cI a s2) rfl (by decide) ⟨rfl, rfl, rfl⟩ k_X4_become_f18 rfl dX4_become_36 ?_
  refine lv_iconst (v := 0) hx hb dX4_become_39 (by decide +kernel) ?_
  refine lv_bipush (v := 100) hx hb dX4_become_40 (by decide +kernel) ?_
  refine x_copy (p_TT cI a) 100 (t0 := 0) hx hb (hml.trans hl.1.symm) hown hts hK hP hD hS k_X4_become_m36 ht h (g_TT_10 cI a s2) (g_TT_3 cI a s2) (by decide +kernel) (fun g9 => (s_TT_3 cI a s2 g9)) ⟨Nat.le_of_ble_eq_true rfl, by decide +kernel⟩ dX4_become_42 (fun H locs s3 hP hS h => ?_)
  refine lv_aload_n hx hb dX4_become_45 rfl (lv_at hl 1 rfl) ?_
  refine x_getr (C := RX4) (k := 3) hx hb hts u_X4_become_4 hown hK hP (g_TT_7 cI a s3) rfl (by decide) ⟨rfl, rfl, rfl⟩ k_X4_become_f21 rfl dX4_become_46 ?_
  refine lv_iconst (v := 0) hx hb dX4_become_49 (by decide +kernel) ?_
  refine lv_aload_n hx hb dX4_become_50 rfl (lv_at hl 0 rfl) ?_
  refine x_getr (C := RX4) (k := 3) hx hb hts u_X4_become_4 hown hK hP (g_TT_0 cI a s3) rfl (by decide) ⟨rfl, rfl, rfl⟩ k_X4_become_f21 rfl dX4_become_51 ?_
  refine lv_iconst (v := 0) hx hb dX4_become_54 (by decide +kernel) ?_
  refine lv_bipush (v := 100) hx hb dX4_become_55 (by decide +kernel) ?_
  refine x_copy (p_TT cI a) 100 (t0 := 0) hx hb (hml.trans hl.1.symm) hown hts hK hP hD hS k_X4_become_m36 ht h (g_TT_11 cI a s3) (g_TT_4 cI a s3) (by decide +kernel) (fun g9 => (s_TT_4 cI a s3 g9)) ⟨Nat.le_of_ble_eq_true rfl, by decide +kernel⟩ dX4_become_57 (fun H locs s4 hP hS h => ?_)
  refine lv_aload_n hx hb dX4_become_60 rfl (lv_at hl 1 rfl) ?_
  refine x_getr (C := RX4) (k := 4) hx hb hts u_X4_become_4 hown hK hP (g_TT_7 cI a s4) rfl (by decide) ⟨rfl, rfl, rfl⟩ k_X4_become_f24 rfl dX4_become_61 ?_
  refine lv_iconst (v := 0) hx hb dX4_become_64 (by decide +kernel) ?_
  refine lv_aload_n hx hb dX4_become_65 rfl (lv_at hl 0 rfl) ?_
  refine x_getr (C := RX4) (k := 4) hx hb hts u_X4_become_4 hown hK hP (g_TT_0 cI a s4) rfl (by decide) ⟨rfl, rfl, rfl⟩ k_X4_become_f24 rfl dX4_become_66 ?_
  refine lv_iconst (v := 0) hx hb dX4_become_69 (by decide +kernel) ?_
  refine lv_bipush (v := 100) hx hb dX4_become_70 (by decide +kernel) ?_
  refine x_copy (p_TT cI a) 100 (t0 := 0) hx hb (hml.trans hl.1.symm) hown hts hK hP hD hS k_X4_become_m36 ht h (g_TT_12 cI a s4) (g_TT_5 cI a s4) (by decide +kernel) (fun g9 => (s_TT_5 cI a s4 g9)) ⟨Nat.le_of_ble_eq_true rfl, by decide +kernel⟩ dX4_become_72 (fun H locs s5 hP hS h => ?_)
  refine lv_aload_n hx hb dX4_become_75 rfl (lv_at hl 1 rfl) ?_
  refine x_getr (C := RX4) (k := 5) hx hb hts u_X4_become_4 hown hK hP (g_TT_7 cI a s5) rfl (by decide) ⟨rfl, rfl, rfl⟩ k_X4_become_f27 rfl dX4_become_76 ?_
  refine lv_iconst (v := 0) hx hb dX4_become_79 (by decide +kernel) ?_
  refine lv_aload_n hx hb dX4_become_80 rfl (lv_at hl 0 rfl) ?_
  refine x_getr (C := RX4) (k := 5) hx hb hts u_X4_become_4 hown hK hP (g_TT_0 cI a s5) rfl (by decide) ⟨rfl, rfl, rfl⟩ k_X4_become_f27 rfl dX4_become_81 ?_
  refine lv_iconst (v := 0) hx hb dX4_become_84 (by decide +kernel) ?_
  refine lv_bipush (v := 10) hx hb dX4_become_85 (by decide +kernel) ?_
  refine x_copy (p_TT cI a) 10 (t0 := 0) hx hb (hml.trans hl.1.symm) hown hts hK hP hD hS k_X4_become_m36 ht h (g_TT_13 cI a s5) (g_TT_6 cI a s5) (by decide +kernel) (fun g9 => (s_TT_6 cI a s5 g9)) ⟨Nat.le_of_ble_eq_true rfl, by decide +kernel⟩ dX4_become_87 (fun H locs s6 hP hS h => ?_)
  exact x_vret (p_TT cI a) hx hb hr hlocks hP hS dX4_become_90 h
/-! ===== VectorRounds$Links.joining(II)I: world L ===== -/
theorem i_X2_joining : yX2_joining.cls = RX2 ∧ yX2_joining.cls ≠ "java/lang/invoke/MethodHandle" ∧ yX2_joining.cls ≠ "java/lang/invoke/VarHandle" ∧ (parseMethodDescriptor yX2_joining.desc).map (fun d => d.parameters.length) = some 2 := by decide +kernel
theorem k_X2_joining_f24 : Cond.fieldLink RX2 24 RX2 "joint" "[I" ∈ wsX2_joining := by decide +kernel
theorem u_X2_joining_2 : ∀ w ∈ u_ws RX2 TX2 6, w ∈ wsX2_joining := by decide +kernel
noncomputable def f_X2_joining (σ : qM) (x1 : Int32) (x2 : Int32) : qR :=
  q_nm ((x1 * 10)) fun x3 =>
  q_nm ((x3 + x2)) fun x4 =>
  q_rd σ 5 100 x4 fun x5 =>
  q_nm ((x5 - 1)) fun x6 =>
  some (x6, σ)
set_option maxHeartbeats 4000000 in
set_option maxRecDepth 100000 in
theorem c_X2_joining (l : Launch) (D : va_G) (cI : ClassId) (tys : List (ClassId × FieldType)) (ht : tys[0]? = some (cI, .int)) (a : Nat → Nat) (σ : qM) (x1 : Int32) (x2 : Int32) : q_Met l yX2_joining wsX2_joining ({ frames := 0, cells := 0, slots := 0, locals := 0 }) [.ref (a 0), .int x1, .int x2] D tys (p_L cI a) σ (f_X2_joining σ x1 x2) := by
  refine x_ofWi (cc := cX2_joining) (maxL := 3) (ret := (some .int)) (by decide +kernel) rfl (pf_L cI a) (Nat.le_of_ble_eq_true rfl) ?_
  intro p e s m below meth c A ls qq h hx hb hml hr hlocks hown hts hK hP hD hA hS hl
  have hown : s.vm.findClass RX2 = some m.cls := hown
  have hl : lv_has ls 3 [(0, .ref (a 0)), (1, .int x1), (2, .int x2)] := hl
  unfold f_X2_joining at h
  refine lv_aload_n hx hb dX2_joining_0 rfl (lv_at hl 0 rfl) ?_
  refine x_getr (C := RX2) (k := 4) hx hb hts u_X2_joining_2 hown hK hP (g_L_0 cI a σ) rfl (by decide) ⟨rfl, rfl, rfl⟩ k_X2_joining_f24 rfl dX2_joining_1 ?_
  refine lv_iload_n hx hb dX2_joining_4 rfl (lv_at hl 1 rfl) ?_
  refine lv_bipush (v := 10) hx hb dX2_joining_5 (by decide +kernel) ?_
  refine x_imul hx hb dX2_joining_7 h (fun x3 h => ?_)
  refine lv_iload_n hx hb dX2_joining_8 rfl (lv_at hl 2 rfl) ?_
  refine x_iadd hx hb dX2_joining_9 h (fun x4 h => ?_)
  refine x_iald (t0 := 0) hx hb hK hP ht h (g_L_5 cI a σ) dX2_joining_10 (fun x5 h => ?_)
  refine lv_iconst (v := 1) hx hb dX2_joining_11 (by decide +kernel) ?_
  refine x_isub hx hb dX2_joining_12 h (fun x6 h => ?_)
  exact x_iret (p_L cI a) hx hb hr hlocks hP hS dX2_joining_13 h
/-! ===== VectorRounds$Links.add(III)I: world L ===== -/
theorem i_X2_add : yX2_add.cls = RX2 ∧ yX2_add.cls ≠ "java/lang/invoke/MethodHandle" ∧ yX2_add.cls ≠ "java/lang/invoke/VarHandle" ∧ (parseMethodDescriptor yX2_add.desc).map (fun d => d.parameters.length) = some 3 := by decide +kernel
theorem k_X2_add_f15 : Cond.fieldLink RX2 15 RX2 "greater" "[I" ∈ wsX2_add := by decide +kernel
theorem k_X2_add_f18 : Cond.fieldLink RX2 18 RX2 "price" "[I" ∈ wsX2_add := by decide +kernel
theorem k_X2_add_f21 : Cond.fieldLink RX2 21 RX2 "up" "[I" ∈ wsX2_add := by decide +kernel
theorem k_X2_add_f24 : Cond.fieldLink RX2 24 RX2 "joint" "[I" ∈ wsX2_add := by decide +kernel
theorem k_X2_add_f33 : Cond.fieldLink RX2 33 RX2 "size" "I" ∈ wsX2_add := by decide +kernel
theorem k_X2_add_f9 : Cond.fieldLink RX2 9 RX2 "lesser" "[I" ∈ wsX2_add := by decide +kernel
theorem k_X2_add_m37 : Cond.methodLink RX2 37 Lib.Math.min.name ∈ wsX2_add ∧ Cond.static Lib.Math.min.name ∈ wsX2_add ∧ Cond.initialized "java/lang/Math" ∈ wsX2_add ∧ Cond.code Lib.Math.min.name Lib.Math.min.code 2 (some .int) ∈ wsX2_add := by decide +kernel
theorem k_X2_add_m43 : Cond.methodLink RX2 43 Lib.Math.max.name ∈ wsX2_add ∧ Cond.static Lib.Math.max.name ∈ wsX2_add ∧ Cond.initialized "java/lang/Math" ∈ wsX2_add ∧ Cond.code Lib.Math.max.name Lib.Math.max.code 2 (some .int) ∈ wsX2_add := by decide +kernel
theorem u_X2_add_2 : ∀ w ∈ u_ws RX2 TX2 6, w ∈ wsX2_add := by decide +kernel
noncomputable def f_X2_add (σ : qM) (x1 : Int32) (x2 : Int32) (x3 : Int32) : qR :=
  q_nm (σ 0 5) fun x4 =>
  q_nm (if x2 < x1 then x2 else x1) fun x5 =>
  q_wt σ 1 24 x4 x5 fun s6 =>
  q_nm (if x1 < x2 then x2 else x1) fun x7 =>
  q_wt s6 2 24 x4 x7 fun s8 =>
  q_wt s8 3 24 x4 x3 fun s9 =>
  q_wt s9 4 24 x4 1 fun s10 =>
  q_nm (s10 0 5) fun x11 =>
  q_nm ((x11 + 1)) fun x12 =>
  q_nm (q_wr s10 0 5 x12) fun s13 =>
  q_nm ((x1 * 10)) fun x14 =>
  q_nm ((x14 + x2)) fun x15 =>
  q_nm (s13 0 5) fun x16 =>
  q_wt s13 5 100 x15 x16 fun s17 =>
  q_nm ((x2 * 10)) fun x18 =>
  q_nm ((x18 + x1)) fun x19 =>
  q_nm (s17 0 5) fun x20 =>
  q_wt s17 5 100 x19 x20 fun s21 =>
  some (x4, s21)
set_option maxHeartbeats 4000000 in
set_option maxRecDepth 100000 in
theorem c_X2_add (l : Launch) (D : va_G) (cI : ClassId) (tys : List (ClassId × FieldType)) (ht : tys[0]? = some (cI, .int)) (a : Nat → Nat) (σ : qM) (x1 : Int32) (x2 : Int32) (x3 : Int32) : q_Met l yX2_add wsX2_add ({ frames := 1, cells := 0, slots := 0, locals := 40 }) [.ref (a 0), .int x1, .int x2, .int x3] D tys (p_L cI a) σ (f_X2_add σ x1 x2 x3) := by
  refine x_ofWi (cc := cX2_add) (maxL := 5) (ret := (some .int)) (by decide +kernel) rfl (pf_L cI a) (Nat.le_of_ble_eq_true rfl) ?_
  intro p e s m below meth c A ls qq h hx hb hml hr hlocks hown hts hK hP hD hA hS hl
  have hown : s.vm.findClass RX2 = some m.cls := hown
  have hl : lv_has ls 5 [(0, .ref (a 0)), (1, .int x1), (2, .int x2), (3, .int x3)] := hl
  unfold f_X2_add at h
  refine lv_aload_n hx hb dX2_add_0 rfl (lv_at hl 0 rfl) ?_
  refine x_geti (C := RX2) (k := 5) hx hb hts u_X2_add_2 hown hK hP (g_L_0 cI a σ) rfl (by decide) ⟨rfl, rfl, rfl⟩ k_X2_add_f33 rfl dX2_add_1 h (fun x4 h => ?_)
  refine lv_istore (lv' := [(4, .int x4), (0, .ref (a 0)), (1, .int x1), (2, .int x2), (3, .int x3)]) hx hb dX2_add_4 hl (by decide) rfl (fun ls hl => ?_)
  refine lv_aload_n hx hb dX2_add_6 rfl (lv_at hl 1 rfl) ?_
  refine x_getr (C := RX2) (k := 0) hx hb hts u_X2_add_2 hown hK hP (g_L_0 cI a σ) rfl (by decide) ⟨rfl, rfl, rfl⟩ k_X2_add_f9 rfl dX2_add_7 ?_
  refine lv_iload hx hb dX2_add_10 (lv_at hl 0 rfl) ?_
  refine lv_iload_n hx hb dX2_add_12 rfl (lv_at hl 2 rfl) ?_
  refine lv_iload_n hx hb dX2_add_13 rfl (lv_at hl 3 rfl) ?_
  refine x_mmin hx hb (hml.trans hl.1.symm) hown hts k_X2_add_m37 ⟨Nat.le_of_ble_eq_true rfl, Nat.le_of_ble_eq_true rfl, Nat.zero_le _, Nat.zero_le _⟩ dX2_add_14 h (fun x5 h => ?_)
  refine x_iast (p_L cI a) (t0 := 0) hx hb hK hP hD hS ht h (g_L_1 cI a σ) (fun j9 v9 => (s_L_1 cI a σ _)) dX2_add_17 (fun H locs s6 hP hS h => ?_)
  refine lv_aload_n hx hb dX2_add_18 rfl (lv_at hl 1 rfl) ?_
  refine x_getr (C := RX2) (k := 1) hx hb hts u_X2_add_2 hown hK hP (g_L_0 cI a s6) rfl (by decide) ⟨rfl, rfl, rfl⟩ k_X2_add_f15 rfl dX2_add_19 ?_
  refine lv_iload hx hb dX2_add_22 (lv_at hl 0 rfl) ?_
  refine lv_iload_n hx hb dX2_add_24 rfl (lv_at hl 2 rfl) ?_
  refine lv_iload_n hx hb dX2_add_25 rfl (lv_at hl 3 rfl) ?_
  refine x_mmax hx hb (hml.trans hl.1.symm) hown hts k_X2_add_m43 ⟨Nat.le_of_ble_eq_true rfl, Nat.le_of_ble_eq_true rfl, Nat.zero_le _, Nat.zero_le _⟩ dX2_add_26 h (fun x7 h => ?_)
  refine x_iast (p_L cI a) (t0 := 0) hx hb hK hP hD hS ht h (g_L_2 cI a s6) (fun j9 v9 => (s_L_2 cI a s6 _)) dX2_add_29 (fun H locs s8 hP hS h => ?_)
  refine lv_aload_n hx hb dX2_add_30 rfl (lv_at hl 1 rfl) ?_
  refine x_getr (C := RX2) (k := 2) hx hb hts u_X2_add_2 hown hK hP (g_L_0 cI a s8) rfl (by decide) ⟨rfl, rfl, rfl⟩ k_X2_add_f18 rfl dX2_add_31 ?_
  refine lv_iload hx hb dX2_add_34 (lv_at hl 0 rfl) ?_
  refine lv_iload_n hx hb dX2_add_36 rfl (lv_at hl 4 rfl) ?_
  refine x_iast (p_L cI a) (t0 := 0) hx hb hK hP hD hS ht h (g_L_3 cI a s8) (fun j9 v9 => (s_L_3 cI a s8 _)) dX2_add_37 (fun H locs s9 hP hS h => ?_)
  refine lv_aload_n hx hb dX2_add_38 rfl (lv_at hl 1 rfl) ?_
  refine x_getr (C := RX2) (k := 3) hx hb hts u_X2_add_2 hown hK hP (g_L_0 cI a s9) rfl (by decide) ⟨rfl, rfl, rfl⟩ k_X2_add_f21 rfl dX2_add_39 ?_
  refine lv_iload hx hb dX2_add_42 (lv_at hl 0 rfl) ?_
  refine lv_iconst (v := 1) hx hb dX2_add_44 (by decide +kernel) ?_
  refine x_iast (p_L cI a) (t0 := 0) hx hb hK hP hD hS ht h (g_L_4 cI a s9) (fun j9 v9 => (s_L_4 cI a s9 _)) dX2_add_45 (fun H locs s10 hP hS h => ?_)
  refine lv_aload_n hx hb dX2_add_46 rfl (lv_at hl 1 rfl) ?_
  refine lv_dup hx hb dX2_add_47 rfl ?_
  refine x_geti (C := RX2) (k := 5) hx hb hts u_X2_add_2 hown hK hP (g_L_0 cI a s10) rfl (by decide) ⟨rfl, rfl, rfl⟩ k_X2_add_f33 rfl dX2_add_48 h (fun x11 h => ?_)
  refine lv_iconst (v := 1) hx hb dX2_add_51 (by decide +kernel) ?_
  refine x_iadd hx hb dX2_add_52 h (fun x12 h => ?_)
  refine x_puti (p_L cI a) (C := RX2) (k := 5) hx hb hts u_X2_add_2 tyX2 tyX2_ok nmX2 hown hK hP hD hS h (g_L_0 cI a s10) rfl (by decide) ⟨rfl, rfl, rfl⟩ k_X2_add_f33 rfl rfl rfl rfl (Nat.le_of_ble_eq_true rfl) (s_L_0_5 cI a s10 x12) dX2_add_53 (fun H locs s13 hP hS h => ?_)
  refine lv_aload_n hx hb dX2_add_56 rfl (lv_at hl 1 rfl) ?_
  refine x_getr (C := RX2) (k := 4) hx hb hts u_X2_add_2 hown hK hP (g_L_0 cI a s13) rfl (by decide) ⟨rfl, rfl, rfl⟩ k_X2_add_f24 rfl dX2_add_57 ?_
  refine lv_iload_n hx hb dX2_add_60 rfl (lv_at hl 2 rfl) ?_
  refine lv_bipush (v := 10) hx hb dX2_add_61 (by decide +kernel) ?_
  refine x_imul hx hb dX2_add_63 h (fun x14 h => ?_)
  refine lv_iload_n hx hb dX2_add_64 rfl (lv_at hl 3 rfl) ?_
  refine x_iadd hx hb dX2_add_65 h (fun x15 h => ?_)
  refine lv_aload_n hx hb dX2_add_66 rfl (lv_at hl 1 rfl) ?_
  refine x_geti (C := RX2) (k := 5) hx hb hts u_X2_add_2 hown hK hP (g_L_0 cI a s13) rfl (by decide) ⟨rfl, rfl, rfl⟩ k_X2_add_f33 rfl dX2_add_67 h (fun x16 h => ?_)
  refine x_iast (p_L cI a) (t0 := 0) hx hb hK hP hD hS ht h (g_L_5 cI a s13) (fun j9 v9 => (s_L_5 cI a s13 _)) dX2_add_70 (fun H locs s17 hP hS h => ?_)
  refine lv_aload_n hx hb dX2_add_71 rfl (lv_at hl 1 rfl) ?_
  refine x_getr (C := RX2) (k := 4) hx hb hts u_X2_add_2 hown hK hP (g_L_0 cI a s17) rfl (by decide) ⟨rfl, rfl, rfl⟩ k_X2_add_f24 rfl dX2_add_72 ?_
  refine lv_iload_n hx hb dX2_add_75 rfl (lv_at hl 3 rfl) ?_
  refine lv_bipush (v := 10) hx hb dX2_add_76 (by decide +kernel) ?_
  refine x_imul hx hb dX2_add_78 h (fun x18 h => ?_)
  refine lv_iload_n hx hb dX2_add_79 rfl (lv_at hl 2 rfl) ?_
  refine x_iadd hx hb dX2_add_80 h (fun x19 h => ?_)
  refine lv_aload_n hx hb dX2_add_81 rfl (lv_at hl 1 rfl) ?_
  refine x_geti (C := RX2) (k := 5) hx hb hts u_X2_add_2 hown hK hP (g_L_0 cI a s17) rfl (by decide) ⟨rfl, rfl, rfl⟩ k_X2_add_f33 rfl dX2_add_82 h (fun x20 h => ?_)
  refine x_iast (p_L cI a) (t0 := 0) hx hb hK hP hD hS ht h (g_L_5 cI a s17) (fun j9 v9 => (s_L_5 cI a s17 _)) dX2_add_85 (fun H locs s21 hP hS h => ?_)
  refine lv_iload hx hb dX2_add_86 (lv_at hl 0 rfl) ?_
  exact x_iret (p_L cI a) hx hb hr hlocks hP hS dX2_add_88 h
/-! ===== VectorRounds$Links.howManyUp()I: world L ===== -/
theorem i_X2_howManyUp : yX2_howManyUp.cls = RX2 ∧ yX2_howManyUp.cls ≠ "java/lang/invoke/MethodHandle" ∧ yX2_howManyUp.cls ≠ "java/lang/invoke/VarHandle" ∧ (parseMethodDescriptor yX2_howManyUp.desc).map (fun d => d.parameters.length) = some 0 := by decide +kernel
theorem k_X2_howManyUp_f21 : Cond.fieldLink RX2 21 RX2 "up" "[I" ∈ wsX2_howManyUp := by decide +kernel
theorem k_X2_howManyUp_f33 : Cond.fieldLink RX2 33 RX2 "size" "I" ∈ wsX2_howManyUp := by decide +kernel
theorem u_X2_howManyUp_2 : ∀ w ∈ u_ws RX2 TX2 6, w ∈ wsX2_howManyUp := by decide +kernel
noncomputable def b_X2_howManyUp_4 (go : qB) (σ : qM) (x1 x2 : Int32) : qR :=
  q_nm (σ 0 5) fun x3 =>
  if x3 ≤ x2 then (
  some (x1, σ))
  else (
  q_rd σ 4 24 x2 fun x5 =>
  q_nm ((x1 + x5)) fun x6 =>
  q_nm (x2 + 1) fun x7 =>
  go 0 σ [x6, x7])
noncomputable def D_X2_howManyUp (go : qB) : qB := fun i σ xs => if i = 0 then (match xs with | [x1, x2] => b_X2_howManyUp_4 go σ x1 x2 | _ => none) else none
noncomputable def e_X2_howManyUp (go : qB) (σ : qM) : qR :=
  go 0 σ [0, 0]
noncomputable def f_X2_howManyUp (σ : qM) : qR := e_X2_howManyUp (q_lim (D_X2_howManyUp)) σ
set_option maxHeartbeats 4000000 in
set_option maxRecDepth 100000 in
theorem c_X2_howManyUp (l : Launch) (D : va_G) (cI : ClassId) (tys : List (ClassId × FieldType)) (ht : tys[0]? = some (cI, .int)) (a : Nat → Nat) (σ : qM) : q_Met l yX2_howManyUp wsX2_howManyUp ({ frames := 0, cells := 0, slots := 0, locals := 0 }) [.ref (a 0)] D tys (p_L cI a) σ (f_X2_howManyUp σ) := by
  refine x_ofWi (cc := cX2_howManyUp) (maxL := 3) (ret := (some .int)) (by decide +kernel) rfl (pf_L cI a) (Nat.le_of_ble_eq_true rfl) ?_
  intro p e s m below meth c A ls qq h hx hb hml hr hlocks hown hts hK hP hD hA hS hl
  have hown : s.vm.findClass RX2 = some m.cls := hown
  have hl : lv_has ls 3 [(0, .ref (a 0))] := hl
  have main : ∀ k9 : Nat, (∀ (σ : qM) (x1 x2 : Int32) (H : Heap) (locs : List Loc) (ls : Array Slot), q_it (D_X2_howManyUp) k9 0 σ [x1, x2] = some qq → va_P D vwCl (p_L cI a σ) H → va_S A s.heap H locs → lv_has ls 3 [(0, .ref (a 0)), (1, .int x1), (2, .int x2)] → W p l e ({ frames := 0, cells := 0, slots := 0, locals := 0 }) s m [.ref (a 0)].toArray below meth c H locs 0 0 (MQ below (va_Qi (fun r τ => (r, τ) = qq) (fun τ t => va_P D vwCl ((p_L cI a) τ) t.heap) A) [.ref (a 0)].toArray s 0 0 A) (F0 m 4 ls [])) := by
    intro k9
    induction k9 with
    | zero => exact (fun _ _ _ _ _ _ h _ _ _ => (q_no (show (none : qR) = some qq from h)).elim)
    | succ k9 ih =>
      have i4 := ih
      refine ?_
      · intro σ x1 x2 H locs ls h hP hS hl
        have h : b_X2_howManyUp_4 (q_it (D_X2_howManyUp) k9) σ x1 x2 = some qq := h
        unfold b_X2_howManyUp_4 at h
        refine lv_iload_n hx hb dX2_howManyUp_4 rfl (lv_at hl 2 rfl) ?_
        refine lv_aload_n hx hb dX2_howManyUp_5 rfl (lv_at hl 0 rfl) ?_
        refine x_geti (C := RX2) (k := 5) hx hb hts u_X2_howManyUp_2 hown hK hP (g_L_0 cI a σ) rfl (by decide) ⟨rfl, rfl, rfl⟩ k_X2_howManyUp_f33 rfl dX2_howManyUp_6 h (fun x3 h => ?_)
        refine lv_icmp_ge (tgt := 27) hx hb dX2_howManyUp_9 (by decide) (fun c4 => ?_) (fun c4 => ?_)
        · have h := if_t c4 h
          refine lv_iload_n hx hb dX2_howManyUp_27 rfl (lv_at hl 1 rfl) ?_
          exact x_iret (p_L cI a) hx hb hr hlocks hP hS dX2_howManyUp_28 h
        · have h := if_f c4 h
          refine lv_iload_n hx hb dX2_howManyUp_12 rfl (lv_at hl 1 rfl) ?_
          refine lv_aload_n hx hb dX2_howManyUp_13 rfl (lv_at hl 0 rfl) ?_
          refine x_getr (C := RX2) (k := 3) hx hb hts u_X2_howManyUp_2 hown hK hP (g_L_0 cI a σ) rfl (by decide) ⟨rfl, rfl, rfl⟩ k_X2_howManyUp_f21 rfl dX2_howManyUp_14 ?_
          refine lv_iload_n hx hb dX2_howManyUp_17 rfl (lv_at hl 2 rfl) ?_
          refine x_iald (t0 := 0) hx hb hK hP ht h (g_L_4 cI a σ) dX2_howManyUp_18 (fun x5 h => ?_)
          refine x_iadd hx hb dX2_howManyUp_19 h (fun x6 h => ?_)
          refine lv_istore_n (lv' := [(1, .int x6), (0, .ref (a 0)), (2, .int x2)]) hx hb dX2_howManyUp_20 rfl hl (by decide) rfl (fun ls hl => ?_)
          refine x_iinc (k := 2) (w := 1) hx hb dX2_howManyUp_21 hl rfl (by decide +kernel) (by decide) (fun v9 => [(2, .int v9), (1, .int x6), (0, .ref (a 0))]) (fun v9 => rfl) h (fun x7 ls hl h => ?_)
          have hl : lv_has ls 3 [(2, .int x7), (1, .int x6), (0, .ref (a 0))] := hl
          refine lv_goto (tgt := 4) hx hb dX2_howManyUp_24 (by decide) ?_
          exact i4 σ x6 x7 _ _ _ h hP hS (lv_sub hl [2, 1, 0] rfl)
  have i4 : ∀ (σ : qM) (x1 x2 : Int32) (H : Heap) (locs : List Loc) (ls : Array Slot), q_lim (D_X2_howManyUp) 0 σ [x1, x2] = some qq → va_P D vwCl (p_L cI a σ) H → va_S A s.heap H locs → lv_has ls 3 [(0, .ref (a 0)), (1, .int x1), (2, .int x2)] → W p l e ({ frames := 0, cells := 0, slots := 0, locals := 0 }) s m [.ref (a 0)].toArray below meth c H locs 0 0 (MQ below (va_Qi (fun r τ => (r, τ) = qq) (fun τ t => va_P D vwCl ((p_L cI a) τ) t.heap) A) [.ref (a 0)].toArray s 0 0 A) (F0 m 4 ls []) := by
    intro σ x1 x2 H locs ls h hP hS hl
    obtain ⟨k9, h⟩ := q_lim_n h
    exact (main k9) σ x1 x2 H locs ls h hP hS hl
  have h : e_X2_howManyUp (q_lim (D_X2_howManyUp)) σ = some qq := h
  unfold e_X2_howManyUp at h
  refine lv_iconst (v := 0) hx hb dX2_howManyUp_0 (by decide +kernel) ?_
  refine lv_istore_n (lv' := [(1, .int 0), (0, .ref (a 0))]) hx hb dX2_howManyUp_1 rfl hl (by decide) rfl (fun ls hl => ?_)
  refine lv_iconst (v := 0) hx hb dX2_howManyUp_2 (by decide +kernel) ?_
  refine lv_istore_n (lv' := [(2, .int 0), (1, .int 0), (0, .ref (a 0))]) hx hb dX2_howManyUp_3 rfl hl (by decide) rfl (fun ls hl => ?_)
  exact i4 σ 0 0 _ _ _ h hP hS (lv_sub hl [2, 1, 0] rfl)
/-! ===== VectorRounds$Links.become(LVectorRounds$Links;)V: world LL ===== -/
theorem i_X2_become : yX2_become.cls = RX2 ∧ yX2_become.cls ≠ "java/lang/invoke/MethodHandle" ∧ yX2_become.cls ≠ "java/lang/invoke/VarHandle" ∧ (parseMethodDescriptor yX2_become.desc).map (fun d => d.parameters.length) = some 1 := by decide +kernel
theorem k_X2_become_f15 : Cond.fieldLink RX2 15 RX2 "greater" "[I" ∈ wsX2_become := by decide +kernel
theorem k_X2_become_f18 : Cond.fieldLink RX2 18 RX2 "price" "[I" ∈ wsX2_become := by decide +kernel
theorem k_X2_become_f21 : Cond.fieldLink RX2 21 RX2 "up" "[I" ∈ wsX2_become := by decide +kernel
theorem k_X2_become_f24 : Cond.fieldLink RX2 24 RX2 "joint" "[I" ∈ wsX2_become := by decide +kernel
theorem k_X2_become_f33 : Cond.fieldLink RX2 33 RX2 "size" "I" ∈ wsX2_become := by decide +kernel
theorem k_X2_become_f9 : Cond.fieldLink RX2 9 RX2 "lesser" "[I" ∈ wsX2_become := by decide +kernel
theorem k_X2_become_m27 : Cond.methodLink RX2 27 arraycopyName ∈ wsX2_become ∧ Cond.native arraycopyName ∈ wsX2_become ∧ Cond.static arraycopyName ∈ wsX2_become ∧ Cond.initialized "java/lang/System" ∈ wsX2_become := by decide +kernel
theorem u_X2_become_2 : ∀ w ∈ u_ws RX2 TX2 6, w ∈ wsX2_become := by decide +kernel
noncomputable def f_X2_become (σ : qM) : qR :=
  q_nm (q_wa σ 1 (va_cpy (σ 7) (σ 1) 0 0 24)) fun s1 =>
  q_nm (q_wa s1 2 (va_cpy (s1 8) (s1 2) 0 0 24)) fun s2 =>
  q_nm (q_wa s2 3 (va_cpy (s2 9) (s2 3) 0 0 24)) fun s3 =>
  q_nm (q_wa s3 4 (va_cpy (s3 10) (s3 4) 0 0 24)) fun s4 =>
  q_nm (q_wa s4 5 (va_cpy (s4 11) (s4 5) 0 0 100)) fun s5 =>
  q_nm (s5 6 5) fun x6 =>
  q_nm (q_wr s5 0 5 x6) fun s7 =>
  some (0, s7)
set_option maxHeartbeats 4000000 in
set_option maxRecDepth 100000 in
theorem c_X2_become (l : Launch) (D : va_G) (cI : ClassId) (tys : List (ClassId × FieldType)) (ht : tys[0]? = some (cI, .int)) (a : Nat → Nat) (σ : qM) : q_Mev l yX2_become wsX2_become ({ frames := 1, cells := 0, slots := 0, locals := 60 }) [.ref (a 0), .ref (a 6)] D tys (p_LL cI a) σ (f_X2_become σ) := by
  refine x_ofWv (cc := cX2_become) (maxL := 2) (ret := none) (by decide +kernel) rfl (pf_LL cI a) (Nat.le_of_ble_eq_true rfl) ?_
  intro p e s m below meth c A ls qq h hx hb hml hr hlocks hown hts hK hP hD hA hS hl
  have hown : s.vm.findClass RX2 = some m.cls := hown
  have hl : lv_has ls 2 [(0, .ref (a 0)), (1, .ref (a 6))] := hl
  unfold f_X2_become at h
  refine lv_aload_n hx hb dX2_become_0 rfl (lv_at hl 1 rfl) ?_
  refine x_getr (C := RX2) (k := 0) hx hb hts u_X2_become_2 hown hK hP (g_LL_6 cI a σ) rfl (by decide) ⟨rfl, rfl, rfl⟩ k_X2_become_f9 rfl dX2_become_1 ?_
  refine lv_iconst (v := 0) hx hb dX2_become_4 (by decide +kernel) ?_
  refine lv_aload_n hx hb dX2_become_5 rfl (lv_at hl 0 rfl) ?_
  refine x_getr (C := RX2) (k := 0) hx hb hts u_X2_become_2 hown hK hP (g_LL_0 cI a σ) rfl (by decide) ⟨rfl, rfl, rfl⟩ k_X2_become_f9 rfl dX2_become_6 ?_
  refine lv_iconst (v := 0) hx hb dX2_become_9 (by decide +kernel) ?_
  refine lv_bipush (v := 24) hx hb dX2_become_10 (by decide +kernel) ?_
  refine x_copy (p_LL cI a) 24 (t0 := 0) hx hb (hml.trans hl.1.symm) hown hts hK hP hD hS k_X2_become_m27 ht h (g_LL_7 cI a σ) (g_LL_1 cI a σ) (by decide +kernel) (fun g9 => (s_LL_1 cI a σ g9)) ⟨Nat.le_of_ble_eq_true rfl, by decide +kernel⟩ dX2_become_12 (fun H locs s1 hP hS h => ?_)
  refine lv_aload_n hx hb dX2_become_15 rfl (lv_at hl 1 rfl) ?_
  refine x_getr (C := RX2) (k := 1) hx hb hts u_X2_become_2 hown hK hP (g_LL_6 cI a s1) rfl (by decide) ⟨rfl, rfl, rfl⟩ k_X2_become_f15 rfl dX2_become_16 ?_
  refine lv_iconst (v := 0) hx hb dX2_become_19 (by decide +kernel) ?_
  refine lv_aload_n hx hb dX2_become_20 rfl (lv_at hl 0 rfl) ?_
  refine x_getr (C := RX2) (k := 1) hx hb hts u_X2_become_2 hown hK hP (g_LL_0 cI a s1) rfl (by decide) ⟨rfl, rfl, rfl⟩ k_X2_become_f15 rfl dX2_become_21 ?_
  refine lv_iconst (v := 0) hx hb dX2_become_24 (by decide +kernel) ?_
  refine lv_bipush (v := 24) hx hb dX2_become_25 (by decide +kernel) ?_
  refine x_copy (p_LL cI a) 24 (t0 := 0) hx hb (hml.trans hl.1.symm) hown hts hK hP hD hS k_X2_become_m27 ht h (g_LL_8 cI a s1) (g_LL_2 cI a s1) (by decide +kernel) (fun g9 => (s_LL_2 cI a s1 g9)) ⟨Nat.le_of_ble_eq_true rfl, by decide +kernel⟩ dX2_become_27 (fun H locs s2 hP hS h => ?_)
  refine lv_aload_n hx hb dX2_become_30 rfl (lv_at hl 1 rfl) ?_
  refine x_getr (C := RX2) (k := 2) hx hb hts u_X2_become_2 hown hK hP (g_LL_6 cI a s2) rfl (by decide) ⟨rfl, rfl, rfl⟩ k_X2_become_f18 rfl dX2_become_31 ?_
  refine lv_iconst (v := 0) hx hb dX2_become_34 (by decide +kernel) ?_
  refine lv_aload_n hx hb dX2_become_35 rfl (lv_at hl 0 rfl) ?_
  refine x_getr (C := RX2) (k := 2) hx hb hts u_X2_become_2 hown hK hP (g_LL_0 cI a s2) rfl (by decide) ⟨rfl, rfl, rfl⟩ k_X2_become_f18 rfl dX2_become_36 ?_
  refine lv_iconst (v := 0) hx hb dX2_become_39 (by decide +kernel) ?_
  refine lv_bipush (v := 24) hx hb dX2_become_40 (by decide +kernel) ?_
  refine x_copy (p_LL cI a) 24 (t0 := 0) hx hb (hml.trans hl.1.symm) hown hts hK hP hD hS k_X2_become_m27 ht h (g_LL_9 cI a s2) (g_LL_3 cI a s2) (by decide +kernel) (fun g9 => (s_LL_3 cI a s2 g9)) ⟨Nat.le_of_ble_eq_true rfl, by decide +kernel⟩ dX2_become_42 (fun H locs s3 hP hS h => ?_)
  refine lv_aload_n hx hb dX2_become_45 rfl (lv_at hl 1 rfl) ?_
  refine x_getr (C := RX2) (k := 3) hx hb hts u_X2_become_2 hown hK hP (g_LL_6 cI a s3) rfl (by decide) ⟨rfl, rfl, rfl⟩ k_X2_become_f21 rfl dX2_become_46 ?_
  refine lv_iconst (v := 0) hx hb dX2_become_49 (by decide +kernel) ?_
  refine lv_aload_n hx hb dX2_become_50 rfl (lv_at hl 0 rfl) ?_
  refine x_getr (C := RX2) (k := 3) hx hb hts u_X2_become_2 hown hK hP (g_LL_0 cI a s3) rfl (by decide) ⟨rfl, rfl, rfl⟩ k_X2_become_f21 rfl dX2_become_51 ?_
  refine lv_iconst (v := 0) hx hb dX2_become_54 (by decide +kernel) ?_
  refine lv_bipush (v := 24) hx hb dX2_become_55 (by decide +kernel) ?_
  refine x_copy (p_LL cI a) 24 (t0 := 0) hx hb (hml.trans hl.1.symm) hown hts hK hP hD hS k_X2_become_m27 ht h (g_LL_10 cI a s3) (g_LL_4 cI a s3) (by decide +kernel) (fun g9 => (s_LL_4 cI a s3 g9)) ⟨Nat.le_of_ble_eq_true rfl, by decide +kernel⟩ dX2_become_57 (fun H locs s4 hP hS h => ?_)
  refine lv_aload_n hx hb dX2_become_60 rfl (lv_at hl 1 rfl) ?_
  refine x_getr (C := RX2) (k := 4) hx hb hts u_X2_become_2 hown hK hP (g_LL_6 cI a s4) rfl (by decide) ⟨rfl, rfl, rfl⟩ k_X2_become_f24 rfl dX2_become_61 ?_
  refine lv_iconst (v := 0) hx hb dX2_become_64 (by decide +kernel) ?_
  refine lv_aload_n hx hb dX2_become_65 rfl (lv_at hl 0 rfl) ?_
  refine x_getr (C := RX2) (k := 4) hx hb hts u_X2_become_2 hown hK hP (g_LL_0 cI a s4) rfl (by decide) ⟨rfl, rfl, rfl⟩ k_X2_become_f24 rfl dX2_become_66 ?_
  refine lv_iconst (v := 0) hx hb dX2_become_69 (by decide +kernel) ?_
  refine lv_bipush (v := 100) hx hb dX2_become_70 (by decide +kernel) ?_
  refine x_copy (p_LL cI a) 100 (t0 := 0) hx hb (hml.trans hl.1.symm) hown hts hK hP hD hS k_X2_become_m27 ht h (g_LL_11 cI a s4) (g_LL_5 cI a s4) (by decide +kernel) (fun g9 => (s_LL_5 cI a s4 g9)) ⟨Nat.le_of_ble_eq_true rfl, by decide +kernel⟩ dX2_become_72 (fun H locs s5 hP hS h => ?_)
  refine lv_aload_n hx hb dX2_become_75 rfl (lv_at hl 0 rfl) ?_
  refine lv_aload_n hx hb dX2_become_76 rfl (lv_at hl 1 rfl) ?_
  refine x_geti (C := RX2) (k := 5) hx hb hts u_X2_become_2 hown hK hP (g_LL_6 cI a s5) rfl (by decide) ⟨rfl, rfl, rfl⟩ k_X2_become_f33 rfl dX2_become_77 h (fun x6 h => ?_)
  refine x_puti (p_LL cI a) (C := RX2) (k := 5) hx hb hts u_X2_become_2 tyX2 tyX2_ok nmX2 hown hK hP hD hS h (g_LL_0 cI a s5) rfl (by decide) ⟨rfl, rfl, rfl⟩ k_X2_become_f33 rfl rfl rfl rfl (Nat.le_of_ble_eq_true rfl) (s_LL_0_5 cI a s5 x6) dX2_become_80 (fun H locs s7 hP hS h => ?_)
  exact x_vret (p_LL cI a) hx hb hr hlocks hP hS dX2_become_83 h
end
section
/-! ===== VectorRounds$Network.take(III)V: world N ===== -/
theorem i_X3_take : yX3_take.cls = RX3 ∧ yX3_take.cls ≠ "java/lang/invoke/MethodHandle" ∧ yX3_take.cls ≠ "java/lang/invoke/VarHandle" ∧ (parseMethodDescriptor yX3_take.desc).map (fun d => d.parameters.length) = some 3 := by decide +kernel
theorem k_X3_take_f110 : Cond.fieldLink RX3 110 RX4 "metric" "[I" ∈ wsX3_take := by decide +kernel
theorem k_X3_take_f12 : Cond.fieldLink RX3 12 RX3 "tables" "LVectorRounds$Tables;" ∈ wsX3_take := by decide +kernel
theorem k_X3_take_f124 : Cond.fieldLink RX3 124 RX4 "held" "[I" ∈ wsX3_take := by decide +kernel
theorem k_X3_take_f45 : Cond.fieldLink RX3 45 RX3 "holdDown" "I" ∈ wsX3_take := by decide +kernel
theorem k_X3_take_f48 : Cond.fieldLink RX3 48 RX3 "round" "I" ∈ wsX3_take := by decide +kernel
theorem k_X3_take_f76 : Cond.fieldLink RX3 76 RX4 "via" "[I" ∈ wsX3_take := by decide +kernel
theorem u_X3_take_3 : ∀ w ∈ u_ws RX3 TX3 9, w ∈ wsX3_take := by decide +kernel
theorem u_X3_take_4 : ∀ w ∈ u_ws RX4 TX4 6, w ∈ wsX3_take := by decide +kernel
noncomputable def b_X3_take_38 (σ : qM) (x5 x6 x7 : Int32) : qR :=
  q_wt σ 2 100 x5 x6 fun s14 =>
  q_wt s14 3 100 x5 x7 fun s15 =>
  some (0, s15)
noncomputable def f_X3_take (σ : qM) (x1 : Int32) (x2 : Int32) (x3 : Int32) : qR :=
  if x2 = 16 then (
  q_rd σ 2 100 x1 fun x8 =>
  if (16 : Int32) ≤ x8 then (
  b_X3_take_38 σ x1 x2 x3)
  else (
  q_nm (σ 0 7) fun x10 =>
  q_nm (σ 0 6) fun x11 =>
  q_nm ((x10 + x11)) fun x12 =>
  q_wt σ 5 100 x1 x12 fun s13 =>
  b_X3_take_38 s13 x1 x2 x3))
  else (
  b_X3_take_38 σ x1 x2 x3)
set_option maxHeartbeats 4000000 in
set_option maxRecDepth 100000 in
theorem c_X3_take (l : Launch) (D : va_G) (cI : ClassId) (tys : List (ClassId × FieldType)) (ht : tys[0]? = some (cI, .int)) (a : Nat → Nat) (σ : qM) (x1 : Int32) (x2 : Int32) (x3 : Int32) : q_Mev l yX3_take wsX3_take ({ frames := 0, cells := 0, slots := 0, locals := 0 }) [.ref (a 0), .int x1, .int x2, .int x3] D tys (p_N cI a) σ (f_X3_take σ x1 x2 x3) := by
  refine x_ofWv (cc := cX3_take) (maxL := 4) (ret := none) (by decide +kernel) rfl (pf_N cI a) (Nat.le_of_ble_eq_true rfl) ?_
  intro p e s m below meth c A ls qq h hx hb hml hr hlocks hown hts hK hP hD hA hS hl
  have hown : s.vm.findClass RX3 = some m.cls := hown
  have hl : lv_has ls 4 [(0, .ref (a 0)), (1, .int x1), (2, .int x2), (3, .int x3)] := hl
  have i38 : ∀ (σ : qM) (x5 x6 x7 : Int32) (H : Heap) (locs : List Loc) (ls : Array Slot), b_X3_take_38 σ x5 x6 x7 = some qq → va_P D vwCl (p_N cI a σ) H → va_S A s.heap H locs → lv_has ls 4 [(0, .ref (a 0)), (1, .int x5), (2, .int x6), (3, .int x7)] → W p l e ({ frames := 0, cells := 0, slots := 0, locals := 0 }) s m [.ref (a 0), .int x1, .int x2, .int x3].toArray below meth c H locs 0 0 (MQ below (va_Qv (fun τ => ((0 : Int32), τ) = qq) (fun τ t => va_P D vwCl ((p_N cI a) τ) t.heap) A) [.ref (a 0), .int x1, .int x2, .int x3].toArray s 0 0 A) (F0 m 38 ls []) := by
    intro σ x5 x6 x7 H locs ls h hP hS hl
    unfold b_X3_take_38 at h
    refine lv_aload_n hx hb dX3_take_38 rfl (lv_at hl 0 rfl) ?_
    refine x_getr (C := RX3) (k := 0) hx hb hts u_X3_take_3 hown hK hP (g_N_0 cI a σ) rfl (by decide) ⟨rfl, rfl, rfl⟩ k_X3_take_f12 rfl dX3_take_39 ?_
    refine x_getr (C := RX4) (k := 0) hx hb hts u_X3_take_4 hown hK hP (g_N_1 cI a σ) rfl (by decide) ⟨rfl, rfl, rfl⟩ k_X3_take_f110 rfl dX3_take_42 ?_
    refine lv_iload_n hx hb dX3_take_45 rfl (lv_at hl 1 rfl) ?_
    refine lv_iload_n hx hb dX3_take_46 rfl (lv_at hl 2 rfl) ?_
    refine x_iast (p_N cI a) (t0 := 0) hx hb hK hP hD hS ht h (g_N_2 cI a σ) (fun j9 v9 => (s_N_2 cI a σ _)) dX3_take_47 (fun H locs s14 hP hS h => ?_)
    refine lv_aload_n hx hb dX3_take_48 rfl (lv_at hl 0 rfl) ?_
    refine x_getr (C := RX3) (k := 0) hx hb hts u_X3_take_3 hown hK hP (g_N_0 cI a s14) rfl (by decide) ⟨rfl, rfl, rfl⟩ k_X3_take_f12 rfl dX3_take_49 ?_
    refine x_getr (C := RX4) (k := 1) hx hb hts u_X3_take_4 hown hK hP (g_N_1 cI a s14) rfl (by decide) ⟨rfl, rfl, rfl⟩ k_X3_take_f76 rfl dX3_take_52 ?_
    refine lv_iload_n hx hb dX3_take_55 rfl (lv_at hl 1 rfl) ?_
    refine lv_iload_n hx hb dX3_take_56 rfl (lv_at hl 3 rfl) ?_
    refine x_iast (p_N cI a) (t0 := 0) hx hb hK hP hD hS ht h (g_N_3 cI a s14) (fun j9 v9 => (s_N_3 cI a s14 _)) dX3_take_57 (fun H locs s15 hP hS h => ?_)
    exact x_vret (p_N cI a) hx hb hr hlocks hP hS dX3_take_58 h
  unfold f_X3_take at h
  refine lv_iload_n hx hb dX3_take_0 rfl (lv_at hl 2 rfl) ?_
  refine lv_bipush (v := 16) hx hb dX3_take_1 (by decide +kernel) ?_
  refine lv_icmp_ne (tgt := 38) hx hb dX3_take_3 (by decide) (fun c4 => ?_) (fun c4 => ?_)
  · have h := if_f c4 h
    exact i38 σ x1 x2 x3 _ _ _ h hP hS (lv_sub hl [0, 1, 2, 3] rfl)
  · have h := if_t c4 h
    refine lv_aload_n hx hb dX3_take_6 rfl (lv_at hl 0 rfl) ?_
    refine x_getr (C := RX3) (k := 0) hx hb hts u_X3_take_3 hown hK hP (g_N_0 cI a σ) rfl (by decide) ⟨rfl, rfl, rfl⟩ k_X3_take_f12 rfl dX3_take_7 ?_
    refine x_getr (C := RX4) (k := 0) hx hb hts u_X3_take_4 hown hK hP (g_N_1 cI a σ) rfl (by decide) ⟨rfl, rfl, rfl⟩ k_X3_take_f110 rfl dX3_take_10 ?_
    refine lv_iload_n hx hb dX3_take_13 rfl (lv_at hl 1 rfl) ?_
    refine x_iald (t0 := 0) hx hb hK hP ht h (g_N_2 cI a σ) dX3_take_14 (fun x8 h => ?_)
    refine lv_bipush (v := 16) hx hb dX3_take_15 (by decide +kernel) ?_
    refine lv_icmp_ge (tgt := 38) hx hb dX3_take_17 (by decide) (fun c9 => ?_) (fun c9 => ?_)
    · have h := if_t c9 h
      exact i38 σ x1 x2 x3 _ _ _ h hP hS (lv_sub hl [0, 1, 2, 3] rfl)
    · have h := if_f c9 h
      refine lv_aload_n hx hb dX3_take_20 rfl (lv_at hl 0 rfl) ?_
      refine x_getr (C := RX3) (k := 0) hx hb hts u_X3_take_3 hown hK hP (g_N_0 cI a σ) rfl (by decide) ⟨rfl, rfl, rfl⟩ k_X3_take_f12 rfl dX3_take_21 ?_
      refine x_getr (C := RX4) (k := 3) hx hb hts u_X3_take_4 hown hK hP (g_N_1 cI a σ) rfl (by decide) ⟨rfl, rfl, rfl⟩ k_X3_take_f124 rfl dX3_take_24 ?_
      refine lv_iload_n hx hb dX3_take_27 rfl (lv_at hl 1 rfl) ?_
      refine lv_aload_n hx hb dX3_take_28 rfl (lv_at hl 0 rfl) ?_
      refine x_geti (C := RX3) (k := 7) hx hb hts u_X3_take_3 hown hK hP (g_N_0 cI a σ) rfl (by decide) ⟨rfl, rfl, rfl⟩ k_X3_take_f48 rfl dX3_take_29 h (fun x10 h => ?_)
      refine lv_aload_n hx hb dX3_take_32 rfl (lv_at hl 0 rfl) ?_
      refine x_geti (C := RX3) (k := 6) hx hb hts u_X3_take_3 hown hK hP (g_N_0 cI a σ) rfl (by decide) ⟨rfl, rfl, rfl⟩ k_X3_take_f45 rfl dX3_take_33 h (fun x11 h => ?_)
      refine x_iadd hx hb dX3_take_36 h (fun x12 h => ?_)
      refine x_iast (p_N cI a) (t0 := 0) hx hb hK hP hD hS ht h (g_N_5 cI a σ) (fun j9 v9 => (s_N_5 cI a σ _)) dX3_take_37 (fun H locs s13 hP hS h => ?_)
      exact i38 s13 x1 x2 x3 _ _ _ h hP hS (lv_sub hl [0, 1, 2, 3] rfl)
/-! ===== VectorRounds$Network.loseVia(II)V: world N ===== -/
theorem i_X3_loseVia : yX3_loseVia.cls = RX3 ∧ yX3_loseVia.cls ≠ "java/lang/invoke/MethodHandle" ∧ yX3_loseVia.cls ≠ "java/lang/invoke/VarHandle" ∧ (parseMethodDescriptor yX3_loseVia.desc).map (fun d => d.parameters.length) = some 2 := by decide +kernel
theorem k_X3_loseVia_f12 : Cond.fieldLink RX3 12 RX3 "tables" "LVectorRounds$Tables;" ∈ wsX3_loseVia := by decide +kernel
theorem k_X3_loseVia_f35 : Cond.fieldLink RX3 35 RX3 "routers" "I" ∈ wsX3_loseVia := by decide +kernel
theorem k_X3_loseVia_f42 : Cond.fieldLink RX3 42 RX3 "sequenced" "I" ∈ wsX3_loseVia := by decide +kernel
theorem k_X3_loseVia_f76 : Cond.fieldLink RX3 76 RX4 "via" "[I" ∈ wsX3_loseVia := by decide +kernel
theorem k_X3_loseVia_f83 : Cond.fieldLink RX3 83 RX4 "sequence" "[I" ∈ wsX3_loseVia := by decide +kernel
theorem u_X3_loseVia_3 : ∀ w ∈ u_ws RX3 TX3 9, w ∈ wsX3_loseVia := by decide +kernel
theorem u_X3_loseVia_4 : ∀ w ∈ u_ws RX4 TX4 6, w ∈ wsX3_loseVia := by decide +kernel
noncomputable def b_X3_loseVia_2 (go : qB) (σ : qM) (x3 x4 x5 : Int32) : qR :=
  q_nm (σ 0 3) fun x6 =>
  if x6 ≤ x5 then (
  some (0, σ))
  else (
  q_nm ((x3 * 10)) fun x8 =>
  q_nm ((x8 + x5)) fun x9 =>
  q_cl (f_X4_reaches (q_sub 1 σ) x9) (q_put 1 7 σ) fun x11 s10 =>
  if x11 = 0 then (
  q_nm (x5 + 1) fun x13 =>
  go 0 s10 [x3, x4, x13])
  else (
  q_rd s10 3 100 x9 fun x14 =>
  if x14 = x4 then (
  q_cl (f_X3_take s10 x9 16 x4) (fun τ => τ) fun _ s17 =>
  q_rd s17 4 100 x9 fun x18 =>
  q_nm (s17 0 5) fun x19 =>
  q_nm ((x18 + x19)) fun x20 =>
  q_wt s17 4 100 x9 x20 fun s21 =>
  q_nm (x5 + 1) fun x22 =>
  go 0 s21 [x3, x4, x22])
  else (
  q_nm (x5 + 1) fun x16 =>
  go 0 s10 [x3, x4, x16])))
noncomputable def D_X3_loseVia (go : qB) : qB := fun i σ xs => if i = 0 then (match xs with | [x3, x4, x5] => b_X3_loseVia_2 go σ x3 x4 x5 | _ => none) else none
noncomputable def e_X3_loseVia (go : qB) (σ : qM) (x1 : Int32) (x2 : Int32) : qR :=
  go 0 σ [x1, x2, 0]
noncomputable def f_X3_loseVia (σ : qM) (x1 : Int32) (x2 : Int32) : qR := e_X3_loseVia (q_lim (D_X3_loseVia)) σ x1 x2
set_option maxHeartbeats 4000000 in
set_option maxRecDepth 100000 in
theorem c_X3_loseVia (l : Launch) (D : va_G) (cI : ClassId) (tys : List (ClassId × FieldType)) (ht : tys[0]? = some (cI, .int)) (a : Nat → Nat) (σ : qM) (x1 : Int32) (x2 : Int32) : q_Mev l yX3_loseVia wsX3_loseVia ({ frames := 1, cells := 0, slots := 0, locals := 23 }) [.ref (a 0), .int x1, .int x2] D tys (p_N cI a) σ (f_X3_loseVia σ x1 x2) := by
  refine x_ofWv (cc := cX3_loseVia) (maxL := 5) (ret := none) (by decide +kernel) rfl (pf_N cI a) (Nat.le_of_ble_eq_true rfl) ?_
  intro p e s m below meth c A ls qq h hx hb hml hr hlocks hown hts hK hP hD hA hS hl
  have hown : s.vm.findClass RX3 = some m.cls := hown
  have hl : lv_has ls 5 [(0, .ref (a 0)), (1, .int x1), (2, .int x2)] := hl
  have main : ∀ k9 : Nat, (∀ (σ : qM) (x3 x4 x5 : Int32) (H : Heap) (locs : List Loc) (ls : Array Slot), q_it (D_X3_loseVia) k9 0 σ [x3, x4, x5] = some qq → va_P D vwCl (p_N cI a σ) H → va_S A s.heap H locs → lv_has ls 5 [(0, .ref (a 0)), (1, .int x3), (2, .int x4), (3, .int x5)] → W p l e ({ frames := 1, cells := 0, slots := 0, locals := 23 }) s m [.ref (a 0), .int x1, .int x2].toArray below meth c H locs 0 0 (MQ below (va_Qv (fun τ => ((0 : Int32), τ) = qq) (fun τ t => va_P D vwCl ((p_N cI a) τ) t.heap) A) [.ref (a 0), .int x1, .int x2].toArray s 0 0 A) (F0 m 2 ls [])) := by
    intro k9
    induction k9 with
    | zero => exact (fun _ _ _ _ _ _ _ h _ _ _ => (q_no (show (none : qR) = some qq from h)).elim)
    | succ k9 ih =>
      have i2 := ih
      refine ?_
      · intro σ x3 x4 x5 H locs ls h hP hS hl
        have h : b_X3_loseVia_2 (q_it (D_X3_loseVia) k9) σ x3 x4 x5 = some qq := h
        unfold b_X3_loseVia_2 at h
        refine lv_iload_n hx hb dX3_loseVia_2 rfl (lv_at hl 3 rfl) ?_
        refine lv_aload_n hx hb dX3_loseVia_3 rfl (lv_at hl 0 rfl) ?_
        refine x_geti (C := RX3) (k := 3) hx hb hts u_X3_loseVia_3 hown hK hP (g_N_0 cI a σ) rfl (by decide) ⟨rfl, rfl, rfl⟩ k_X3_loseVia_f35 rfl dX3_loseVia_4 h (fun x6 h => ?_)
        refine lv_icmp_ge (tgt := 76) hx hb dX3_loseVia_7 (by decide) (fun c7 => ?_) (fun c7 => ?_)
        · have h := if_t c7 h
          exact x_vret (p_N cI a) hx hb hr hlocks hP hS dX3_loseVia_76 h
        · have h := if_f c7 h
          refine lv_iload_n hx hb dX3_loseVia_10 rfl (lv_at hl 1 rfl) ?_
          refine lv_bipush (v := 10) hx hb dX3_loseVia_11 (by decide +kernel) ?_
          refine x_imul hx hb dX3_loseVia_13 h (fun x8 h => ?_)
          refine lv_iload_n hx hb dX3_loseVia_14 rfl (lv_at hl 3 rfl) ?_
          refine x_iadd hx hb dX3_loseVia_15 h (fun x9 h => ?_)
          refine lv_istore (lv' := [(4, .int x9), (0, .ref (a 0)), (1, .int x3), (2, .int x4), (3, .int x5)]) hx hb dX3_loseVia_16 hl (by decide) rfl (fun ls hl => ?_)
          refine lv_aload_n hx hb dX3_loseVia_18 rfl (lv_at hl 1 rfl) ?_
          refine x_getr (C := RX3) (k := 0) hx hb hts u_X3_loseVia_3 hown hK hP (g_N_0 cI a σ) rfl (by decide) ⟨rfl, rfl, rfl⟩ k_X3_loseVia_f12 rfl dX3_loseVia_19 ?_
          refine lv_iload hx hb dX3_loseVia_22 (lv_at hl 0 rfl) ?_
          refine x_cVi (p_N cI a) (p_T cI (q_sub 1 a)) (q_put 1 7 σ) [] [.int x9] hx hb hml hl.1 hown hts hK hP hD hS hA rfl (c_X4_reaches l D cI tys ht (q_sub 1 a) (q_sub 1 σ) x9) gX3_loseVia_X4_reaches rfl ⟨rfl, rfl⟩ i_X4_reaches ⟨Nat.le_of_ble_eq_true rfl, Nat.le_of_ble_eq_true rfl⟩ (fr_N_T_1 cI a σ) (g_T_0 cI (q_sub 1 a) (q_sub 1 σ)) rfl rfl (Nat.le_of_ble_eq_true rfl) ⟨Nat.zero_le _, Nat.zero_le _⟩ dX3_loseVia_24 h (fun x11 H locs s10 hP hS h => ?_)
          refine lv_if_eq (tgt := 70) hx hb dX3_loseVia_27 (by decide) (fun c12 => ?_) (fun c12 => ?_)
          · have h := if_t c12 h
            refine x_iinc (k := 4) (w := 1) hx hb dX3_loseVia_70 hl rfl (by decide +kernel) (by decide) (fun v9 => [(3, .int v9), (4, .int x9), (0, .ref (a 0)), (1, .int x3), (2, .int x4)]) (fun v9 => rfl) h (fun x13 ls hl h => ?_)
            have hl : lv_has ls 5 [(3, .int x13), (4, .int x9), (0, .ref (a 0)), (1, .int x3), (2, .int x4)] := hl
            refine lv_goto (tgt := 2) hx hb dX3_loseVia_73 (by decide) ?_
            exact i2 s10 x3 x4 x13 _ _ _ h hP hS (lv_sub hl [2, 3, 4, 0] rfl)
          · have h := if_f c12 h
            refine lv_aload_n hx hb dX3_loseVia_30 rfl (lv_at hl 1 rfl) ?_
            refine x_getr (C := RX3) (k := 0) hx hb hts u_X3_loseVia_3 hown hK hP (g_N_0 cI a s10) rfl (by decide) ⟨rfl, rfl, rfl⟩ k_X3_loseVia_f12 rfl dX3_loseVia_31 ?_
            refine x_getr (C := RX4) (k := 1) hx hb hts u_X3_loseVia_4 hown hK hP (g_N_1 cI a s10) rfl (by decide) ⟨rfl, rfl, rfl⟩ k_X3_loseVia_f76 rfl dX3_loseVia_34 ?_
            refine lv_iload hx hb dX3_loseVia_37 (lv_at hl 0 rfl) ?_
            refine x_iald (t0 := 0) hx hb hK hP ht h (g_N_3 cI a s10) dX3_loseVia_39 (fun x14 h => ?_)
            refine lv_iload_n hx hb dX3_loseVia_40 rfl (lv_at hl 3 rfl) ?_
            refine lv_icmp_ne (tgt := 70) hx hb dX3_loseVia_41 (by decide) (fun c15 => ?_) (fun c15 => ?_)
            · have h := if_f c15 h
              refine x_iinc (k := 4) (w := 1) hx hb dX3_loseVia_70 hl rfl (by decide +kernel) (by decide) (fun v9 => [(3, .int v9), (4, .int x9), (0, .ref (a 0)), (1, .int x3), (2, .int x4)]) (fun v9 => rfl) h (fun x16 ls hl h => ?_)
              have hl : lv_has ls 5 [(3, .int x16), (4, .int x9), (0, .ref (a 0)), (1, .int x3), (2, .int x4)] := hl
              refine lv_goto (tgt := 2) hx hb dX3_loseVia_73 (by decide) ?_
              exact i2 s10 x3 x4 x16 _ _ _ h hP hS (lv_sub hl [2, 3, 4, 0] rfl)
            · have h := if_t c15 h
              refine lv_aload_n hx hb dX3_loseVia_44 rfl (lv_at hl 1 rfl) ?_
              refine lv_iload hx hb dX3_loseVia_45 (lv_at hl 0 rfl) ?_
              refine lv_bipush (v := 16) hx hb dX3_loseVia_47 (by decide +kernel) ?_
              refine lv_iload_n hx hb dX3_loseVia_49 rfl (lv_at hl 3 rfl) ?_
              refine x_cVv (p_N cI a) (p_N cI a) (fun τ => τ) [] [.int x9, .int 16, .int x4] hx hb hml hl.1 hown hts hK hP hD hS hA rfl (c_X3_take l D cI tys ht a s10 x9 16 x4) gX3_loseVia_X3_take rfl ⟨rfl, rfl⟩ i_X3_take ⟨Nat.le_of_ble_eq_true rfl, Nat.le_of_ble_eq_true rfl⟩ q_frI (g_N_0 cI a s10) rfl rfl (Nat.le_of_ble_eq_true rfl) ⟨Nat.zero_le _, Nat.zero_le _⟩ dX3_loseVia_50 h (fun H locs s17 hP hS h => ?_)
              refine lv_aload_n hx hb dX3_loseVia_53 rfl (lv_at hl 1 rfl) ?_
              refine x_getr (C := RX3) (k := 0) hx hb hts u_X3_loseVia_3 hown hK hP (g_N_0 cI a s17) rfl (by decide) ⟨rfl, rfl, rfl⟩ k_X3_loseVia_f12 rfl dX3_loseVia_54 ?_
              refine x_getr (C := RX4) (k := 2) hx hb hts u_X3_loseVia_4 hown hK hP (g_N_1 cI a s17) rfl (by decide) ⟨rfl, rfl, rfl⟩ k_X3_loseVia_f83 rfl dX3_loseVia_57 ?_
              refine lv_iload hx hb dX3_loseVia_60 (lv_at hl 0 rfl) ?_
              refine lv_dup2_11 hx hb dX3_loseVia_62 rfl rfl ?_
              refine x_iald (t0 := 0) hx hb hK hP ht h (g_N_4 cI a s17) dX3_loseVia_63 (fun x18 h => ?_)
              refine lv_aload_n hx hb dX3_loseVia_64 rfl (lv_at hl 1 rfl) ?_
              refine x_geti (C := RX3) (k := 5) hx hb hts u_X3_loseVia_3 hown hK hP (g_N_0 cI a s17) rfl (by decide) ⟨rfl, rfl, rfl⟩ k_X3_loseVia_f42 rfl dX3_loseVia_65 h (fun x19 h => ?_)
              refine x_iadd hx hb dX3_loseVia_68 h (fun x20 h => ?_)
              refine x_iast (p_N cI a) (t0 := 0) hx hb hK hP hD hS ht h (g_N_4 cI a s17) (fun j9 v9 => (s_N_4 cI a s17 _)) dX3_loseVia_69 (fun H locs s21 hP hS h => ?_)
              refine x_iinc (k := 4) (w := 1) hx hb dX3_loseVia_70 hl rfl (by decide +kernel) (by decide) (fun v9 => [(3, .int v9), (4, .int x9), (0, .ref (a 0)), (1, .int x3), (2, .int x4)]) (fun v9 => rfl) h (fun x22 ls hl h => ?_)
              have hl : lv_has ls 5 [(3, .int x22), (4, .int x9), (0, .ref (a 0)), (1, .int x3), (2, .int x4)] := hl
              refine lv_goto (tgt := 2) hx hb dX3_loseVia_73 (by decide) ?_
              exact i2 s21 x3 x4 x22 _ _ _ h hP hS (lv_sub hl [2, 3, 4, 0] rfl)
  have i2 : ∀ (σ : qM) (x3 x4 x5 : Int32) (H : Heap) (locs : List Loc) (ls : Array Slot), q_lim (D_X3_loseVia) 0 σ [x3, x4, x5] = some qq → va_P D vwCl (p_N cI a σ) H → va_S A s.heap H locs → lv_has ls 5 [(0, .ref (a 0)), (1, .int x3), (2, .int x4), (3, .int x5)] → W p l e ({ frames := 1, cells := 0, slots := 0, locals := 23 }) s m [.ref (a 0), .int x1, .int x2].toArray below meth c H locs 0 0 (MQ below (va_Qv (fun τ => ((0 : Int32), τ) = qq) (fun τ t => va_P D vwCl ((p_N cI a) τ) t.heap) A) [.ref (a 0), .int x1, .int x2].toArray s 0 0 A) (F0 m 2 ls []) := by
    intro σ x3 x4 x5 H locs ls h hP hS hl
    obtain ⟨k9, h⟩ := q_lim_n h
    exact (main k9) σ x3 x4 x5 H locs ls h hP hS hl
  have h : e_X3_loseVia (q_lim (D_X3_loseVia)) σ x1 x2 = some qq := h
  unfold e_X3_loseVia at h
  refine lv_iconst (v := 0) hx hb dX3_loseVia_0 (by decide +kernel) ?_
  refine lv_istore_n (lv' := [(3, .int 0), (0, .ref (a 0)), (1, .int x1), (2, .int x2)]) hx hb dX3_loseVia_1 rfl hl (by decide) rfl (fun ls hl => ?_)
  exact i2 σ x1 x2 0 _ _ _ h hP hS (lv_sub hl [1, 2, 3, 0] rfl)
/-! ===== VectorRounds$Network.switchLink(I)V: world N ===== -/
theorem i_X3_switchLink : yX3_switchLink.cls = RX3 ∧ yX3_switchLink.cls ≠ "java/lang/invoke/MethodHandle" ∧ yX3_switchLink.cls ≠ "java/lang/invoke/VarHandle" ∧ (parseMethodDescriptor yX3_switchLink.desc).map (fun d => d.parameters.length) = some 1 := by decide +kernel
theorem k_X3_switchLink_f24 : Cond.fieldLink RX3 24 RX3 "links" "LVectorRounds$Links;" ∈ wsX3_switchLink := by decide +kernel
theorem k_X3_switchLink_f58 : Cond.fieldLink RX3 58 RX2 "up" "[I" ∈ wsX3_switchLink := by decide +kernel
theorem k_X3_switchLink_f62 : Cond.fieldLink RX3 62 RX2 "lesser" "[I" ∈ wsX3_switchLink := by decide +kernel
theorem k_X3_switchLink_f65 : Cond.fieldLink RX3 65 RX2 "greater" "[I" ∈ wsX3_switchLink := by decide +kernel
theorem u_X3_switchLink_2 : ∀ w ∈ u_ws RX2 TX2 6, w ∈ wsX3_switchLink := by decide +kernel
theorem u_X3_switchLink_3 : ∀ w ∈ u_ws RX3 TX3 9, w ∈ wsX3_switchLink := by decide +kernel
noncomputable def f_X3_switchLink (σ : qM) (x1 : Int32) : qR :=
  q_rd σ 19 24 x1 fun x2 =>
  q_nm (((1 : Int32) - x2)) fun x3 =>
  q_wt σ 19 24 x1 x3 fun s4 =>
  q_rd s4 19 24 x1 fun x5 =>
  if x5 = 0 then (
  q_rd s4 16 24 x1 fun x7 =>
  q_rd s4 17 24 x1 fun x8 =>
  q_cl (f_X3_loseVia s4 x7 x8) (fun τ => τ) fun _ s9 =>
  q_rd s9 17 24 x1 fun x10 =>
  q_rd s9 16 24 x1 fun x11 =>
  q_cl (f_X3_loseVia s9 x10 x11) (fun τ => τ) fun _ s12 =>
  some (0, s12))
  else (
  some (0, s4))
set_option maxHeartbeats 4000000 in
set_option maxRecDepth 100000 in
theorem c_X3_switchLink (l : Launch) (D : va_G) (cI : ClassId) (tys : List (ClassId × FieldType)) (ht : tys[0]? = some (cI, .int)) (a : Nat → Nat) (σ : qM) (x1 : Int32) : q_Mev l yX3_switchLink wsX3_switchLink ({ frames := 2, cells := 0, slots := 0, locals := 47 }) [.ref (a 0), .int x1] D tys (p_N cI a) σ (f_X3_switchLink σ x1) := by
  refine x_ofWv (cc := cX3_switchLink) (maxL := 2) (ret := none) (by decide +kernel) rfl (pf_N cI a) (Nat.le_of_ble_eq_true rfl) ?_
  intro p e s m below meth c A ls qq h hx hb hml hr hlocks hown hts hK hP hD hA hS hl
  have hown : s.vm.findClass RX3 = some m.cls := hown
  have hl : lv_has ls 2 [(0, .ref (a 0)), (1, .int x1)] := hl
  unfold f_X3_switchLink at h
  refine lv_aload_n hx hb dX3_switchLink_0 rfl (lv_at hl 0 rfl) ?_
  refine x_getr (C := RX3) (k := 2) hx hb hts u_X3_switchLink_3 hown hK hP (g_N_0 cI a σ) rfl (by decide) ⟨rfl, rfl, rfl⟩ k_X3_switchLink_f24 rfl dX3_switchLink_1 ?_
  refine x_getr (C := RX2) (k := 3) hx hb hts u_X3_switchLink_2 hown hK hP (g_N_15 cI a σ) rfl (by decide) ⟨rfl, rfl, rfl⟩ k_X3_switchLink_f58 rfl dX3_switchLink_4 ?_
  refine lv_iload_n hx hb dX3_switchLink_7 rfl (lv_at hl 1 rfl) ?_
  refine lv_iconst (v := 1) hx hb dX3_switchLink_8 (by decide +kernel) ?_
  refine lv_aload_n hx hb dX3_switchLink_9 rfl (lv_at hl 0 rfl) ?_
  refine x_getr (C := RX3) (k := 2) hx hb hts u_X3_switchLink_3 hown hK hP (g_N_0 cI a σ) rfl (by decide) ⟨rfl, rfl, rfl⟩ k_X3_switchLink_f24 rfl dX3_switchLink_10 ?_
  refine x_getr (C := RX2) (k := 3) hx hb hts u_X3_switchLink_2 hown hK hP (g_N_15 cI a σ) rfl (by decide) ⟨rfl, rfl, rfl⟩ k_X3_switchLink_f58 rfl dX3_switchLink_13 ?_
  refine lv_iload_n hx hb dX3_switchLink_16 rfl (lv_at hl 1 rfl) ?_
  refine x_iald (t0 := 0) hx hb hK hP ht h (g_N_19 cI a σ) dX3_switchLink_17 (fun x2 h => ?_)
  refine x_isub hx hb dX3_switchLink_18 h (fun x3 h => ?_)
  refine x_iast (p_N cI a) (t0 := 0) hx hb hK hP hD hS ht h (g_N_19 cI a σ) (fun j9 v9 => (s_N_19 cI a σ _)) dX3_switchLink_19 (fun H locs s4 hP hS h => ?_)
  refine lv_aload_n hx hb dX3_switchLink_20 rfl (lv_at hl 0 rfl) ?_
  refine x_getr (C := RX3) (k := 2) hx hb hts u_X3_switchLink_3 hown hK hP (g_N_0 cI a s4) rfl (by decide) ⟨rfl, rfl, rfl⟩ k_X3_switchLink_f24 rfl dX3_switchLink_21 ?_
  refine x_getr (C := RX2) (k := 3) hx hb hts u_X3_switchLink_2 hown hK hP (g_N_15 cI a s4) rfl (by decide) ⟨rfl, rfl, rfl⟩ k_X3_switchLink_f58 rfl dX3_switchLink_24 ?_
  refine lv_iload_n hx hb dX3_switchLink_27 rfl (lv_at hl 1 rfl) ?_
  refine x_iald (t0 := 0) hx hb hK hP ht h (g_N_19 cI a s4) dX3_switchLink_28 (fun x5 h => ?_)
  refine lv_if_ne (tgt := 76) hx hb dX3_switchLink_29 (by decide) (fun c6 => ?_) (fun c6 => ?_)
  · have h := if_f c6 h
    exact x_vret (p_N cI a) hx hb hr hlocks hP hS dX3_switchLink_76 h
  · have h := if_t c6 h
    refine lv_aload_n hx hb dX3_switchLink_32 rfl (lv_at hl 0 rfl) ?_
    refine lv_aload_n hx hb dX3_switchLink_33 rfl (lv_at hl 0 rfl) ?_
    refine x_getr (C := RX3) (k := 2) hx hb hts u_X3_switchLink_3 hown hK hP (g_N_0 cI a s4) rfl (by decide) ⟨rfl, rfl, rfl⟩ k_X3_switchLink_f24 rfl dX3_switchLink_34 ?_
    refine x_getr (C := RX2) (k := 0) hx hb hts u_X3_switchLink_2 hown hK hP (g_N_15 cI a s4) rfl (by decide) ⟨rfl, rfl, rfl⟩ k_X3_switchLink_f62 rfl dX3_switchLink_37 ?_
    refine lv_iload_n hx hb dX3_switchLink_40 rfl (lv_at hl 1 rfl) ?_
    refine x_iald (t0 := 0) hx hb hK hP ht h (g_N_16 cI a s4) dX3_switchLink_41 (fun x7 h => ?_)
    refine lv_aload_n hx hb dX3_switchLink_42 rfl (lv_at hl 0 rfl) ?_
    refine x_getr (C := RX3) (k := 2) hx hb hts u_X3_switchLink_3 hown hK hP (g_N_0 cI a s4) rfl (by decide) ⟨rfl, rfl, rfl⟩ k_X3_switchLink_f24 rfl dX3_switchLink_43 ?_
    refine x_getr (C := RX2) (k := 1) hx hb hts u_X3_switchLink_2 hown hK hP (g_N_15 cI a s4) rfl (by decide) ⟨rfl, rfl, rfl⟩ k_X3_switchLink_f65 rfl dX3_switchLink_46 ?_
    refine lv_iload_n hx hb dX3_switchLink_49 rfl (lv_at hl 1 rfl) ?_
    refine x_iald (t0 := 0) hx hb hK hP ht h (g_N_17 cI a s4) dX3_switchLink_50 (fun x8 h => ?_)
    refine x_cVv (p_N cI a) (p_N cI a) (fun τ => τ) [] [.int x7, .int x8] hx hb hml hl.1 hown hts hK hP hD hS hA rfl (c_X3_loseVia l D cI tys ht a s4 x7 x8) gX3_switchLink_X3_loseVia rfl ⟨rfl, rfl⟩ i_X3_loseVia ⟨Nat.le_of_ble_eq_true rfl, Nat.le_of_ble_eq_true rfl⟩ q_frI (g_N_0 cI a s4) rfl rfl (Nat.le_of_ble_eq_true rfl) ⟨Nat.zero_le _, Nat.zero_le _⟩ dX3_switchLink_51 h (fun H locs s9 hP hS h => ?_)
    refine lv_aload_n hx hb dX3_switchLink_54 rfl (lv_at hl 0 rfl) ?_
    refine lv_aload_n hx hb dX3_switchLink_55 rfl (lv_at hl 0 rfl) ?_
    refine x_getr (C := RX3) (k := 2) hx hb hts u_X3_switchLink_3 hown hK hP (g_N_0 cI a s9) rfl (by decide) ⟨rfl, rfl, rfl⟩ k_X3_switchLink_f24 rfl dX3_switchLink_56 ?_
    refine x_getr (C := RX2) (k := 1) hx hb hts u_X3_switchLink_2 hown hK hP (g_N_15 cI a s9) rfl (by decide) ⟨rfl, rfl, rfl⟩ k_X3_switchLink_f65 rfl dX3_switchLink_59 ?_
    refine lv_iload_n hx hb dX3_switchLink_62 rfl (lv_at hl 1 rfl) ?_
    refine x_iald (t0 := 0) hx hb hK hP ht h (g_N_17 cI a s9) dX3_switchLink_63 (fun x10 h => ?_)
    refine lv_aload_n hx hb dX3_switchLink_64 rfl (lv_at hl 0 rfl) ?_
    refine x_getr (C := RX3) (k := 2) hx hb hts u_X3_switchLink_3 hown hK hP (g_N_0 cI a s9) rfl (by decide) ⟨rfl, rfl, rfl⟩ k_X3_switchLink_f24 rfl dX3_switchLink_65 ?_
    refine x_getr (C := RX2) (k := 0) hx hb hts u_X3_switchLink_2 hown hK hP (g_N_15 cI a s9) rfl (by decide) ⟨rfl, rfl, rfl⟩ k_X3_switchLink_f62 rfl dX3_switchLink_68 ?_
    refine lv_iload_n hx hb dX3_switchLink_71 rfl (lv_at hl 1 rfl) ?_
    refine x_iald (t0 := 0) hx hb hK hP ht h (g_N_16 cI a s9) dX3_switchLink_72 (fun x11 h => ?_)
    refine x_cVv (p_N cI a) (p_N cI a) (fun τ => τ) [] [.int x10, .int x11] hx hb hml hl.1 hown hts hK hP hD hS hA rfl (c_X3_loseVia l D cI tys ht a s9 x10 x11) gX3_switchLink_X3_loseVia rfl ⟨rfl, rfl⟩ i_X3_loseVia ⟨Nat.le_of_ble_eq_true rfl, Nat.le_of_ble_eq_true rfl⟩ q_frI (g_N_0 cI a s9) rfl rfl (Nat.le_of_ble_eq_true rfl) ⟨Nat.zero_le _, Nat.zero_le _⟩ dX3_switchLink_73 h (fun H locs s12 hP hS h => ?_)
    exact x_vret (p_N cI a) hx hb hr hlocks hP hS dX3_switchLink_76 h
/-! ===== VectorRounds$Network.addRouter()I: world N ===== -/
theorem i_X3_addRouter : yX3_addRouter.cls = RX3 ∧ yX3_addRouter.cls ≠ "java/lang/invoke/MethodHandle" ∧ yX3_addRouter.cls ≠ "java/lang/invoke/VarHandle" ∧ (parseMethodDescriptor yX3_addRouter.desc).map (fun d => d.parameters.length) = some 0 := by decide +kernel
theorem k_X3_addRouter_f12 : Cond.fieldLink RX3 12 RX3 "tables" "LVectorRounds$Tables;" ∈ wsX3_addRouter := by decide +kernel
theorem k_X3_addRouter_f35 : Cond.fieldLink RX3 35 RX3 "routers" "I" ∈ wsX3_addRouter := by decide +kernel
theorem u_X3_addRouter_3 : ∀ w ∈ u_ws RX3 TX3 9, w ∈ wsX3_addRouter := by decide +kernel
noncomputable def f_X3_addRouter (σ : qM) : qR :=
  q_nm (σ 0 3) fun x1 =>
  q_cl (f_X4_enter (q_sub 1 σ) x1 x1 0 x1 0) (q_put 1 7 σ) fun _ s2 =>
  q_nm (s2 0 3) fun x3 =>
  q_nm ((x3 + 1)) fun x4 =>
  q_nm (q_wr s2 0 3 x4) fun s5 =>
  some (x1, s5)
set_option maxHeartbeats 4000000 in
set_option maxRecDepth 100000 in
theorem c_X3_addRouter (l : Launch) (D : va_G) (cI : ClassId) (tys : List (ClassId × FieldType)) (ht : tys[0]? = some (cI, .int)) (a : Nat → Nat) (σ : qM) : q_Met l yX3_addRouter wsX3_addRouter ({ frames := 1, cells := 0, slots := 0, locals := 26 }) [.ref (a 0)] D tys (p_N cI a) σ (f_X3_addRouter σ) := by
  refine x_ofWi (cc := cX3_addRouter) (maxL := 2) (ret := (some .int)) (by decide +kernel) rfl (pf_N cI a) (Nat.le_of_ble_eq_true rfl) ?_
  intro p e s m below meth c A ls qq h hx hb hml hr hlocks hown hts hK hP hD hA hS hl
  have hown : s.vm.findClass RX3 = some m.cls := hown
  have hl : lv_has ls 2 [(0, .ref (a 0))] := hl
  unfold f_X3_addRouter at h
  refine lv_aload_n hx hb dX3_addRouter_0 rfl (lv_at hl 0 rfl) ?_
  refine x_geti (C := RX3) (k := 3) hx hb hts u_X3_addRouter_3 hown hK hP (g_N_0 cI a σ) rfl (by decide) ⟨rfl, rfl, rfl⟩ k_X3_addRouter_f35 rfl dX3_addRouter_1 h (fun x1 h => ?_)
  refine lv_istore_n (lv' := [(1, .int x1), (0, .ref (a 0))]) hx hb dX3_addRouter_4 rfl hl (by decide) rfl (fun ls hl => ?_)
  refine lv_aload_n hx hb dX3_addRouter_5 rfl (lv_at hl 1 rfl) ?_
  refine x_getr (C := RX3) (k := 0) hx hb hts u_X3_addRouter_3 hown hK hP (g_N_0 cI a σ) rfl (by decide) ⟨rfl, rfl, rfl⟩ k_X3_addRouter_f12 rfl dX3_addRouter_6 ?_
  refine lv_iload_n hx hb dX3_addRouter_9 rfl (lv_at hl 0 rfl) ?_
  refine lv_iload_n hx hb dX3_addRouter_10 rfl (lv_at hl 0 rfl) ?_
  refine lv_iconst (v := 0) hx hb dX3_addRouter_11 (by decide +kernel) ?_
  refine lv_iload_n hx hb dX3_addRouter_12 rfl (lv_at hl 0 rfl) ?_
  refine lv_iconst (v := 0) hx hb dX3_addRouter_13 (by decide +kernel) ?_
  refine x_cVv (p_N cI a) (p_T cI (q_sub 1 a)) (q_put 1 7 σ) [] [.int x1, .int x1, .int 0, .int x1, .int 0] hx hb hml hl.1 hown hts hK hP hD hS hA rfl (c_X4_enter l D cI tys ht (q_sub 1 a) (q_sub 1 σ) x1 x1 0 x1 0) gX3_addRouter_X4_enter rfl ⟨rfl, rfl⟩ i_X4_enter ⟨Nat.le_of_ble_eq_true rfl, Nat.le_of_ble_eq_true rfl⟩ (fr_N_T_1 cI a σ) (g_T_0 cI (q_sub 1 a) (q_sub 1 σ)) rfl rfl (Nat.le_of_ble_eq_true rfl) ⟨Nat.zero_le _, Nat.zero_le _⟩ dX3_addRouter_14 h (fun H locs s2 hP hS h => ?_)
  refine lv_aload_n hx hb dX3_addRouter_17 rfl (lv_at hl 1 rfl) ?_
  refine lv_dup hx hb dX3_addRouter_18 rfl ?_
  refine x_geti (C := RX3) (k := 3) hx hb hts u_X3_addRouter_3 hown hK hP (g_N_0 cI a s2) rfl (by decide) ⟨rfl, rfl, rfl⟩ k_X3_addRouter_f35 rfl dX3_addRouter_19 h (fun x3 h => ?_)
  refine lv_iconst (v := 1) hx hb dX3_addRouter_22 (by decide +kernel) ?_
  refine x_iadd hx hb dX3_addRouter_23 h (fun x4 h => ?_)
  refine x_puti (p_N cI a) (C := RX3) (k := 3) hx hb hts u_X3_addRouter_3 tyX3 tyX3_ok nmX3 hown hK hP hD hS h (g_N_0 cI a s2) rfl (by decide) ⟨rfl, rfl, rfl⟩ k_X3_addRouter_f35 rfl rfl rfl rfl (Nat.le_of_ble_eq_true rfl) (s_N_0_3 cI a s2 x4) dX3_addRouter_24 (fun H locs s5 hP hS h => ?_)
  refine lv_iload_n hx hb dX3_addRouter_27 rfl (lv_at hl 0 rfl) ?_
  exact x_iret (p_N cI a) hx hb hr hlocks hP hS dX3_addRouter_28 h
/-! ===== VectorRounds$Network.receive(IIIII)V: world N ===== -/
theorem i_X3_receive : yX3_receive.cls = RX3 ∧ yX3_receive.cls ≠ "java/lang/invoke/MethodHandle" ∧ yX3_receive.cls ≠ "java/lang/invoke/VarHandle" ∧ (parseMethodDescriptor yX3_receive.desc).map (fun d => d.parameters.length) = some 5 := by decide +kernel
theorem k_X3_receive_f110 : Cond.fieldLink RX3 110 RX4 "metric" "[I" ∈ wsX3_receive := by decide +kernel
theorem k_X3_receive_f12 : Cond.fieldLink RX3 12 RX3 "tables" "LVectorRounds$Tables;" ∈ wsX3_receive := by decide +kernel
theorem k_X3_receive_f124 : Cond.fieldLink RX3 124 RX4 "held" "[I" ∈ wsX3_receive := by decide +kernel
theorem k_X3_receive_f42 : Cond.fieldLink RX3 42 RX3 "sequenced" "I" ∈ wsX3_receive := by decide +kernel
theorem k_X3_receive_f48 : Cond.fieldLink RX3 48 RX3 "round" "I" ∈ wsX3_receive := by decide +kernel
theorem k_X3_receive_f76 : Cond.fieldLink RX3 76 RX4 "via" "[I" ∈ wsX3_receive := by decide +kernel
theorem k_X3_receive_f83 : Cond.fieldLink RX3 83 RX4 "sequence" "[I" ∈ wsX3_receive := by decide +kernel
theorem u_X3_receive_3 : ∀ w ∈ u_ws RX3 TX3 9, w ∈ wsX3_receive := by decide +kernel
theorem u_X3_receive_4 : ∀ w ∈ u_ws RX4 TX4 6, w ∈ wsX3_receive := by decide +kernel
noncomputable def b_X3_receive_155 (σ : qM) (x36 x37 x38 x39 : Int32) : qR :=
  q_cl (f_X3_take σ x39 x37 x36) (fun τ => τ) fun _ s47 =>
  q_wt s47 4 100 x39 x38 fun s48 =>
  some (0, s48)
noncomputable def b_X3_receive_79 (σ : qM) (x20 x21 x22 x23 x24 : Int32) : qR :=
  q_nm (σ 0 5) fun x27 =>
  if x27 = 0 then (
  if x24 = 0 then (
  q_rd σ 3 100 x23 fun x44 =>
  if x44 = x20 then (
  q_cl (f_X3_take σ x23 x21 x20) (fun τ => τ) fun _ s46 =>
  some (0, s46))
  else (
  some (0, σ)))
  else (
  q_cl (f_X3_take σ x23 x21 x20) (fun τ => τ) fun _ s43 =>
  some (0, s43)))
  else (
  q_rd σ 4 100 x23 fun x29 =>
  if x22 ≤ x29 then (
  q_rd σ 4 100 x23 fun x31 =>
  if x22 = x31 then (
  if x24 = 0 then (
  some (0, σ))
  else (
  q_cl (f_X3_take σ x23 x21 x20) (fun τ => τ) fun _ s34 =>
  some (0, s34)))
  else (
  some (0, σ)))
  else (
  if x21 < 16 then (
  b_X3_receive_155 σ x20 x21 x22 x23)
  else (
  q_rd σ 3 100 x23 fun x40 =>
  if x40 = x20 then (
  b_X3_receive_155 σ x20 x21 x22 x23)
  else (
  some (0, σ)))))
noncomputable def b_X3_receive_78 (σ : qM) (x13 x14 x15 x16 : Int32) : qR :=
  b_X3_receive_79 σ x13 x14 x15 x16 0
noncomputable def f_X3_receive (σ : qM) (x1 : Int32) (x2 : Int32) (x3 : Int32) (x4 : Int32) (x5 : Int32) : qR :=
  q_nm ((x1 * 10)) fun x6 =>
  q_nm ((x6 + x3)) fun x7 =>
  q_cl (f_X4_has (q_sub 1 σ) x7) (q_put 1 7 σ) fun x9 s8 =>
  if x9 = 0 then (
  if (16 : Int32) ≤ x4 then (
  some (0, s8))
  else (
  q_cl (f_X4_enter (q_sub 1 s8) x1 x3 x4 x2 x5) (q_put 1 7 s8) fun _ s26 =>
  some (0, s26)))
  else (
  q_rd s8 2 100 x7 fun x11 =>
  if x11 ≤ x4 then (
  b_X3_receive_78 s8 x2 x4 x5 x7)
  else (
  q_rd s8 5 100 x7 fun x17 =>
  q_nm (s8 0 7) fun x18 =>
  if x18 ≤ x17 then (
  b_X3_receive_78 s8 x2 x4 x5 x7)
  else (
  b_X3_receive_79 s8 x2 x4 x5 x7 1)))
set_option maxHeartbeats 4000000 in
set_option maxRecDepth 100000 in
theorem c_X3_receive (l : Launch) (D : va_G) (cI : ClassId) (tys : List (ClassId × FieldType)) (ht : tys[0]? = some (cI, .int)) (a : Nat → Nat) (σ : qM) (x1 : Int32) (x2 : Int32) (x3 : Int32) (x4 : Int32) (x5 : Int32) : q_Mev l yX3_receive wsX3_receive ({ frames := 1, cells := 0, slots := 0, locals := 26 }) [.ref (a 0), .int x1, .int x2, .int x3, .int x4, .int x5] D tys (p_N cI a) σ (f_X3_receive σ x1 x2 x3 x4 x5) := by
  refine x_ofWv (cc := cX3_receive) (maxL := 8) (ret := none) (by decide +kernel) rfl (pf_N cI a) (Nat.le_of_ble_eq_true rfl) ?_
  intro p e s m below meth c A ls qq h hx hb hml hr hlocks hown hts hK hP hD hA hS hl
  have hown : s.vm.findClass RX3 = some m.cls := hown
  have hl : lv_has ls 8 [(0, .ref (a 0)), (1, .int x1), (2, .int x2), (3, .int x3), (4, .int x4), (5, .int x5)] := hl
  have i155 : ∀ (σ : qM) (x36 x37 x38 x39 : Int32) (H : Heap) (locs : List Loc) (ls : Array Slot), b_X3_receive_155 σ x36 x37 x38 x39 = some qq → va_P D vwCl (p_N cI a σ) H → va_S A s.heap H locs → lv_has ls 8 [(0, .ref (a 0)), (2, .int x36), (4, .int x37), (5, .int x38), (6, .int x39)] → W p l e ({ frames := 1, cells := 0, slots := 0, locals := 26 }) s m [.ref (a 0), .int x1, .int x2, .int x3, .int x4, .int x5].toArray below meth c H locs 0 0 (MQ below (va_Qv (fun τ => ((0 : Int32), τ) = qq) (fun τ t => va_P D vwCl ((p_N cI a) τ) t.heap) A) [.ref (a 0), .int x1, .int x2, .int x3, .int x4, .int x5].toArray s 0 0 A) (F0 m 155 ls []) := by
    intro σ x36 x37 x38 x39 H locs ls h hP hS hl
    unfold b_X3_receive_155 at h
    refine lv_aload_n hx hb dX3_receive_155 rfl (lv_at hl 0 rfl) ?_
    refine lv_iload hx hb dX3_receive_156 (lv_at hl 4 rfl) ?_
    refine lv_iload hx hb dX3_receive_158 (lv_at hl 2 rfl) ?_
    refine lv_iload_n hx hb dX3_receive_160 rfl (lv_at hl 1 rfl) ?_
    refine x_cVv (p_N cI a) (p_N cI a) (fun τ => τ) [] [.int x39, .int x37, .int x36] hx hb hml hl.1 hown hts hK hP hD hS hA rfl (c_X3_take l D cI tys ht a σ x39 x37 x36) gX3_receive_X3_take rfl ⟨rfl, rfl⟩ i_X3_take ⟨Nat.le_of_ble_eq_true rfl, Nat.le_of_ble_eq_true rfl⟩ q_frI (g_N_0 cI a σ) rfl rfl (Nat.le_of_ble_eq_true rfl) ⟨Nat.zero_le _, Nat.zero_le _⟩ dX3_receive_161 h (fun H locs s47 hP hS h => ?_)
    refine lv_aload_n hx hb dX3_receive_164 rfl (lv_at hl 0 rfl) ?_
    refine x_getr (C := RX3) (k := 0) hx hb hts u_X3_receive_3 hown hK hP (g_N_0 cI a s47) rfl (by decide) ⟨rfl, rfl, rfl⟩ k_X3_receive_f12 rfl dX3_receive_165 ?_
    refine x_getr (C := RX4) (k := 2) hx hb hts u_X3_receive_4 hown hK hP (g_N_1 cI a s47) rfl (by decide) ⟨rfl, rfl, rfl⟩ k_X3_receive_f83 rfl dX3_receive_168 ?_
    refine lv_iload hx hb dX3_receive_171 (lv_at hl 4 rfl) ?_
    refine lv_iload hx hb dX3_receive_173 (lv_at hl 3 rfl) ?_
    refine x_iast (p_N cI a) (t0 := 0) hx hb hK hP hD hS ht h (g_N_4 cI a s47) (fun j9 v9 => (s_N_4 cI a s47 _)) dX3_receive_175 (fun H locs s48 hP hS h => ?_)
    refine lv_goto (tgt := 208) hx hb dX3_receive_176 (by decide) ?_
    exact x_vret (p_N cI a) hx hb hr hlocks hP hS dX3_receive_208 h
  have i79 : ∀ (σ : qM) (x20 x21 x22 x23 x24 : Int32) (H : Heap) (locs : List Loc) (ls : Array Slot), b_X3_receive_79 σ x20 x21 x22 x23 x24 = some qq → va_P D vwCl (p_N cI a σ) H → va_S A s.heap H locs → lv_has ls 8 [(0, .ref (a 0)), (2, .int x20), (4, .int x21), (5, .int x22), (6, .int x23)] → W p l e ({ frames := 1, cells := 0, slots := 0, locals := 26 }) s m [.ref (a 0), .int x1, .int x2, .int x3, .int x4, .int x5].toArray below meth c H locs 0 0 (MQ below (va_Qv (fun τ => ((0 : Int32), τ) = qq) (fun τ t => va_P D vwCl ((p_N cI a) τ) t.heap) A) [.ref (a 0), .int x1, .int x2, .int x3, .int x4, .int x5].toArray s 0 0 A) (F0 m 79 ls [.int x24]) := by
    intro σ x20 x21 x22 x23 x24 H locs ls h hP hS hl
    unfold b_X3_receive_79 at h
    refine lv_istore (lv' := [(7, .int x24), (0, .ref (a 0)), (2, .int x20), (4, .int x21), (5, .int x22), (6, .int x23)]) hx hb dX3_receive_79 hl (by decide) rfl (fun ls hl => ?_)
    refine lv_aload_n hx hb dX3_receive_81 rfl (lv_at hl 1 rfl) ?_
    refine x_geti (C := RX3) (k := 5) hx hb hts u_X3_receive_3 hown hK hP (g_N_0 cI a σ) rfl (by decide) ⟨rfl, rfl, rfl⟩ k_X3_receive_f42 rfl dX3_receive_82 h (fun x27 h => ?_)
    refine lv_if_ne (tgt := 119) hx hb dX3_receive_85 (by decide) (fun c28 => ?_) (fun c28 => ?_)
    · have h := if_f c28 h
      refine lv_iload hx hb dX3_receive_119 (lv_at hl 4 rfl) ?_
      refine lv_aload_n hx hb dX3_receive_121 rfl (lv_at hl 1 rfl) ?_
      refine x_getr (C := RX3) (k := 0) hx hb hts u_X3_receive_3 hown hK hP (g_N_0 cI a σ) rfl (by decide) ⟨rfl, rfl, rfl⟩ k_X3_receive_f12 rfl dX3_receive_122 ?_
      refine x_getr (C := RX4) (k := 2) hx hb hts u_X3_receive_4 hown hK hP (g_N_1 cI a σ) rfl (by decide) ⟨rfl, rfl, rfl⟩ k_X3_receive_f83 rfl dX3_receive_125 ?_
      refine lv_iload hx hb dX3_receive_128 (lv_at hl 5 rfl) ?_
      refine x_iald (t0 := 0) hx hb hK hP ht h (g_N_4 cI a σ) dX3_receive_130 (fun x29 h => ?_)
      refine lv_icmp_le (tgt := 179) hx hb dX3_receive_131 (by decide) (fun c30 => ?_) (fun c30 => ?_)
      · have h := if_t c30 h
        refine lv_iload hx hb dX3_receive_179 (lv_at hl 4 rfl) ?_
        refine lv_aload_n hx hb dX3_receive_181 rfl (lv_at hl 1 rfl) ?_
        refine x_getr (C := RX3) (k := 0) hx hb hts u_X3_receive_3 hown hK hP (g_N_0 cI a σ) rfl (by decide) ⟨rfl, rfl, rfl⟩ k_X3_receive_f12 rfl dX3_receive_182 ?_
        refine x_getr (C := RX4) (k := 2) hx hb hts u_X3_receive_4 hown hK hP (g_N_1 cI a σ) rfl (by decide) ⟨rfl, rfl, rfl⟩ k_X3_receive_f83 rfl dX3_receive_185 ?_
        refine lv_iload hx hb dX3_receive_188 (lv_at hl 5 rfl) ?_
        refine x_iald (t0 := 0) hx hb hK hP ht h (g_N_4 cI a σ) dX3_receive_190 (fun x31 h => ?_)
        refine lv_icmp_ne (tgt := 208) hx hb dX3_receive_191 (by decide) (fun c32 => ?_) (fun c32 => ?_)
        · have h := if_f c32 h
          exact x_vret (p_N cI a) hx hb hr hlocks hP hS dX3_receive_208 h
        · have h := if_t c32 h
          refine lv_iload hx hb dX3_receive_194 (lv_at hl 0 rfl) ?_
          refine lv_if_eq (tgt := 208) hx hb dX3_receive_196 (by decide) (fun c33 => ?_) (fun c33 => ?_)
          · have h := if_t c33 h
            exact x_vret (p_N cI a) hx hb hr hlocks hP hS dX3_receive_208 h
          · have h := if_f c33 h
            refine lv_aload_n hx hb dX3_receive_199 rfl (lv_at hl 1 rfl) ?_
            refine lv_iload hx hb dX3_receive_200 (lv_at hl 5 rfl) ?_
            refine lv_iload hx hb dX3_receive_202 (lv_at hl 3 rfl) ?_
            refine lv_iload_n hx hb dX3_receive_204 rfl (lv_at hl 2 rfl) ?_
            refine x_cVv (p_N cI a) (p_N cI a) (fun τ => τ) [] [.int x23, .int x21, .int x20] hx hb hml hl.1 hown hts hK hP hD hS hA rfl (c_X3_take l D cI tys ht a σ x23 x21 x20) gX3_receive_X3_take rfl ⟨rfl, rfl⟩ i_X3_take ⟨Nat.le_of_ble_eq_true rfl, Nat.le_of_ble_eq_true rfl⟩ q_frI (g_N_0 cI a σ) rfl rfl (Nat.le_of_ble_eq_true rfl) ⟨Nat.zero_le _, Nat.zero_le _⟩ dX3_receive_205 h (fun H locs s34 hP hS h => ?_)
            exact x_vret (p_N cI a) hx hb hr hlocks hP hS dX3_receive_208 h
      · have h := if_f c30 h
        refine lv_iload hx hb dX3_receive_134 (lv_at hl 3 rfl) ?_
        refine lv_bipush (v := 16) hx hb dX3_receive_136 (by decide +kernel) ?_
        refine lv_icmp_lt (tgt := 155) hx hb dX3_receive_138 (by decide) (fun c35 => ?_) (fun c35 => ?_)
        · have h := if_t c35 h
          exact i155 σ x20 x21 x22 x23 _ _ _ h hP hS (lv_sub hl [1, 2, 3, 4, 5] rfl)
        · have h := if_f c35 h
          refine lv_aload_n hx hb dX3_receive_141 rfl (lv_at hl 1 rfl) ?_
          refine x_getr (C := RX3) (k := 0) hx hb hts u_X3_receive_3 hown hK hP (g_N_0 cI a σ) rfl (by decide) ⟨rfl, rfl, rfl⟩ k_X3_receive_f12 rfl dX3_receive_142 ?_
          refine x_getr (C := RX4) (k := 1) hx hb hts u_X3_receive_4 hown hK hP (g_N_1 cI a σ) rfl (by decide) ⟨rfl, rfl, rfl⟩ k_X3_receive_f76 rfl dX3_receive_145 ?_
          refine lv_iload hx hb dX3_receive_148 (lv_at hl 5 rfl) ?_
          refine x_iald (t0 := 0) hx hb hK hP ht h (g_N_3 cI a σ) dX3_receive_150 (fun x40 h => ?_)
          refine lv_iload_n hx hb dX3_receive_151 rfl (lv_at hl 2 rfl) ?_
          refine lv_icmp_ne (tgt := 208) hx hb dX3_receive_152 (by decide) (fun c41 => ?_) (fun c41 => ?_)
          · have h := if_f c41 h
            exact x_vret (p_N cI a) hx hb hr hlocks hP hS dX3_receive_208 h
          · have h := if_t c41 h
            exact i155 σ x20 x21 x22 x23 _ _ _ h hP hS (lv_sub hl [1, 2, 3, 4, 5] rfl)
    · have h := if_t c28 h
      refine lv_iload hx hb dX3_receive_88 (lv_at hl 0 rfl) ?_
      refine lv_if_ne (tgt := 107) hx hb dX3_receive_90 (by decide) (fun c42 => ?_) (fun c42 => ?_)
      · have h := if_f c42 h
        refine lv_aload_n hx hb dX3_receive_107 rfl (lv_at hl 1 rfl) ?_
        refine lv_iload hx hb dX3_receive_108 (lv_at hl 5 rfl) ?_
        refine lv_iload hx hb dX3_receive_110 (lv_at hl 3 rfl) ?_
        refine lv_iload_n hx hb dX3_receive_112 rfl (lv_at hl 2 rfl) ?_
        refine x_cVv (p_N cI a) (p_N cI a) (fun τ => τ) [] [.int x23, .int x21, .int x20] hx hb hml hl.1 hown hts hK hP hD hS hA rfl (c_X3_take l D cI tys ht a σ x23 x21 x20) gX3_receive_X3_take rfl ⟨rfl, rfl⟩ i_X3_take ⟨Nat.le_of_ble_eq_true rfl, Nat.le_of_ble_eq_true rfl⟩ q_frI (g_N_0 cI a σ) rfl rfl (Nat.le_of_ble_eq_true rfl) ⟨Nat.zero_le _, Nat.zero_le _⟩ dX3_receive_113 h (fun H locs s43 hP hS h => ?_)
        refine lv_goto (tgt := 208) hx hb dX3_receive_116 (by decide) ?_
        exact x_vret (p_N cI a) hx hb hr hlocks hP hS dX3_receive_208 h
      · have h := if_t c42 h
        refine lv_aload_n hx hb dX3_receive_93 rfl (lv_at hl 1 rfl) ?_
        refine x_getr (C := RX3) (k := 0) hx hb hts u_X3_receive_3 hown hK hP (g_N_0 cI a σ) rfl (by decide) ⟨rfl, rfl, rfl⟩ k_X3_receive_f12 rfl dX3_receive_94 ?_
        refine x_getr (C := RX4) (k := 1) hx hb hts u_X3_receive_4 hown hK hP (g_N_1 cI a σ) rfl (by decide) ⟨rfl, rfl, rfl⟩ k_X3_receive_f76 rfl dX3_receive_97 ?_
        refine lv_iload hx hb dX3_receive_100 (lv_at hl 5 rfl) ?_
        refine x_iald (t0 := 0) hx hb hK hP ht h (g_N_3 cI a σ) dX3_receive_102 (fun x44 h => ?_)
        refine lv_iload_n hx hb dX3_receive_103 rfl (lv_at hl 2 rfl) ?_
        refine lv_icmp_ne (tgt := 208) hx hb dX3_receive_104 (by decide) (fun c45 => ?_) (fun c45 => ?_)
        · have h := if_f c45 h
          exact x_vret (p_N cI a) hx hb hr hlocks hP hS dX3_receive_208 h
        · have h := if_t c45 h
          refine lv_aload_n hx hb dX3_receive_107 rfl (lv_at hl 1 rfl) ?_
          refine lv_iload hx hb dX3_receive_108 (lv_at hl 5 rfl) ?_
          refine lv_iload hx hb dX3_receive_110 (lv_at hl 3 rfl) ?_
          refine lv_iload_n hx hb dX3_receive_112 rfl (lv_at hl 2 rfl) ?_
          refine x_cVv (p_N cI a) (p_N cI a) (fun τ => τ) [] [.int x23, .int x21, .int x20] hx hb hml hl.1 hown hts hK hP hD hS hA rfl (c_X3_take l D cI tys ht a σ x23 x21 x20) gX3_receive_X3_take rfl ⟨rfl, rfl⟩ i_X3_take ⟨Nat.le_of_ble_eq_true rfl, Nat.le_of_ble_eq_true rfl⟩ q_frI (g_N_0 cI a σ) rfl rfl (Nat.le_of_ble_eq_true rfl) ⟨Nat.zero_le _, Nat.zero_le _⟩ dX3_receive_113 h (fun H locs s46 hP hS h => ?_)
          refine lv_goto (tgt := 208) hx hb dX3_receive_116 (by decide) ?_
          exact x_vret (p_N cI a) hx hb hr hlocks hP hS dX3_receive_208 h
  have i78 : ∀ (σ : qM) (x13 x14 x15 x16 : Int32) (H : Heap) (locs : List Loc) (ls : Array Slot), b_X3_receive_78 σ x13 x14 x15 x16 = some qq → va_P D vwCl (p_N cI a σ) H → va_S A s.heap H locs → lv_has ls 8 [(0, .ref (a 0)), (2, .int x13), (4, .int x14), (5, .int x15), (6, .int x16)] → W p l e ({ frames := 1, cells := 0, slots := 0, locals := 26 }) s m [.ref (a 0), .int x1, .int x2, .int x3, .int x4, .int x5].toArray below meth c H locs 0 0 (MQ below (va_Qv (fun τ => ((0 : Int32), τ) = qq) (fun τ t => va_P D vwCl ((p_N cI a) τ) t.heap) A) [.ref (a 0), .int x1, .int x2, .int x3, .int x4, .int x5].toArray s 0 0 A) (F0 m 78 ls []) := by
    intro σ x13 x14 x15 x16 H locs ls h hP hS hl
    unfold b_X3_receive_78 at h
    refine lv_iconst (v := 0) hx hb dX3_receive_78 (by decide +kernel) ?_
    exact i79 σ x13 x14 x15 x16 0 _ _ _ h hP hS (lv_sub hl [0, 1, 2, 3, 4] rfl)
  unfold f_X3_receive at h
  refine lv_iload_n hx hb dX3_receive_0 rfl (lv_at hl 1 rfl) ?_
  refine lv_bipush (v := 10) hx hb dX3_receive_1 (by decide +kernel) ?_
  refine x_imul hx hb dX3_receive_3 h (fun x6 h => ?_)
  refine lv_iload_n hx hb dX3_receive_4 rfl (lv_at hl 3 rfl) ?_
  refine x_iadd hx hb dX3_receive_5 h (fun x7 h => ?_)
  refine lv_istore (lv' := [(6, .int x7), (0, .ref (a 0)), (1, .int x1), (2, .int x2), (3, .int x3), (4, .int x4), (5, .int x5)]) hx hb dX3_receive_6 hl (by decide) rfl (fun ls hl => ?_)
  refine lv_aload_n hx hb dX3_receive_8 rfl (lv_at hl 1 rfl) ?_
  refine x_getr (C := RX3) (k := 0) hx hb hts u_X3_receive_3 hown hK hP (g_N_0 cI a σ) rfl (by decide) ⟨rfl, rfl, rfl⟩ k_X3_receive_f12 rfl dX3_receive_9 ?_
  refine lv_iload hx hb dX3_receive_12 (lv_at hl 0 rfl) ?_
  refine x_cVi (p_N cI a) (p_T cI (q_sub 1 a)) (q_put 1 7 σ) [] [.int x7] hx hb hml hl.1 hown hts hK hP hD hS hA rfl (c_X4_has l D cI tys ht (q_sub 1 a) (q_sub 1 σ) x7) gX3_receive_X4_has rfl ⟨rfl, rfl⟩ i_X4_has ⟨Nat.le_of_ble_eq_true rfl, Nat.le_of_ble_eq_true rfl⟩ (fr_N_T_1 cI a σ) (g_T_0 cI (q_sub 1 a) (q_sub 1 σ)) rfl rfl (Nat.le_of_ble_eq_true rfl) ⟨Nat.zero_le _, Nat.zero_le _⟩ dX3_receive_14 h (fun x9 H locs s8 hP hS h => ?_)
  refine lv_if_ne (tgt := 42) hx hb dX3_receive_17 (by decide) (fun c10 => ?_) (fun c10 => ?_)
  · have h := if_f c10 h
    refine lv_iload hx hb dX3_receive_42 (lv_at hl 5 rfl) ?_
    refine lv_aload_n hx hb dX3_receive_44 rfl (lv_at hl 1 rfl) ?_
    refine x_getr (C := RX3) (k := 0) hx hb hts u_X3_receive_3 hown hK hP (g_N_0 cI a s8) rfl (by decide) ⟨rfl, rfl, rfl⟩ k_X3_receive_f12 rfl dX3_receive_45 ?_
    refine x_getr (C := RX4) (k := 0) hx hb hts u_X3_receive_4 hown hK hP (g_N_1 cI a s8) rfl (by decide) ⟨rfl, rfl, rfl⟩ k_X3_receive_f110 rfl dX3_receive_48 ?_
    refine lv_iload hx hb dX3_receive_51 (lv_at hl 0 rfl) ?_
    refine x_iald (t0 := 0) hx hb hK hP ht h (g_N_2 cI a s8) dX3_receive_53 (fun x11 h => ?_)
    refine lv_icmp_ge (tgt := 78) hx hb dX3_receive_54 (by decide) (fun c12 => ?_) (fun c12 => ?_)
    · have h := if_t c12 h
      exact i78 s8 x2 x4 x5 x7 _ _ _ h hP hS (lv_sub hl [1, 3, 5, 6, 0] rfl)
    · have h := if_f c12 h
      refine lv_aload_n hx hb dX3_receive_57 rfl (lv_at hl 1 rfl) ?_
      refine x_getr (C := RX3) (k := 0) hx hb hts u_X3_receive_3 hown hK hP (g_N_0 cI a s8) rfl (by decide) ⟨rfl, rfl, rfl⟩ k_X3_receive_f12 rfl dX3_receive_58 ?_
      refine x_getr (C := RX4) (k := 3) hx hb hts u_X3_receive_4 hown hK hP (g_N_1 cI a s8) rfl (by decide) ⟨rfl, rfl, rfl⟩ k_X3_receive_f124 rfl dX3_receive_61 ?_
      refine lv_iload hx hb dX3_receive_64 (lv_at hl 0 rfl) ?_
      refine x_iald (t0 := 0) hx hb hK hP ht h (g_N_5 cI a s8) dX3_receive_66 (fun x17 h => ?_)
      refine lv_aload_n hx hb dX3_receive_67 rfl (lv_at hl 1 rfl) ?_
      refine x_geti (C := RX3) (k := 7) hx hb hts u_X3_receive_3 hown hK hP (g_N_0 cI a s8) rfl (by decide) ⟨rfl, rfl, rfl⟩ k_X3_receive_f48 rfl dX3_receive_68 h (fun x18 h => ?_)
      refine lv_icmp_ge (tgt := 78) hx hb dX3_receive_71 (by decide) (fun c19 => ?_) (fun c19 => ?_)
      · have h := if_t c19 h
        exact i78 s8 x2 x4 x5 x7 _ _ _ h hP hS (lv_sub hl [1, 3, 5, 6, 0] rfl)
      · have h := if_f c19 h
        refine lv_iconst (v := 1) hx hb dX3_receive_74 (by decide +kernel) ?_
        refine lv_goto (tgt := 79) hx hb dX3_receive_75 (by decide) ?_
        exact i79 s8 x2 x4 x5 x7 1 _ _ _ h hP hS (lv_sub hl [1, 3, 5, 6, 0] rfl)
  · have h := if_t c10 h
    refine lv_iload hx hb dX3_receive_20 (lv_at hl 5 rfl) ?_
    refine lv_bipush (v := 16) hx hb dX3_receive_22 (by decide +kernel) ?_
    refine lv_icmp_ge (tgt := 41) hx hb dX3_receive_24 (by decide) (fun c25 => ?_) (fun c25 => ?_)
    · have h := if_t c25 h
      exact x_vret (p_N cI a) hx hb hr hlocks hP hS dX3_receive_41 h
    · have h := if_f c25 h
      refine lv_aload_n hx hb dX3_receive_27 rfl (lv_at hl 1 rfl) ?_
      refine x_getr (C := RX3) (k := 0) hx hb hts u_X3_receive_3 hown hK hP (g_N_0 cI a s8) rfl (by decide) ⟨rfl, rfl, rfl⟩ k_X3_receive_f12 rfl dX3_receive_28 ?_
      refine lv_iload_n hx hb dX3_receive_31 rfl (lv_at hl 2 rfl) ?_
      refine lv_iload_n hx hb dX3_receive_32 rfl (lv_at hl 4 rfl) ?_
      refine lv_iload hx hb dX3_receive_33 (lv_at hl 5 rfl) ?_
      refine lv_iload_n hx hb dX3_receive_35 rfl (lv_at hl 3 rfl) ?_
      refine lv_iload hx hb dX3_receive_36 (lv_at hl 6 rfl) ?_
      refine x_cVv (p_N cI a) (p_T cI (q_sub 1 a)) (q_put 1 7 s8) [] [.int x1, .int x3, .int x4, .int x2, .int x5] hx hb hml hl.1 hown hts hK hP hD hS hA rfl (c_X4_enter l D cI tys ht (q_sub 1 a) (q_sub 1 s8) x1 x3 x4 x2 x5) gX3_receive_X4_enter rfl ⟨rfl, rfl⟩ i_X4_enter ⟨Nat.le_of_ble_eq_true rfl, Nat.le_of_ble_eq_true rfl⟩ (fr_N_T_1 cI a s8) (g_T_0 cI (q_sub 1 a) (q_sub 1 s8)) rfl rfl (Nat.le_of_ble_eq_true rfl) ⟨Nat.zero_le _, Nat.zero_le _⟩ dX3_receive_38 h (fun H locs s26 hP hS h => ?_)
      exact x_vret (p_N cI a) hx hb hr hlocks hP hS dX3_receive_41 h
/-! ===== VectorRounds$Network.tell(III)V: world N ===== -/
theorem i_X3_tell : yX3_tell.cls = RX3 ∧ yX3_tell.cls ≠ "java/lang/invoke/MethodHandle" ∧ yX3_tell.cls ≠ "java/lang/invoke/VarHandle" ∧ (parseMethodDescriptor yX3_tell.desc).map (fun d => d.parameters.length) = some 3 := by decide +kernel
theorem k_X3_tell_f104 : Cond.fieldLink RX3 104 RX4 "size" "[I" ∈ wsX3_tell := by decide +kernel
theorem k_X3_tell_f107 : Cond.fieldLink RX3 107 RX4 "order" "[I" ∈ wsX3_tell := by decide +kernel
theorem k_X3_tell_f110 : Cond.fieldLink RX3 110 RX4 "metric" "[I" ∈ wsX3_tell := by decide +kernel
theorem k_X3_tell_f18 : Cond.fieldLink RX3 18 RX3 "before" "LVectorRounds$Tables;" ∈ wsX3_tell := by decide +kernel
theorem k_X3_tell_f39 : Cond.fieldLink RX3 39 RX3 "horizon" "I" ∈ wsX3_tell := by decide +kernel
theorem k_X3_tell_f51 : Cond.fieldLink RX3 51 RX3 "toldEver" "I" ∈ wsX3_tell := by decide +kernel
theorem k_X3_tell_f76 : Cond.fieldLink RX3 76 RX4 "via" "[I" ∈ wsX3_tell := by decide +kernel
theorem k_X3_tell_f83 : Cond.fieldLink RX3 83 RX4 "sequence" "[I" ∈ wsX3_tell := by decide +kernel
theorem k_X3_tell_m113 : Cond.methodLink RX3 113 Lib.Math.min.name ∈ wsX3_tell ∧ Cond.static Lib.Math.min.name ∈ wsX3_tell ∧ Cond.initialized "java/lang/Math" ∈ wsX3_tell ∧ Cond.code Lib.Math.min.name Lib.Math.min.code 2 (some .int) ∈ wsX3_tell := by decide +kernel
theorem u_X3_tell_3 : ∀ w ∈ u_ws RX3 TX3 9, w ∈ wsX3_tell := by decide +kernel
theorem u_X3_tell_4 : ∀ w ∈ u_ws RX4 TX4 6, w ∈ wsX3_tell := by decide +kernel
noncomputable def b_X3_tell_3 (go : qB) (σ : qM) (x4 x5 x6 x7 : Int32) : qR :=
  q_rd σ 14 10 x4 fun x8 =>
  if x8 ≤ x7 then (
  some (0, σ))
  else (
  q_nm ((x4 * 10)) fun x10 =>
  q_nm ((x10 + x7)) fun x11 =>
  q_rd σ 13 100 x11 fun x12 =>
  q_nm ((x4 * 10)) fun x13 =>
  q_nm ((x13 + x12)) fun x14 =>
  q_rd σ 9 100 x14 fun x15 =>
  q_nm (σ 0 4) fun x16 =>
  if x16 = 0 then (
  go 1 σ [x4, x5, x6, x7, x12, x14, x15])
  else (
  q_rd σ 10 100 x14 fun x25 =>
  if x25 = x5 then (
  q_nm (σ 0 4) fun x27 =>
  if x27 = 1 then (
  q_nm (x7 + 1) fun x29 =>
  go 0 σ [x4, x5, x6, x29])
  else (
  go 1 σ [x4, x5, x6, x7, x12, x14, 16]))
  else (
  go 1 σ [x4, x5, x6, x7, x12, x14, x15])))
noncomputable def b_X3_tell_91 (go : qB) (σ : qM) (x18 x19 x20 x21 x22 x23 x24 : Int32) : qR :=
  q_nm (σ 0 8) fun x30 =>
  q_nm ((x30 + 1)) fun x31 =>
  q_nm (q_wr σ 0 8 x31) fun s32 =>
  if x22 = x19 then (
  q_nm (x21 + 1) fun x34 =>
  go 0 s32 [x18, x19, x20, x34])
  else (
  q_nm ((x24 + x20)) fun x35 =>
  q_nm (if x35 < 16 then x35 else 16) fun x36 =>
  q_rd s32 11 100 x23 fun x37 =>
  q_cl (f_X3_receive s32 x19 x18 x22 x36 x37) (fun τ => τ) fun _ s38 =>
  q_nm (x21 + 1) fun x39 =>
  go 0 s38 [x18, x19, x20, x39])
noncomputable def D_X3_tell (go : qB) : qB := fun i σ xs => if i = 0 then (match xs with | [x4, x5, x6, x7] => b_X3_tell_3 go σ x4 x5 x6 x7 | _ => none) else if i = 1 then (match xs with | [x18, x19, x20, x21, x22, x23, x24] => b_X3_tell_91 go σ x18 x19 x20 x21 x22 x23 x24 | _ => none) else none
noncomputable def e_X3_tell (go : qB) (σ : qM) (x1 : Int32) (x2 : Int32) (x3 : Int32) : qR :=
  go 0 σ [x1, x2, x3, 0]
noncomputable def f_X3_tell (σ : qM) (x1 : Int32) (x2 : Int32) (x3 : Int32) : qR := e_X3_tell (q_lim (D_X3_tell)) σ x1 x2 x3
set_option maxHeartbeats 4000000 in
set_option maxRecDepth 100000 in
theorem c_X3_tell (l : Launch) (D : va_G) (cI : ClassId) (tys : List (ClassId × FieldType)) (ht : tys[0]? = some (cI, .int)) (a : Nat → Nat) (σ : qM) (x1 : Int32) (x2 : Int32) (x3 : Int32) : q_Mev l yX3_tell wsX3_tell ({ frames := 2, cells := 0, slots := 0, locals := 53 }) [.ref (a 0), .int x1, .int x2, .int x3] D tys (p_N cI a) σ (f_X3_tell σ x1 x2 x3) := by
  refine x_ofWv (cc := cX3_tell) (maxL := 8) (ret := none) (by decide +kernel) rfl (pf_N cI a) (Nat.le_of_ble_eq_true rfl) ?_
  intro p e s m below meth c A ls qq h hx hb hml hr hlocks hown hts hK hP hD hA hS hl
  have hown : s.vm.findClass RX3 = some m.cls := hown
  have hl : lv_has ls 8 [(0, .ref (a 0)), (1, .int x1), (2, .int x2), (3, .int x3)] := hl
  have main : ∀ k9 : Nat, (∀ (σ : qM) (x4 x5 x6 x7 : Int32) (H : Heap) (locs : List Loc) (ls : Array Slot), q_it (D_X3_tell) k9 0 σ [x4, x5, x6, x7] = some qq → va_P D vwCl (p_N cI a σ) H → va_S A s.heap H locs → lv_has ls 8 [(0, .ref (a 0)), (1, .int x4), (2, .int x5), (3, .int x6), (4, .int x7)] → W p l e ({ frames := 2, cells := 0, slots := 0, locals := 53 }) s m [.ref (a 0), .int x1, .int x2, .int x3].toArray below meth c H locs 0 0 (MQ below (va_Qv (fun τ => ((0 : Int32), τ) = qq) (fun τ t => va_P D vwCl ((p_N cI a) τ) t.heap) A) [.ref (a 0), .int x1, .int x2, .int x3].toArray s 0 0 A) (F0 m 3 ls [])) ∧ (∀ (σ : qM) (x18 x19 x20 x21 x22 x23 x24 : Int32) (H : Heap) (locs : List Loc) (ls : Array Slot), q_it (D_X3_tell) k9 1 σ [x18, x19, x20, x21, x22, x23, x24] = some qq → va_P D vwCl (p_N cI a σ) H → va_S A s.heap H locs → lv_has ls 8 [(0, .ref (a 0)), (1, .int x18), (2, .int x19), (3, .int x20), (4, .int x21), (5, .int x22), (6, .int x23), (7, .int x24)] → W p l e ({ frames := 2, cells := 0, slots := 0, locals := 53 }) s m [.ref (a 0), .int x1, .int x2, .int x3].toArray below meth c H locs 0 0 (MQ below (va_Qv (fun τ => ((0 : Int32), τ) = qq) (fun τ t => va_P D vwCl ((p_N cI a) τ) t.heap) A) [.ref (a 0), .int x1, .int x2, .int x3].toArray s 0 0 A) (F0 m 91 ls [])) := by
    intro k9
    induction k9 with
    | zero => exact ⟨(fun _ _ _ _ _ _ _ _ h _ _ _ => (q_no (show (none : qR) = some qq from h)).elim), (fun _ _ _ _ _ _ _ _ _ _ _ h _ _ _ => (q_no (show (none : qR) = some qq from h)).elim)⟩
    | succ k9 ih =>
      obtain ⟨i3, i91⟩ := ih
      refine ⟨?_, ?_⟩
      · intro σ x4 x5 x6 x7 H locs ls h hP hS hl
        have h : b_X3_tell_3 (q_it (D_X3_tell) k9) σ x4 x5 x6 x7 = some qq := h
        unfold b_X3_tell_3 at h
        refine lv_iload hx hb dX3_tell_3 (lv_at hl 4 rfl) ?_
        refine lv_aload_n hx hb dX3_tell_5 rfl (lv_at hl 0 rfl) ?_
        refine x_getr (C := RX3) (k := 1) hx hb hts u_X3_tell_3 hown hK hP (g_N_0 cI a σ) rfl (by decide) ⟨rfl, rfl, rfl⟩ k_X3_tell_f18 rfl dX3_tell_6 ?_
        refine x_getr (C := RX4) (k := 5) hx hb hts u_X3_tell_4 hown hK hP (g_N_8 cI a σ) rfl (by decide) ⟨rfl, rfl, rfl⟩ k_X3_tell_f104 rfl dX3_tell_9 ?_
        refine lv_iload_n hx hb dX3_tell_12 rfl (lv_at hl 1 rfl) ?_
        refine x_iald (t0 := 0) hx hb hK hP ht h (g_N_14 cI a σ) dX3_tell_13 (fun x8 h => ?_)
        refine lv_icmp_ge (tgt := 140) hx hb dX3_tell_14 (by decide) (fun c9 => ?_) (fun c9 => ?_)
        · have h := if_t c9 h
          exact x_vret (p_N cI a) hx hb hr hlocks hP hS dX3_tell_140 h
        · have h := if_f c9 h
          refine lv_aload_n hx hb dX3_tell_17 rfl (lv_at hl 0 rfl) ?_
          refine x_getr (C := RX3) (k := 1) hx hb hts u_X3_tell_3 hown hK hP (g_N_0 cI a σ) rfl (by decide) ⟨rfl, rfl, rfl⟩ k_X3_tell_f18 rfl dX3_tell_18 ?_
          refine x_getr (C := RX4) (k := 4) hx hb hts u_X3_tell_4 hown hK hP (g_N_8 cI a σ) rfl (by decide) ⟨rfl, rfl, rfl⟩ k_X3_tell_f107 rfl dX3_tell_21 ?_
          refine lv_iload_n hx hb dX3_tell_24 rfl (lv_at hl 1 rfl) ?_
          refine lv_bipush (v := 10) hx hb dX3_tell_25 (by decide +kernel) ?_
          refine x_imul hx hb dX3_tell_27 h (fun x10 h => ?_)
          refine lv_iload hx hb dX3_tell_28 (lv_at hl 4 rfl) ?_
          refine x_iadd hx hb dX3_tell_30 h (fun x11 h => ?_)
          refine x_iald (t0 := 0) hx hb hK hP ht h (g_N_13 cI a σ) dX3_tell_31 (fun x12 h => ?_)
          refine lv_istore (lv' := [(5, .int x12), (0, .ref (a 0)), (1, .int x4), (2, .int x5), (3, .int x6), (4, .int x7)]) hx hb dX3_tell_32 hl (by decide) rfl (fun ls hl => ?_)
          refine lv_iload_n hx hb dX3_tell_34 rfl (lv_at hl 2 rfl) ?_
          refine lv_bipush (v := 10) hx hb dX3_tell_35 (by decide +kernel) ?_
          refine x_imul hx hb dX3_tell_37 h (fun x13 h => ?_)
          refine lv_iload hx hb dX3_tell_38 (lv_at hl 0 rfl) ?_
          refine x_iadd hx hb dX3_tell_40 h (fun x14 h => ?_)
          refine lv_istore (lv' := [(6, .int x14), (5, .int x12), (0, .ref (a 0)), (1, .int x4), (2, .int x5), (3, .int x6), (4, .int x7)]) hx hb dX3_tell_41 hl (by decide) rfl (fun ls hl => ?_)
          refine lv_aload_n hx hb dX3_tell_43 rfl (lv_at hl 2 rfl) ?_
          refine x_getr (C := RX3) (k := 1) hx hb hts u_X3_tell_3 hown hK hP (g_N_0 cI a σ) rfl (by decide) ⟨rfl, rfl, rfl⟩ k_X3_tell_f18 rfl dX3_tell_44 ?_
          refine x_getr (C := RX4) (k := 0) hx hb hts u_X3_tell_4 hown hK hP (g_N_8 cI a σ) rfl (by decide) ⟨rfl, rfl, rfl⟩ k_X3_tell_f110 rfl dX3_tell_47 ?_
          refine lv_iload hx hb dX3_tell_50 (lv_at hl 0 rfl) ?_
          refine x_iald (t0 := 0) hx hb hK hP ht h (g_N_9 cI a σ) dX3_tell_52 (fun x15 h => ?_)
          refine lv_istore (lv' := [(7, .int x15), (6, .int x14), (5, .int x12), (0, .ref (a 0)), (1, .int x4), (2, .int x5), (3, .int x6), (4, .int x7)]) hx hb dX3_tell_53 hl (by decide) rfl (fun ls hl => ?_)
          refine lv_aload_n hx hb dX3_tell_55 rfl (lv_at hl 3 rfl) ?_
          refine x_geti (C := RX3) (k := 4) hx hb hts u_X3_tell_3 hown hK hP (g_N_0 cI a σ) rfl (by decide) ⟨rfl, rfl, rfl⟩ k_X3_tell_f39 rfl dX3_tell_56 h (fun x16 h => ?_)
          refine lv_if_eq (tgt := 91) hx hb dX3_tell_59 (by decide) (fun c17 => ?_) (fun c17 => ?_)
          · have h := if_t c17 h
            exact i91 σ x4 x5 x6 x7 x12 x14 x15 _ _ _ h hP hS (lv_sub hl [3, 4, 5, 6, 7, 2, 1, 0] rfl)
          · have h := if_f c17 h
            refine lv_aload_n hx hb dX3_tell_62 rfl (lv_at hl 3 rfl) ?_
            refine x_getr (C := RX3) (k := 1) hx hb hts u_X3_tell_3 hown hK hP (g_N_0 cI a σ) rfl (by decide) ⟨rfl, rfl, rfl⟩ k_X3_tell_f18 rfl dX3_tell_63 ?_
            refine x_getr (C := RX4) (k := 1) hx hb hts u_X3_tell_4 hown hK hP (g_N_8 cI a σ) rfl (by decide) ⟨rfl, rfl, rfl⟩ k_X3_tell_f76 rfl dX3_tell_66 ?_
            refine lv_iload hx hb dX3_tell_69 (lv_at hl 1 rfl) ?_
            refine x_iald (t0 := 0) hx hb hK hP ht h (g_N_10 cI a σ) dX3_tell_71 (fun x25 h => ?_)
            refine lv_iload_n hx hb dX3_tell_72 rfl (lv_at hl 5 rfl) ?_
            refine lv_icmp_ne (tgt := 91) hx hb dX3_tell_73 (by decide) (fun c26 => ?_) (fun c26 => ?_)
            · have h := if_f c26 h
              exact i91 σ x4 x5 x6 x7 x12 x14 x15 _ _ _ h hP hS (lv_sub hl [3, 4, 5, 6, 7, 2, 1, 0] rfl)
            · have h := if_t c26 h
              refine lv_aload_n hx hb dX3_tell_76 rfl (lv_at hl 3 rfl) ?_
              refine x_geti (C := RX3) (k := 4) hx hb hts u_X3_tell_3 hown hK hP (g_N_0 cI a σ) rfl (by decide) ⟨rfl, rfl, rfl⟩ k_X3_tell_f39 rfl dX3_tell_77 h (fun x27 h => ?_)
              refine lv_iconst (v := 1) hx hb dX3_tell_80 (by decide +kernel) ?_
              refine lv_icmp_ne (tgt := 87) hx hb dX3_tell_81 (by decide) (fun c28 => ?_) (fun c28 => ?_)
              · have h := if_f c28 h
                refine lv_bipush (v := 16) hx hb dX3_tell_87 (by decide +kernel) ?_
                refine lv_istore (lv' := [(7, .int 16), (6, .int x14), (5, .int x12), (0, .ref (a 0)), (1, .int x4), (2, .int x5), (3, .int x6), (4, .int x7)]) hx hb dX3_tell_89 hl (by decide) rfl (fun ls hl => ?_)
                exact i91 σ x4 x5 x6 x7 x12 x14 16 _ _ _ h hP hS (lv_sub hl [3, 4, 5, 6, 7, 2, 1, 0] rfl)
              · have h := if_t c28 h
                refine lv_goto (tgt := 134) hx hb dX3_tell_84 (by decide) ?_
                refine x_iinc (k := 7) (w := 1) hx hb dX3_tell_134 hl rfl (by decide +kernel) (by decide) (fun v9 => [(4, .int v9), (7, .int x15), (6, .int x14), (5, .int x12), (0, .ref (a 0)), (1, .int x4), (2, .int x5), (3, .int x6)]) (fun v9 => rfl) h (fun x29 ls hl h => ?_)
                have hl : lv_has ls 8 [(4, .int x29), (7, .int x15), (6, .int x14), (5, .int x12), (0, .ref (a 0)), (1, .int x4), (2, .int x5), (3, .int x6)] := hl
                refine lv_goto (tgt := 3) hx hb dX3_tell_137 (by decide) ?_
                exact i3 σ x4 x5 x6 x29 _ _ _ h hP hS (lv_sub hl [4, 5, 6, 7, 0] rfl)
      · intro σ x18 x19 x20 x21 x22 x23 x24 H locs ls h hP hS hl
        have h : b_X3_tell_91 (q_it (D_X3_tell) k9) σ x18 x19 x20 x21 x22 x23 x24 = some qq := h
        unfold b_X3_tell_91 at h
        refine lv_aload_n hx hb dX3_tell_91 rfl (lv_at hl 0 rfl) ?_
        refine lv_dup hx hb dX3_tell_92 rfl ?_
        refine x_geti (C := RX3) (k := 8) hx hb hts u_X3_tell_3 hown hK hP (g_N_0 cI a σ) rfl (by decide) ⟨rfl, rfl, rfl⟩ k_X3_tell_f51 rfl dX3_tell_93 h (fun x30 h => ?_)
        refine lv_iconst (v := 1) hx hb dX3_tell_96 (by decide +kernel) ?_
        refine x_iadd hx hb dX3_tell_97 h (fun x31 h => ?_)
        refine x_puti (p_N cI a) (C := RX3) (k := 8) hx hb hts u_X3_tell_3 tyX3 tyX3_ok nmX3 hown hK hP hD hS h (g_N_0 cI a σ) rfl (by decide) ⟨rfl, rfl, rfl⟩ k_X3_tell_f51 rfl rfl rfl rfl (Nat.le_of_ble_eq_true rfl) (s_N_0_8 cI a σ x31) dX3_tell_98 (fun H locs s32 hP hS h => ?_)
        refine lv_iload hx hb dX3_tell_101 (lv_at hl 5 rfl) ?_
        refine lv_iload_n hx hb dX3_tell_103 rfl (lv_at hl 2 rfl) ?_
        refine lv_icmp_eq (tgt := 134) hx hb dX3_tell_104 (by decide) (fun c33 => ?_) (fun c33 => ?_)
        · have h := if_t c33 h
          refine x_iinc (k := 4) (w := 1) hx hb dX3_tell_134 hl rfl (by decide +kernel) (by decide) (fun v9 => [(4, .int v9), (0, .ref (a 0)), (1, .int x18), (2, .int x19), (3, .int x20), (5, .int x22), (6, .int x23), (7, .int x24)]) (fun v9 => rfl) h (fun x34 ls hl h => ?_)
          have hl : lv_has ls 8 [(4, .int x34), (0, .ref (a 0)), (1, .int x18), (2, .int x19), (3, .int x20), (5, .int x22), (6, .int x23), (7, .int x24)] := hl
          refine lv_goto (tgt := 3) hx hb dX3_tell_137 (by decide) ?_
          exact i3 s32 x18 x19 x20 x34 _ _ _ h hP hS (lv_sub hl [1, 2, 3, 4, 0] rfl)
        · have h := if_f c33 h
          refine lv_aload_n hx hb dX3_tell_107 rfl (lv_at hl 0 rfl) ?_
          refine lv_iload_n hx hb dX3_tell_108 rfl (lv_at hl 2 rfl) ?_
          refine lv_iload_n hx hb dX3_tell_109 rfl (lv_at hl 1 rfl) ?_
          refine lv_iload hx hb dX3_tell_110 (lv_at hl 5 rfl) ?_
          refine lv_bipush (v := 16) hx hb dX3_tell_112 (by decide +kernel) ?_
          refine lv_iload hx hb dX3_tell_114 (lv_at hl 7 rfl) ?_
          refine lv_iload_n hx hb dX3_tell_116 rfl (lv_at hl 3 rfl) ?_
          refine x_iadd hx hb dX3_tell_117 h (fun x35 h => ?_)
          refine x_mmin hx hb (hml.trans hl.1.symm) hown hts k_X3_tell_m113 ⟨Nat.le_of_ble_eq_true rfl, Nat.le_of_ble_eq_true rfl, Nat.zero_le _, Nat.zero_le _⟩ dX3_tell_118 h (fun x36 h => ?_)
          refine lv_aload_n hx hb dX3_tell_121 rfl (lv_at hl 0 rfl) ?_
          refine x_getr (C := RX3) (k := 1) hx hb hts u_X3_tell_3 hown hK hP (g_N_0 cI a s32) rfl (by decide) ⟨rfl, rfl, rfl⟩ k_X3_tell_f18 rfl dX3_tell_122 ?_
          refine x_getr (C := RX4) (k := 2) hx hb hts u_X3_tell_4 hown hK hP (g_N_8 cI a s32) rfl (by decide) ⟨rfl, rfl, rfl⟩ k_X3_tell_f83 rfl dX3_tell_125 ?_
          refine lv_iload hx hb dX3_tell_128 (lv_at hl 6 rfl) ?_
          refine x_iald (t0 := 0) hx hb hK hP ht h (g_N_11 cI a s32) dX3_tell_130 (fun x37 h => ?_)
          refine x_cVv (p_N cI a) (p_N cI a) (fun τ => τ) [] [.int x19, .int x18, .int x22, .int x36, .int x37] hx hb hml hl.1 hown hts hK hP hD hS hA rfl (c_X3_receive l D cI tys ht a s32 x19 x18 x22 x36 x37) gX3_tell_X3_receive rfl ⟨rfl, rfl⟩ i_X3_receive ⟨Nat.le_of_ble_eq_true rfl, Nat.le_of_ble_eq_true rfl⟩ q_frI (g_N_0 cI a s32) rfl rfl (Nat.le_of_ble_eq_true rfl) ⟨Nat.zero_le _, Nat.zero_le _⟩ dX3_tell_131 h (fun H locs s38 hP hS h => ?_)
          refine x_iinc (k := 4) (w := 1) hx hb dX3_tell_134 hl rfl (by decide +kernel) (by decide) (fun v9 => [(4, .int v9), (0, .ref (a 0)), (1, .int x18), (2, .int x19), (3, .int x20), (5, .int x22), (6, .int x23), (7, .int x24)]) (fun v9 => rfl) h (fun x39 ls hl h => ?_)
          have hl : lv_has ls 8 [(4, .int x39), (0, .ref (a 0)), (1, .int x18), (2, .int x19), (3, .int x20), (5, .int x22), (6, .int x23), (7, .int x24)] := hl
          refine lv_goto (tgt := 3) hx hb dX3_tell_137 (by decide) ?_
          exact i3 s38 x18 x19 x20 x39 _ _ _ h hP hS (lv_sub hl [1, 2, 3, 4, 0] rfl)
  have i3 : ∀ (σ : qM) (x4 x5 x6 x7 : Int32) (H : Heap) (locs : List Loc) (ls : Array Slot), q_lim (D_X3_tell) 0 σ [x4, x5, x6, x7] = some qq → va_P D vwCl (p_N cI a σ) H → va_S A s.heap H locs → lv_has ls 8 [(0, .ref (a 0)), (1, .int x4), (2, .int x5), (3, .int x6), (4, .int x7)] → W p l e ({ frames := 2, cells := 0, slots := 0, locals := 53 }) s m [.ref (a 0), .int x1, .int x2, .int x3].toArray below meth c H locs 0 0 (MQ below (va_Qv (fun τ => ((0 : Int32), τ) = qq) (fun τ t => va_P D vwCl ((p_N cI a) τ) t.heap) A) [.ref (a 0), .int x1, .int x2, .int x3].toArray s 0 0 A) (F0 m 3 ls []) := by
    intro σ x4 x5 x6 x7 H locs ls h hP hS hl
    obtain ⟨k9, h⟩ := q_lim_n h
    exact (main k9).1 σ x4 x5 x6 x7 H locs ls h hP hS hl
  have i91 : ∀ (σ : qM) (x18 x19 x20 x21 x22 x23 x24 : Int32) (H : Heap) (locs : List Loc) (ls : Array Slot), q_lim (D_X3_tell) 1 σ [x18, x19, x20, x21, x22, x23, x24] = some qq → va_P D vwCl (p_N cI a σ) H → va_S A s.heap H locs → lv_has ls 8 [(0, .ref (a 0)), (1, .int x18), (2, .int x19), (3, .int x20), (4, .int x21), (5, .int x22), (6, .int x23), (7, .int x24)] → W p l e ({ frames := 2, cells := 0, slots := 0, locals := 53 }) s m [.ref (a 0), .int x1, .int x2, .int x3].toArray below meth c H locs 0 0 (MQ below (va_Qv (fun τ => ((0 : Int32), τ) = qq) (fun τ t => va_P D vwCl ((p_N cI a) τ) t.heap) A) [.ref (a 0), .int x1, .int x2, .int x3].toArray s 0 0 A) (F0 m 91 ls []) := by
    intro σ x18 x19 x20 x21 x22 x23 x24 H locs ls h hP hS hl
    obtain ⟨k9, h⟩ := q_lim_n h
    exact (main k9).2 σ x18 x19 x20 x21 x22 x23 x24 H locs ls h hP hS hl
  have h : e_X3_tell (q_lim (D_X3_tell)) σ x1 x2 x3 = some qq := h
  unfold e_X3_tell at h
  refine lv_iconst (v := 0) hx hb dX3_tell_0 (by decide +kernel) ?_
  refine lv_istore (lv' := [(4, .int 0), (0, .ref (a 0)), (1, .int x1), (2, .int x2), (3, .int x3)]) hx hb dX3_tell_1 hl (by decide) rfl (fun ls hl => ?_)
  exact i3 σ x1 x2 x3 0 _ _ _ h hP hS (lv_sub hl [1, 2, 3, 4, 0] rfl)
/-! ===== VectorRounds$Network.goRound()I: world N ===== -/
theorem i_X3_goRound : yX3_goRound.cls = RX3 ∧ yX3_goRound.cls ≠ "java/lang/invoke/MethodHandle" ∧ yX3_goRound.cls ≠ "java/lang/invoke/VarHandle" ∧ (parseMethodDescriptor yX3_goRound.desc).map (fun d => d.parameters.length) = some 0 := by decide +kernel
theorem k_X3_goRound_f12 : Cond.fieldLink RX3 12 RX3 "tables" "LVectorRounds$Tables;" ∈ wsX3_goRound := by decide +kernel
theorem k_X3_goRound_f18 : Cond.fieldLink RX3 18 RX3 "before" "LVectorRounds$Tables;" ∈ wsX3_goRound := by decide +kernel
theorem k_X3_goRound_f24 : Cond.fieldLink RX3 24 RX3 "links" "LVectorRounds$Links;" ∈ wsX3_goRound := by decide +kernel
theorem k_X3_goRound_f35 : Cond.fieldLink RX3 35 RX3 "routers" "I" ∈ wsX3_goRound := by decide +kernel
theorem k_X3_goRound_f42 : Cond.fieldLink RX3 42 RX3 "sequenced" "I" ∈ wsX3_goRound := by decide +kernel
theorem k_X3_goRound_f48 : Cond.fieldLink RX3 48 RX3 "round" "I" ∈ wsX3_goRound := by decide +kernel
theorem k_X3_goRound_f58 : Cond.fieldLink RX3 58 RX2 "up" "[I" ∈ wsX3_goRound := by decide +kernel
theorem k_X3_goRound_f83 : Cond.fieldLink RX3 83 RX4 "sequence" "[I" ∈ wsX3_goRound := by decide +kernel
theorem k_X3_goRound_f90 : Cond.fieldLink RX3 90 RX2 "price" "[I" ∈ wsX3_goRound := by decide +kernel
theorem u_X3_goRound_2 : ∀ w ∈ u_ws RX2 TX2 6, w ∈ wsX3_goRound := by decide +kernel
theorem u_X3_goRound_3 : ∀ w ∈ u_ws RX3 TX3 9, w ∈ wsX3_goRound := by decide +kernel
theorem u_X3_goRound_4 : ∀ w ∈ u_ws RX4 TX4 6, w ∈ wsX3_goRound := by decide +kernel
noncomputable def b_X3_goRound_12 (go : qB) (σ : qM) (x4 : Int32) : qR :=
  q_nm (σ 0 3) fun x5 =>
  if x5 ≤ x4 then (
  q_cl (f_X4_become (q_sub2 7 8 1 σ)) (q_put2 7 8 7 1 σ) fun _ s7 =>
  go 1 s7 [0])
  else (
  q_nm ((x4 * 10)) fun x9 =>
  q_nm ((x9 + x4)) fun x10 =>
  q_rd σ 4 100 x10 fun x11 =>
  q_nm (σ 0 5) fun x12 =>
  q_nm (((2 : Int32) * x12)) fun x13 =>
  q_nm ((x11 + x13)) fun x14 =>
  q_wt σ 4 100 x10 x14 fun s15 =>
  q_nm (x4 + 1) fun x16 =>
  go 0 s15 [x16])
noncomputable def b_X3_goRound_62 (go : qB) (σ : qM) (x8 : Int32) : qR :=
  q_nm (σ 0 3) fun x17 =>
  if x17 ≤ x8 then (
  q_cl (f_X4_howManyDiffer (q_sub2 7 1 8 σ)) (q_put2 7 1 7 8 σ) fun x20 s19 =>
  some (x20, s19))
  else (
  go 2 σ [x8, 0])
noncomputable def b_X3_goRound_72 (go : qB) (σ : qM) (x21 x22 : Int32) : qR :=
  q_nm (σ 0 3) fun x23 =>
  if x23 ≤ x22 then (
  q_nm (x21 + 1) fun x25 =>
  go 1 σ [x25])
  else (
  q_cl (f_X2_joining (q_sub 15 σ) x21 x22) (q_put 15 6 σ) fun x27 s26 =>
  if x27 < 0 then (
  q_nm (x22 + 1) fun x29 =>
  go 2 s26 [x21, x29])
  else (
  q_rd s26 19 24 x27 fun x30 =>
  if x30 = 1 then (
  q_rd s26 18 24 x27 fun x33 =>
  q_cl (f_X3_tell s26 x21 x22 x33) (fun τ => τ) fun _ s34 =>
  q_nm (x22 + 1) fun x35 =>
  go 2 s34 [x21, x35])
  else (
  q_nm (x22 + 1) fun x32 =>
  go 2 s26 [x21, x32])))
noncomputable def D_X3_goRound (go : qB) : qB := fun i σ xs => if i = 0 then (match xs with | [x4] => b_X3_goRound_12 go σ x4 | _ => none) else if i = 1 then (match xs with | [x8] => b_X3_goRound_62 go σ x8 | _ => none) else if i = 2 then (match xs with | [x21, x22] => b_X3_goRound_72 go σ x21 x22 | _ => none) else none
noncomputable def e_X3_goRound (go : qB) (σ : qM) : qR :=
  q_nm (σ 0 7) fun x1 =>
  q_nm ((x1 + 1)) fun x2 =>
  q_nm (q_wr σ 0 7 x2) fun s3 =>
  go 0 s3 [0]
noncomputable def f_X3_goRound (σ : qM) : qR := e_X3_goRound (q_lim (D_X3_goRound)) σ
set_option maxHeartbeats 4000000 in
set_option maxRecDepth 100000 in
theorem c_X3_goRound (l : Launch) (D : va_G) (cI : ClassId) (tys : List (ClassId × FieldType)) (ht : tys[0]? = some (cI, .int)) (a : Nat → Nat) (σ : qM) : q_Met l yX3_goRound wsX3_goRound ({ frames := 3, cells := 0, slots := 0, locals := 81 }) [.ref (a 0)] D tys (p_N cI a) σ (f_X3_goRound σ) := by
  refine x_ofWi (cc := cX3_goRound) (maxL := 4) (ret := (some .int)) (by decide +kernel) rfl (pf_N cI a) (Nat.le_of_ble_eq_true rfl) ?_
  intro p e s m below meth c A ls qq h hx hb hml hr hlocks hown hts hK hP hD hA hS hl
  have hown : s.vm.findClass RX3 = some m.cls := hown
  have hl : lv_has ls 4 [(0, .ref (a 0))] := hl
  have main : ∀ k9 : Nat, (∀ (σ : qM) (x4 : Int32) (H : Heap) (locs : List Loc) (ls : Array Slot), q_it (D_X3_goRound) k9 0 σ [x4] = some qq → va_P D vwCl (p_N cI a σ) H → va_S A s.heap H locs → lv_has ls 4 [(0, .ref (a 0)), (1, .int x4)] → W p l e ({ frames := 3, cells := 0, slots := 0, locals := 81 }) s m [.ref (a 0)].toArray below meth c H locs 0 0 (MQ below (va_Qi (fun r τ => (r, τ) = qq) (fun τ t => va_P D vwCl ((p_N cI a) τ) t.heap) A) [.ref (a 0)].toArray s 0 0 A) (F0 m 12 ls [])) ∧ (∀ (σ : qM) (x8 : Int32) (H : Heap) (locs : List Loc) (ls : Array Slot), q_it (D_X3_goRound) k9 1 σ [x8] = some qq → va_P D vwCl (p_N cI a σ) H → va_S A s.heap H locs → lv_has ls 4 [(0, .ref (a 0)), (1, .int x8)] → W p l e ({ frames := 3, cells := 0, slots := 0, locals := 81 }) s m [.ref (a 0)].toArray below meth c H locs 0 0 (MQ below (va_Qi (fun r τ => (r, τ) = qq) (fun τ t => va_P D vwCl ((p_N cI a) τ) t.heap) A) [.ref (a 0)].toArray s 0 0 A) (F0 m 62 ls [])) ∧ (∀ (σ : qM) (x21 x22 : Int32) (H : Heap) (locs : List Loc) (ls : Array Slot), q_it (D_X3_goRound) k9 2 σ [x21, x22] = some qq → va_P D vwCl (p_N cI a σ) H → va_S A s.heap H locs → lv_has ls 4 [(0, .ref (a 0)), (1, .int x21), (2, .int x22)] → W p l e ({ frames := 3, cells := 0, slots := 0, locals := 81 }) s m [.ref (a 0)].toArray below meth c H locs 0 0 (MQ below (va_Qi (fun r τ => (r, τ) = qq) (fun τ t => va_P D vwCl ((p_N cI a) τ) t.heap) A) [.ref (a 0)].toArray s 0 0 A) (F0 m 72 ls [])) := by
    intro k9
    induction k9 with
    | zero => exact ⟨(fun _ _ _ _ _ h _ _ _ => (q_no (show (none : qR) = some qq from h)).elim), (fun _ _ _ _ _ h _ _ _ => (q_no (show (none : qR) = some qq from h)).elim), (fun _ _ _ _ _ _ h _ _ _ => (q_no (show (none : qR) = some qq from h)).elim)⟩
    | succ k9 ih =>
      obtain ⟨i12, i62, i72⟩ := ih
      refine ⟨?_, ?_, ?_⟩
      · intro σ x4 H locs ls h hP hS hl
        have h : b_X3_goRound_12 (q_it (D_X3_goRound) k9) σ x4 = some qq := h
        unfold b_X3_goRound_12 at h
        refine lv_iload_n hx hb dX3_goRound_12 rfl (lv_at hl 1 rfl) ?_
        refine lv_aload_n hx hb dX3_goRound_13 rfl (lv_at hl 0 rfl) ?_
        refine x_geti (C := RX3) (k := 3) hx hb hts u_X3_goRound_3 hown hK hP (g_N_0 cI a σ) rfl (by decide) ⟨rfl, rfl, rfl⟩ k_X3_goRound_f35 rfl dX3_goRound_14 h (fun x5 h => ?_)
        refine lv_icmp_ge (tgt := 49) hx hb dX3_goRound_17 (by decide) (fun c6 => ?_) (fun c6 => ?_)
        · have h := if_t c6 h
          refine lv_aload_n hx hb dX3_goRound_49 rfl (lv_at hl 0 rfl) ?_
          refine x_getr (C := RX3) (k := 1) hx hb hts u_X3_goRound_3 hown hK hP (g_N_0 cI a σ) rfl (by decide) ⟨rfl, rfl, rfl⟩ k_X3_goRound_f18 rfl dX3_goRound_50 ?_
          refine lv_aload_n hx hb dX3_goRound_53 rfl (lv_at hl 0 rfl) ?_
          refine x_getr (C := RX3) (k := 0) hx hb hts u_X3_goRound_3 hown hK hP (g_N_0 cI a σ) rfl (by decide) ⟨rfl, rfl, rfl⟩ k_X3_goRound_f12 rfl dX3_goRound_54 ?_
          refine x_cVv (p_N cI a) (p_TT cI (q_sub2 7 8 1 a)) (q_put2 7 8 7 1 σ) [] [.ref (a 1)] hx hb hml hl.1 hown hts hK hP hD hS hA rfl (c_X4_become l D cI tys ht (q_sub2 7 8 1 a) (q_sub2 7 8 1 σ)) gX3_goRound_X4_become rfl ⟨rfl, rfl⟩ i_X4_become ⟨Nat.le_of_ble_eq_true rfl, Nat.le_of_ble_eq_true rfl⟩ (fr_N_TT_8_1 cI a σ) (g_TT_0 cI (q_sub2 7 8 1 a) (q_sub2 7 8 1 σ)) rfl rfl (Nat.le_of_ble_eq_true rfl) ⟨Nat.zero_le _, Nat.zero_le _⟩ dX3_goRound_57 h (fun H locs s7 hP hS h => ?_)
          refine lv_iconst (v := 0) hx hb dX3_goRound_60 (by decide +kernel) ?_
          refine lv_istore_n (lv' := [(1, .int 0), (0, .ref (a 0))]) hx hb dX3_goRound_61 rfl hl (by decide) rfl (fun ls hl => ?_)
          exact i62 s7 0 _ _ _ h hP hS (lv_sub hl [1, 0] rfl)
        · have h := if_f c6 h
          refine lv_aload_n hx hb dX3_goRound_20 rfl (lv_at hl 0 rfl) ?_
          refine x_getr (C := RX3) (k := 0) hx hb hts u_X3_goRound_3 hown hK hP (g_N_0 cI a σ) rfl (by decide) ⟨rfl, rfl, rfl⟩ k_X3_goRound_f12 rfl dX3_goRound_21 ?_
          refine x_getr (C := RX4) (k := 2) hx hb hts u_X3_goRound_4 hown hK hP (g_N_1 cI a σ) rfl (by decide) ⟨rfl, rfl, rfl⟩ k_X3_goRound_f83 rfl dX3_goRound_24 ?_
          refine lv_iload_n hx hb dX3_goRound_27 rfl (lv_at hl 1 rfl) ?_
          refine lv_bipush (v := 10) hx hb dX3_goRound_28 (by decide +kernel) ?_
          refine x_imul hx hb dX3_goRound_30 h (fun x9 h => ?_)
          refine lv_iload_n hx hb dX3_goRound_31 rfl (lv_at hl 1 rfl) ?_
          refine x_iadd hx hb dX3_goRound_32 h (fun x10 h => ?_)
          refine lv_dup2_11 hx hb dX3_goRound_33 rfl rfl ?_
          refine x_iald (t0 := 0) hx hb hK hP ht h (g_N_4 cI a σ) dX3_goRound_34 (fun x11 h => ?_)
          refine lv_iconst (v := 2) hx hb dX3_goRound_35 (by decide +kernel) ?_
          refine lv_aload_n hx hb dX3_goRound_36 rfl (lv_at hl 0 rfl) ?_
          refine x_geti (C := RX3) (k := 5) hx hb hts u_X3_goRound_3 hown hK hP (g_N_0 cI a σ) rfl (by decide) ⟨rfl, rfl, rfl⟩ k_X3_goRound_f42 rfl dX3_goRound_37 h (fun x12 h => ?_)
          refine x_imul hx hb dX3_goRound_40 h (fun x13 h => ?_)
          refine x_iadd hx hb dX3_goRound_41 h (fun x14 h => ?_)
          refine x_iast (p_N cI a) (t0 := 0) hx hb hK hP hD hS ht h (g_N_4 cI a σ) (fun j9 v9 => (s_N_4 cI a σ _)) dX3_goRound_42 (fun H locs s15 hP hS h => ?_)
          refine x_iinc (k := 1) (w := 1) hx hb dX3_goRound_43 hl rfl (by decide +kernel) (by decide) (fun v9 => [(1, .int v9), (0, .ref (a 0))]) (fun v9 => rfl) h (fun x16 ls hl h => ?_)
          have hl : lv_has ls 4 [(1, .int x16), (0, .ref (a 0))] := hl
          refine lv_goto (tgt := 12) hx hb dX3_goRound_46 (by decide) ?_
          exact i12 s15 x16 _ _ _ h hP hS (lv_sub hl [1, 0] rfl)
      · intro σ x8 H locs ls h hP hS hl
        have h : b_X3_goRound_62 (q_it (D_X3_goRound) k9) σ x8 = some qq := h
        unfold b_X3_goRound_62 at h
        refine lv_iload_n hx hb dX3_goRound_62 rfl (lv_at hl 1 rfl) ?_
        refine lv_aload_n hx hb dX3_goRound_63 rfl (lv_at hl 0 rfl) ?_
        refine x_geti (C := RX3) (k := 3) hx hb hts u_X3_goRound_3 hown hK hP (g_N_0 cI a σ) rfl (by decide) ⟨rfl, rfl, rfl⟩ k_X3_goRound_f35 rfl dX3_goRound_64 h (fun x17 h => ?_)
        refine lv_icmp_ge (tgt := 134) hx hb dX3_goRound_67 (by decide) (fun c18 => ?_) (fun c18 => ?_)
        · have h := if_t c18 h
          refine lv_aload_n hx hb dX3_goRound_134 rfl (lv_at hl 0 rfl) ?_
          refine x_getr (C := RX3) (k := 0) hx hb hts u_X3_goRound_3 hown hK hP (g_N_0 cI a σ) rfl (by decide) ⟨rfl, rfl, rfl⟩ k_X3_goRound_f12 rfl dX3_goRound_135 ?_
          refine lv_aload_n hx hb dX3_goRound_138 rfl (lv_at hl 0 rfl) ?_
          refine x_getr (C := RX3) (k := 1) hx hb hts u_X3_goRound_3 hown hK hP (g_N_0 cI a σ) rfl (by decide) ⟨rfl, rfl, rfl⟩ k_X3_goRound_f18 rfl dX3_goRound_139 ?_
          refine x_cVi (p_N cI a) (p_TT cI (q_sub2 7 1 8 a)) (q_put2 7 1 7 8 σ) [] [.ref (a 8)] hx hb hml hl.1 hown hts hK hP hD hS hA rfl (c_X4_howManyDiffer l D cI tys ht (q_sub2 7 1 8 a) (q_sub2 7 1 8 σ)) gX3_goRound_X4_howManyDiffer rfl ⟨rfl, rfl⟩ i_X4_howManyDiffer ⟨Nat.le_of_ble_eq_true rfl, Nat.le_of_ble_eq_true rfl⟩ (fr_N_TT_1_8 cI a σ) (g_TT_0 cI (q_sub2 7 1 8 a) (q_sub2 7 1 8 σ)) rfl rfl (Nat.le_of_ble_eq_true rfl) ⟨Nat.zero_le _, Nat.zero_le _⟩ dX3_goRound_142 h (fun x20 H locs s19 hP hS h => ?_)
          exact x_iret (p_N cI a) hx hb hr hlocks hP hS dX3_goRound_145 h
        · have h := if_f c18 h
          refine lv_iconst (v := 0) hx hb dX3_goRound_70 (by decide +kernel) ?_
          refine lv_istore_n (lv' := [(2, .int 0), (0, .ref (a 0)), (1, .int x8)]) hx hb dX3_goRound_71 rfl hl (by decide) rfl (fun ls hl => ?_)
          exact i72 σ x8 0 _ _ _ h hP hS (lv_sub hl [1, 2, 0] rfl)
      · intro σ x21 x22 H locs ls h hP hS hl
        have h : b_X3_goRound_72 (q_it (D_X3_goRound) k9) σ x21 x22 = some qq := h
        unfold b_X3_goRound_72 at h
        refine lv_iload_n hx hb dX3_goRound_72 rfl (lv_at hl 2 rfl) ?_
        refine lv_aload_n hx hb dX3_goRound_73 rfl (lv_at hl 0 rfl) ?_
        refine x_geti (C := RX3) (k := 3) hx hb hts u_X3_goRound_3 hown hK hP (g_N_0 cI a σ) rfl (by decide) ⟨rfl, rfl, rfl⟩ k_X3_goRound_f35 rfl dX3_goRound_74 h (fun x23 h => ?_)
        refine lv_icmp_ge (tgt := 128) hx hb dX3_goRound_77 (by decide) (fun c24 => ?_) (fun c24 => ?_)
        · have h := if_t c24 h
          refine x_iinc (k := 1) (w := 1) hx hb dX3_goRound_128 hl rfl (by decide +kernel) (by decide) (fun v9 => [(1, .int v9), (0, .ref (a 0)), (2, .int x22)]) (fun v9 => rfl) h (fun x25 ls hl h => ?_)
          have hl : lv_has ls 4 [(1, .int x25), (0, .ref (a 0)), (2, .int x22)] := hl
          refine lv_goto (tgt := 62) hx hb dX3_goRound_131 (by decide) ?_
          exact i62 σ x25 _ _ _ h hP hS (lv_sub hl [1, 0] rfl)
        · have h := if_f c24 h
          refine lv_aload_n hx hb dX3_goRound_80 rfl (lv_at hl 0 rfl) ?_
          refine x_getr (C := RX3) (k := 2) hx hb hts u_X3_goRound_3 hown hK hP (g_N_0 cI a σ) rfl (by decide) ⟨rfl, rfl, rfl⟩ k_X3_goRound_f24 rfl dX3_goRound_81 ?_
          refine lv_iload_n hx hb dX3_goRound_84 rfl (lv_at hl 1 rfl) ?_
          refine lv_iload_n hx hb dX3_goRound_85 rfl (lv_at hl 2 rfl) ?_
          refine x_cVi (p_N cI a) (p_L cI (q_sub 15 a)) (q_put 15 6 σ) [] [.int x21, .int x22] hx hb hml hl.1 hown hts hK hP hD hS hA rfl (c_X2_joining l D cI tys ht (q_sub 15 a) (q_sub 15 σ) x21 x22) gX3_goRound_X2_joining rfl ⟨rfl, rfl⟩ i_X2_joining ⟨Nat.le_of_ble_eq_true rfl, Nat.le_of_ble_eq_true rfl⟩ (fr_N_L_15 cI a σ) (g_L_0 cI (q_sub 15 a) (q_sub 15 σ)) rfl rfl (Nat.le_of_ble_eq_true rfl) ⟨Nat.zero_le _, Nat.zero_le _⟩ dX3_goRound_86 h (fun x27 H locs s26 hP hS h => ?_)
          refine lv_istore_n (lv' := [(3, .int x27), (0, .ref (a 0)), (1, .int x21), (2, .int x22)]) hx hb dX3_goRound_89 rfl hl (by decide) rfl (fun ls hl => ?_)
          refine lv_iload_n hx hb dX3_goRound_90 rfl (lv_at hl 0 rfl) ?_
          refine lv_if_lt (tgt := 122) hx hb dX3_goRound_91 (by decide) (fun c28 => ?_) (fun c28 => ?_)
          · have h := if_t c28 h
            refine x_iinc (k := 3) (w := 1) hx hb dX3_goRound_122 hl rfl (by decide +kernel) (by decide) (fun v9 => [(2, .int v9), (3, .int x27), (0, .ref (a 0)), (1, .int x21)]) (fun v9 => rfl) h (fun x29 ls hl h => ?_)
            have hl : lv_has ls 4 [(2, .int x29), (3, .int x27), (0, .ref (a 0)), (1, .int x21)] := hl
            refine lv_goto (tgt := 72) hx hb dX3_goRound_125 (by decide) ?_
            exact i72 s26 x21 x29 _ _ _ h hP hS (lv_sub hl [2, 3, 0] rfl)
          · have h := if_f c28 h
            refine lv_aload_n hx hb dX3_goRound_94 rfl (lv_at hl 1 rfl) ?_
            refine x_getr (C := RX3) (k := 2) hx hb hts u_X3_goRound_3 hown hK hP (g_N_0 cI a s26) rfl (by decide) ⟨rfl, rfl, rfl⟩ k_X3_goRound_f24 rfl dX3_goRound_95 ?_
            refine x_getr (C := RX2) (k := 3) hx hb hts u_X3_goRound_2 hown hK hP (g_N_15 cI a s26) rfl (by decide) ⟨rfl, rfl, rfl⟩ k_X3_goRound_f58 rfl dX3_goRound_98 ?_
            refine lv_iload_n hx hb dX3_goRound_101 rfl (lv_at hl 0 rfl) ?_
            refine x_iald (t0 := 0) hx hb hK hP ht h (g_N_19 cI a s26) dX3_goRound_102 (fun x30 h => ?_)
            refine lv_iconst (v := 1) hx hb dX3_goRound_103 (by decide +kernel) ?_
            refine lv_icmp_ne (tgt := 122) hx hb dX3_goRound_104 (by decide) (fun c31 => ?_) (fun c31 => ?_)
            · have h := if_f c31 h
              refine x_iinc (k := 3) (w := 1) hx hb dX3_goRound_122 hl rfl (by decide +kernel) (by decide) (fun v9 => [(2, .int v9), (3, .int x27), (0, .ref (a 0)), (1, .int x21)]) (fun v9 => rfl) h (fun x32 ls hl h => ?_)
              have hl : lv_has ls 4 [(2, .int x32), (3, .int x27), (0, .ref (a 0)), (1, .int x21)] := hl
              refine lv_goto (tgt := 72) hx hb dX3_goRound_125 (by decide) ?_
              exact i72 s26 x21 x32 _ _ _ h hP hS (lv_sub hl [2, 3, 0] rfl)
            · have h := if_t c31 h
              refine lv_aload_n hx hb dX3_goRound_107 rfl (lv_at hl 1 rfl) ?_
              refine lv_iload_n hx hb dX3_goRound_108 rfl (lv_at hl 2 rfl) ?_
              refine lv_iload_n hx hb dX3_goRound_109 rfl (lv_at hl 3 rfl) ?_
              refine lv_aload_n hx hb dX3_goRound_110 rfl (lv_at hl 1 rfl) ?_
              refine x_getr (C := RX3) (k := 2) hx hb hts u_X3_goRound_3 hown hK hP (g_N_0 cI a s26) rfl (by decide) ⟨rfl, rfl, rfl⟩ k_X3_goRound_f24 rfl dX3_goRound_111 ?_
              refine x_getr (C := RX2) (k := 2) hx hb hts u_X3_goRound_2 hown hK hP (g_N_15 cI a s26) rfl (by decide) ⟨rfl, rfl, rfl⟩ k_X3_goRound_f90 rfl dX3_goRound_114 ?_
              refine lv_iload_n hx hb dX3_goRound_117 rfl (lv_at hl 0 rfl) ?_
              refine x_iald (t0 := 0) hx hb hK hP ht h (g_N_18 cI a s26) dX3_goRound_118 (fun x33 h => ?_)
              refine x_cVv (p_N cI a) (p_N cI a) (fun τ => τ) [] [.int x21, .int x22, .int x33] hx hb hml hl.1 hown hts hK hP hD hS hA rfl (c_X3_tell l D cI tys ht a s26 x21 x22 x33) gX3_goRound_X3_tell rfl ⟨rfl, rfl⟩ i_X3_tell ⟨Nat.le_of_ble_eq_true rfl, Nat.le_of_ble_eq_true rfl⟩ q_frI (g_N_0 cI a s26) rfl rfl (Nat.le_of_ble_eq_true rfl) ⟨Nat.zero_le _, Nat.zero_le _⟩ dX3_goRound_119 h (fun H locs s34 hP hS h => ?_)
              refine x_iinc (k := 3) (w := 1) hx hb dX3_goRound_122 hl rfl (by decide +kernel) (by decide) (fun v9 => [(2, .int v9), (3, .int x27), (0, .ref (a 0)), (1, .int x21)]) (fun v9 => rfl) h (fun x35 ls hl h => ?_)
              have hl : lv_has ls 4 [(2, .int x35), (3, .int x27), (0, .ref (a 0)), (1, .int x21)] := hl
              refine lv_goto (tgt := 72) hx hb dX3_goRound_125 (by decide) ?_
              exact i72 s34 x21 x35 _ _ _ h hP hS (lv_sub hl [2, 3, 0] rfl)
  have i12 : ∀ (σ : qM) (x4 : Int32) (H : Heap) (locs : List Loc) (ls : Array Slot), q_lim (D_X3_goRound) 0 σ [x4] = some qq → va_P D vwCl (p_N cI a σ) H → va_S A s.heap H locs → lv_has ls 4 [(0, .ref (a 0)), (1, .int x4)] → W p l e ({ frames := 3, cells := 0, slots := 0, locals := 81 }) s m [.ref (a 0)].toArray below meth c H locs 0 0 (MQ below (va_Qi (fun r τ => (r, τ) = qq) (fun τ t => va_P D vwCl ((p_N cI a) τ) t.heap) A) [.ref (a 0)].toArray s 0 0 A) (F0 m 12 ls []) := by
    intro σ x4 H locs ls h hP hS hl
    obtain ⟨k9, h⟩ := q_lim_n h
    exact (main k9).1 σ x4 H locs ls h hP hS hl
  have i62 : ∀ (σ : qM) (x8 : Int32) (H : Heap) (locs : List Loc) (ls : Array Slot), q_lim (D_X3_goRound) 1 σ [x8] = some qq → va_P D vwCl (p_N cI a σ) H → va_S A s.heap H locs → lv_has ls 4 [(0, .ref (a 0)), (1, .int x8)] → W p l e ({ frames := 3, cells := 0, slots := 0, locals := 81 }) s m [.ref (a 0)].toArray below meth c H locs 0 0 (MQ below (va_Qi (fun r τ => (r, τ) = qq) (fun τ t => va_P D vwCl ((p_N cI a) τ) t.heap) A) [.ref (a 0)].toArray s 0 0 A) (F0 m 62 ls []) := by
    intro σ x8 H locs ls h hP hS hl
    obtain ⟨k9, h⟩ := q_lim_n h
    exact (main k9).2.1 σ x8 H locs ls h hP hS hl
  have i72 : ∀ (σ : qM) (x21 x22 : Int32) (H : Heap) (locs : List Loc) (ls : Array Slot), q_lim (D_X3_goRound) 2 σ [x21, x22] = some qq → va_P D vwCl (p_N cI a σ) H → va_S A s.heap H locs → lv_has ls 4 [(0, .ref (a 0)), (1, .int x21), (2, .int x22)] → W p l e ({ frames := 3, cells := 0, slots := 0, locals := 81 }) s m [.ref (a 0)].toArray below meth c H locs 0 0 (MQ below (va_Qi (fun r τ => (r, τ) = qq) (fun τ t => va_P D vwCl ((p_N cI a) τ) t.heap) A) [.ref (a 0)].toArray s 0 0 A) (F0 m 72 ls []) := by
    intro σ x21 x22 H locs ls h hP hS hl
    obtain ⟨k9, h⟩ := q_lim_n h
    exact (main k9).2.2 σ x21 x22 H locs ls h hP hS hl
  have h : e_X3_goRound (q_lim (D_X3_goRound)) σ = some qq := h
  unfold e_X3_goRound at h
  refine lv_aload_n hx hb dX3_goRound_0 rfl (lv_at hl 0 rfl) ?_
  refine lv_dup hx hb dX3_goRound_1 rfl ?_
  refine x_geti (C := RX3) (k := 7) hx hb hts u_X3_goRound_3 hown hK hP (g_N_0 cI a σ) rfl (by decide) ⟨rfl, rfl, rfl⟩ k_X3_goRound_f48 rfl dX3_goRound_2 h (fun x1 h => ?_)
  refine lv_iconst (v := 1) hx hb dX3_goRound_5 (by decide +kernel) ?_
  refine x_iadd hx hb dX3_goRound_6 h (fun x2 h => ?_)
  refine x_puti (p_N cI a) (C := RX3) (k := 7) hx hb hts u_X3_goRound_3 tyX3 tyX3_ok nmX3 hown hK hP hD hS h (g_N_0 cI a σ) rfl (by decide) ⟨rfl, rfl, rfl⟩ k_X3_goRound_f48 rfl rfl rfl rfl (Nat.le_of_ble_eq_true rfl) (s_N_0_7 cI a σ x2) dX3_goRound_7 (fun H locs s3 hP hS h => ?_)
  refine lv_iconst (v := 0) hx hb dX3_goRound_10 (by decide +kernel) ?_
  refine lv_istore_n (lv' := [(1, .int 0), (0, .ref (a 0))]) hx hb dX3_goRound_11 rfl hl (by decide) rfl (fun ls hl => ?_)
  exact i12 s3 0 _ _ _ h hP hS (lv_sub hl [1, 0] rfl)
/-! ===== VectorRounds$Network.roundsToSettle()I: world N ===== -/
theorem i_X3_roundsToSettle : yX3_roundsToSettle.cls = RX3 ∧ yX3_roundsToSettle.cls ≠ "java/lang/invoke/MethodHandle" ∧ yX3_roundsToSettle.cls ≠ "java/lang/invoke/VarHandle" ∧ (parseMethodDescriptor yX3_roundsToSettle.desc).map (fun d => d.parameters.length) = some 0 := by decide +kernel
noncomputable def b_X3_roundsToSettle_2 (go : qB) (σ : qM) (x1 : Int32) : qR :=
  if (80 : Int32) < x1 then (
  some (81, σ))
  else (
  q_cl (f_X3_goRound σ) (fun τ => τ) fun x4 s3 =>
  if x4 = 0 then (
  some (x1, s3))
  else (
  q_nm (x1 + 1) fun x6 =>
  go 0 s3 [x6]))
noncomputable def D_X3_roundsToSettle (go : qB) : qB := fun i σ xs => if i = 0 then (match xs with | [x1] => b_X3_roundsToSettle_2 go σ x1 | _ => none) else none
noncomputable def e_X3_roundsToSettle (go : qB) (σ : qM) : qR :=
  go 0 σ [0]
noncomputable def f_X3_roundsToSettle (σ : qM) : qR := e_X3_roundsToSettle (q_lim (D_X3_roundsToSettle)) σ
set_option maxHeartbeats 4000000 in
set_option maxRecDepth 100000 in
theorem c_X3_roundsToSettle (l : Launch) (D : va_G) (cI : ClassId) (tys : List (ClassId × FieldType)) (ht : tys[0]? = some (cI, .int)) (a : Nat → Nat) (σ : qM) : q_Met l yX3_roundsToSettle wsX3_roundsToSettle ({ frames := 4, cells := 0, slots := 0, locals := 104 }) [.ref (a 0)] D tys (p_N cI a) σ (f_X3_roundsToSettle σ) := by
  refine x_ofWi (cc := cX3_roundsToSettle) (maxL := 2) (ret := (some .int)) (by decide +kernel) rfl (pf_N cI a) (Nat.le_of_ble_eq_true rfl) ?_
  intro p e s m below meth c A ls qq h hx hb hml hr hlocks hown hts hK hP hD hA hS hl
  have hown : s.vm.findClass RX3 = some m.cls := hown
  have hl : lv_has ls 2 [(0, .ref (a 0))] := hl
  have main : ∀ k9 : Nat, (∀ (σ : qM) (x1 : Int32) (H : Heap) (locs : List Loc) (ls : Array Slot), q_it (D_X3_roundsToSettle) k9 0 σ [x1] = some qq → va_P D vwCl (p_N cI a σ) H → va_S A s.heap H locs → lv_has ls 2 [(0, .ref (a 0)), (1, .int x1)] → W p l e ({ frames := 4, cells := 0, slots := 0, locals := 104 }) s m [.ref (a 0)].toArray below meth c H locs 0 0 (MQ below (va_Qi (fun r τ => (r, τ) = qq) (fun τ t => va_P D vwCl ((p_N cI a) τ) t.heap) A) [.ref (a 0)].toArray s 0 0 A) (F0 m 2 ls [])) := by
    intro k9
    induction k9 with
    | zero => exact (fun _ _ _ _ _ h _ _ _ => (q_no (show (none : qR) = some qq from h)).elim)
    | succ k9 ih =>
      have i2 := ih
      refine ?_
      · intro σ x1 H locs ls h hP hS hl
        have h : b_X3_roundsToSettle_2 (q_it (D_X3_roundsToSettle) k9) σ x1 = some qq := h
        unfold b_X3_roundsToSettle_2 at h
        refine lv_iload_n hx hb dX3_roundsToSettle_2 rfl (lv_at hl 1 rfl) ?_
        refine lv_bipush (v := 80) hx hb dX3_roundsToSettle_3 (by decide +kernel) ?_
        refine lv_icmp_gt (tgt := 23) hx hb dX3_roundsToSettle_5 (by decide) (fun c2 => ?_) (fun c2 => ?_)
        · have h := if_t c2 h
          refine lv_bipush (v := 81) hx hb dX3_roundsToSettle_23 (by decide +kernel) ?_
          exact x_iret (p_N cI a) hx hb hr hlocks hP hS dX3_roundsToSettle_25 h
        · have h := if_f c2 h
          refine lv_aload_n hx hb dX3_roundsToSettle_8 rfl (lv_at hl 0 rfl) ?_
          refine x_cVi (p_N cI a) (p_N cI a) (fun τ => τ) [] [] hx hb hml hl.1 hown hts hK hP hD hS hA rfl (c_X3_goRound l D cI tys ht a σ) gX3_roundsToSettle_X3_goRound rfl ⟨rfl, rfl⟩ i_X3_goRound ⟨Nat.le_of_ble_eq_true rfl, Nat.le_of_ble_eq_true rfl⟩ q_frI (g_N_0 cI a σ) rfl rfl (Nat.le_of_ble_eq_true rfl) ⟨Nat.zero_le _, Nat.zero_le _⟩ dX3_roundsToSettle_9 h (fun x4 H locs s3 hP hS h => ?_)
          refine lv_if_ne (tgt := 17) hx hb dX3_roundsToSettle_12 (by decide) (fun c5 => ?_) (fun c5 => ?_)
          · have h := if_f c5 h
            refine x_iinc (k := 1) (w := 1) hx hb dX3_roundsToSettle_17 hl rfl (by decide +kernel) (by decide) (fun v9 => [(1, .int v9), (0, .ref (a 0))]) (fun v9 => rfl) h (fun x6 ls hl h => ?_)
            have hl : lv_has ls 2 [(1, .int x6), (0, .ref (a 0))] := hl
            refine lv_goto (tgt := 2) hx hb dX3_roundsToSettle_20 (by decide) ?_
            exact i2 s3 x6 _ _ _ h hP hS (lv_sub hl [1, 0] rfl)
          · have h := if_t c5 h
            refine lv_iload_n hx hb dX3_roundsToSettle_15 rfl (lv_at hl 1 rfl) ?_
            exact x_iret (p_N cI a) hx hb hr hlocks hP hS dX3_roundsToSettle_16 h
  have i2 : ∀ (σ : qM) (x1 : Int32) (H : Heap) (locs : List Loc) (ls : Array Slot), q_lim (D_X3_roundsToSettle) 0 σ [x1] = some qq → va_P D vwCl (p_N cI a σ) H → va_S A s.heap H locs → lv_has ls 2 [(0, .ref (a 0)), (1, .int x1)] → W p l e ({ frames := 4, cells := 0, slots := 0, locals := 104 }) s m [.ref (a 0)].toArray below meth c H locs 0 0 (MQ below (va_Qi (fun r τ => (r, τ) = qq) (fun τ t => va_P D vwCl ((p_N cI a) τ) t.heap) A) [.ref (a 0)].toArray s 0 0 A) (F0 m 2 ls []) := by
    intro σ x1 H locs ls h hP hS hl
    obtain ⟨k9, h⟩ := q_lim_n h
    exact (main k9) σ x1 H locs ls h hP hS hl
  have h : e_X3_roundsToSettle (q_lim (D_X3_roundsToSettle)) σ = some qq := h
  unfold e_X3_roundsToSettle at h
  refine lv_iconst (v := 0) hx hb dX3_roundsToSettle_0 (by decide +kernel) ?_
  refine lv_istore_n (lv' := [(1, .int 0), (0, .ref (a 0))]) hx hb dX3_roundsToSettle_1 rfl hl (by decide) rfl (fun ls hl => ?_)
  exact i2 σ 0 _ _ _ h hP hS (lv_sub hl [1, 0] rfl)
/-! ===== VectorRounds$Network.become(LVectorRounds$Network;)V: world NN ===== -/
theorem i_X3_become : yX3_become.cls = RX3 ∧ yX3_become.cls ≠ "java/lang/invoke/MethodHandle" ∧ yX3_become.cls ≠ "java/lang/invoke/VarHandle" ∧ (parseMethodDescriptor yX3_become.desc).map (fun d => d.parameters.length) = some 1 := by decide +kernel
theorem k_X3_become_f12 : Cond.fieldLink RX3 12 RX3 "tables" "LVectorRounds$Tables;" ∈ wsX3_become := by decide +kernel
theorem k_X3_become_f24 : Cond.fieldLink RX3 24 RX3 "links" "LVectorRounds$Links;" ∈ wsX3_become := by decide +kernel
theorem k_X3_become_f35 : Cond.fieldLink RX3 35 RX3 "routers" "I" ∈ wsX3_become := by decide +kernel
theorem k_X3_become_f39 : Cond.fieldLink RX3 39 RX3 "horizon" "I" ∈ wsX3_become := by decide +kernel
theorem k_X3_become_f42 : Cond.fieldLink RX3 42 RX3 "sequenced" "I" ∈ wsX3_become := by decide +kernel
theorem k_X3_become_f45 : Cond.fieldLink RX3 45 RX3 "holdDown" "I" ∈ wsX3_become := by decide +kernel
theorem k_X3_become_f48 : Cond.fieldLink RX3 48 RX3 "round" "I" ∈ wsX3_become := by decide +kernel
theorem k_X3_become_f51 : Cond.fieldLink RX3 51 RX3 "toldEver" "I" ∈ wsX3_become := by decide +kernel
theorem u_X3_become_3 : ∀ w ∈ u_ws RX3 TX3 9, w ∈ wsX3_become := by decide +kernel
noncomputable def f_X3_become (σ : qM) : qR :=
  q_cl (f_X4_become (q_sub2 7 1 22 σ)) (q_put2 7 1 7 22 σ) fun _ s1 =>
  q_cl (f_X2_become (q_sub2 6 15 36 s1)) (q_put2 6 15 6 36 s1) fun _ s2 =>
  q_nm (s2 21 3) fun x3 =>
  q_nm (q_wr s2 0 3 x3) fun s4 =>
  q_nm (s4 21 4) fun x5 =>
  q_nm (q_wr s4 0 4 x5) fun s6 =>
  q_nm (s6 21 5) fun x7 =>
  q_nm (q_wr s6 0 5 x7) fun s8 =>
  q_nm (s8 21 6) fun x9 =>
  q_nm (q_wr s8 0 6 x9) fun s10 =>
  q_nm (s10 21 7) fun x11 =>
  q_nm (q_wr s10 0 7 x11) fun s12 =>
  q_nm (s12 21 8) fun x13 =>
  q_nm (q_wr s12 0 8 x13) fun s14 =>
  some (0, s14)
set_option maxHeartbeats 4000000 in
set_option maxRecDepth 100000 in
theorem c_X3_become (l : Launch) (D : va_G) (cI : ClassId) (tys : List (ClassId × FieldType)) (ht : tys[0]? = some (cI, .int)) (a : Nat → Nat) (σ : qM) : q_Mev l yX3_become wsX3_become ({ frames := 2, cells := 0, slots := 0, locals := 81 }) [.ref (a 0), .ref (a 21)] D tys (p_NN cI a) σ (f_X3_become σ) := by
  refine x_ofWv (cc := cX3_become) (maxL := 2) (ret := none) (by decide +kernel) rfl (pf_NN cI a) (Nat.le_of_ble_eq_true rfl) ?_
  intro p e s m below meth c A ls qq h hx hb hml hr hlocks hown hts hK hP hD hA hS hl
  have hown : s.vm.findClass RX3 = some m.cls := hown
  have hl : lv_has ls 2 [(0, .ref (a 0)), (1, .ref (a 21))] := hl
  unfold f_X3_become at h
  refine lv_aload_n hx hb dX3_become_0 rfl (lv_at hl 0 rfl) ?_
  refine x_getr (C := RX3) (k := 0) hx hb hts u_X3_become_3 hown hK hP (g_NN_0 cI a σ) rfl (by decide) ⟨rfl, rfl, rfl⟩ k_X3_become_f12 rfl dX3_become_1 ?_
  refine lv_aload_n hx hb dX3_become_4 rfl (lv_at hl 1 rfl) ?_
  refine x_getr (C := RX3) (k := 0) hx hb hts u_X3_become_3 hown hK hP (g_NN_21 cI a σ) rfl (by decide) ⟨rfl, rfl, rfl⟩ k_X3_become_f12 rfl dX3_become_5 ?_
  refine x_cVv (p_NN cI a) (p_TT cI (q_sub2 7 1 22 a)) (q_put2 7 1 7 22 σ) [] [.ref (a 22)] hx hb hml hl.1 hown hts hK hP hD hS hA rfl (c_X4_become l D cI tys ht (q_sub2 7 1 22 a) (q_sub2 7 1 22 σ)) gX3_become_X4_become rfl ⟨rfl, rfl⟩ i_X4_become ⟨Nat.le_of_ble_eq_true rfl, Nat.le_of_ble_eq_true rfl⟩ (fr_NN_TT_1_22 cI a σ) (g_TT_0 cI (q_sub2 7 1 22 a) (q_sub2 7 1 22 σ)) rfl rfl (Nat.le_of_ble_eq_true rfl) ⟨Nat.zero_le _, Nat.zero_le _⟩ dX3_become_8 h (fun H locs s1 hP hS h => ?_)
  refine lv_aload_n hx hb dX3_become_11 rfl (lv_at hl 0 rfl) ?_
  refine x_getr (C := RX3) (k := 2) hx hb hts u_X3_become_3 hown hK hP (g_NN_0 cI a s1) rfl (by decide) ⟨rfl, rfl, rfl⟩ k_X3_become_f24 rfl dX3_become_12 ?_
  refine lv_aload_n hx hb dX3_become_15 rfl (lv_at hl 1 rfl) ?_
  refine x_getr (C := RX3) (k := 2) hx hb hts u_X3_become_3 hown hK hP (g_NN_21 cI a s1) rfl (by decide) ⟨rfl, rfl, rfl⟩ k_X3_become_f24 rfl dX3_become_16 ?_
  refine x_cVv (p_NN cI a) (p_LL cI (q_sub2 6 15 36 a)) (q_put2 6 15 6 36 s1) [] [.ref (a 36)] hx hb hml hl.1 hown hts hK hP hD hS hA rfl (c_X2_become l D cI tys ht (q_sub2 6 15 36 a) (q_sub2 6 15 36 s1)) gX3_become_X2_become rfl ⟨rfl, rfl⟩ i_X2_become ⟨Nat.le_of_ble_eq_true rfl, Nat.le_of_ble_eq_true rfl⟩ (fr_NN_LL_15_36 cI a s1) (g_LL_0 cI (q_sub2 6 15 36 a) (q_sub2 6 15 36 s1)) rfl rfl (Nat.le_of_ble_eq_true rfl) ⟨Nat.zero_le _, Nat.zero_le _⟩ dX3_become_19 h (fun H locs s2 hP hS h => ?_)
  refine lv_aload_n hx hb dX3_become_22 rfl (lv_at hl 0 rfl) ?_
  refine lv_aload_n hx hb dX3_become_23 rfl (lv_at hl 1 rfl) ?_
  refine x_geti (C := RX3) (k := 3) hx hb hts u_X3_become_3 hown hK hP (g_NN_21 cI a s2) rfl (by decide) ⟨rfl, rfl, rfl⟩ k_X3_become_f35 rfl dX3_become_24 h (fun x3 h => ?_)
  refine x_puti (p_NN cI a) (C := RX3) (k := 3) hx hb hts u_X3_become_3 tyX3 tyX3_ok nmX3 hown hK hP hD hS h (g_NN_0 cI a s2) rfl (by decide) ⟨rfl, rfl, rfl⟩ k_X3_become_f35 rfl rfl rfl rfl (Nat.le_of_ble_eq_true rfl) (s_NN_0_3 cI a s2 x3) dX3_become_27 (fun H locs s4 hP hS h => ?_)
  refine lv_aload_n hx hb dX3_become_30 rfl (lv_at hl 0 rfl) ?_
  refine lv_aload_n hx hb dX3_become_31 rfl (lv_at hl 1 rfl) ?_
  refine x_geti (C := RX3) (k := 4) hx hb hts u_X3_become_3 hown hK hP (g_NN_21 cI a s4) rfl (by decide) ⟨rfl, rfl, rfl⟩ k_X3_become_f39 rfl dX3_become_32 h (fun x5 h => ?_)
  refine x_puti (p_NN cI a) (C := RX3) (k := 4) hx hb hts u_X3_become_3 tyX3 tyX3_ok nmX3 hown hK hP hD hS h (g_NN_0 cI a s4) rfl (by decide) ⟨rfl, rfl, rfl⟩ k_X3_become_f39 rfl rfl rfl rfl (Nat.le_of_ble_eq_true rfl) (s_NN_0_4 cI a s4 x5) dX3_become_35 (fun H locs s6 hP hS h => ?_)
  refine lv_aload_n hx hb dX3_become_38 rfl (lv_at hl 0 rfl) ?_
  refine lv_aload_n hx hb dX3_become_39 rfl (lv_at hl 1 rfl) ?_
  refine x_geti (C := RX3) (k := 5) hx hb hts u_X3_become_3 hown hK hP (g_NN_21 cI a s6) rfl (by decide) ⟨rfl, rfl, rfl⟩ k_X3_become_f42 rfl dX3_become_40 h (fun x7 h => ?_)
  refine x_puti (p_NN cI a) (C := RX3) (k := 5) hx hb hts u_X3_become_3 tyX3 tyX3_ok nmX3 hown hK hP hD hS h (g_NN_0 cI a s6) rfl (by decide) ⟨rfl, rfl, rfl⟩ k_X3_become_f42 rfl rfl rfl rfl (Nat.le_of_ble_eq_true rfl) (s_NN_0_5 cI a s6 x7) dX3_become_43 (fun H locs s8 hP hS h => ?_)
  refine lv_aload_n hx hb dX3_become_46 rfl (lv_at hl 0 rfl) ?_
  refine lv_aload_n hx hb dX3_become_47 rfl (lv_at hl 1 rfl) ?_
  refine x_geti (C := RX3) (k := 6) hx hb hts u_X3_become_3 hown hK hP (g_NN_21 cI a s8) rfl (by decide) ⟨rfl, rfl, rfl⟩ k_X3_become_f45 rfl dX3_become_48 h (fun x9 h => ?_)
  refine x_puti (p_NN cI a) (C := RX3) (k := 6) hx hb hts u_X3_become_3 tyX3 tyX3_ok nmX3 hown hK hP hD hS h (g_NN_0 cI a s8) rfl (by decide) ⟨rfl, rfl, rfl⟩ k_X3_become_f45 rfl rfl rfl rfl (Nat.le_of_ble_eq_true rfl) (s_NN_0_6 cI a s8 x9) dX3_become_51 (fun H locs s10 hP hS h => ?_)
  refine lv_aload_n hx hb dX3_become_54 rfl (lv_at hl 0 rfl) ?_
  refine lv_aload_n hx hb dX3_become_55 rfl (lv_at hl 1 rfl) ?_
  refine x_geti (C := RX3) (k := 7) hx hb hts u_X3_become_3 hown hK hP (g_NN_21 cI a s10) rfl (by decide) ⟨rfl, rfl, rfl⟩ k_X3_become_f48 rfl dX3_become_56 h (fun x11 h => ?_)
  refine x_puti (p_NN cI a) (C := RX3) (k := 7) hx hb hts u_X3_become_3 tyX3 tyX3_ok nmX3 hown hK hP hD hS h (g_NN_0 cI a s10) rfl (by decide) ⟨rfl, rfl, rfl⟩ k_X3_become_f48 rfl rfl rfl rfl (Nat.le_of_ble_eq_true rfl) (s_NN_0_7 cI a s10 x11) dX3_become_59 (fun H locs s12 hP hS h => ?_)
  refine lv_aload_n hx hb dX3_become_62 rfl (lv_at hl 0 rfl) ?_
  refine lv_aload_n hx hb dX3_become_63 rfl (lv_at hl 1 rfl) ?_
  refine x_geti (C := RX3) (k := 8) hx hb hts u_X3_become_3 hown hK hP (g_NN_21 cI a s12) rfl (by decide) ⟨rfl, rfl, rfl⟩ k_X3_become_f51 rfl dX3_become_64 h (fun x13 h => ?_)
  refine x_puti (p_NN cI a) (C := RX3) (k := 8) hx hb hts u_X3_become_3 tyX3 tyX3_ok nmX3 hown hK hP hD hS h (g_NN_0 cI a s12) rfl (by decide) ⟨rfl, rfl, rfl⟩ k_X3_become_f51 rfl rfl rfl rfl (Nat.le_of_ble_eq_true rfl) (s_NN_0_8 cI a s12 x13) dX3_become_67 (fun H locs s14 hP hS h => ?_)
  exact x_vret (p_NN cI a) hx hb hr hlocks hP hS dX3_become_70 h
end
section
/-! ===== VectorRounds$Way.walk(LVectorRounds$Tables;II)V: world YT ===== -/
theorem i_X6_walk : yX6_walk.cls = RX6 ∧ yX6_walk.cls ≠ "java/lang/invoke/MethodHandle" ∧ yX6_walk.cls ≠ "java/lang/invoke/VarHandle" ∧ (parseMethodDescriptor yX6_walk.desc).map (fun d => d.parameters.length) = some 3 := by decide +kernel
theorem k_X6_walk_f15 : Cond.fieldLink RX6 15 RX6 "length" "I" ∈ wsX6_walk := by decide +kernel
theorem k_X6_walk_f19 : Cond.fieldLink RX6 19 RX6 "ending" "I" ∈ wsX6_walk := by decide +kernel
theorem k_X6_walk_f28 : Cond.fieldLink RX6 28 RX4 "via" "[I" ∈ wsX6_walk := by decide +kernel
theorem k_X6_walk_f9 : Cond.fieldLink RX6 9 RX6 "stops" "[I" ∈ wsX6_walk := by decide +kernel
theorem u_X6_walk_4 : ∀ w ∈ u_ws RX4 TX4 6, w ∈ wsX6_walk := by decide +kernel
theorem u_X6_walk_6 : ∀ w ∈ u_ws RX6 TX6 3, w ∈ wsX6_walk := by decide +kernel
noncomputable def b_X6_walk_16 (go : qB) (σ : qM) (x5 x6 x7 : Int32) : qR :=
  q_nm (σ 0 1) fun x8 =>
  if (10 : Int32) ≤ x8 then (
  some (0, σ))
  else (
  q_nm ((x6 >>> (x7 &&& 31))) fun x10 =>
  q_nm ((x10 &&& 1)) fun x11 =>
  if x11 = 0 then (
  q_nm (σ 0 1) fun x13 =>
  q_wt σ 1 10 x13 x7 fun s14 =>
  q_nm (s14 0 1) fun x15 =>
  q_nm ((x15 + 1)) fun x16 =>
  q_nm (q_wr s14 0 1 x16) fun s17 =>
  q_nm (((1 : Int32) <<< (x7 &&& 31))) fun x18 =>
  q_nm ((x6 ||| x18)) fun x19 =>
  if x7 = x5 then (
  q_nm (q_wr s17 0 2 1) fun s30 =>
  some (0, s30))
  else (
  q_nm ((x7 * 10)) fun x21 =>
  q_nm ((x21 + x5)) fun x22 =>
  q_cl (f_X4_reaches (q_sub 2 s17) x22) (q_put 2 7 s17) fun x24 s23 =>
  if x24 = 0 then (
  q_nm (q_wr s23 0 2 0) fun s29 =>
  some (0, s29))
  else (
  q_nm ((x7 * 10)) fun x26 =>
  q_nm ((x26 + x5)) fun x27 =>
  q_rd s23 4 100 x27 fun x28 =>
  go 0 s23 [x5, x19, x28])))
  else (
  some (0, σ)))
noncomputable def D_X6_walk (go : qB) : qB := fun i σ xs => if i = 0 then (match xs with | [x5, x6, x7] => b_X6_walk_16 go σ x5 x6 x7 | _ => none) else none
noncomputable def e_X6_walk (go : qB) (σ : qM) (x1 : Int32) (x2 : Int32) : qR :=
  q_nm (q_wr σ 0 1 0) fun s3 =>
  q_nm (q_wr s3 0 2 2) fun s4 =>
  go 0 s4 [x2, 0, x1]
noncomputable def f_X6_walk (σ : qM) (x1 : Int32) (x2 : Int32) : qR := e_X6_walk (q_lim (D_X6_walk)) σ x1 x2
set_option maxHeartbeats 4000000 in
set_option maxRecDepth 100000 in
theorem c_X6_walk (l : Launch) (D : va_G) (cI : ClassId) (tys : List (ClassId × FieldType)) (ht : tys[0]? = some (cI, .int)) (a : Nat → Nat) (σ : qM) (x1 : Int32) (x2 : Int32) : q_Mev l yX6_walk wsX6_walk ({ frames := 1, cells := 0, slots := 0, locals := 21 }) [.ref (a 0), .ref (a 2), .int x1, .int x2] D tys (p_YT cI a) σ (f_X6_walk σ x1 x2) := by
  refine x_ofWv (cc := cX6_walk) (maxL := 6) (ret := none) (by decide +kernel) rfl (pf_YT cI a) (Nat.le_of_ble_eq_true rfl) ?_
  intro p e s m below meth c A ls qq h hx hb hml hr hlocks hown hts hK hP hD hA hS hl
  have hown : s.vm.findClass RX6 = some m.cls := hown
  have hl : lv_has ls 6 [(0, .ref (a 0)), (1, .ref (a 2)), (2, .int x1), (3, .int x2)] := hl
  have main : ∀ k9 : Nat, (∀ (σ : qM) (x5 x6 x7 : Int32) (H : Heap) (locs : List Loc) (ls : Array Slot), q_it (D_X6_walk) k9 0 σ [x5, x6, x7] = some qq → va_P D vwCl (p_YT cI a σ) H → va_S A s.heap H locs → lv_has ls 6 [(0, .ref (a 0)), (1, .ref (a 2)), (3, .int x5), (4, .int x6), (5, .int x7)] → W p l e ({ frames := 1, cells := 0, slots := 0, locals := 21 }) s m [.ref (a 0), .ref (a 2), .int x1, .int x2].toArray below meth c H locs 0 0 (MQ below (va_Qv (fun τ => ((0 : Int32), τ) = qq) (fun τ t => va_P D vwCl ((p_YT cI a) τ) t.heap) A) [.ref (a 0), .ref (a 2), .int x1, .int x2].toArray s 0 0 A) (F0 m 16 ls [])) := by
    intro k9
    induction k9 with
    | zero => exact (fun _ _ _ _ _ _ _ h _ _ _ => (q_no (show (none : qR) = some qq from h)).elim)
    | succ k9 ih =>
      have i16 := ih
      refine ?_
      · intro σ x5 x6 x7 H locs ls h hP hS hl
        have h : b_X6_walk_16 (q_it (D_X6_walk) k9) σ x5 x6 x7 = some qq := h
        unfold b_X6_walk_16 at h
        refine lv_aload_n hx hb dX6_walk_16 rfl (lv_at hl 0 rfl) ?_
        refine x_geti (C := RX6) (k := 1) hx hb hts u_X6_walk_6 hown hK hP (g_YT_0 cI a σ) rfl (by decide) ⟨rfl, rfl, rfl⟩ k_X6_walk_f15 rfl dX6_walk_17 h (fun x8 h => ?_)
        refine lv_bipush (v := 10) hx hb dX6_walk_20 (by decide +kernel) ?_
        refine lv_icmp_ge (tgt := 114) hx hb dX6_walk_22 (by decide) (fun c9 => ?_) (fun c9 => ?_)
        · have h := if_t c9 h
          exact x_vret (p_YT cI a) hx hb hr hlocks hP hS dX6_walk_114 h
        · have h := if_f c9 h
          refine lv_iload hx hb dX6_walk_25 (lv_at hl 3 rfl) ?_
          refine lv_iload hx hb dX6_walk_27 (lv_at hl 4 rfl) ?_
          refine x_ishr hx hb dX6_walk_29 h (fun x10 h => ?_)
          refine lv_iconst (v := 1) hx hb dX6_walk_30 (by decide +kernel) ?_
          refine x_iand hx hb dX6_walk_31 h (fun x11 h => ?_)
          refine lv_if_ne (tgt := 114) hx hb dX6_walk_32 (by decide) (fun c12 => ?_) (fun c12 => ?_)
          · have h := if_f c12 h
            exact x_vret (p_YT cI a) hx hb hr hlocks hP hS dX6_walk_114 h
          · have h := if_t c12 h
            refine lv_aload_n hx hb dX6_walk_35 rfl (lv_at hl 0 rfl) ?_
            refine x_getr (C := RX6) (k := 0) hx hb hts u_X6_walk_6 hown hK hP (g_YT_0 cI a σ) rfl (by decide) ⟨rfl, rfl, rfl⟩ k_X6_walk_f9 rfl dX6_walk_36 ?_
            refine lv_aload_n hx hb dX6_walk_39 rfl (lv_at hl 0 rfl) ?_
            refine x_geti (C := RX6) (k := 1) hx hb hts u_X6_walk_6 hown hK hP (g_YT_0 cI a σ) rfl (by decide) ⟨rfl, rfl, rfl⟩ k_X6_walk_f15 rfl dX6_walk_40 h (fun x13 h => ?_)
            refine lv_iload hx hb dX6_walk_43 (lv_at hl 4 rfl) ?_
            refine x_iast (p_YT cI a) (t0 := 0) hx hb hK hP hD hS ht h (g_YT_1 cI a σ) (fun j9 v9 => (s_YT_1 cI a σ _)) dX6_walk_45 (fun H locs s14 hP hS h => ?_)
            refine lv_aload_n hx hb dX6_walk_46 rfl (lv_at hl 0 rfl) ?_
            refine lv_dup hx hb dX6_walk_47 rfl ?_
            refine x_geti (C := RX6) (k := 1) hx hb hts u_X6_walk_6 hown hK hP (g_YT_0 cI a s14) rfl (by decide) ⟨rfl, rfl, rfl⟩ k_X6_walk_f15 rfl dX6_walk_48 h (fun x15 h => ?_)
            refine lv_iconst (v := 1) hx hb dX6_walk_51 (by decide +kernel) ?_
            refine x_iadd hx hb dX6_walk_52 h (fun x16 h => ?_)
            refine x_puti (p_YT cI a) (C := RX6) (k := 1) hx hb hts u_X6_walk_6 tyX6 tyX6_ok nmX6 hown hK hP hD hS h (g_YT_0 cI a s14) rfl (by decide) ⟨rfl, rfl, rfl⟩ k_X6_walk_f15 rfl rfl rfl rfl (Nat.le_of_ble_eq_true rfl) (s_YT_0_1 cI a s14 x16) dX6_walk_53 (fun H locs s17 hP hS h => ?_)
            refine lv_iload hx hb dX6_walk_56 (lv_at hl 3 rfl) ?_
            refine lv_iconst (v := 1) hx hb dX6_walk_58 (by decide +kernel) ?_
            refine lv_iload hx hb dX6_walk_59 (lv_at hl 4 rfl) ?_
            refine x_ishl hx hb dX6_walk_61 h (fun x18 h => ?_)
            refine x_ior hx hb dX6_walk_62 h (fun x19 h => ?_)
            refine lv_istore (lv' := [(4, .int x19), (0, .ref (a 0)), (1, .ref (a 2)), (3, .int x5), (5, .int x7)]) hx hb dX6_walk_63 hl (by decide) rfl (fun ls hl => ?_)
            refine lv_iload hx hb dX6_walk_65 (lv_at hl 4 rfl) ?_
            refine lv_iload_n hx hb dX6_walk_67 rfl (lv_at hl 3 rfl) ?_
            refine lv_icmp_ne (tgt := 77) hx hb dX6_walk_68 (by decide) (fun c20 => ?_) (fun c20 => ?_)
            · have h := if_f c20 h
              refine lv_aload_n hx hb dX6_walk_77 rfl (lv_at hl 2 rfl) ?_
              refine lv_iload hx hb dX6_walk_78 (lv_at hl 4 rfl) ?_
              refine lv_bipush (v := 10) hx hb dX6_walk_80 (by decide +kernel) ?_
              refine x_imul hx hb dX6_walk_82 h (fun x21 h => ?_)
              refine lv_iload_n hx hb dX6_walk_83 rfl (lv_at hl 3 rfl) ?_
              refine x_iadd hx hb dX6_walk_84 h (fun x22 h => ?_)
              refine x_cVi (p_YT cI a) (p_T cI (q_sub 2 a)) (q_put 2 7 s17) [] [.int x22] hx hb hml hl.1 hown hts hK hP hD hS hA rfl (c_X4_reaches l D cI tys ht (q_sub 2 a) (q_sub 2 s17) x22) gX6_walk_X4_reaches rfl ⟨rfl, rfl⟩ i_X4_reaches ⟨Nat.le_of_ble_eq_true rfl, Nat.le_of_ble_eq_true rfl⟩ (fr_YT_T_2 cI a s17) (g_T_0 cI (q_sub 2 a) (q_sub 2 s17)) rfl rfl (Nat.le_of_ble_eq_true rfl) ⟨Nat.zero_le _, Nat.zero_le _⟩ dX6_walk_85 h (fun x24 H locs s23 hP hS h => ?_)
              refine lv_if_ne (tgt := 97) hx hb dX6_walk_88 (by decide) (fun c25 => ?_) (fun c25 => ?_)
              · have h := if_f c25 h
                refine lv_aload_n hx hb dX6_walk_97 rfl (lv_at hl 2 rfl) ?_
                refine x_getr (C := RX4) (k := 1) hx hb hts u_X6_walk_4 hown hK hP (g_YT_2 cI a s23) rfl (by decide) ⟨rfl, rfl, rfl⟩ k_X6_walk_f28 rfl dX6_walk_98 ?_
                refine lv_iload hx hb dX6_walk_101 (lv_at hl 4 rfl) ?_
                refine lv_bipush (v := 10) hx hb dX6_walk_103 (by decide +kernel) ?_
                refine x_imul hx hb dX6_walk_105 h (fun x26 h => ?_)
                refine lv_iload_n hx hb dX6_walk_106 rfl (lv_at hl 3 rfl) ?_
                refine x_iadd hx hb dX6_walk_107 h (fun x27 h => ?_)
                refine x_iald (t0 := 0) hx hb hK hP ht h (g_YT_4 cI a s23) dX6_walk_108 (fun x28 h => ?_)
                refine lv_istore (lv' := [(5, .int x28), (4, .int x19), (0, .ref (a 0)), (1, .ref (a 2)), (3, .int x5)]) hx hb dX6_walk_109 hl (by decide) rfl (fun ls hl => ?_)
                refine lv_goto (tgt := 16) hx hb dX6_walk_111 (by decide) ?_
                exact i16 s23 x5 x19 x28 _ _ _ h hP hS (lv_sub hl [2, 3, 4, 1, 0] rfl)
              · have h := if_t c25 h
                refine lv_aload_n hx hb dX6_walk_91 rfl (lv_at hl 1 rfl) ?_
                refine lv_iconst (v := 0) hx hb dX6_walk_92 (by decide +kernel) ?_
                refine x_puti (p_YT cI a) (C := RX6) (k := 2) hx hb hts u_X6_walk_6 tyX6 tyX6_ok nmX6 hown hK hP hD hS h (g_YT_0 cI a s23) rfl (by decide) ⟨rfl, rfl, rfl⟩ k_X6_walk_f19 rfl rfl rfl rfl (Nat.le_of_ble_eq_true rfl) (s_YT_0_2 cI a s23 0) dX6_walk_93 (fun H locs s29 hP hS h => ?_)
                exact x_vret (p_YT cI a) hx hb hr hlocks hP hS dX6_walk_96 h
            · have h := if_t c20 h
              refine lv_aload_n hx hb dX6_walk_71 rfl (lv_at hl 1 rfl) ?_
              refine lv_iconst (v := 1) hx hb dX6_walk_72 (by decide +kernel) ?_
              refine x_puti (p_YT cI a) (C := RX6) (k := 2) hx hb hts u_X6_walk_6 tyX6 tyX6_ok nmX6 hown hK hP hD hS h (g_YT_0 cI a s17) rfl (by decide) ⟨rfl, rfl, rfl⟩ k_X6_walk_f19 rfl rfl rfl rfl (Nat.le_of_ble_eq_true rfl) (s_YT_0_2 cI a s17 1) dX6_walk_73 (fun H locs s30 hP hS h => ?_)
              exact x_vret (p_YT cI a) hx hb hr hlocks hP hS dX6_walk_76 h
  have i16 : ∀ (σ : qM) (x5 x6 x7 : Int32) (H : Heap) (locs : List Loc) (ls : Array Slot), q_lim (D_X6_walk) 0 σ [x5, x6, x7] = some qq → va_P D vwCl (p_YT cI a σ) H → va_S A s.heap H locs → lv_has ls 6 [(0, .ref (a 0)), (1, .ref (a 2)), (3, .int x5), (4, .int x6), (5, .int x7)] → W p l e ({ frames := 1, cells := 0, slots := 0, locals := 21 }) s m [.ref (a 0), .ref (a 2), .int x1, .int x2].toArray below meth c H locs 0 0 (MQ below (va_Qv (fun τ => ((0 : Int32), τ) = qq) (fun τ t => va_P D vwCl ((p_YT cI a) τ) t.heap) A) [.ref (a 0), .ref (a 2), .int x1, .int x2].toArray s 0 0 A) (F0 m 16 ls []) := by
    intro σ x5 x6 x7 H locs ls h hP hS hl
    obtain ⟨k9, h⟩ := q_lim_n h
    exact (main k9) σ x5 x6 x7 H locs ls h hP hS hl
  have h : e_X6_walk (q_lim (D_X6_walk)) σ x1 x2 = some qq := h
  unfold e_X6_walk at h
  refine lv_aload_n hx hb dX6_walk_0 rfl (lv_at hl 0 rfl) ?_
  refine lv_iconst (v := 0) hx hb dX6_walk_1 (by decide +kernel) ?_
  refine x_puti (p_YT cI a) (C := RX6) (k := 1) hx hb hts u_X6_walk_6 tyX6 tyX6_ok nmX6 hown hK hP hD hS h (g_YT_0 cI a σ) rfl (by decide) ⟨rfl, rfl, rfl⟩ k_X6_walk_f15 rfl rfl rfl rfl (Nat.le_of_ble_eq_true rfl) (s_YT_0_1 cI a σ 0) dX6_walk_2 (fun H locs s3 hP hS h => ?_)
  refine lv_aload_n hx hb dX6_walk_5 rfl (lv_at hl 0 rfl) ?_
  refine lv_iconst (v := 2) hx hb dX6_walk_6 (by decide +kernel) ?_
  refine x_puti (p_YT cI a) (C := RX6) (k := 2) hx hb hts u_X6_walk_6 tyX6 tyX6_ok nmX6 hown hK hP hD hS h (g_YT_0 cI a s3) rfl (by decide) ⟨rfl, rfl, rfl⟩ k_X6_walk_f19 rfl rfl rfl rfl (Nat.le_of_ble_eq_true rfl) (s_YT_0_2 cI a s3 2) dX6_walk_7 (fun H locs s4 hP hS h => ?_)
  refine lv_iconst (v := 0) hx hb dX6_walk_10 (by decide +kernel) ?_
  refine lv_istore (lv' := [(4, .int 0), (0, .ref (a 0)), (1, .ref (a 2)), (2, .int x1), (3, .int x2)]) hx hb dX6_walk_11 hl (by decide) rfl (fun ls hl => ?_)
  refine lv_iload_n hx hb dX6_walk_13 rfl (lv_at hl 3 rfl) ?_
  refine lv_istore (lv' := [(5, .int x1), (4, .int 0), (0, .ref (a 0)), (1, .ref (a 2)), (2, .int x1), (3, .int x2)]) hx hb dX6_walk_14 hl (by decide) rfl (fun ls hl => ?_)
  exact i16 s4 x2 0 x1 _ _ _ h hP hS (lv_sub hl [2, 3, 5, 1, 0] rfl)
/-! ===== VectorRounds$Way.loopsIn(LVectorRounds$Network;)I: world YN ===== -/
theorem i_X6_loopsIn : yX6_loopsIn.cls = RX6 ∧ yX6_loopsIn.cls ≠ "java/lang/invoke/MethodHandle" ∧ yX6_loopsIn.cls ≠ "java/lang/invoke/VarHandle" ∧ (parseMethodDescriptor yX6_loopsIn.desc).map (fun d => d.parameters.length) = some 1 := by decide +kernel
theorem k_X6_loopsIn_f19 : Cond.fieldLink RX6 19 RX6 "ending" "I" ∈ wsX6_loopsIn := by decide +kernel
theorem k_X6_loopsIn_f31 : Cond.fieldLink RX6 31 RX3 "routers" "I" ∈ wsX6_loopsIn := by decide +kernel
theorem k_X6_loopsIn_f36 : Cond.fieldLink RX6 36 RX3 "tables" "LVectorRounds$Tables;" ∈ wsX6_loopsIn := by decide +kernel
theorem u_X6_loopsIn_3 : ∀ w ∈ u_ws RX3 TX3 9, w ∈ wsX6_loopsIn := by decide +kernel
theorem u_X6_loopsIn_6 : ∀ w ∈ u_ws RX6 TX6 3, w ∈ wsX6_loopsIn := by decide +kernel
noncomputable def b_X6_loopsIn_4 (go : qB) (σ : qM) (x1 x2 : Int32) : qR :=
  q_nm (σ 2 3) fun x3 =>
  if x3 ≤ x2 then (
  some (x1, σ))
  else (
  go 1 σ [x1, x2, 0])
noncomputable def b_X6_loopsIn_15 (go : qB) (σ : qM) (x5 x6 x7 : Int32) : qR :=
  q_nm (σ 2 3) fun x8 =>
  if x8 ≤ x7 then (
  q_nm (x6 + 1) fun x10 =>
  go 0 σ [x5, x10])
  else (
  q_cl (f_X6_walk (q_sub2 2 0 3 σ) x6 x7) (q_put2 2 0 7 3 σ) fun _ s11 =>
  q_nm (s11 0 2) fun x12 =>
  if x12 = 2 then (
  q_nm (x5 + 1) fun x15 =>
  q_nm (x7 + 1) fun x16 =>
  go 1 s11 [x15, x6, x16])
  else (
  q_nm (x7 + 1) fun x14 =>
  go 1 s11 [x5, x6, x14]))
noncomputable def D_X6_loopsIn (go : qB) : qB := fun i σ xs => if i = 0 then (match xs with | [x1, x2] => b_X6_loopsIn_4 go σ x1 x2 | _ => none) else if i = 1 then (match xs with | [x5, x6, x7] => b_X6_loopsIn_15 go σ x5 x6 x7 | _ => none) else none
noncomputable def e_X6_loopsIn (go : qB) (σ : qM) : qR :=
  go 0 σ [0, 0]
noncomputable def f_X6_loopsIn (σ : qM) : qR := e_X6_loopsIn (q_lim (D_X6_loopsIn)) σ
set_option maxHeartbeats 4000000 in
set_option maxRecDepth 100000 in
theorem c_X6_loopsIn (l : Launch) (D : va_G) (cI : ClassId) (tys : List (ClassId × FieldType)) (ht : tys[0]? = some (cI, .int)) (a : Nat → Nat) (σ : qM) : q_Met l yX6_loopsIn wsX6_loopsIn ({ frames := 2, cells := 0, slots := 0, locals := 46 }) [.ref (a 0), .ref (a 2)] D tys (p_YN cI a) σ (f_X6_loopsIn σ) := by
  refine x_ofWi (cc := cX6_loopsIn) (maxL := 5) (ret := (some .int)) (by decide +kernel) rfl (pf_YN cI a) (Nat.le_of_ble_eq_true rfl) ?_
  intro p e s m below meth c A ls qq h hx hb hml hr hlocks hown hts hK hP hD hA hS hl
  have hown : s.vm.findClass RX6 = some m.cls := hown
  have hl : lv_has ls 5 [(0, .ref (a 0)), (1, .ref (a 2))] := hl
  have main : ∀ k9 : Nat, (∀ (σ : qM) (x1 x2 : Int32) (H : Heap) (locs : List Loc) (ls : Array Slot), q_it (D_X6_loopsIn) k9 0 σ [x1, x2] = some qq → va_P D vwCl (p_YN cI a σ) H → va_S A s.heap H locs → lv_has ls 5 [(0, .ref (a 0)), (1, .ref (a 2)), (2, .int x1), (3, .int x2)] → W p l e ({ frames := 2, cells := 0, slots := 0, locals := 46 }) s m [.ref (a 0), .ref (a 2)].toArray below meth c H locs 0 0 (MQ below (va_Qi (fun r τ => (r, τ) = qq) (fun τ t => va_P D vwCl ((p_YN cI a) τ) t.heap) A) [.ref (a 0), .ref (a 2)].toArray s 0 0 A) (F0 m 4 ls [])) ∧ (∀ (σ : qM) (x5 x6 x7 : Int32) (H : Heap) (locs : List Loc) (ls : Array Slot), q_it (D_X6_loopsIn) k9 1 σ [x5, x6, x7] = some qq → va_P D vwCl (p_YN cI a σ) H → va_S A s.heap H locs → lv_has ls 5 [(0, .ref (a 0)), (1, .ref (a 2)), (2, .int x5), (3, .int x6), (4, .int x7)] → W p l e ({ frames := 2, cells := 0, slots := 0, locals := 46 }) s m [.ref (a 0), .ref (a 2)].toArray below meth c H locs 0 0 (MQ below (va_Qi (fun r τ => (r, τ) = qq) (fun τ t => va_P D vwCl ((p_YN cI a) τ) t.heap) A) [.ref (a 0), .ref (a 2)].toArray s 0 0 A) (F0 m 15 ls [])) := by
    intro k9
    induction k9 with
    | zero => exact ⟨(fun _ _ _ _ _ _ h _ _ _ => (q_no (show (none : qR) = some qq from h)).elim), (fun _ _ _ _ _ _ _ h _ _ _ => (q_no (show (none : qR) = some qq from h)).elim)⟩
    | succ k9 ih =>
      obtain ⟨i4, i15⟩ := ih
      refine ⟨?_, ?_⟩
      · intro σ x1 x2 H locs ls h hP hS hl
        have h : b_X6_loopsIn_4 (q_it (D_X6_loopsIn) k9) σ x1 x2 = some qq := h
        unfold b_X6_loopsIn_4 at h
        refine lv_iload_n hx hb dX6_loopsIn_4 rfl (lv_at hl 3 rfl) ?_
        refine lv_aload_n hx hb dX6_loopsIn_5 rfl (lv_at hl 1 rfl) ?_
        refine x_geti (C := RX3) (k := 3) hx hb hts u_X6_loopsIn_3 hown hK hP (g_YN_2 cI a σ) rfl (by decide) ⟨rfl, rfl, rfl⟩ k_X6_loopsIn_f31 rfl dX6_loopsIn_6 h (fun x3 h => ?_)
        refine lv_icmp_ge (tgt := 58) hx hb dX6_loopsIn_9 (by decide) (fun c4 => ?_) (fun c4 => ?_)
        · have h := if_t c4 h
          refine lv_iload_n hx hb dX6_loopsIn_58 rfl (lv_at hl 2 rfl) ?_
          exact x_iret (p_YN cI a) hx hb hr hlocks hP hS dX6_loopsIn_59 h
        · have h := if_f c4 h
          refine lv_iconst (v := 0) hx hb dX6_loopsIn_12 (by decide +kernel) ?_
          refine lv_istore (lv' := [(4, .int 0), (0, .ref (a 0)), (1, .ref (a 2)), (2, .int x1), (3, .int x2)]) hx hb dX6_loopsIn_13 hl (by decide) rfl (fun ls hl => ?_)
          exact i15 σ x1 x2 0 _ _ _ h hP hS (lv_sub hl [1, 2, 3, 4, 0] rfl)
      · intro σ x5 x6 x7 H locs ls h hP hS hl
        have h : b_X6_loopsIn_15 (q_it (D_X6_loopsIn) k9) σ x5 x6 x7 = some qq := h
        unfold b_X6_loopsIn_15 at h
        refine lv_iload hx hb dX6_loopsIn_15 (lv_at hl 4 rfl) ?_
        refine lv_aload_n hx hb dX6_loopsIn_17 rfl (lv_at hl 1 rfl) ?_
        refine x_geti (C := RX3) (k := 3) hx hb hts u_X6_loopsIn_3 hown hK hP (g_YN_2 cI a σ) rfl (by decide) ⟨rfl, rfl, rfl⟩ k_X6_loopsIn_f31 rfl dX6_loopsIn_18 h (fun x8 h => ?_)
        refine lv_icmp_ge (tgt := 52) hx hb dX6_loopsIn_21 (by decide) (fun c9 => ?_) (fun c9 => ?_)
        · have h := if_t c9 h
          refine x_iinc (k := 3) (w := 1) hx hb dX6_loopsIn_52 hl rfl (by decide +kernel) (by decide) (fun v9 => [(3, .int v9), (0, .ref (a 0)), (1, .ref (a 2)), (2, .int x5), (4, .int x7)]) (fun v9 => rfl) h (fun x10 ls hl h => ?_)
          have hl : lv_has ls 5 [(3, .int x10), (0, .ref (a 0)), (1, .ref (a 2)), (2, .int x5), (4, .int x7)] := hl
          refine lv_goto (tgt := 4) hx hb dX6_loopsIn_55 (by decide) ?_
          exact i4 σ x5 x10 _ _ _ h hP hS (lv_sub hl [1, 2, 3, 0] rfl)
        · have h := if_f c9 h
          refine lv_aload_n hx hb dX6_loopsIn_24 rfl (lv_at hl 0 rfl) ?_
          refine lv_aload_n hx hb dX6_loopsIn_25 rfl (lv_at hl 1 rfl) ?_
          refine x_getr (C := RX3) (k := 0) hx hb hts u_X6_loopsIn_3 hown hK hP (g_YN_2 cI a σ) rfl (by decide) ⟨rfl, rfl, rfl⟩ k_X6_loopsIn_f36 rfl dX6_loopsIn_26 ?_
          refine lv_iload_n hx hb dX6_loopsIn_29 rfl (lv_at hl 3 rfl) ?_
          refine lv_iload hx hb dX6_loopsIn_30 (lv_at hl 4 rfl) ?_
          refine x_cVv (p_YN cI a) (p_YT cI (q_sub2 2 0 3 a)) (q_put2 2 0 7 3 σ) [] [.ref (a 3), .int x6, .int x7] hx hb hml hl.1 hown hts hK hP hD hS hA rfl (c_X6_walk l D cI tys ht (q_sub2 2 0 3 a) (q_sub2 2 0 3 σ) x6 x7) gX6_loopsIn_X6_walk rfl ⟨rfl, rfl⟩ i_X6_walk ⟨Nat.le_of_ble_eq_true rfl, Nat.le_of_ble_eq_true rfl⟩ (fr_YN_YT_0_3 cI a σ) (g_YT_0 cI (q_sub2 2 0 3 a) (q_sub2 2 0 3 σ)) rfl rfl (Nat.le_of_ble_eq_true rfl) ⟨Nat.zero_le _, Nat.zero_le _⟩ dX6_loopsIn_32 h (fun H locs s11 hP hS h => ?_)
          refine lv_aload_n hx hb dX6_loopsIn_35 rfl (lv_at hl 0 rfl) ?_
          refine x_geti (C := RX6) (k := 2) hx hb hts u_X6_loopsIn_6 hown hK hP (g_YN_0 cI a s11) rfl (by decide) ⟨rfl, rfl, rfl⟩ k_X6_loopsIn_f19 rfl dX6_loopsIn_36 h (fun x12 h => ?_)
          refine lv_iconst (v := 2) hx hb dX6_loopsIn_39 (by decide +kernel) ?_
          refine lv_icmp_ne (tgt := 46) hx hb dX6_loopsIn_40 (by decide) (fun c13 => ?_) (fun c13 => ?_)
          · have h := if_f c13 h
            refine x_iinc (k := 4) (w := 1) hx hb dX6_loopsIn_46 hl rfl (by decide +kernel) (by decide) (fun v9 => [(4, .int v9), (0, .ref (a 0)), (1, .ref (a 2)), (2, .int x5), (3, .int x6)]) (fun v9 => rfl) h (fun x14 ls hl h => ?_)
            have hl : lv_has ls 5 [(4, .int x14), (0, .ref (a 0)), (1, .ref (a 2)), (2, .int x5), (3, .int x6)] := hl
            refine lv_goto (tgt := 15) hx hb dX6_loopsIn_49 (by decide) ?_
            exact i15 s11 x5 x6 x14 _ _ _ h hP hS (lv_sub hl [1, 2, 3, 4, 0] rfl)
          · have h := if_t c13 h
            refine x_iinc (k := 2) (w := 1) hx hb dX6_loopsIn_43 hl rfl (by decide +kernel) (by decide) (fun v9 => [(2, .int v9), (0, .ref (a 0)), (1, .ref (a 2)), (3, .int x6), (4, .int x7)]) (fun v9 => rfl) h (fun x15 ls hl h => ?_)
            have hl : lv_has ls 5 [(2, .int x15), (0, .ref (a 0)), (1, .ref (a 2)), (3, .int x6), (4, .int x7)] := hl
            refine x_iinc (k := 4) (w := 1) hx hb dX6_loopsIn_46 hl rfl (by decide +kernel) (by decide) (fun v9 => [(4, .int v9), (2, .int x15), (0, .ref (a 0)), (1, .ref (a 2)), (3, .int x6)]) (fun v9 => rfl) h (fun x16 ls hl h => ?_)
            have hl : lv_has ls 5 [(4, .int x16), (2, .int x15), (0, .ref (a 0)), (1, .ref (a 2)), (3, .int x6)] := hl
            refine lv_goto (tgt := 15) hx hb dX6_loopsIn_49 (by decide) ?_
            exact i15 s11 x15 x6 x16 _ _ _ h hP hS (lv_sub hl [2, 3, 1, 4, 0] rfl)
  have i4 : ∀ (σ : qM) (x1 x2 : Int32) (H : Heap) (locs : List Loc) (ls : Array Slot), q_lim (D_X6_loopsIn) 0 σ [x1, x2] = some qq → va_P D vwCl (p_YN cI a σ) H → va_S A s.heap H locs → lv_has ls 5 [(0, .ref (a 0)), (1, .ref (a 2)), (2, .int x1), (3, .int x2)] → W p l e ({ frames := 2, cells := 0, slots := 0, locals := 46 }) s m [.ref (a 0), .ref (a 2)].toArray below meth c H locs 0 0 (MQ below (va_Qi (fun r τ => (r, τ) = qq) (fun τ t => va_P D vwCl ((p_YN cI a) τ) t.heap) A) [.ref (a 0), .ref (a 2)].toArray s 0 0 A) (F0 m 4 ls []) := by
    intro σ x1 x2 H locs ls h hP hS hl
    obtain ⟨k9, h⟩ := q_lim_n h
    exact (main k9).1 σ x1 x2 H locs ls h hP hS hl
  have i15 : ∀ (σ : qM) (x5 x6 x7 : Int32) (H : Heap) (locs : List Loc) (ls : Array Slot), q_lim (D_X6_loopsIn) 1 σ [x5, x6, x7] = some qq → va_P D vwCl (p_YN cI a σ) H → va_S A s.heap H locs → lv_has ls 5 [(0, .ref (a 0)), (1, .ref (a 2)), (2, .int x5), (3, .int x6), (4, .int x7)] → W p l e ({ frames := 2, cells := 0, slots := 0, locals := 46 }) s m [.ref (a 0), .ref (a 2)].toArray below meth c H locs 0 0 (MQ below (va_Qi (fun r τ => (r, τ) = qq) (fun τ t => va_P D vwCl ((p_YN cI a) τ) t.heap) A) [.ref (a 0), .ref (a 2)].toArray s 0 0 A) (F0 m 15 ls []) := by
    intro σ x5 x6 x7 H locs ls h hP hS hl
    obtain ⟨k9, h⟩ := q_lim_n h
    exact (main k9).2 σ x5 x6 x7 H locs ls h hP hS hl
  have h : e_X6_loopsIn (q_lim (D_X6_loopsIn)) σ = some qq := h
  unfold e_X6_loopsIn at h
  refine lv_iconst (v := 0) hx hb dX6_loopsIn_0 (by decide +kernel) ?_
  refine lv_istore_n (lv' := [(2, .int 0), (0, .ref (a 0)), (1, .ref (a 2))]) hx hb dX6_loopsIn_1 rfl hl (by decide) rfl (fun ls hl => ?_)
  refine lv_iconst (v := 0) hx hb dX6_loopsIn_2 (by decide +kernel) ?_
  refine lv_istore_n (lv' := [(3, .int 0), (2, .int 0), (0, .ref (a 0)), (1, .ref (a 2))]) hx hb dX6_loopsIn_3 rfl hl (by decide) rfl (fun ls hl => ?_)
  exact i4 σ 0 0 _ _ _ h hP hS (lv_sub hl [2, 3, 1, 0] rfl)
/-! ===== VectorRounds$Distances.relax(LVectorRounds$Links;I)Z: world DL ===== -/
theorem i_X0_relax : yX0_relax.cls = RX0 ∧ yX0_relax.cls ≠ "java/lang/invoke/MethodHandle" ∧ yX0_relax.cls ≠ "java/lang/invoke/VarHandle" ∧ (parseMethodDescriptor yX0_relax.desc).map (fun d => d.parameters.length) = some 2 := by decide +kernel
theorem k_X0_relax_f41 : Cond.fieldLink RX0 41 RX2 "lesser" "[I" ∈ wsX0_relax := by decide +kernel
theorem k_X0_relax_f44 : Cond.fieldLink RX0 44 RX2 "greater" "[I" ∈ wsX0_relax := by decide +kernel
theorem k_X0_relax_f47 : Cond.fieldLink RX0 47 RX2 "price" "[I" ∈ wsX0_relax := by decide +kernel
theorem k_X0_relax_f9 : Cond.fieldLink RX0 9 RX0 "to" "[I" ∈ wsX0_relax := by decide +kernel
theorem u_X0_relax_0 : ∀ w ∈ u_ws RX0 TX0 1, w ∈ wsX0_relax := by decide +kernel
theorem u_X0_relax_2 : ∀ w ∈ u_ws RX2 TX2 6, w ∈ wsX0_relax := by decide +kernel
noncomputable def f_X0_relax (σ : qM) (x1 : Int32) : qR :=
  q_rd σ 3 24 x1 fun x2 =>
  q_rd σ 4 24 x1 fun x3 =>
  q_rd σ 5 24 x1 fun x4 =>
  q_rd σ 1 10 x2 fun x5 =>
  q_nm ((x5 + x4)) fun x6 =>
  q_rd σ 1 10 x3 fun x7 =>
  if x7 ≤ x6 then (
  q_rd σ 1 10 x3 fun x9 =>
  q_nm ((x9 + x4)) fun x10 =>
  q_rd σ 1 10 x2 fun x11 =>
  if x11 ≤ x10 then (
  q_bo 0 (some (0, σ)))
  else (
  q_rd σ 1 10 x3 fun x13 =>
  q_nm ((x13 + x4)) fun x14 =>
  q_wt σ 1 10 x2 x14 fun s15 =>
  q_bo 1 (some (1, s15))))
  else (
  q_rd σ 1 10 x2 fun x16 =>
  q_nm ((x16 + x4)) fun x17 =>
  q_wt σ 1 10 x3 x17 fun s18 =>
  q_bo 1 (some (1, s18)))
set_option maxHeartbeats 4000000 in
set_option maxRecDepth 100000 in
theorem c_X0_relax (l : Launch) (D : va_G) (cI : ClassId) (tys : List (ClassId × FieldType)) (ht : tys[0]? = some (cI, .int)) (a : Nat → Nat) (σ : qM) (x1 : Int32) : q_Met l yX0_relax wsX0_relax ({ frames := 0, cells := 0, slots := 0, locals := 0 }) [.ref (a 0), .ref (a 2), .int x1] D tys (p_DL cI a) σ (f_X0_relax σ x1) := by
  refine x_ofWi (cc := cX0_relax) (maxL := 6) (ret := (some .boolean)) (by decide +kernel) rfl (pf_DL cI a) (Nat.le_of_ble_eq_true rfl) ?_
  intro p e s m below meth c A ls qq h hx hb hml hr hlocks hown hts hK hP hD hA hS hl
  have hown : s.vm.findClass RX0 = some m.cls := hown
  have hl : lv_has ls 6 [(0, .ref (a 0)), (1, .ref (a 2)), (2, .int x1)] := hl
  unfold f_X0_relax at h
  refine lv_aload_n hx hb dX0_relax_0 rfl (lv_at hl 1 rfl) ?_
  refine x_getr (C := RX2) (k := 0) hx hb hts u_X0_relax_2 hown hK hP (g_DL_2 cI a σ) rfl (by decide) ⟨rfl, rfl, rfl⟩ k_X0_relax_f41 rfl dX0_relax_1 ?_
  refine lv_iload_n hx hb dX0_relax_4 rfl (lv_at hl 2 rfl) ?_
  refine x_iald (t0 := 0) hx hb hK hP ht h (g_DL_3 cI a σ) dX0_relax_5 (fun x2 h => ?_)
  refine lv_istore_n (lv' := [(3, .int x2), (0, .ref (a 0)), (1, .ref (a 2)), (2, .int x1)]) hx hb dX0_relax_6 rfl hl (by decide) rfl (fun ls hl => ?_)
  refine lv_aload_n hx hb dX0_relax_7 rfl (lv_at hl 2 rfl) ?_
  refine x_getr (C := RX2) (k := 1) hx hb hts u_X0_relax_2 hown hK hP (g_DL_2 cI a σ) rfl (by decide) ⟨rfl, rfl, rfl⟩ k_X0_relax_f44 rfl dX0_relax_8 ?_
  refine lv_iload_n hx hb dX0_relax_11 rfl (lv_at hl 3 rfl) ?_
  refine x_iald (t0 := 0) hx hb hK hP ht h (g_DL_4 cI a σ) dX0_relax_12 (fun x3 h => ?_)
  refine lv_istore (lv' := [(4, .int x3), (3, .int x2), (0, .ref (a 0)), (1, .ref (a 2)), (2, .int x1)]) hx hb dX0_relax_13 hl (by decide) rfl (fun ls hl => ?_)
  refine lv_aload_n hx hb dX0_relax_15 rfl (lv_at hl 3 rfl) ?_
  refine x_getr (C := RX2) (k := 2) hx hb hts u_X0_relax_2 hown hK hP (g_DL_2 cI a σ) rfl (by decide) ⟨rfl, rfl, rfl⟩ k_X0_relax_f47 rfl dX0_relax_16 ?_
  refine lv_iload_n hx hb dX0_relax_19 rfl (lv_at hl 4 rfl) ?_
  refine x_iald (t0 := 0) hx hb hK hP ht h (g_DL_5 cI a σ) dX0_relax_20 (fun x4 h => ?_)
  refine lv_istore (lv' := [(5, .int x4), (4, .int x3), (3, .int x2), (0, .ref (a 0)), (1, .ref (a 2)), (2, .int x1)]) hx hb dX0_relax_21 hl (by decide) rfl (fun ls hl => ?_)
  refine lv_aload_n hx hb dX0_relax_23 rfl (lv_at hl 3 rfl) ?_
  refine x_getr (C := RX0) (k := 0) hx hb hts u_X0_relax_0 hown hK hP (g_DL_0 cI a σ) rfl (by decide) ⟨rfl, rfl, rfl⟩ k_X0_relax_f9 rfl dX0_relax_24 ?_
  refine lv_iload_n hx hb dX0_relax_27 rfl (lv_at hl 2 rfl) ?_
  refine x_iald (t0 := 0) hx hb hK hP ht h (g_DL_1 cI a σ) dX0_relax_28 (fun x5 h => ?_)
  refine lv_iload hx hb dX0_relax_29 (lv_at hl 0 rfl) ?_
  refine x_iadd hx hb dX0_relax_31 h (fun x6 h => ?_)
  refine lv_aload_n hx hb dX0_relax_32 rfl (lv_at hl 3 rfl) ?_
  refine x_getr (C := RX0) (k := 0) hx hb hts u_X0_relax_0 hown hK hP (g_DL_0 cI a σ) rfl (by decide) ⟨rfl, rfl, rfl⟩ k_X0_relax_f9 rfl dX0_relax_33 ?_
  refine lv_iload hx hb dX0_relax_36 (lv_at hl 1 rfl) ?_
  refine x_iald (t0 := 0) hx hb hK hP ht h (g_DL_1 cI a σ) dX0_relax_38 (fun x7 h => ?_)
  refine lv_icmp_ge (tgt := 60) hx hb dX0_relax_39 (by decide) (fun c8 => ?_) (fun c8 => ?_)
  · have h := if_t c8 h
    refine lv_aload_n hx hb dX0_relax_60 rfl (lv_at hl 3 rfl) ?_
    refine x_getr (C := RX0) (k := 0) hx hb hts u_X0_relax_0 hown hK hP (g_DL_0 cI a σ) rfl (by decide) ⟨rfl, rfl, rfl⟩ k_X0_relax_f9 rfl dX0_relax_61 ?_
    refine lv_iload hx hb dX0_relax_64 (lv_at hl 1 rfl) ?_
    refine x_iald (t0 := 0) hx hb hK hP ht h (g_DL_1 cI a σ) dX0_relax_66 (fun x9 h => ?_)
    refine lv_iload hx hb dX0_relax_67 (lv_at hl 0 rfl) ?_
    refine x_iadd hx hb dX0_relax_69 h (fun x10 h => ?_)
    refine lv_aload_n hx hb dX0_relax_70 rfl (lv_at hl 3 rfl) ?_
    refine x_getr (C := RX0) (k := 0) hx hb hts u_X0_relax_0 hown hK hP (g_DL_0 cI a σ) rfl (by decide) ⟨rfl, rfl, rfl⟩ k_X0_relax_f9 rfl dX0_relax_71 ?_
    refine lv_iload_n hx hb dX0_relax_74 rfl (lv_at hl 2 rfl) ?_
    refine x_iald (t0 := 0) hx hb hK hP ht h (g_DL_1 cI a σ) dX0_relax_75 (fun x11 h => ?_)
    refine lv_icmp_ge (tgt := 97) hx hb dX0_relax_76 (by decide) (fun c12 => ?_) (fun c12 => ?_)
    · have h := if_t c12 h
      refine lv_iconst (v := 0) hx hb dX0_relax_97 (by decide +kernel) ?_
      exact x_zret (p_DL cI a) hx hb hr hlocks hP hS dX0_relax_98 h
    · have h := if_f c12 h
      refine lv_aload_n hx hb dX0_relax_79 rfl (lv_at hl 3 rfl) ?_
      refine x_getr (C := RX0) (k := 0) hx hb hts u_X0_relax_0 hown hK hP (g_DL_0 cI a σ) rfl (by decide) ⟨rfl, rfl, rfl⟩ k_X0_relax_f9 rfl dX0_relax_80 ?_
      refine lv_iload_n hx hb dX0_relax_83 rfl (lv_at hl 2 rfl) ?_
      refine lv_aload_n hx hb dX0_relax_84 rfl (lv_at hl 3 rfl) ?_
      refine x_getr (C := RX0) (k := 0) hx hb hts u_X0_relax_0 hown hK hP (g_DL_0 cI a σ) rfl (by decide) ⟨rfl, rfl, rfl⟩ k_X0_relax_f9 rfl dX0_relax_85 ?_
      refine lv_iload hx hb dX0_relax_88 (lv_at hl 1 rfl) ?_
      refine x_iald (t0 := 0) hx hb hK hP ht h (g_DL_1 cI a σ) dX0_relax_90 (fun x13 h => ?_)
      refine lv_iload hx hb dX0_relax_91 (lv_at hl 0 rfl) ?_
      refine x_iadd hx hb dX0_relax_93 h (fun x14 h => ?_)
      refine x_iast (p_DL cI a) (t0 := 0) hx hb hK hP hD hS ht h (g_DL_1 cI a σ) (fun j9 v9 => (s_DL_1 cI a σ _)) dX0_relax_94 (fun H locs s15 hP hS h => ?_)
      refine lv_iconst (v := 1) hx hb dX0_relax_95 (by decide +kernel) ?_
      exact x_zret (p_DL cI a) hx hb hr hlocks hP hS dX0_relax_96 h
  · have h := if_f c8 h
    refine lv_aload_n hx hb dX0_relax_42 rfl (lv_at hl 3 rfl) ?_
    refine x_getr (C := RX0) (k := 0) hx hb hts u_X0_relax_0 hown hK hP (g_DL_0 cI a σ) rfl (by decide) ⟨rfl, rfl, rfl⟩ k_X0_relax_f9 rfl dX0_relax_43 ?_
    refine lv_iload hx hb dX0_relax_46 (lv_at hl 1 rfl) ?_
    refine lv_aload_n hx hb dX0_relax_48 rfl (lv_at hl 3 rfl) ?_
    refine x_getr (C := RX0) (k := 0) hx hb hts u_X0_relax_0 hown hK hP (g_DL_0 cI a σ) rfl (by decide) ⟨rfl, rfl, rfl⟩ k_X0_relax_f9 rfl dX0_relax_49 ?_
    refine lv_iload_n hx hb dX0_relax_52 rfl (lv_at hl 2 rfl) ?_
    refine x_iald (t0 := 0) hx hb hK hP ht h (g_DL_1 cI a σ) dX0_relax_53 (fun x16 h => ?_)
    refine lv_iload hx hb dX0_relax_54 (lv_at hl 0 rfl) ?_
    refine x_iadd hx hb dX0_relax_56 h (fun x17 h => ?_)
    refine x_iast (p_DL cI a) (t0 := 0) hx hb hK hP hD hS ht h (g_DL_1 cI a σ) (fun j9 v9 => (s_DL_1 cI a σ _)) dX0_relax_57 (fun H locs s18 hP hS h => ?_)
    refine lv_iconst (v := 1) hx hb dX0_relax_58 (by decide +kernel) ?_
    exact x_zret (p_DL cI a) hx hb hr hlocks hP hS dX0_relax_59 h
/-! ===== VectorRounds$Distances.measure(LVectorRounds$Network;II)V: world DN ===== -/
theorem i_X0_measure : yX0_measure.cls = RX0 ∧ yX0_measure.cls ≠ "java/lang/invoke/MethodHandle" ∧ yX0_measure.cls ≠ "java/lang/invoke/VarHandle" ∧ (parseMethodDescriptor yX0_measure.desc).map (fun d => d.parameters.length) = some 3 := by decide +kernel
theorem k_X0_measure_c15 : Cond.constant RX0 15 (1000000) ∈ wsX0_measure := by decide +kernel
theorem k_X0_measure_f22 : Cond.fieldLink RX0 22 RX3 "links" "LVectorRounds$Links;" ∈ wsX0_measure := by decide +kernel
theorem k_X0_measure_f28 : Cond.fieldLink RX0 28 RX2 "size" "I" ∈ wsX0_measure := by decide +kernel
theorem k_X0_measure_f34 : Cond.fieldLink RX0 34 RX2 "up" "[I" ∈ wsX0_measure := by decide +kernel
theorem k_X0_measure_f9 : Cond.fieldLink RX0 9 RX0 "to" "[I" ∈ wsX0_measure := by decide +kernel
theorem u_X0_measure_0 : ∀ w ∈ u_ws RX0 TX0 1, w ∈ wsX0_measure := by decide +kernel
theorem u_X0_measure_2 : ∀ w ∈ u_ws RX2 TX2 6, w ∈ wsX0_measure := by decide +kernel
theorem u_X0_measure_3 : ∀ w ∈ u_ws RX3 TX3 9, w ∈ wsX0_measure := by decide +kernel
noncomputable def b_X0_measure_22 (go : qB) (σ : qM) (x5 x6 x7 : Int32) : qR :=
  if (10 : Int32) ≤ x7 then (
  some (0, σ))
  else (
  if x6 = 0 then (
  some (0, σ))
  else (
  go 1 σ [x5, 0, x7, 0]))
noncomputable def b_X0_measure_40 (go : qB) (σ : qM) (x10 x11 x12 x13 : Int32) : qR :=
  q_nm (σ 17 5) fun x14 =>
  if x14 ≤ x13 then (
  q_nm (x12 + 1) fun x16 =>
  go 0 σ [x10, x11, x16])
  else (
  if x13 = x10 then (
  q_nm (x13 + 1) fun x18 =>
  go 1 σ [x10, x11, x12, x18])
  else (
  q_rd σ 21 24 x13 fun x19 =>
  if x19 = 1 then (
  q_cl (f_X0_relax (q_sub2 2 0 17 σ) x13) (q_put2 2 0 6 17 σ) fun x23 s22 =>
  if x23 = 0 then (
  q_nm (x13 + 1) fun x25 =>
  go 1 s22 [x10, x11, x12, x25])
  else (
  q_nm (x13 + 1) fun x26 =>
  go 1 s22 [x10, 1, x12, x26]))
  else (
  q_nm (x13 + 1) fun x21 =>
  go 1 σ [x10, x11, x12, x21])))
noncomputable def D_X0_measure (go : qB) : qB := fun i σ xs => if i = 0 then (match xs with | [x5, x6, x7] => b_X0_measure_22 go σ x5 x6 x7 | _ => none) else if i = 1 then (match xs with | [x10, x11, x12, x13] => b_X0_measure_40 go σ x10 x11 x12 x13 | _ => none) else none
noncomputable def e_X0_measure (go : qB) (σ : qM) (x1 : Int32) (x2 : Int32) : qR :=
  q_cl (f_J7_fill_53178 10 (q_sub 1 σ) 1000000) (q_put 1 1 σ) fun _ s3 =>
  q_wt s3 1 10 x1 0 fun s4 =>
  go 0 s4 [x2, 1, 0]
noncomputable def f_X0_measure (σ : qM) (x1 : Int32) (x2 : Int32) : qR := e_X0_measure (q_lim (D_X0_measure)) σ x1 x2
set_option maxHeartbeats 4000000 in
set_option maxRecDepth 100000 in
theorem c_X0_measure (l : Launch) (D : va_G) (cI : ClassId) (tys : List (ClassId × FieldType)) (ht : tys[0]? = some (cI, .int)) (a : Nat → Nat) (σ : qM) (x1 : Int32) (x2 : Int32) : q_Mev l yX0_measure wsX0_measure ({ frames := 1, cells := 0, slots := 0, locals := 25 }) [.ref (a 0), .ref (a 2), .int x1, .int x2] D tys (p_DN cI a) σ (f_X0_measure σ x1 x2) := by
  refine x_ofWv (cc := cX0_measure) (maxL := 7) (ret := none) (by decide +kernel) rfl (pf_DN cI a) (Nat.le_of_ble_eq_true rfl) ?_
  intro p e s m below meth c A ls qq h hx hb hml hr hlocks hown hts hK hP hD hA hS hl
  have hown : s.vm.findClass RX0 = some m.cls := hown
  have hl : lv_has ls 7 [(0, .ref (a 0)), (1, .ref (a 2)), (2, .int x1), (3, .int x2)] := hl
  have main : ∀ k9 : Nat, (∀ (σ : qM) (x5 x6 x7 : Int32) (H : Heap) (locs : List Loc) (ls : Array Slot), q_it (D_X0_measure) k9 0 σ [x5, x6, x7] = some qq → va_P D vwCl (p_DN cI a σ) H → va_S A s.heap H locs → lv_has ls 7 [(0, .ref (a 0)), (1, .ref (a 2)), (3, .int x5), (4, .int x6), (5, .int x7)] → W p l e ({ frames := 1, cells := 0, slots := 0, locals := 25 }) s m [.ref (a 0), .ref (a 2), .int x1, .int x2].toArray below meth c H locs 0 0 (MQ below (va_Qv (fun τ => ((0 : Int32), τ) = qq) (fun τ t => va_P D vwCl ((p_DN cI a) τ) t.heap) A) [.ref (a 0), .ref (a 2), .int x1, .int x2].toArray s 0 0 A) (F0 m 22 ls [])) ∧ (∀ (σ : qM) (x10 x11 x12 x13 : Int32) (H : Heap) (locs : List Loc) (ls : Array Slot), q_it (D_X0_measure) k9 1 σ [x10, x11, x12, x13] = some qq → va_P D vwCl (p_DN cI a σ) H → va_S A s.heap H locs → lv_has ls 7 [(0, .ref (a 0)), (1, .ref (a 2)), (3, .int x10), (4, .int x11), (5, .int x12), (6, .int x13)] → W p l e ({ frames := 1, cells := 0, slots := 0, locals := 25 }) s m [.ref (a 0), .ref (a 2), .int x1, .int x2].toArray below meth c H locs 0 0 (MQ below (va_Qv (fun τ => ((0 : Int32), τ) = qq) (fun τ t => va_P D vwCl ((p_DN cI a) τ) t.heap) A) [.ref (a 0), .ref (a 2), .int x1, .int x2].toArray s 0 0 A) (F0 m 40 ls [])) := by
    intro k9
    induction k9 with
    | zero => exact ⟨(fun _ _ _ _ _ _ _ h _ _ _ => (q_no (show (none : qR) = some qq from h)).elim), (fun _ _ _ _ _ _ _ _ h _ _ _ => (q_no (show (none : qR) = some qq from h)).elim)⟩
    | succ k9 ih =>
      obtain ⟨i22, i40⟩ := ih
      refine ⟨?_, ?_⟩
      · intro σ x5 x6 x7 H locs ls h hP hS hl
        have h : b_X0_measure_22 (q_it (D_X0_measure) k9) σ x5 x6 x7 = some qq := h
        unfold b_X0_measure_22 at h
        refine lv_iload hx hb dX0_measure_22 (lv_at hl 4 rfl) ?_
        refine lv_bipush (v := 10) hx hb dX0_measure_24 (by decide +kernel) ?_
        refine lv_icmp_ge (tgt := 100) hx hb dX0_measure_26 (by decide) (fun c8 => ?_) (fun c8 => ?_)
        · have h := if_t c8 h
          exact x_vret (p_DN cI a) hx hb hr hlocks hP hS dX0_measure_100 h
        · have h := if_f c8 h
          refine lv_iload hx hb dX0_measure_29 (lv_at hl 3 rfl) ?_
          refine lv_if_eq (tgt := 100) hx hb dX0_measure_31 (by decide) (fun c9 => ?_) (fun c9 => ?_)
          · have h := if_t c9 h
            exact x_vret (p_DN cI a) hx hb hr hlocks hP hS dX0_measure_100 h
          · have h := if_f c9 h
            refine lv_iconst (v := 0) hx hb dX0_measure_34 (by decide +kernel) ?_
            refine lv_istore (lv' := [(4, .int 0), (0, .ref (a 0)), (1, .ref (a 2)), (3, .int x5), (5, .int x7)]) hx hb dX0_measure_35 hl (by decide) rfl (fun ls hl => ?_)
            refine lv_iconst (v := 0) hx hb dX0_measure_37 (by decide +kernel) ?_
            refine lv_istore (lv' := [(6, .int 0), (4, .int 0), (0, .ref (a 0)), (1, .ref (a 2)), (3, .int x5), (5, .int x7)]) hx hb dX0_measure_38 hl (by decide) rfl (fun ls hl => ?_)
            exact i40 σ x5 0 x7 0 _ _ _ h hP hS (lv_sub hl [2, 3, 4, 1, 5, 0] rfl)
      · intro σ x10 x11 x12 x13 H locs ls h hP hS hl
        have h : b_X0_measure_40 (q_it (D_X0_measure) k9) σ x10 x11 x12 x13 = some qq := h
        unfold b_X0_measure_40 at h
        refine lv_iload hx hb dX0_measure_40 (lv_at hl 5 rfl) ?_
        refine lv_aload_n hx hb dX0_measure_42 rfl (lv_at hl 1 rfl) ?_
        refine x_getr (C := RX3) (k := 2) hx hb hts u_X0_measure_3 hown hK hP (g_DN_2 cI a σ) rfl (by decide) ⟨rfl, rfl, rfl⟩ k_X0_measure_f22 rfl dX0_measure_43 ?_
        refine x_geti (C := RX2) (k := 5) hx hb hts u_X0_measure_2 hown hK hP (g_DN_17 cI a σ) rfl (by decide) ⟨rfl, rfl, rfl⟩ k_X0_measure_f28 rfl dX0_measure_46 h (fun x14 h => ?_)
        refine lv_icmp_ge (tgt := 94) hx hb dX0_measure_49 (by decide) (fun c15 => ?_) (fun c15 => ?_)
        · have h := if_t c15 h
          refine x_iinc (k := 4) (w := 1) hx hb dX0_measure_94 hl rfl (by decide +kernel) (by decide) (fun v9 => [(5, .int v9), (0, .ref (a 0)), (1, .ref (a 2)), (3, .int x10), (4, .int x11), (6, .int x13)]) (fun v9 => rfl) h (fun x16 ls hl h => ?_)
          have hl : lv_has ls 7 [(5, .int x16), (0, .ref (a 0)), (1, .ref (a 2)), (3, .int x10), (4, .int x11), (6, .int x13)] := hl
          refine lv_goto (tgt := 22) hx hb dX0_measure_97 (by decide) ?_
          exact i22 σ x10 x11 x16 _ _ _ h hP hS (lv_sub hl [1, 2, 3, 4, 0] rfl)
        · have h := if_f c15 h
          refine lv_iload hx hb dX0_measure_52 (lv_at hl 5 rfl) ?_
          refine lv_iload_n hx hb dX0_measure_54 rfl (lv_at hl 2 rfl) ?_
          refine lv_icmp_eq (tgt := 88) hx hb dX0_measure_55 (by decide) (fun c17 => ?_) (fun c17 => ?_)
          · have h := if_t c17 h
            refine x_iinc (k := 5) (w := 1) hx hb dX0_measure_88 hl rfl (by decide +kernel) (by decide) (fun v9 => [(6, .int v9), (0, .ref (a 0)), (1, .ref (a 2)), (3, .int x10), (4, .int x11), (5, .int x12)]) (fun v9 => rfl) h (fun x18 ls hl h => ?_)
            have hl : lv_has ls 7 [(6, .int x18), (0, .ref (a 0)), (1, .ref (a 2)), (3, .int x10), (4, .int x11), (5, .int x12)] := hl
            refine lv_goto (tgt := 40) hx hb dX0_measure_91 (by decide) ?_
            exact i40 σ x10 x11 x12 x18 _ _ _ h hP hS (lv_sub hl [1, 2, 3, 4, 5, 0] rfl)
          · have h := if_f c17 h
            refine lv_aload_n hx hb dX0_measure_58 rfl (lv_at hl 1 rfl) ?_
            refine x_getr (C := RX3) (k := 2) hx hb hts u_X0_measure_3 hown hK hP (g_DN_2 cI a σ) rfl (by decide) ⟨rfl, rfl, rfl⟩ k_X0_measure_f22 rfl dX0_measure_59 ?_
            refine x_getr (C := RX2) (k := 3) hx hb hts u_X0_measure_2 hown hK hP (g_DN_17 cI a σ) rfl (by decide) ⟨rfl, rfl, rfl⟩ k_X0_measure_f34 rfl dX0_measure_62 ?_
            refine lv_iload hx hb dX0_measure_65 (lv_at hl 5 rfl) ?_
            refine x_iald (t0 := 0) hx hb hK hP ht h (g_DN_21 cI a σ) dX0_measure_67 (fun x19 h => ?_)
            refine lv_iconst (v := 1) hx hb dX0_measure_68 (by decide +kernel) ?_
            refine lv_icmp_ne (tgt := 88) hx hb dX0_measure_69 (by decide) (fun c20 => ?_) (fun c20 => ?_)
            · have h := if_f c20 h
              refine x_iinc (k := 5) (w := 1) hx hb dX0_measure_88 hl rfl (by decide +kernel) (by decide) (fun v9 => [(6, .int v9), (0, .ref (a 0)), (1, .ref (a 2)), (3, .int x10), (4, .int x11), (5, .int x12)]) (fun v9 => rfl) h (fun x21 ls hl h => ?_)
              have hl : lv_has ls 7 [(6, .int x21), (0, .ref (a 0)), (1, .ref (a 2)), (3, .int x10), (4, .int x11), (5, .int x12)] := hl
              refine lv_goto (tgt := 40) hx hb dX0_measure_91 (by decide) ?_
              exact i40 σ x10 x11 x12 x21 _ _ _ h hP hS (lv_sub hl [1, 2, 3, 4, 5, 0] rfl)
            · have h := if_t c20 h
              refine lv_aload_n hx hb dX0_measure_72 rfl (lv_at hl 0 rfl) ?_
              refine lv_aload_n hx hb dX0_measure_73 rfl (lv_at hl 1 rfl) ?_
              refine x_getr (C := RX3) (k := 2) hx hb hts u_X0_measure_3 hown hK hP (g_DN_2 cI a σ) rfl (by decide) ⟨rfl, rfl, rfl⟩ k_X0_measure_f22 rfl dX0_measure_74 ?_
              refine lv_iload hx hb dX0_measure_77 (lv_at hl 5 rfl) ?_
              refine x_cVi (p_DN cI a) (p_DL cI (q_sub2 2 0 17 a)) (q_put2 2 0 6 17 σ) [] [.ref (a 17), .int x13] hx hb hml hl.1 hown hts hK hP hD hS hA rfl (c_X0_relax l D cI tys ht (q_sub2 2 0 17 a) (q_sub2 2 0 17 σ) x13) gX0_measure_X0_relax rfl ⟨rfl, rfl⟩ i_X0_relax ⟨Nat.le_of_ble_eq_true rfl, Nat.le_of_ble_eq_true rfl⟩ (fr_DN_DL_0_17 cI a σ) (g_DL_0 cI (q_sub2 2 0 17 a) (q_sub2 2 0 17 σ)) rfl rfl (Nat.le_of_ble_eq_true rfl) ⟨Nat.zero_le _, Nat.zero_le _⟩ dX0_measure_79 h (fun x23 H locs s22 hP hS h => ?_)
              refine lv_if_eq (tgt := 88) hx hb dX0_measure_82 (by decide) (fun c24 => ?_) (fun c24 => ?_)
              · have h := if_t c24 h
                refine x_iinc (k := 5) (w := 1) hx hb dX0_measure_88 hl rfl (by decide +kernel) (by decide) (fun v9 => [(6, .int v9), (0, .ref (a 0)), (1, .ref (a 2)), (3, .int x10), (4, .int x11), (5, .int x12)]) (fun v9 => rfl) h (fun x25 ls hl h => ?_)
                have hl : lv_has ls 7 [(6, .int x25), (0, .ref (a 0)), (1, .ref (a 2)), (3, .int x10), (4, .int x11), (5, .int x12)] := hl
                refine lv_goto (tgt := 40) hx hb dX0_measure_91 (by decide) ?_
                exact i40 s22 x10 x11 x12 x25 _ _ _ h hP hS (lv_sub hl [1, 2, 3, 4, 5, 0] rfl)
              · have h := if_f c24 h
                refine lv_iconst (v := 1) hx hb dX0_measure_85 (by decide +kernel) ?_
                refine lv_istore (lv' := [(4, .int 1), (0, .ref (a 0)), (1, .ref (a 2)), (3, .int x10), (5, .int x12), (6, .int x13)]) hx hb dX0_measure_86 hl (by decide) rfl (fun ls hl => ?_)
                refine x_iinc (k := 5) (w := 1) hx hb dX0_measure_88 hl rfl (by decide +kernel) (by decide) (fun v9 => [(6, .int v9), (4, .int 1), (0, .ref (a 0)), (1, .ref (a 2)), (3, .int x10), (5, .int x12)]) (fun v9 => rfl) h (fun x26 ls hl h => ?_)
                have hl : lv_has ls 7 [(6, .int x26), (4, .int 1), (0, .ref (a 0)), (1, .ref (a 2)), (3, .int x10), (5, .int x12)] := hl
                refine lv_goto (tgt := 40) hx hb dX0_measure_91 (by decide) ?_
                exact i40 s22 x10 1 x12 x26 _ _ _ h hP hS (lv_sub hl [2, 3, 4, 1, 5, 0] rfl)
  have i22 : ∀ (σ : qM) (x5 x6 x7 : Int32) (H : Heap) (locs : List Loc) (ls : Array Slot), q_lim (D_X0_measure) 0 σ [x5, x6, x7] = some qq → va_P D vwCl (p_DN cI a σ) H → va_S A s.heap H locs → lv_has ls 7 [(0, .ref (a 0)), (1, .ref (a 2)), (3, .int x5), (4, .int x6), (5, .int x7)] → W p l e ({ frames := 1, cells := 0, slots := 0, locals := 25 }) s m [.ref (a 0), .ref (a 2), .int x1, .int x2].toArray below meth c H locs 0 0 (MQ below (va_Qv (fun τ => ((0 : Int32), τ) = qq) (fun τ t => va_P D vwCl ((p_DN cI a) τ) t.heap) A) [.ref (a 0), .ref (a 2), .int x1, .int x2].toArray s 0 0 A) (F0 m 22 ls []) := by
    intro σ x5 x6 x7 H locs ls h hP hS hl
    obtain ⟨k9, h⟩ := q_lim_n h
    exact (main k9).1 σ x5 x6 x7 H locs ls h hP hS hl
  have i40 : ∀ (σ : qM) (x10 x11 x12 x13 : Int32) (H : Heap) (locs : List Loc) (ls : Array Slot), q_lim (D_X0_measure) 1 σ [x10, x11, x12, x13] = some qq → va_P D vwCl (p_DN cI a σ) H → va_S A s.heap H locs → lv_has ls 7 [(0, .ref (a 0)), (1, .ref (a 2)), (3, .int x10), (4, .int x11), (5, .int x12), (6, .int x13)] → W p l e ({ frames := 1, cells := 0, slots := 0, locals := 25 }) s m [.ref (a 0), .ref (a 2), .int x1, .int x2].toArray below meth c H locs 0 0 (MQ below (va_Qv (fun τ => ((0 : Int32), τ) = qq) (fun τ t => va_P D vwCl ((p_DN cI a) τ) t.heap) A) [.ref (a 0), .ref (a 2), .int x1, .int x2].toArray s 0 0 A) (F0 m 40 ls []) := by
    intro σ x10 x11 x12 x13 H locs ls h hP hS hl
    obtain ⟨k9, h⟩ := q_lim_n h
    exact (main k9).2 σ x10 x11 x12 x13 H locs ls h hP hS hl
  have h : e_X0_measure (q_lim (D_X0_measure)) σ x1 x2 = some qq := h
  unfold e_X0_measure at h
  refine lv_aload_n hx hb dX0_measure_0 rfl (lv_at hl 0 rfl) ?_
  refine x_getr (C := RX0) (k := 0) hx hb hts u_X0_measure_0 hown hK hP (g_DN_0 cI a σ) rfl (by decide) ⟨rfl, rfl, rfl⟩ k_X0_measure_f9 rfl dX0_measure_1 ?_
  refine lv_ldc (v := 1000000) hx hb hown (hts _ k_X0_measure_c15) dX0_measure_4 ?_
  refine x_cSv (p_DN cI a) (p_A cI 10 (q_sub 1 a)) (q_put 1 1 σ) [] [.ref (a 1), .int 1000000] hx hb hml hl.1 hown hts hK hP hD hS hA rfl (c_J7_fill_53178 l D cI tys ht 10 (q_sub 1 a) (q_sub 1 σ) 1000000) gX0_measure_J7_fill_53178 rfl ⟨rfl, rfl⟩ i_J7_fill_53178 ⟨Nat.le_of_ble_eq_true rfl, Nat.le_of_ble_eq_true rfl⟩ (fr_DN_A_1 cI a σ) rfl (Nat.le_of_ble_eq_true rfl) ⟨Nat.zero_le _, Nat.zero_le _⟩ dX0_measure_6 h (fun H locs s3 hP hS h => ?_)
  refine lv_aload_n hx hb dX0_measure_9 rfl (lv_at hl 0 rfl) ?_
  refine x_getr (C := RX0) (k := 0) hx hb hts u_X0_measure_0 hown hK hP (g_DN_0 cI a s3) rfl (by decide) ⟨rfl, rfl, rfl⟩ k_X0_measure_f9 rfl dX0_measure_10 ?_
  refine lv_iload_n hx hb dX0_measure_13 rfl (lv_at hl 2 rfl) ?_
  refine lv_iconst (v := 0) hx hb dX0_measure_14 (by decide +kernel) ?_
  refine x_iast (p_DN cI a) (t0 := 0) hx hb hK hP hD hS ht h (g_DN_1 cI a s3) (fun j9 v9 => (s_DN_1 cI a s3 _)) dX0_measure_15 (fun H locs s4 hP hS h => ?_)
  refine lv_iconst (v := 1) hx hb dX0_measure_16 (by decide +kernel) ?_
  refine lv_istore (lv' := [(4, .int 1), (0, .ref (a 0)), (1, .ref (a 2)), (2, .int x1), (3, .int x2)]) hx hb dX0_measure_17 hl (by decide) rfl (fun ls hl => ?_)
  refine lv_iconst (v := 0) hx hb dX0_measure_19 (by decide +kernel) ?_
  refine lv_istore (lv' := [(5, .int 0), (4, .int 1), (0, .ref (a 0)), (1, .ref (a 2)), (2, .int x1), (3, .int x2)]) hx hb dX0_measure_20 hl (by decide) rfl (fun ls hl => ?_)
  exact i22 s4 x2 1 0 _ _ _ h hP hS (lv_sub hl [2, 3, 5, 1, 0] rfl)
/-! ===== VectorRounds$Holder.keepEntry(LVectorRounds$Tables;II)V: world HT ===== -/
theorem i_X1_keepEntry : yX1_keepEntry.cls = RX1 ∧ yX1_keepEntry.cls ≠ "java/lang/invoke/MethodHandle" ∧ yX1_keepEntry.cls ≠ "java/lang/invoke/VarHandle" ∧ (parseMethodDescriptor yX1_keepEntry.desc).map (fun d => d.parameters.length) = some 3 := by decide +kernel
theorem k_X1_keepEntry_f15 : Cond.fieldLink RX1 15 RX1 "sort" "I" ∈ wsX1_keepEntry := by decide +kernel
theorem k_X1_keepEntry_f19 : Cond.fieldLink RX1 19 RX1 "own" "Z" ∈ wsX1_keepEntry := by decide +kernel
theorem k_X1_keepEntry_f23 : Cond.fieldLink RX1 23 RX4 "metric" "[I" ∈ wsX1_keepEntry := by decide +kernel
theorem k_X1_keepEntry_f28 : Cond.fieldLink RX1 28 RX1 "metric" "I" ∈ wsX1_keepEntry := by decide +kernel
theorem k_X1_keepEntry_f30 : Cond.fieldLink RX1 30 RX4 "via" "[I" ∈ wsX1_keepEntry := by decide +kernel
theorem k_X1_keepEntry_f33 : Cond.fieldLink RX1 33 RX1 "via" "I" ∈ wsX1_keepEntry := by decide +kernel
theorem k_X1_keepEntry_f35 : Cond.fieldLink RX1 35 RX4 "sequence" "[I" ∈ wsX1_keepEntry := by decide +kernel
theorem k_X1_keepEntry_f38 : Cond.fieldLink RX1 38 RX1 "sequence" "I" ∈ wsX1_keepEntry := by decide +kernel
theorem k_X1_keepEntry_f40 : Cond.fieldLink RX1 40 RX4 "held" "[I" ∈ wsX1_keepEntry := by decide +kernel
theorem k_X1_keepEntry_f43 : Cond.fieldLink RX1 43 RX1 "held" "I" ∈ wsX1_keepEntry := by decide +kernel
theorem u_X1_keepEntry_1 : ∀ w ∈ u_ws RX1 TX1 8, w ∈ wsX1_keepEntry := by decide +kernel
theorem u_X1_keepEntry_4 : ∀ w ∈ u_ws RX4 TX4 6, w ∈ wsX1_keepEntry := by decide +kernel
noncomputable def b_X1_keepEntry_24 (σ : qM) (x7 x8 : Int32) : qR :=
  q_bo x8 (q_nm (q_wr σ 0 1 x8) fun s9 =>
  q_rd s9 3 100 x7 fun x11 =>
  q_nm (q_wr s9 0 2 x11) fun s12 =>
  q_rd s12 4 100 x7 fun x13 =>
  q_nm (q_wr s12 0 3 x13) fun s14 =>
  q_rd s14 5 100 x7 fun x15 =>
  q_nm (q_wr s14 0 4 x15) fun s16 =>
  q_rd s16 6 100 x7 fun x17 =>
  q_nm (q_wr s16 0 5 x17) fun s18 =>
  some (0, s18))
noncomputable def f_X1_keepEntry (σ : qM) (x1 : Int32) (x2 : Int32) : qR :=
  q_nm ((x1 * 10)) fun x3 =>
  q_nm ((x3 + x2)) fun x4 =>
  q_nm (q_wr σ 0 0 1) fun s5 =>
  if x1 = x2 then (
  b_X1_keepEntry_24 s5 x4 1)
  else (
  b_X1_keepEntry_24 s5 x4 0)
set_option maxHeartbeats 4000000 in
set_option maxRecDepth 100000 in
theorem c_X1_keepEntry (l : Launch) (D : va_G) (cI : ClassId) (tys : List (ClassId × FieldType)) (ht : tys[0]? = some (cI, .int)) (a : Nat → Nat) (σ : qM) (x1 : Int32) (x2 : Int32) : q_Mev l yX1_keepEntry wsX1_keepEntry ({ frames := 0, cells := 0, slots := 0, locals := 0 }) [.ref (a 0), .ref (a 2), .int x1, .int x2] D tys (p_HT cI a) σ (f_X1_keepEntry σ x1 x2) := by
  refine x_ofWv (cc := cX1_keepEntry) (maxL := 5) (ret := none) (by decide +kernel) rfl (pf_HT cI a) (Nat.le_of_ble_eq_true rfl) ?_
  intro p e s m below meth c A ls qq h hx hb hml hr hlocks hown hts hK hP hD hA hS hl
  have hown : s.vm.findClass RX1 = some m.cls := hown
  have hl : lv_has ls 5 [(0, .ref (a 0)), (1, .ref (a 2)), (2, .int x1), (3, .int x2)] := hl
  have i24 : ∀ (σ : qM) (x7 x8 : Int32) (H : Heap) (locs : List Loc) (ls : Array Slot), b_X1_keepEntry_24 σ x7 x8 = some qq → va_P D vwCl (p_HT cI a σ) H → va_S A s.heap H locs → lv_has ls 5 [(0, .ref (a 0)), (1, .ref (a 2)), (4, .int x7)] → W p l e ({ frames := 0, cells := 0, slots := 0, locals := 0 }) s m [.ref (a 0), .ref (a 2), .int x1, .int x2].toArray below meth c H locs 0 0 (MQ below (va_Qv (fun τ => ((0 : Int32), τ) = qq) (fun τ t => va_P D vwCl ((p_HT cI a) τ) t.heap) A) [.ref (a 0), .ref (a 2), .int x1, .int x2].toArray s 0 0 A) (F0 m 24 ls [.int x8, .ref (a 0)]) := by
    intro σ x7 x8 H locs ls h hP hS hl
    unfold b_X1_keepEntry_24 at h
    have hb10 := (q_bo_of h).1
    have h := (q_bo_of h).2
    refine x_puti (p_HT cI a) (C := RX1) (k := 1) hx hb hts u_X1_keepEntry_1 tyX1 tyX1_ok nmX1 hown hK hP hD hS h (g_HT_0 cI a σ) rfl (by decide) ⟨rfl, rfl, rfl⟩ k_X1_keepEntry_f19 rfl rfl (q_nb hb10).1 (q_nb hb10).2 (Nat.le_of_ble_eq_true rfl) (s_HT_0_1 cI a σ x8) dX1_keepEntry_24 (fun H locs s9 hP hS h => ?_)
    refine lv_aload_n hx hb dX1_keepEntry_27 rfl (lv_at hl 0 rfl) ?_
    refine lv_aload_n hx hb dX1_keepEntry_28 rfl (lv_at hl 1 rfl) ?_
    refine x_getr (C := RX4) (k := 0) hx hb hts u_X1_keepEntry_4 hown hK hP (g_HT_2 cI a s9) rfl (by decide) ⟨rfl, rfl, rfl⟩ k_X1_keepEntry_f23 rfl dX1_keepEntry_29 ?_
    refine lv_iload hx hb dX1_keepEntry_32 (lv_at hl 2 rfl) ?_
    refine x_iald (t0 := 0) hx hb hK hP ht h (g_HT_3 cI a s9) dX1_keepEntry_34 (fun x11 h => ?_)
    refine x_puti (p_HT cI a) (C := RX1) (k := 2) hx hb hts u_X1_keepEntry_1 tyX1 tyX1_ok nmX1 hown hK hP hD hS h (g_HT_0 cI a s9) rfl (by decide) ⟨rfl, rfl, rfl⟩ k_X1_keepEntry_f28 rfl rfl rfl rfl (Nat.le_of_ble_eq_true rfl) (s_HT_0_2 cI a s9 x11) dX1_keepEntry_35 (fun H locs s12 hP hS h => ?_)
    refine lv_aload_n hx hb dX1_keepEntry_38 rfl (lv_at hl 0 rfl) ?_
    refine lv_aload_n hx hb dX1_keepEntry_39 rfl (lv_at hl 1 rfl) ?_
    refine x_getr (C := RX4) (k := 1) hx hb hts u_X1_keepEntry_4 hown hK hP (g_HT_2 cI a s12) rfl (by decide) ⟨rfl, rfl, rfl⟩ k_X1_keepEntry_f30 rfl dX1_keepEntry_40 ?_
    refine lv_iload hx hb dX1_keepEntry_43 (lv_at hl 2 rfl) ?_
    refine x_iald (t0 := 0) hx hb hK hP ht h (g_HT_4 cI a s12) dX1_keepEntry_45 (fun x13 h => ?_)
    refine x_puti (p_HT cI a) (C := RX1) (k := 3) hx hb hts u_X1_keepEntry_1 tyX1 tyX1_ok nmX1 hown hK hP hD hS h (g_HT_0 cI a s12) rfl (by decide) ⟨rfl, rfl, rfl⟩ k_X1_keepEntry_f33 rfl rfl rfl rfl (Nat.le_of_ble_eq_true rfl) (s_HT_0_3 cI a s12 x13) dX1_keepEntry_46 (fun H locs s14 hP hS h => ?_)
    refine lv_aload_n hx hb dX1_keepEntry_49 rfl (lv_at hl 0 rfl) ?_
    refine lv_aload_n hx hb dX1_keepEntry_50 rfl (lv_at hl 1 rfl) ?_
    refine x_getr (C := RX4) (k := 2) hx hb hts u_X1_keepEntry_4 hown hK hP (g_HT_2 cI a s14) rfl (by decide) ⟨rfl, rfl, rfl⟩ k_X1_keepEntry_f35 rfl dX1_keepEntry_51 ?_
    refine lv_iload hx hb dX1_keepEntry_54 (lv_at hl 2 rfl) ?_
    refine x_iald (t0 := 0) hx hb hK hP ht h (g_HT_5 cI a s14) dX1_keepEntry_56 (fun x15 h => ?_)
    refine x_puti (p_HT cI a) (C := RX1) (k := 4) hx hb hts u_X1_keepEntry_1 tyX1 tyX1_ok nmX1 hown hK hP hD hS h (g_HT_0 cI a s14) rfl (by decide) ⟨rfl, rfl, rfl⟩ k_X1_keepEntry_f38 rfl rfl rfl rfl (Nat.le_of_ble_eq_true rfl) (s_HT_0_4 cI a s14 x15) dX1_keepEntry_57 (fun H locs s16 hP hS h => ?_)
    refine lv_aload_n hx hb dX1_keepEntry_60 rfl (lv_at hl 0 rfl) ?_
    refine lv_aload_n hx hb dX1_keepEntry_61 rfl (lv_at hl 1 rfl) ?_
    refine x_getr (C := RX4) (k := 3) hx hb hts u_X1_keepEntry_4 hown hK hP (g_HT_2 cI a s16) rfl (by decide) ⟨rfl, rfl, rfl⟩ k_X1_keepEntry_f40 rfl dX1_keepEntry_62 ?_
    refine lv_iload hx hb dX1_keepEntry_65 (lv_at hl 2 rfl) ?_
    refine x_iald (t0 := 0) hx hb hK hP ht h (g_HT_6 cI a s16) dX1_keepEntry_67 (fun x17 h => ?_)
    refine x_puti (p_HT cI a) (C := RX1) (k := 5) hx hb hts u_X1_keepEntry_1 tyX1 tyX1_ok nmX1 hown hK hP hD hS h (g_HT_0 cI a s16) rfl (by decide) ⟨rfl, rfl, rfl⟩ k_X1_keepEntry_f43 rfl rfl rfl rfl (Nat.le_of_ble_eq_true rfl) (s_HT_0_5 cI a s16 x17) dX1_keepEntry_68 (fun H locs s18 hP hS h => ?_)
    exact x_vret (p_HT cI a) hx hb hr hlocks hP hS dX1_keepEntry_71 h
  unfold f_X1_keepEntry at h
  refine lv_iload_n hx hb dX1_keepEntry_0 rfl (lv_at hl 2 rfl) ?_
  refine lv_bipush (v := 10) hx hb dX1_keepEntry_1 (by decide +kernel) ?_
  refine x_imul hx hb dX1_keepEntry_3 h (fun x3 h => ?_)
  refine lv_iload_n hx hb dX1_keepEntry_4 rfl (lv_at hl 3 rfl) ?_
  refine x_iadd hx hb dX1_keepEntry_5 h (fun x4 h => ?_)
  refine lv_istore (lv' := [(4, .int x4), (0, .ref (a 0)), (1, .ref (a 2)), (2, .int x1), (3, .int x2)]) hx hb dX1_keepEntry_6 hl (by decide) rfl (fun ls hl => ?_)
  refine lv_aload_n hx hb dX1_keepEntry_8 rfl (lv_at hl 1 rfl) ?_
  refine lv_iconst (v := 1) hx hb dX1_keepEntry_9 (by decide +kernel) ?_
  refine x_puti (p_HT cI a) (C := RX1) (k := 0) hx hb hts u_X1_keepEntry_1 tyX1 tyX1_ok nmX1 hown hK hP hD hS h (g_HT_0 cI a σ) rfl (by decide) ⟨rfl, rfl, rfl⟩ k_X1_keepEntry_f15 rfl rfl rfl rfl (Nat.le_of_ble_eq_true rfl) (s_HT_0_0 cI a σ 1) dX1_keepEntry_10 (fun H locs s5 hP hS h => ?_)
  refine lv_aload_n hx hb dX1_keepEntry_13 rfl (lv_at hl 1 rfl) ?_
  refine lv_iload_n hx hb dX1_keepEntry_14 rfl (lv_at hl 3 rfl) ?_
  refine lv_iload_n hx hb dX1_keepEntry_15 rfl (lv_at hl 4 rfl) ?_
  refine lv_icmp_ne (tgt := 23) hx hb dX1_keepEntry_16 (by decide) (fun c6 => ?_) (fun c6 => ?_)
  · have h := if_f c6 h
    refine lv_iconst (v := 0) hx hb dX1_keepEntry_23 (by decide +kernel) ?_
    exact i24 s5 x4 0 _ _ _ h hP hS (lv_sub hl [1, 2, 0] rfl)
  · have h := if_t c6 h
    refine lv_iconst (v := 1) hx hb dX1_keepEntry_19 (by decide +kernel) ?_
    refine lv_goto (tgt := 24) hx hb dX1_keepEntry_20 (by decide) ?_
    exact i24 s5 x4 1 _ _ _ h hP hS (lv_sub hl [1, 2, 0] rfl)
/-! ===== VectorRounds$Holder.keepRow(I)V: world H ===== -/
theorem i_X1_keepRow : yX1_keepRow.cls = RX1 ∧ yX1_keepRow.cls ≠ "java/lang/invoke/MethodHandle" ∧ yX1_keepRow.cls ≠ "java/lang/invoke/VarHandle" ∧ (parseMethodDescriptor yX1_keepRow.desc).map (fun d => d.parameters.length) = some 1 := by decide +kernel
theorem k_X1_keepRow_f15 : Cond.fieldLink RX1 15 RX1 "sort" "I" ∈ wsX1_keepRow := by decide +kernel
theorem k_X1_keepRow_f45 : Cond.fieldLink RX1 45 RX1 "length" "I" ∈ wsX1_keepRow := by decide +kernel
theorem k_X1_keepRow_f9 : Cond.fieldLink RX1 9 RX1 "items" "[I" ∈ wsX1_keepRow := by decide +kernel
theorem u_X1_keepRow_1 : ∀ w ∈ u_ws RX1 TX1 8, w ∈ wsX1_keepRow := by decide +kernel
noncomputable def f_X1_keepRow (σ : qM) (x1 : Int32) : qR :=
  q_nm (q_wr σ 0 0 2) fun s2 =>
  q_nm (q_wr s2 0 7 x1) fun s3 =>
  q_cl (f_J7_fill_53178 60 (q_sub 1 s3) 0) (q_put 1 1 s3) fun _ s4 =>
  some (0, s4)
set_option maxHeartbeats 4000000 in
set_option maxRecDepth 100000 in
theorem c_X1_keepRow (l : Launch) (D : va_G) (cI : ClassId) (tys : List (ClassId × FieldType)) (ht : tys[0]? = some (cI, .int)) (a : Nat → Nat) (σ : qM) (x1 : Int32) : q_Mev l yX1_keepRow wsX1_keepRow ({ frames := 1, cells := 0, slots := 0, locals := 23 }) [.ref (a 0), .int x1] D tys (p_H cI a) σ (f_X1_keepRow σ x1) := by
  refine x_ofWv (cc := cX1_keepRow) (maxL := 2) (ret := none) (by decide +kernel) rfl (pf_H cI a) (Nat.le_of_ble_eq_true rfl) ?_
  intro p e s m below meth c A ls qq h hx hb hml hr hlocks hown hts hK hP hD hA hS hl
  have hown : s.vm.findClass RX1 = some m.cls := hown
  have hl : lv_has ls 2 [(0, .ref (a 0)), (1, .int x1)] := hl
  unfold f_X1_keepRow at h
  refine lv_aload_n hx hb dX1_keepRow_0 rfl (lv_at hl 0 rfl) ?_
  refine lv_iconst (v := 2) hx hb dX1_keepRow_1 (by decide +kernel) ?_
  refine x_puti (p_H cI a) (C := RX1) (k := 0) hx hb hts u_X1_keepRow_1 tyX1 tyX1_ok nmX1 hown hK hP hD hS h (g_H_0 cI a σ) rfl (by decide) ⟨rfl, rfl, rfl⟩ k_X1_keepRow_f15 rfl rfl rfl rfl (Nat.le_of_ble_eq_true rfl) (s_H_0_0 cI a σ 2) dX1_keepRow_2 (fun H locs s2 hP hS h => ?_)
  refine lv_aload_n hx hb dX1_keepRow_5 rfl (lv_at hl 0 rfl) ?_
  refine lv_iload_n hx hb dX1_keepRow_6 rfl (lv_at hl 1 rfl) ?_
  refine x_puti (p_H cI a) (C := RX1) (k := 7) hx hb hts u_X1_keepRow_1 tyX1 tyX1_ok nmX1 hown hK hP hD hS h (g_H_0 cI a s2) rfl (by decide) ⟨rfl, rfl, rfl⟩ k_X1_keepRow_f45 rfl rfl rfl rfl (Nat.le_of_ble_eq_true rfl) (s_H_0_7 cI a s2 x1) dX1_keepRow_7 (fun H locs s3 hP hS h => ?_)
  refine lv_aload_n hx hb dX1_keepRow_10 rfl (lv_at hl 0 rfl) ?_
  refine x_getr (C := RX1) (k := 6) hx hb hts u_X1_keepRow_1 hown hK hP (g_H_0 cI a s3) rfl (by decide) ⟨rfl, rfl, rfl⟩ k_X1_keepRow_f9 rfl dX1_keepRow_11 ?_
  refine lv_iconst (v := 0) hx hb dX1_keepRow_14 (by decide +kernel) ?_
  refine x_cSv (p_H cI a) (p_A cI 60 (q_sub 1 a)) (q_put 1 1 s3) [] [.ref (a 1), .int 0] hx hb hml hl.1 hown hts hK hP hD hS hA rfl (c_J7_fill_53178 l D cI tys ht 60 (q_sub 1 a) (q_sub 1 s3) 0) gX1_keepRow_J7_fill_53178 rfl ⟨rfl, rfl⟩ i_J7_fill_53178 ⟨Nat.le_of_ble_eq_true rfl, Nat.le_of_ble_eq_true rfl⟩ (fr_H_A_1 cI a s3) rfl (Nat.le_of_ble_eq_true rfl) ⟨Nat.zero_le _, Nat.zero_le _⟩ dX1_keepRow_15 h (fun H locs s4 hP hS h => ?_)
  exact x_vret (p_H cI a) hx hb hr hlocks hP hS dX1_keepRow_18 h
/-! ===== VectorRounds$Tape.add(I)I: world P ===== -/
theorem i_X5_add : yX5_add.cls = RX5 ∧ yX5_add.cls ≠ "java/lang/invoke/MethodHandle" ∧ yX5_add.cls ≠ "java/lang/invoke/VarHandle" ∧ (parseMethodDescriptor yX5_add.desc).map (fun d => d.parameters.length) = some 1 := by decide +kernel
theorem k_X5_add_f21 : Cond.fieldLink RX5 21 RX5 "length" "I" ∈ wsX5_add := by decide +kernel
theorem k_X5_add_f9 : Cond.fieldLink RX5 9 RX5 "bytes" "[I" ∈ wsX5_add := by decide +kernel
theorem u_X5_add_5 : ∀ w ∈ u_ws RX5 TX5 6, w ∈ wsX5_add := by decide +kernel
noncomputable def f_X5_add (σ : qM) (x1 : Int32) : qR :=
  q_nm (σ 0 1) fun x2 =>
  q_wt σ 1 120 x2 x1 fun s3 =>
  q_nm (s3 0 1) fun x4 =>
  q_nm ((x4 + 1)) fun x5 =>
  q_nm (q_wr s3 0 1 x5) fun s6 =>
  q_nm (s6 0 1) fun x7 =>
  some (x7, s6)
set_option maxHeartbeats 4000000 in
set_option maxRecDepth 100000 in
theorem c_X5_add (l : Launch) (D : va_G) (cI : ClassId) (tys : List (ClassId × FieldType)) (ht : tys[0]? = some (cI, .int)) (a : Nat → Nat) (σ : qM) (x1 : Int32) : q_Met l yX5_add wsX5_add ({ frames := 0, cells := 0, slots := 0, locals := 0 }) [.ref (a 0), .int x1] D tys (p_P cI a) σ (f_X5_add σ x1) := by
  refine x_ofWi (cc := cX5_add) (maxL := 2) (ret := (some .int)) (by decide +kernel) rfl (pf_P cI a) (Nat.le_of_ble_eq_true rfl) ?_
  intro p e s m below meth c A ls qq h hx hb hml hr hlocks hown hts hK hP hD hA hS hl
  have hown : s.vm.findClass RX5 = some m.cls := hown
  have hl : lv_has ls 2 [(0, .ref (a 0)), (1, .int x1)] := hl
  unfold f_X5_add at h
  refine lv_aload_n hx hb dX5_add_0 rfl (lv_at hl 0 rfl) ?_
  refine x_getr (C := RX5) (k := 0) hx hb hts u_X5_add_5 hown hK hP (g_P_0 cI a σ) rfl (by decide) ⟨rfl, rfl, rfl⟩ k_X5_add_f9 rfl dX5_add_1 ?_
  refine lv_aload_n hx hb dX5_add_4 rfl (lv_at hl 0 rfl) ?_
  refine x_geti (C := RX5) (k := 1) hx hb hts u_X5_add_5 hown hK hP (g_P_0 cI a σ) rfl (by decide) ⟨rfl, rfl, rfl⟩ k_X5_add_f21 rfl dX5_add_5 h (fun x2 h => ?_)
  refine lv_iload_n hx hb dX5_add_8 rfl (lv_at hl 1 rfl) ?_
  refine x_iast (p_P cI a) (t0 := 0) hx hb hK hP hD hS ht h (g_P_1 cI a σ) (fun j9 v9 => (s_P_1 cI a σ _)) dX5_add_9 (fun H locs s3 hP hS h => ?_)
  refine lv_aload_n hx hb dX5_add_10 rfl (lv_at hl 0 rfl) ?_
  refine lv_dup hx hb dX5_add_11 rfl ?_
  refine x_geti (C := RX5) (k := 1) hx hb hts u_X5_add_5 hown hK hP (g_P_0 cI a s3) rfl (by decide) ⟨rfl, rfl, rfl⟩ k_X5_add_f21 rfl dX5_add_12 h (fun x4 h => ?_)
  refine lv_iconst (v := 1) hx hb dX5_add_15 (by decide +kernel) ?_
  refine x_iadd hx hb dX5_add_16 h (fun x5 h => ?_)
  refine x_puti (p_P cI a) (C := RX5) (k := 1) hx hb hts u_X5_add_5 tyX5 tyX5_ok nmX5 hown hK hP hD hS h (g_P_0 cI a s3) rfl (by decide) ⟨rfl, rfl, rfl⟩ k_X5_add_f21 rfl rfl rfl rfl (Nat.le_of_ble_eq_true rfl) (s_P_0_1 cI a s3 x5) dX5_add_17 (fun H locs s6 hP hS h => ?_)
  refine lv_aload_n hx hb dX5_add_20 rfl (lv_at hl 0 rfl) ?_
  refine x_geti (C := RX5) (k := 1) hx hb hts u_X5_add_5 hown hK hP (g_P_0 cI a s6) rfl (by decide) ⟨rfl, rfl, rfl⟩ k_X5_add_f21 rfl dX5_add_21 h (fun x7 h => ?_)
  exact x_iret (p_P cI a) hx hb hr hlocks hP hS dX5_add_24 h
/-! ===== VectorRounds$Tape.isDigit()Z: world P ===== -/
theorem i_X5_isDigit : yX5_isDigit.cls = RX5 ∧ yX5_isDigit.cls ≠ "java/lang/invoke/MethodHandle" ∧ yX5_isDigit.cls ≠ "java/lang/invoke/VarHandle" ∧ (parseMethodDescriptor yX5_isDigit.desc).map (fun d => d.parameters.length) = some 0 := by decide +kernel
theorem k_X5_isDigit_f21 : Cond.fieldLink RX5 21 RX5 "length" "I" ∈ wsX5_isDigit := by decide +kernel
theorem k_X5_isDigit_f28 : Cond.fieldLink RX5 28 RX5 "at" "I" ∈ wsX5_isDigit := by decide +kernel
theorem k_X5_isDigit_f9 : Cond.fieldLink RX5 9 RX5 "bytes" "[I" ∈ wsX5_isDigit := by decide +kernel
theorem u_X5_isDigit_5 : ∀ w ∈ u_ws RX5 TX5 6, w ∈ wsX5_isDigit := by decide +kernel
noncomputable def f_X5_isDigit (σ : qM) : qR :=
  q_nm (σ 0 5) fun x1 =>
  q_nm (σ 0 1) fun x2 =>
  if x2 ≤ x1 then (
  q_bo 0 (some (0, σ)))
  else (
  q_nm (σ 0 5) fun x4 =>
  q_rd σ 1 120 x4 fun x5 =>
  if x5 < 48 then (
  q_bo 0 (some (0, σ)))
  else (
  q_nm (σ 0 5) fun x7 =>
  q_rd σ 1 120 x7 fun x8 =>
  if (57 : Int32) < x8 then (
  q_bo 0 (some (0, σ)))
  else (
  q_bo 1 (some (1, σ)))))
set_option maxHeartbeats 4000000 in
set_option maxRecDepth 100000 in
theorem c_X5_isDigit (l : Launch) (D : va_G) (cI : ClassId) (tys : List (ClassId × FieldType)) (ht : tys[0]? = some (cI, .int)) (a : Nat → Nat) (σ : qM) : q_Met l yX5_isDigit wsX5_isDigit ({ frames := 0, cells := 0, slots := 0, locals := 0 }) [.ref (a 0)] D tys (p_P cI a) σ (f_X5_isDigit σ) := by
  refine x_ofWi (cc := cX5_isDigit) (maxL := 1) (ret := (some .boolean)) (by decide +kernel) rfl (pf_P cI a) (Nat.le_of_ble_eq_true rfl) ?_
  intro p e s m below meth c A ls qq h hx hb hml hr hlocks hown hts hK hP hD hA hS hl
  have hown : s.vm.findClass RX5 = some m.cls := hown
  have hl : lv_has ls 1 [(0, .ref (a 0))] := hl
  unfold f_X5_isDigit at h
  refine lv_aload_n hx hb dX5_isDigit_0 rfl (lv_at hl 0 rfl) ?_
  refine x_geti (C := RX5) (k := 5) hx hb hts u_X5_isDigit_5 hown hK hP (g_P_0 cI a σ) rfl (by decide) ⟨rfl, rfl, rfl⟩ k_X5_isDigit_f28 rfl dX5_isDigit_1 h (fun x1 h => ?_)
  refine lv_aload_n hx hb dX5_isDigit_4 rfl (lv_at hl 0 rfl) ?_
  refine x_geti (C := RX5) (k := 1) hx hb hts u_X5_isDigit_5 hown hK hP (g_P_0 cI a σ) rfl (by decide) ⟨rfl, rfl, rfl⟩ k_X5_isDigit_f21 rfl dX5_isDigit_5 h (fun x2 h => ?_)
  refine lv_icmp_ge (tgt := 43) hx hb dX5_isDigit_8 (by decide) (fun c3 => ?_) (fun c3 => ?_)
  · have h := if_t c3 h
    refine lv_iconst (v := 0) hx hb dX5_isDigit_43 (by decide +kernel) ?_
    exact x_zret (p_P cI a) hx hb hr hlocks hP hS dX5_isDigit_44 h
  · have h := if_f c3 h
    refine lv_aload_n hx hb dX5_isDigit_11 rfl (lv_at hl 0 rfl) ?_
    refine x_getr (C := RX5) (k := 0) hx hb hts u_X5_isDigit_5 hown hK hP (g_P_0 cI a σ) rfl (by decide) ⟨rfl, rfl, rfl⟩ k_X5_isDigit_f9 rfl dX5_isDigit_12 ?_
    refine lv_aload_n hx hb dX5_isDigit_15 rfl (lv_at hl 0 rfl) ?_
    refine x_geti (C := RX5) (k := 5) hx hb hts u_X5_isDigit_5 hown hK hP (g_P_0 cI a σ) rfl (by decide) ⟨rfl, rfl, rfl⟩ k_X5_isDigit_f28 rfl dX5_isDigit_16 h (fun x4 h => ?_)
    refine x_iald (t0 := 0) hx hb hK hP ht h (g_P_1 cI a σ) dX5_isDigit_19 (fun x5 h => ?_)
    refine lv_bipush (v := 48) hx hb dX5_isDigit_20 (by decide +kernel) ?_
    refine lv_icmp_lt (tgt := 43) hx hb dX5_isDigit_22 (by decide) (fun c6 => ?_) (fun c6 => ?_)
    · have h := if_t c6 h
      refine lv_iconst (v := 0) hx hb dX5_isDigit_43 (by decide +kernel) ?_
      exact x_zret (p_P cI a) hx hb hr hlocks hP hS dX5_isDigit_44 h
    · have h := if_f c6 h
      refine lv_aload_n hx hb dX5_isDigit_25 rfl (lv_at hl 0 rfl) ?_
      refine x_getr (C := RX5) (k := 0) hx hb hts u_X5_isDigit_5 hown hK hP (g_P_0 cI a σ) rfl (by decide) ⟨rfl, rfl, rfl⟩ k_X5_isDigit_f9 rfl dX5_isDigit_26 ?_
      refine lv_aload_n hx hb dX5_isDigit_29 rfl (lv_at hl 0 rfl) ?_
      refine x_geti (C := RX5) (k := 5) hx hb hts u_X5_isDigit_5 hown hK hP (g_P_0 cI a σ) rfl (by decide) ⟨rfl, rfl, rfl⟩ k_X5_isDigit_f28 rfl dX5_isDigit_30 h (fun x7 h => ?_)
      refine x_iald (t0 := 0) hx hb hK hP ht h (g_P_1 cI a σ) dX5_isDigit_33 (fun x8 h => ?_)
      refine lv_bipush (v := 57) hx hb dX5_isDigit_34 (by decide +kernel) ?_
      refine lv_icmp_gt (tgt := 43) hx hb dX5_isDigit_36 (by decide) (fun c9 => ?_) (fun c9 => ?_)
      · have h := if_t c9 h
        refine lv_iconst (v := 0) hx hb dX5_isDigit_43 (by decide +kernel) ?_
        exact x_zret (p_P cI a) hx hb hr hlocks hP hS dX5_isDigit_44 h
      · have h := if_f c9 h
        refine lv_iconst (v := 1) hx hb dX5_isDigit_39 (by decide +kernel) ?_
        refine lv_goto (tgt := 44) hx hb dX5_isDigit_40 (by decide) ?_
        exact x_zret (p_P cI a) hx hb hr hlocks hP hS dX5_isDigit_44 h
/-! ===== VectorRounds$Tape.howManyNumbers(I)I: world E ===== -/
theorem i_X5_howManyNumbers : yX5_howManyNumbers.cls ≠ "java/lang/invoke/MethodHandle" ∧ yX5_howManyNumbers.cls ≠ "java/lang/invoke/VarHandle" ∧ (parseMethodDescriptor yX5_howManyNumbers.desc).map (fun d => d.parameters.length) = some 1 := by decide +kernel
noncomputable def f_X5_howManyNumbers (σ : qM) (x1 : Int32) : qR :=
  if x1 = 99 then (
  some (1, σ))
  else if x1 = 100 then (
  some (1, σ))
  else if x1 = 101 then (
  some ((-1), σ))
  else if x1 = 102 then (
  some ((-1), σ))
  else if x1 = 103 then (
  some ((-1), σ))
  else if x1 = 104 then (
  some (1, σ))
  else if x1 = 105 then (
  some ((-1), σ))
  else if x1 = 106 then (
  some ((-1), σ))
  else if x1 = 107 then (
  some ((-1), σ))
  else if x1 = 108 then (
  some (3, σ))
  else if x1 = 109 then (
  some ((-1), σ))
  else if x1 = 110 then (
  some (0, σ))
  else if x1 = 111 then (
  some ((-1), σ))
  else if x1 = 112 then (
  some ((-1), σ))
  else if x1 = 113 then (
  some (1, σ))
  else if x1 = 114 then (
  some (1, σ))
  else if x1 = 115 then (
  some ((-1), σ))
  else if x1 = 116 then (
  some ((-1), σ))
  else if x1 = 117 then (
  some (1, σ))
  else if x1 = 118 then (
  some ((-1), σ))
  else if x1 = 119 then (
  some (2, σ))
  else (
  some ((-1), σ))
set_option maxHeartbeats 4000000 in
set_option maxRecDepth 100000 in
theorem c_X5_howManyNumbers (l : Launch) (D : va_G) (cI : ClassId) (tys : List (ClassId × FieldType)) (ht : tys[0]? = some (cI, .int)) (σ : qM) (x1 : Int32) : q_Met l yX5_howManyNumbers wsX5_howManyNumbers ({ frames := 0, cells := 0, slots := 0, locals := 0 }) [.int x1] D tys (fun _ => []) σ (f_X5_howManyNumbers σ x1) := by
  refine x_ofWi (cc := cX5_howManyNumbers) (maxL := 1) (ret := (some .int)) (by decide +kernel) rfl (fun _ _ => rfl) (Nat.le_of_ble_eq_true rfl) ?_
  intro p e s m below meth c A ls qq h hx hb hml hr hlocks hown hts hK hP hD hA hS hl
  have hown : s.vm.findClass RX5 = some m.cls := hown
  have hl : lv_has ls 1 [(0, .int x1)] := hl
  unfold f_X5_howManyNumbers at h
  refine lv_iload_n hx hb dX5_howManyNumbers_0 rfl (lv_at hl 0 rfl) ?_
  by_cases c2 : x1 = 99
  · have h := if_t c2 h
    refine x_tsw_in (v := 99) (off := 101) (tgt := 102) hx hb dX5_howManyNumbers_1 c2 (by decide +kernel) ?_
    refine lv_iconst (v := 1) hx hb dX5_howManyNumbers_102 (by decide +kernel) ?_
    exact x_iret (p_E) hx hb hr hlocks hP hS dX5_howManyNumbers_103 h
  have h := if_f c2 h
  by_cases c3 : x1 = 100
  · have h := if_t c3 h
    refine x_tsw_in (v := 100) (off := 101) (tgt := 102) hx hb dX5_howManyNumbers_1 c3 (by decide +kernel) ?_
    refine lv_iconst (v := 1) hx hb dX5_howManyNumbers_102 (by decide +kernel) ?_
    exact x_iret (p_E) hx hb hr hlocks hP hS dX5_howManyNumbers_103 h
  have h := if_f c3 h
  by_cases c4 : x1 = 101
  · have h := if_t c4 h
    refine x_tsw_in (v := 101) (off := 107) (tgt := 108) hx hb dX5_howManyNumbers_1 c4 (by decide +kernel) ?_
    refine lv_iconst (v := (-1)) hx hb dX5_howManyNumbers_108 (by decide +kernel) ?_
    exact x_iret (p_E) hx hb hr hlocks hP hS dX5_howManyNumbers_109 h
  have h := if_f c4 h
  by_cases c5 : x1 = 102
  · have h := if_t c5 h
    refine x_tsw_in (v := 102) (off := 107) (tgt := 108) hx hb dX5_howManyNumbers_1 c5 (by decide +kernel) ?_
    refine lv_iconst (v := (-1)) hx hb dX5_howManyNumbers_108 (by decide +kernel) ?_
    exact x_iret (p_E) hx hb hr hlocks hP hS dX5_howManyNumbers_109 h
  have h := if_f c5 h
  by_cases c6 : x1 = 103
  · have h := if_t c6 h
    refine x_tsw_in (v := 103) (off := 107) (tgt := 108) hx hb dX5_howManyNumbers_1 c6 (by decide +kernel) ?_
    refine lv_iconst (v := (-1)) hx hb dX5_howManyNumbers_108 (by decide +kernel) ?_
    exact x_iret (p_E) hx hb hr hlocks hP hS dX5_howManyNumbers_109 h
  have h := if_f c6 h
  by_cases c7 : x1 = 104
  · have h := if_t c7 h
    refine x_tsw_in (v := 104) (off := 101) (tgt := 102) hx hb dX5_howManyNumbers_1 c7 (by decide +kernel) ?_
    refine lv_iconst (v := 1) hx hb dX5_howManyNumbers_102 (by decide +kernel) ?_
    exact x_iret (p_E) hx hb hr hlocks hP hS dX5_howManyNumbers_103 h
  have h := if_f c7 h
  by_cases c8 : x1 = 105
  · have h := if_t c8 h
    refine x_tsw_in (v := 105) (off := 107) (tgt := 108) hx hb dX5_howManyNumbers_1 c8 (by decide +kernel) ?_
    refine lv_iconst (v := (-1)) hx hb dX5_howManyNumbers_108 (by decide +kernel) ?_
    exact x_iret (p_E) hx hb hr hlocks hP hS dX5_howManyNumbers_109 h
  have h := if_f c8 h
  by_cases c9 : x1 = 106
  · have h := if_t c9 h
    refine x_tsw_in (v := 106) (off := 107) (tgt := 108) hx hb dX5_howManyNumbers_1 c9 (by decide +kernel) ?_
    refine lv_iconst (v := (-1)) hx hb dX5_howManyNumbers_108 (by decide +kernel) ?_
    exact x_iret (p_E) hx hb hr hlocks hP hS dX5_howManyNumbers_109 h
  have h := if_f c9 h
  by_cases c10 : x1 = 107
  · have h := if_t c10 h
    refine x_tsw_in (v := 107) (off := 107) (tgt := 108) hx hb dX5_howManyNumbers_1 c10 (by decide +kernel) ?_
    refine lv_iconst (v := (-1)) hx hb dX5_howManyNumbers_108 (by decide +kernel) ?_
    exact x_iret (p_E) hx hb hr hlocks hP hS dX5_howManyNumbers_109 h
  have h := if_f c10 h
  by_cases c11 : x1 = 108
  · have h := if_t c11 h
    refine x_tsw_in (v := 108) (off := 105) (tgt := 106) hx hb dX5_howManyNumbers_1 c11 (by decide +kernel) ?_
    refine lv_iconst (v := 3) hx hb dX5_howManyNumbers_106 (by decide +kernel) ?_
    exact x_iret (p_E) hx hb hr hlocks hP hS dX5_howManyNumbers_107 h
  have h := if_f c11 h
  by_cases c12 : x1 = 109
  · have h := if_t c12 h
    refine x_tsw_in (v := 109) (off := 107) (tgt := 108) hx hb dX5_howManyNumbers_1 c12 (by decide +kernel) ?_
    refine lv_iconst (v := (-1)) hx hb dX5_howManyNumbers_108 (by decide +kernel) ?_
    exact x_iret (p_E) hx hb hr hlocks hP hS dX5_howManyNumbers_109 h
  have h := if_f c12 h
  by_cases c13 : x1 = 110
  · have h := if_t c13 h
    refine x_tsw_in (v := 110) (off := 99) (tgt := 100) hx hb dX5_howManyNumbers_1 c13 (by decide +kernel) ?_
    refine lv_iconst (v := 0) hx hb dX5_howManyNumbers_100 (by decide +kernel) ?_
    exact x_iret (p_E) hx hb hr hlocks hP hS dX5_howManyNumbers_101 h
  have h := if_f c13 h
  by_cases c14 : x1 = 111
  · have h := if_t c14 h
    refine x_tsw_in (v := 111) (off := 107) (tgt := 108) hx hb dX5_howManyNumbers_1 c14 (by decide +kernel) ?_
    refine lv_iconst (v := (-1)) hx hb dX5_howManyNumbers_108 (by decide +kernel) ?_
    exact x_iret (p_E) hx hb hr hlocks hP hS dX5_howManyNumbers_109 h
  have h := if_f c14 h
  by_cases c15 : x1 = 112
  · have h := if_t c15 h
    refine x_tsw_in (v := 112) (off := 107) (tgt := 108) hx hb dX5_howManyNumbers_1 c15 (by decide +kernel) ?_
    refine lv_iconst (v := (-1)) hx hb dX5_howManyNumbers_108 (by decide +kernel) ?_
    exact x_iret (p_E) hx hb hr hlocks hP hS dX5_howManyNumbers_109 h
  have h := if_f c15 h
  by_cases c16 : x1 = 113
  · have h := if_t c16 h
    refine x_tsw_in (v := 113) (off := 101) (tgt := 102) hx hb dX5_howManyNumbers_1 c16 (by decide +kernel) ?_
    refine lv_iconst (v := 1) hx hb dX5_howManyNumbers_102 (by decide +kernel) ?_
    exact x_iret (p_E) hx hb hr hlocks hP hS dX5_howManyNumbers_103 h
  have h := if_f c16 h
  by_cases c17 : x1 = 114
  · have h := if_t c17 h
    refine x_tsw_in (v := 114) (off := 101) (tgt := 102) hx hb dX5_howManyNumbers_1 c17 (by decide +kernel) ?_
    refine lv_iconst (v := 1) hx hb dX5_howManyNumbers_102 (by decide +kernel) ?_
    exact x_iret (p_E) hx hb hr hlocks hP hS dX5_howManyNumbers_103 h
  have h := if_f c17 h
  by_cases c18 : x1 = 115
  · have h := if_t c18 h
    refine x_tsw_in (v := 115) (off := 107) (tgt := 108) hx hb dX5_howManyNumbers_1 c18 (by decide +kernel) ?_
    refine lv_iconst (v := (-1)) hx hb dX5_howManyNumbers_108 (by decide +kernel) ?_
    exact x_iret (p_E) hx hb hr hlocks hP hS dX5_howManyNumbers_109 h
  have h := if_f c18 h
  by_cases c19 : x1 = 116
  · have h := if_t c19 h
    refine x_tsw_in (v := 116) (off := 107) (tgt := 108) hx hb dX5_howManyNumbers_1 c19 (by decide +kernel) ?_
    refine lv_iconst (v := (-1)) hx hb dX5_howManyNumbers_108 (by decide +kernel) ?_
    exact x_iret (p_E) hx hb hr hlocks hP hS dX5_howManyNumbers_109 h
  have h := if_f c19 h
  by_cases c20 : x1 = 117
  · have h := if_t c20 h
    refine x_tsw_in (v := 117) (off := 101) (tgt := 102) hx hb dX5_howManyNumbers_1 c20 (by decide +kernel) ?_
    refine lv_iconst (v := 1) hx hb dX5_howManyNumbers_102 (by decide +kernel) ?_
    exact x_iret (p_E) hx hb hr hlocks hP hS dX5_howManyNumbers_103 h
  have h := if_f c20 h
  by_cases c21 : x1 = 118
  · have h := if_t c21 h
    refine x_tsw_in (v := 118) (off := 107) (tgt := 108) hx hb dX5_howManyNumbers_1 c21 (by decide +kernel) ?_
    refine lv_iconst (v := (-1)) hx hb dX5_howManyNumbers_108 (by decide +kernel) ?_
    exact x_iret (p_E) hx hb hr hlocks hP hS dX5_howManyNumbers_109 h
  have h := if_f c21 h
  by_cases c22 : x1 = 119
  · have h := if_t c22 h
    refine x_tsw_in (v := 119) (off := 103) (tgt := 104) hx hb dX5_howManyNumbers_1 c22 (by decide +kernel) ?_
    refine lv_iconst (v := 2) hx hb dX5_howManyNumbers_104 (by decide +kernel) ?_
    exact x_iret (p_E) hx hb hr hlocks hP hS dX5_howManyNumbers_105 h
  have h := if_f c22 h
  refine x_tsw_out (tgt := 108) hx hb dX5_howManyNumbers_1 21 (by decide) (fun k9 hk9 => ?_) (by decide) ?_
  · rcases (show k9 = 0 ∨ k9 = 1 ∨ k9 = 2 ∨ k9 = 3 ∨ k9 = 4 ∨ k9 = 5 ∨ k9 = 6 ∨ k9 = 7 ∨ k9 = 8 ∨ k9 = 9 ∨ k9 = 10 ∨ k9 = 11 ∨ k9 = 12 ∨ k9 = 13 ∨ k9 = 14 ∨ k9 = 15 ∨ k9 = 16 ∨ k9 = 17 ∨ k9 = 18 ∨ k9 = 19 ∨ k9 = 20 by omega) with rfl | rfl | rfl | rfl | rfl | rfl | rfl | rfl | rfl | rfl | rfl | rfl | rfl | rfl | rfl | rfl | rfl | rfl | rfl | rfl | rfl
    · exact fun h9 => c2 (h9.trans (by decide +kernel))
    · exact fun h9 => c3 (h9.trans (by decide +kernel))
    · exact fun h9 => c4 (h9.trans (by decide +kernel))
    · exact fun h9 => c5 (h9.trans (by decide +kernel))
    · exact fun h9 => c6 (h9.trans (by decide +kernel))
    · exact fun h9 => c7 (h9.trans (by decide +kernel))
    · exact fun h9 => c8 (h9.trans (by decide +kernel))
    · exact fun h9 => c9 (h9.trans (by decide +kernel))
    · exact fun h9 => c10 (h9.trans (by decide +kernel))
    · exact fun h9 => c11 (h9.trans (by decide +kernel))
    · exact fun h9 => c12 (h9.trans (by decide +kernel))
    · exact fun h9 => c13 (h9.trans (by decide +kernel))
    · exact fun h9 => c14 (h9.trans (by decide +kernel))
    · exact fun h9 => c15 (h9.trans (by decide +kernel))
    · exact fun h9 => c16 (h9.trans (by decide +kernel))
    · exact fun h9 => c17 (h9.trans (by decide +kernel))
    · exact fun h9 => c18 (h9.trans (by decide +kernel))
    · exact fun h9 => c19 (h9.trans (by decide +kernel))
    · exact fun h9 => c20 (h9.trans (by decide +kernel))
    · exact fun h9 => c21 (h9.trans (by decide +kernel))
    · exact fun h9 => c22 (h9.trans (by decide +kernel))
  refine lv_iconst (v := (-1)) hx hb dX5_howManyNumbers_108 (by decide +kernel) ?_
  exact x_iret (p_E) hx hb hr hlocks hP hS dX5_howManyNumbers_109 h
/-! ===== VectorRounds$Tape.readNumber(I)Z: world P ===== -/
theorem i_X5_readNumber : yX5_readNumber.cls = RX5 ∧ yX5_readNumber.cls ≠ "java/lang/invoke/MethodHandle" ∧ yX5_readNumber.cls ≠ "java/lang/invoke/VarHandle" ∧ (parseMethodDescriptor yX5_readNumber.desc).map (fun d => d.parameters.length) = some 1 := by decide +kernel
theorem k_X5_readNumber_f18 : Cond.fieldLink RX5 18 RX5 "numbers" "[I" ∈ wsX5_readNumber := by decide +kernel
theorem k_X5_readNumber_f21 : Cond.fieldLink RX5 21 RX5 "length" "I" ∈ wsX5_readNumber := by decide +kernel
theorem k_X5_readNumber_f28 : Cond.fieldLink RX5 28 RX5 "at" "I" ∈ wsX5_readNumber := by decide +kernel
theorem k_X5_readNumber_f9 : Cond.fieldLink RX5 9 RX5 "bytes" "[I" ∈ wsX5_readNumber := by decide +kernel
theorem u_X5_readNumber_5 : ∀ w ∈ u_ws RX5 TX5 6, w ∈ wsX5_readNumber := by decide +kernel
noncomputable def f_X5_readNumber (σ : qM) (x1 : Int32) : qR :=
  q_nm (σ 0 5) fun x2 =>
  q_nm (σ 0 1) fun x3 =>
  if x3 ≤ x2 then (
  q_bo 0 (some (0, σ)))
  else (
  q_nm (σ 0 5) fun x5 =>
  q_rd σ 1 120 x5 fun x6 =>
  if x6 = 32 then (
  q_nm (σ 0 5) fun x8 =>
  q_nm ((x8 + 1)) fun x9 =>
  q_nm (q_wr σ 0 5 x9) fun s10 =>
  q_cl (f_X5_isDigit s10) (fun τ => τ) fun x12 s11 =>
  if x12 = 0 then (
  q_bo 0 (some (0, s11)))
  else (
  q_nm (s11 0 5) fun x14 =>
  q_rd s11 1 120 x14 fun x15 =>
  q_nm ((x15 - 48)) fun x16 =>
  q_wt s11 3 360 x1 x16 fun s17 =>
  q_nm (s17 0 5) fun x18 =>
  q_nm ((x18 + 1)) fun x19 =>
  q_nm (q_wr s17 0 5 x19) fun s20 =>
  q_cl (f_X5_isDigit s20) (fun τ => τ) fun x22 s21 =>
  if x22 = 0 then (
  q_bo 1 (some (1, s21)))
  else (
  q_rd s21 3 360 x1 fun x24 =>
  q_nm ((x24 * 10)) fun x25 =>
  q_nm (s21 0 5) fun x26 =>
  q_rd s21 1 120 x26 fun x27 =>
  q_nm ((x25 + x27)) fun x28 =>
  q_nm ((x28 - 48)) fun x29 =>
  q_wt s21 3 360 x1 x29 fun s30 =>
  q_nm (s30 0 5) fun x31 =>
  q_nm ((x31 + 1)) fun x32 =>
  q_nm (q_wr s30 0 5 x32) fun s33 =>
  q_bo 1 (some (1, s33)))))
  else (
  q_bo 0 (some (0, σ))))
set_option maxHeartbeats 4000000 in
set_option maxRecDepth 100000 in
theorem c_X5_readNumber (l : Launch) (D : va_G) (cI : ClassId) (tys : List (ClassId × FieldType)) (ht : tys[0]? = some (cI, .int)) (a : Nat → Nat) (σ : qM) (x1 : Int32) : q_Met l yX5_readNumber wsX5_readNumber ({ frames := 1, cells := 0, slots := 0, locals := 20 }) [.ref (a 0), .int x1] D tys (p_P cI a) σ (f_X5_readNumber σ x1) := by
  refine x_ofWi (cc := cX5_readNumber) (maxL := 2) (ret := (some .boolean)) (by decide +kernel) rfl (pf_P cI a) (Nat.le_of_ble_eq_true rfl) ?_
  intro p e s m below meth c A ls qq h hx hb hml hr hlocks hown hts hK hP hD hA hS hl
  have hown : s.vm.findClass RX5 = some m.cls := hown
  have hl : lv_has ls 2 [(0, .ref (a 0)), (1, .int x1)] := hl
  unfold f_X5_readNumber at h
  refine lv_aload_n hx hb dX5_readNumber_0 rfl (lv_at hl 0 rfl) ?_
  refine x_geti (C := RX5) (k := 5) hx hb hts u_X5_readNumber_5 hown hK hP (g_P_0 cI a σ) rfl (by decide) ⟨rfl, rfl, rfl⟩ k_X5_readNumber_f28 rfl dX5_readNumber_1 h (fun x2 h => ?_)
  refine lv_aload_n hx hb dX5_readNumber_4 rfl (lv_at hl 0 rfl) ?_
  refine x_geti (C := RX5) (k := 1) hx hb hts u_X5_readNumber_5 hown hK hP (g_P_0 cI a σ) rfl (by decide) ⟨rfl, rfl, rfl⟩ k_X5_readNumber_f21 rfl dX5_readNumber_5 h (fun x3 h => ?_)
  refine lv_icmp_ge (tgt := 25) hx hb dX5_readNumber_8 (by decide) (fun c4 => ?_) (fun c4 => ?_)
  · have h := if_t c4 h
    refine lv_iconst (v := 0) hx hb dX5_readNumber_25 (by decide +kernel) ?_
    exact x_zret (p_P cI a) hx hb hr hlocks hP hS dX5_readNumber_26 h
  · have h := if_f c4 h
    refine lv_aload_n hx hb dX5_readNumber_11 rfl (lv_at hl 0 rfl) ?_
    refine x_getr (C := RX5) (k := 0) hx hb hts u_X5_readNumber_5 hown hK hP (g_P_0 cI a σ) rfl (by decide) ⟨rfl, rfl, rfl⟩ k_X5_readNumber_f9 rfl dX5_readNumber_12 ?_
    refine lv_aload_n hx hb dX5_readNumber_15 rfl (lv_at hl 0 rfl) ?_
    refine x_geti (C := RX5) (k := 5) hx hb hts u_X5_readNumber_5 hown hK hP (g_P_0 cI a σ) rfl (by decide) ⟨rfl, rfl, rfl⟩ k_X5_readNumber_f28 rfl dX5_readNumber_16 h (fun x5 h => ?_)
    refine x_iald (t0 := 0) hx hb hK hP ht h (g_P_1 cI a σ) dX5_readNumber_19 (fun x6 h => ?_)
    refine lv_bipush (v := 32) hx hb dX5_readNumber_20 (by decide +kernel) ?_
    refine lv_icmp_eq (tgt := 27) hx hb dX5_readNumber_22 (by decide) (fun c7 => ?_) (fun c7 => ?_)
    · have h := if_t c7 h
      refine lv_aload_n hx hb dX5_readNumber_27 rfl (lv_at hl 0 rfl) ?_
      refine lv_dup hx hb dX5_readNumber_28 rfl ?_
      refine x_geti (C := RX5) (k := 5) hx hb hts u_X5_readNumber_5 hown hK hP (g_P_0 cI a σ) rfl (by decide) ⟨rfl, rfl, rfl⟩ k_X5_readNumber_f28 rfl dX5_readNumber_29 h (fun x8 h => ?_)
      refine lv_iconst (v := 1) hx hb dX5_readNumber_32 (by decide +kernel) ?_
      refine x_iadd hx hb dX5_readNumber_33 h (fun x9 h => ?_)
      refine x_puti (p_P cI a) (C := RX5) (k := 5) hx hb hts u_X5_readNumber_5 tyX5 tyX5_ok nmX5 hown hK hP hD hS h (g_P_0 cI a σ) rfl (by decide) ⟨rfl, rfl, rfl⟩ k_X5_readNumber_f28 rfl rfl rfl rfl (Nat.le_of_ble_eq_true rfl) (s_P_0_5 cI a σ x9) dX5_readNumber_34 (fun H locs s10 hP hS h => ?_)
      refine lv_aload_n hx hb dX5_readNumber_37 rfl (lv_at hl 0 rfl) ?_
      refine x_cVi (p_P cI a) (p_P cI a) (fun τ => τ) [] [] hx hb hml hl.1 hown hts hK hP hD hS hA rfl (c_X5_isDigit l D cI tys ht a s10) gX5_readNumber_X5_isDigit rfl ⟨rfl, rfl⟩ i_X5_isDigit ⟨Nat.le_of_ble_eq_true rfl, Nat.le_of_ble_eq_true rfl⟩ q_frI (g_P_0 cI a s10) rfl rfl (Nat.le_of_ble_eq_true rfl) ⟨Nat.zero_le _, Nat.zero_le _⟩ dX5_readNumber_38 h (fun x12 H locs s11 hP hS h => ?_)
      refine lv_if_ne (tgt := 46) hx hb dX5_readNumber_41 (by decide) (fun c13 => ?_) (fun c13 => ?_)
      · have h := if_f c13 h
        refine lv_aload_n hx hb dX5_readNumber_46 rfl (lv_at hl 0 rfl) ?_
        refine x_getr (C := RX5) (k := 3) hx hb hts u_X5_readNumber_5 hown hK hP (g_P_0 cI a s11) rfl (by decide) ⟨rfl, rfl, rfl⟩ k_X5_readNumber_f18 rfl dX5_readNumber_47 ?_
        refine lv_iload_n hx hb dX5_readNumber_50 rfl (lv_at hl 1 rfl) ?_
        refine lv_aload_n hx hb dX5_readNumber_51 rfl (lv_at hl 0 rfl) ?_
        refine x_getr (C := RX5) (k := 0) hx hb hts u_X5_readNumber_5 hown hK hP (g_P_0 cI a s11) rfl (by decide) ⟨rfl, rfl, rfl⟩ k_X5_readNumber_f9 rfl dX5_readNumber_52 ?_
        refine lv_aload_n hx hb dX5_readNumber_55 rfl (lv_at hl 0 rfl) ?_
        refine x_geti (C := RX5) (k := 5) hx hb hts u_X5_readNumber_5 hown hK hP (g_P_0 cI a s11) rfl (by decide) ⟨rfl, rfl, rfl⟩ k_X5_readNumber_f28 rfl dX5_readNumber_56 h (fun x14 h => ?_)
        refine x_iald (t0 := 0) hx hb hK hP ht h (g_P_1 cI a s11) dX5_readNumber_59 (fun x15 h => ?_)
        refine lv_bipush (v := 48) hx hb dX5_readNumber_60 (by decide +kernel) ?_
        refine x_isub hx hb dX5_readNumber_62 h (fun x16 h => ?_)
        refine x_iast (p_P cI a) (t0 := 0) hx hb hK hP hD hS ht h (g_P_3 cI a s11) (fun j9 v9 => (s_P_3 cI a s11 _)) dX5_readNumber_63 (fun H locs s17 hP hS h => ?_)
        refine lv_aload_n hx hb dX5_readNumber_64 rfl (lv_at hl 0 rfl) ?_
        refine lv_dup hx hb dX5_readNumber_65 rfl ?_
        refine x_geti (C := RX5) (k := 5) hx hb hts u_X5_readNumber_5 hown hK hP (g_P_0 cI a s17) rfl (by decide) ⟨rfl, rfl, rfl⟩ k_X5_readNumber_f28 rfl dX5_readNumber_66 h (fun x18 h => ?_)
        refine lv_iconst (v := 1) hx hb dX5_readNumber_69 (by decide +kernel) ?_
        refine x_iadd hx hb dX5_readNumber_70 h (fun x19 h => ?_)
        refine x_puti (p_P cI a) (C := RX5) (k := 5) hx hb hts u_X5_readNumber_5 tyX5 tyX5_ok nmX5 hown hK hP hD hS h (g_P_0 cI a s17) rfl (by decide) ⟨rfl, rfl, rfl⟩ k_X5_readNumber_f28 rfl rfl rfl rfl (Nat.le_of_ble_eq_true rfl) (s_P_0_5 cI a s17 x19) dX5_readNumber_71 (fun H locs s20 hP hS h => ?_)
        refine lv_aload_n hx hb dX5_readNumber_74 rfl (lv_at hl 0 rfl) ?_
        refine x_cVi (p_P cI a) (p_P cI a) (fun τ => τ) [] [] hx hb hml hl.1 hown hts hK hP hD hS hA rfl (c_X5_isDigit l D cI tys ht a s20) gX5_readNumber_X5_isDigit rfl ⟨rfl, rfl⟩ i_X5_isDigit ⟨Nat.le_of_ble_eq_true rfl, Nat.le_of_ble_eq_true rfl⟩ q_frI (g_P_0 cI a s20) rfl rfl (Nat.le_of_ble_eq_true rfl) ⟨Nat.zero_le _, Nat.zero_le _⟩ dX5_readNumber_75 h (fun x22 H locs s21 hP hS h => ?_)
        refine lv_if_eq (tgt := 119) hx hb dX5_readNumber_78 (by decide) (fun c23 => ?_) (fun c23 => ?_)
        · have h := if_t c23 h
          refine lv_iconst (v := 1) hx hb dX5_readNumber_119 (by decide +kernel) ?_
          exact x_zret (p_P cI a) hx hb hr hlocks hP hS dX5_readNumber_120 h
        · have h := if_f c23 h
          refine lv_aload_n hx hb dX5_readNumber_81 rfl (lv_at hl 0 rfl) ?_
          refine x_getr (C := RX5) (k := 3) hx hb hts u_X5_readNumber_5 hown hK hP (g_P_0 cI a s21) rfl (by decide) ⟨rfl, rfl, rfl⟩ k_X5_readNumber_f18 rfl dX5_readNumber_82 ?_
          refine lv_iload_n hx hb dX5_readNumber_85 rfl (lv_at hl 1 rfl) ?_
          refine lv_aload_n hx hb dX5_readNumber_86 rfl (lv_at hl 0 rfl) ?_
          refine x_getr (C := RX5) (k := 3) hx hb hts u_X5_readNumber_5 hown hK hP (g_P_0 cI a s21) rfl (by decide) ⟨rfl, rfl, rfl⟩ k_X5_readNumber_f18 rfl dX5_readNumber_87 ?_
          refine lv_iload_n hx hb dX5_readNumber_90 rfl (lv_at hl 1 rfl) ?_
          refine x_iald (t0 := 0) hx hb hK hP ht h (g_P_3 cI a s21) dX5_readNumber_91 (fun x24 h => ?_)
          refine lv_bipush (v := 10) hx hb dX5_readNumber_92 (by decide +kernel) ?_
          refine x_imul hx hb dX5_readNumber_94 h (fun x25 h => ?_)
          refine lv_aload_n hx hb dX5_readNumber_95 rfl (lv_at hl 0 rfl) ?_
          refine x_getr (C := RX5) (k := 0) hx hb hts u_X5_readNumber_5 hown hK hP (g_P_0 cI a s21) rfl (by decide) ⟨rfl, rfl, rfl⟩ k_X5_readNumber_f9 rfl dX5_readNumber_96 ?_
          refine lv_aload_n hx hb dX5_readNumber_99 rfl (lv_at hl 0 rfl) ?_
          refine x_geti (C := RX5) (k := 5) hx hb hts u_X5_readNumber_5 hown hK hP (g_P_0 cI a s21) rfl (by decide) ⟨rfl, rfl, rfl⟩ k_X5_readNumber_f28 rfl dX5_readNumber_100 h (fun x26 h => ?_)
          refine x_iald (t0 := 0) hx hb hK hP ht h (g_P_1 cI a s21) dX5_readNumber_103 (fun x27 h => ?_)
          refine x_iadd hx hb dX5_readNumber_104 h (fun x28 h => ?_)
          refine lv_bipush (v := 48) hx hb dX5_readNumber_105 (by decide +kernel) ?_
          refine x_isub hx hb dX5_readNumber_107 h (fun x29 h => ?_)
          refine x_iast (p_P cI a) (t0 := 0) hx hb hK hP hD hS ht h (g_P_3 cI a s21) (fun j9 v9 => (s_P_3 cI a s21 _)) dX5_readNumber_108 (fun H locs s30 hP hS h => ?_)
          refine lv_aload_n hx hb dX5_readNumber_109 rfl (lv_at hl 0 rfl) ?_
          refine lv_dup hx hb dX5_readNumber_110 rfl ?_
          refine x_geti (C := RX5) (k := 5) hx hb hts u_X5_readNumber_5 hown hK hP (g_P_0 cI a s30) rfl (by decide) ⟨rfl, rfl, rfl⟩ k_X5_readNumber_f28 rfl dX5_readNumber_111 h (fun x31 h => ?_)
          refine lv_iconst (v := 1) hx hb dX5_readNumber_114 (by decide +kernel) ?_
          refine x_iadd hx hb dX5_readNumber_115 h (fun x32 h => ?_)
          refine x_puti (p_P cI a) (C := RX5) (k := 5) hx hb hts u_X5_readNumber_5 tyX5 tyX5_ok nmX5 hown hK hP hD hS h (g_P_0 cI a s30) rfl (by decide) ⟨rfl, rfl, rfl⟩ k_X5_readNumber_f28 rfl rfl rfl rfl (Nat.le_of_ble_eq_true rfl) (s_P_0_5 cI a s30 x32) dX5_readNumber_116 (fun H locs s33 hP hS h => ?_)
          refine lv_iconst (v := 1) hx hb dX5_readNumber_119 (by decide +kernel) ?_
          exact x_zret (p_P cI a) hx hb hr hlocks hP hS dX5_readNumber_120 h
      · have h := if_t c13 h
        refine lv_iconst (v := 0) hx hb dX5_readNumber_44 (by decide +kernel) ?_
        exact x_zret (p_P cI a) hx hb hr hlocks hP hS dX5_readNumber_45 h
    · have h := if_f c7 h
      refine lv_iconst (v := 0) hx hb dX5_readNumber_25 (by decide +kernel) ?_
      exact x_zret (p_P cI a) hx hb hr hlocks hP hS dX5_readNumber_26 h
/-! ===== VectorRounds$Tape.readLine()Z: world P ===== -/
theorem i_X5_readLine : yX5_readLine.cls = RX5 ∧ yX5_readLine.cls ≠ "java/lang/invoke/MethodHandle" ∧ yX5_readLine.cls ≠ "java/lang/invoke/VarHandle" ∧ (parseMethodDescriptor yX5_readLine.desc).map (fun d => d.parameters.length) = some 0 := by decide +kernel
theorem k_X5_readLine_f15 : Cond.fieldLink RX5 15 RX5 "letters" "[I" ∈ wsX5_readLine := by decide +kernel
theorem k_X5_readLine_f21 : Cond.fieldLink RX5 21 RX5 "length" "I" ∈ wsX5_readLine := by decide +kernel
theorem k_X5_readLine_f25 : Cond.fieldLink RX5 25 RX5 "lines" "I" ∈ wsX5_readLine := by decide +kernel
theorem k_X5_readLine_f28 : Cond.fieldLink RX5 28 RX5 "at" "I" ∈ wsX5_readLine := by decide +kernel
theorem k_X5_readLine_f9 : Cond.fieldLink RX5 9 RX5 "bytes" "[I" ∈ wsX5_readLine := by decide +kernel
theorem u_X5_readLine_5 : ∀ w ∈ u_ws RX5 TX5 6, w ∈ wsX5_readLine := by decide +kernel
noncomputable def b_X5_readLine_62 (go : qB) (σ : qM) (x16 x17 : Int32) : qR :=
  if x16 ≤ x17 then (
  q_bo 1 (some (1, σ)))
  else (
  q_nm (σ 0 4) fun x19 =>
  q_nm (((3 : Int32) * x19)) fun x20 =>
  q_nm ((x20 + x17)) fun x21 =>
  q_cl (f_X5_readNumber σ x21) (fun τ => τ) fun x23 s22 =>
  if x23 = 0 then (
  q_bo 0 (some (0, s22)))
  else (
  q_nm (x17 + 1) fun x25 =>
  go 0 s22 [x16, x25]))
noncomputable def D_X5_readLine (go : qB) : qB := fun i σ xs => if i = 0 then (match xs with | [x16, x17] => b_X5_readLine_62 go σ x16 x17 | _ => none) else none
noncomputable def e_X5_readLine (go : qB) (σ : qM) : qR :=
  q_nm (σ 0 5) fun x1 =>
  q_nm (σ 0 1) fun x2 =>
  if x1 < x2 then (
  q_nm (σ 0 5) fun x4 =>
  q_rd σ 1 120 x4 fun x5 =>
  q_cl (f_X5_howManyNumbers σ x5) (fun _ => σ) fun x7 s6 =>
  if (0 : Int32) ≤ x7 then (
  q_nm (s6 0 4) fun x9 =>
  q_nm (s6 0 5) fun x10 =>
  q_rd s6 1 120 x10 fun x11 =>
  q_wt s6 2 120 x9 x11 fun s12 =>
  q_nm (s12 0 5) fun x13 =>
  q_nm ((x13 + 1)) fun x14 =>
  q_nm (q_wr s12 0 5 x14) fun s15 =>
  go 0 s15 [x7, 0])
  else (
  q_bo 0 (some (0, s6))))
  else (
  q_bo 0 (some (0, σ)))
noncomputable def f_X5_readLine (σ : qM) : qR := e_X5_readLine (q_lim (D_X5_readLine)) σ
set_option maxHeartbeats 4000000 in
set_option maxRecDepth 100000 in
theorem c_X5_readLine (l : Launch) (D : va_G) (cI : ClassId) (tys : List (ClassId × FieldType)) (ht : tys[0]? = some (cI, .int)) (a : Nat → Nat) (σ : qM) : q_Met l yX5_readLine wsX5_readLine ({ frames := 2, cells := 0, slots := 0, locals := 41 }) [.ref (a 0)] D tys (p_P cI a) σ (f_X5_readLine σ) := by
  refine x_ofWi (cc := cX5_readLine) (maxL := 3) (ret := (some .boolean)) (by decide +kernel) rfl (pf_P cI a) (Nat.le_of_ble_eq_true rfl) ?_
  intro p e s m below meth c A ls qq h hx hb hml hr hlocks hown hts hK hP hD hA hS hl
  have hown : s.vm.findClass RX5 = some m.cls := hown
  have hl : lv_has ls 3 [(0, .ref (a 0))] := hl
  have main : ∀ k9 : Nat, (∀ (σ : qM) (x16 x17 : Int32) (H : Heap) (locs : List Loc) (ls : Array Slot), q_it (D_X5_readLine) k9 0 σ [x16, x17] = some qq → va_P D vwCl (p_P cI a σ) H → va_S A s.heap H locs → lv_has ls 3 [(0, .ref (a 0)), (1, .int x16), (2, .int x17)] → W p l e ({ frames := 2, cells := 0, slots := 0, locals := 41 }) s m [.ref (a 0)].toArray below meth c H locs 0 0 (MQ below (va_Qi (fun r τ => (r, τ) = qq) (fun τ t => va_P D vwCl ((p_P cI a) τ) t.heap) A) [.ref (a 0)].toArray s 0 0 A) (F0 m 62 ls [])) := by
    intro k9
    induction k9 with
    | zero => exact (fun _ _ _ _ _ _ h _ _ _ => (q_no (show (none : qR) = some qq from h)).elim)
    | succ k9 ih =>
      have i62 := ih
      refine ?_
      · intro σ x16 x17 H locs ls h hP hS hl
        have h : b_X5_readLine_62 (q_it (D_X5_readLine) k9) σ x16 x17 = some qq := h
        unfold b_X5_readLine_62 at h
        refine lv_iload_n hx hb dX5_readLine_62 rfl (lv_at hl 2 rfl) ?_
        refine lv_iload_n hx hb dX5_readLine_63 rfl (lv_at hl 1 rfl) ?_
        refine lv_icmp_ge (tgt := 90) hx hb dX5_readLine_64 (by decide) (fun c18 => ?_) (fun c18 => ?_)
        · have h := if_t c18 h
          refine lv_iconst (v := 1) hx hb dX5_readLine_90 (by decide +kernel) ?_
          exact x_zret (p_P cI a) hx hb hr hlocks hP hS dX5_readLine_91 h
        · have h := if_f c18 h
          refine lv_aload_n hx hb dX5_readLine_67 rfl (lv_at hl 0 rfl) ?_
          refine lv_iconst (v := 3) hx hb dX5_readLine_68 (by decide +kernel) ?_
          refine lv_aload_n hx hb dX5_readLine_69 rfl (lv_at hl 0 rfl) ?_
          refine x_geti (C := RX5) (k := 4) hx hb hts u_X5_readLine_5 hown hK hP (g_P_0 cI a σ) rfl (by decide) ⟨rfl, rfl, rfl⟩ k_X5_readLine_f25 rfl dX5_readLine_70 h (fun x19 h => ?_)
          refine x_imul hx hb dX5_readLine_73 h (fun x20 h => ?_)
          refine lv_iload_n hx hb dX5_readLine_74 rfl (lv_at hl 2 rfl) ?_
          refine x_iadd hx hb dX5_readLine_75 h (fun x21 h => ?_)
          refine x_cVi (p_P cI a) (p_P cI a) (fun τ => τ) [] [.int x21] hx hb hml hl.1 hown hts hK hP hD hS hA rfl (c_X5_readNumber l D cI tys ht a σ x21) gX5_readLine_X5_readNumber rfl ⟨rfl, rfl⟩ i_X5_readNumber ⟨Nat.le_of_ble_eq_true rfl, Nat.le_of_ble_eq_true rfl⟩ q_frI (g_P_0 cI a σ) rfl rfl (Nat.le_of_ble_eq_true rfl) ⟨Nat.zero_le _, Nat.zero_le _⟩ dX5_readLine_76 h (fun x23 H locs s22 hP hS h => ?_)
          refine lv_if_ne (tgt := 84) hx hb dX5_readLine_79 (by decide) (fun c24 => ?_) (fun c24 => ?_)
          · have h := if_f c24 h
            refine x_iinc (k := 2) (w := 1) hx hb dX5_readLine_84 hl rfl (by decide +kernel) (by decide) (fun v9 => [(2, .int v9), (0, .ref (a 0)), (1, .int x16)]) (fun v9 => rfl) h (fun x25 ls hl h => ?_)
            have hl : lv_has ls 3 [(2, .int x25), (0, .ref (a 0)), (1, .int x16)] := hl
            refine lv_goto (tgt := 62) hx hb dX5_readLine_87 (by decide) ?_
            exact i62 s22 x16 x25 _ _ _ h hP hS (lv_sub hl [1, 2, 0] rfl)
          · have h := if_t c24 h
            refine lv_iconst (v := 0) hx hb dX5_readLine_82 (by decide +kernel) ?_
            exact x_zret (p_P cI a) hx hb hr hlocks hP hS dX5_readLine_83 h
  have i62 : ∀ (σ : qM) (x16 x17 : Int32) (H : Heap) (locs : List Loc) (ls : Array Slot), q_lim (D_X5_readLine) 0 σ [x16, x17] = some qq → va_P D vwCl (p_P cI a σ) H → va_S A s.heap H locs → lv_has ls 3 [(0, .ref (a 0)), (1, .int x16), (2, .int x17)] → W p l e ({ frames := 2, cells := 0, slots := 0, locals := 41 }) s m [.ref (a 0)].toArray below meth c H locs 0 0 (MQ below (va_Qi (fun r τ => (r, τ) = qq) (fun τ t => va_P D vwCl ((p_P cI a) τ) t.heap) A) [.ref (a 0)].toArray s 0 0 A) (F0 m 62 ls []) := by
    intro σ x16 x17 H locs ls h hP hS hl
    obtain ⟨k9, h⟩ := q_lim_n h
    exact (main k9) σ x16 x17 H locs ls h hP hS hl
  have h : e_X5_readLine (q_lim (D_X5_readLine)) σ = some qq := h
  unfold e_X5_readLine at h
  refine lv_aload_n hx hb dX5_readLine_0 rfl (lv_at hl 0 rfl) ?_
  refine x_geti (C := RX5) (k := 5) hx hb hts u_X5_readLine_5 hown hK hP (g_P_0 cI a σ) rfl (by decide) ⟨rfl, rfl, rfl⟩ k_X5_readLine_f28 rfl dX5_readLine_1 h (fun x1 h => ?_)
  refine lv_aload_n hx hb dX5_readLine_4 rfl (lv_at hl 0 rfl) ?_
  refine x_geti (C := RX5) (k := 1) hx hb hts u_X5_readLine_5 hown hK hP (g_P_0 cI a σ) rfl (by decide) ⟨rfl, rfl, rfl⟩ k_X5_readLine_f21 rfl dX5_readLine_5 h (fun x2 h => ?_)
  refine lv_icmp_lt (tgt := 13) hx hb dX5_readLine_8 (by decide) (fun c3 => ?_) (fun c3 => ?_)
  · have h := if_t c3 h
    refine lv_aload_n hx hb dX5_readLine_13 rfl (lv_at hl 0 rfl) ?_
    refine x_getr (C := RX5) (k := 0) hx hb hts u_X5_readLine_5 hown hK hP (g_P_0 cI a σ) rfl (by decide) ⟨rfl, rfl, rfl⟩ k_X5_readLine_f9 rfl dX5_readLine_14 ?_
    refine lv_aload_n hx hb dX5_readLine_17 rfl (lv_at hl 0 rfl) ?_
    refine x_geti (C := RX5) (k := 5) hx hb hts u_X5_readLine_5 hown hK hP (g_P_0 cI a σ) rfl (by decide) ⟨rfl, rfl, rfl⟩ k_X5_readLine_f28 rfl dX5_readLine_18 h (fun x4 h => ?_)
    refine x_iald (t0 := 0) hx hb hK hP ht h (g_P_1 cI a σ) dX5_readLine_21 (fun x5 h => ?_)
    refine x_cSi (p_P cI a) (fun _ => []) (fun _ => σ) [] [.int x5] hx hb hml hl.1 hown hts hK hP hD hS hA rfl (c_X5_howManyNumbers l D cI tys ht σ x5) gX5_readLine_X5_howManyNumbers rfl ⟨rfl, rfl⟩ i_X5_howManyNumbers ⟨Nat.le_of_ble_eq_true rfl, Nat.le_of_ble_eq_true rfl⟩ (q_fr0 (fun _ => rfl)) rfl (Nat.le_of_ble_eq_true rfl) ⟨Nat.zero_le _, Nat.zero_le _⟩ dX5_readLine_22 h (fun x7 H locs s6 hP hS h => ?_)
    refine lv_istore_n (lv' := [(1, .int x7), (0, .ref (a 0))]) hx hb dX5_readLine_25 rfl hl (by decide) rfl (fun ls hl => ?_)
    refine lv_iload_n hx hb dX5_readLine_26 rfl (lv_at hl 0 rfl) ?_
    refine lv_if_ge (tgt := 32) hx hb dX5_readLine_27 (by decide) (fun c8 => ?_) (fun c8 => ?_)
    · have h := if_t c8 h
      refine lv_aload_n hx hb dX5_readLine_32 rfl (lv_at hl 1 rfl) ?_
      refine x_getr (C := RX5) (k := 2) hx hb hts u_X5_readLine_5 hown hK hP (g_P_0 cI a s6) rfl (by decide) ⟨rfl, rfl, rfl⟩ k_X5_readLine_f15 rfl dX5_readLine_33 ?_
      refine lv_aload_n hx hb dX5_readLine_36 rfl (lv_at hl 1 rfl) ?_
      refine x_geti (C := RX5) (k := 4) hx hb hts u_X5_readLine_5 hown hK hP (g_P_0 cI a s6) rfl (by decide) ⟨rfl, rfl, rfl⟩ k_X5_readLine_f25 rfl dX5_readLine_37 h (fun x9 h => ?_)
      refine lv_aload_n hx hb dX5_readLine_40 rfl (lv_at hl 1 rfl) ?_
      refine x_getr (C := RX5) (k := 0) hx hb hts u_X5_readLine_5 hown hK hP (g_P_0 cI a s6) rfl (by decide) ⟨rfl, rfl, rfl⟩ k_X5_readLine_f9 rfl dX5_readLine_41 ?_
      refine lv_aload_n hx hb dX5_readLine_44 rfl (lv_at hl 1 rfl) ?_
      refine x_geti (C := RX5) (k := 5) hx hb hts u_X5_readLine_5 hown hK hP (g_P_0 cI a s6) rfl (by decide) ⟨rfl, rfl, rfl⟩ k_X5_readLine_f28 rfl dX5_readLine_45 h (fun x10 h => ?_)
      refine x_iald (t0 := 0) hx hb hK hP ht h (g_P_1 cI a s6) dX5_readLine_48 (fun x11 h => ?_)
      refine x_iast (p_P cI a) (t0 := 0) hx hb hK hP hD hS ht h (g_P_2 cI a s6) (fun j9 v9 => (s_P_2 cI a s6 _)) dX5_readLine_49 (fun H locs s12 hP hS h => ?_)
      refine lv_aload_n hx hb dX5_readLine_50 rfl (lv_at hl 1 rfl) ?_
      refine lv_dup hx hb dX5_readLine_51 rfl ?_
      refine x_geti (C := RX5) (k := 5) hx hb hts u_X5_readLine_5 hown hK hP (g_P_0 cI a s12) rfl (by decide) ⟨rfl, rfl, rfl⟩ k_X5_readLine_f28 rfl dX5_readLine_52 h (fun x13 h => ?_)
      refine lv_iconst (v := 1) hx hb dX5_readLine_55 (by decide +kernel) ?_
      refine x_iadd hx hb dX5_readLine_56 h (fun x14 h => ?_)
      refine x_puti (p_P cI a) (C := RX5) (k := 5) hx hb hts u_X5_readLine_5 tyX5 tyX5_ok nmX5 hown hK hP hD hS h (g_P_0 cI a s12) rfl (by decide) ⟨rfl, rfl, rfl⟩ k_X5_readLine_f28 rfl rfl rfl rfl (Nat.le_of_ble_eq_true rfl) (s_P_0_5 cI a s12 x14) dX5_readLine_57 (fun H locs s15 hP hS h => ?_)
      refine lv_iconst (v := 0) hx hb dX5_readLine_60 (by decide +kernel) ?_
      refine lv_istore_n (lv' := [(2, .int 0), (1, .int x7), (0, .ref (a 0))]) hx hb dX5_readLine_61 rfl hl (by decide) rfl (fun ls hl => ?_)
      exact i62 s15 x7 0 _ _ _ h hP hS (lv_sub hl [2, 1, 0] rfl)
    · have h := if_f c8 h
      refine lv_iconst (v := 0) hx hb dX5_readLine_30 (by decide +kernel) ?_
      exact x_zret (p_P cI a) hx hb hr hlocks hP hS dX5_readLine_31 h
  · have h := if_f c3 h
    refine lv_iconst (v := 0) hx hb dX5_readLine_11 (by decide +kernel) ?_
    exact x_zret (p_P cI a) hx hb hr hlocks hP hS dX5_readLine_12 h
/-! ===== VectorRounds$Tape.readLines()I: world P ===== -/
theorem i_X5_readLines : yX5_readLines.cls = RX5 ∧ yX5_readLines.cls ≠ "java/lang/invoke/MethodHandle" ∧ yX5_readLines.cls ≠ "java/lang/invoke/VarHandle" ∧ (parseMethodDescriptor yX5_readLines.desc).map (fun d => d.parameters.length) = some 0 := by decide +kernel
theorem k_X5_readLines_f21 : Cond.fieldLink RX5 21 RX5 "length" "I" ∈ wsX5_readLines := by decide +kernel
theorem k_X5_readLines_f25 : Cond.fieldLink RX5 25 RX5 "lines" "I" ∈ wsX5_readLines := by decide +kernel
theorem k_X5_readLines_f28 : Cond.fieldLink RX5 28 RX5 "at" "I" ∈ wsX5_readLines := by decide +kernel
theorem k_X5_readLines_f9 : Cond.fieldLink RX5 9 RX5 "bytes" "[I" ∈ wsX5_readLines := by decide +kernel
theorem u_X5_readLines_5 : ∀ w ∈ u_ws RX5 TX5 6, w ∈ wsX5_readLines := by decide +kernel
noncomputable def b_X5_readLines_12 (go : qB) (σ : qM) (x3 : Int32) : qR :=
  if (120 : Int32) ≤ x3 then (
  q_nm (σ 0 5) fun x5 =>
  some (x5, σ))
  else (
  q_cl (f_X5_readLine σ) (fun τ => τ) fun x7 s6 =>
  if x7 = 0 then (
  q_nm (s6 0 5) fun x23 =>
  some (x23, s6))
  else (
  q_nm (s6 0 4) fun x9 =>
  q_nm ((x9 + 1)) fun x10 =>
  q_nm (q_wr s6 0 4 x10) fun s11 =>
  q_nm (s11 0 5) fun x12 =>
  q_nm (s11 0 1) fun x13 =>
  if x12 = x13 then (
  some ((-1), s11))
  else (
  q_nm (s11 0 5) fun x15 =>
  q_rd s11 1 120 x15 fun x16 =>
  if x16 = 59 then (
  q_nm (s11 0 5) fun x18 =>
  q_nm ((x18 + 1)) fun x19 =>
  q_nm (q_wr s11 0 5 x19) fun s20 =>
  q_nm (x3 + 1) fun x21 =>
  go 0 s20 [x21])
  else (
  q_nm (s11 0 5) fun x22 =>
  some (x22, s11)))))
noncomputable def D_X5_readLines (go : qB) : qB := fun i σ xs => if i = 0 then (match xs with | [x3] => b_X5_readLines_12 go σ x3 | _ => none) else none
noncomputable def e_X5_readLines (go : qB) (σ : qM) : qR :=
  q_nm (q_wr σ 0 4 0) fun s1 =>
  q_nm (q_wr s1 0 5 0) fun s2 =>
  go 0 s2 [0]
noncomputable def f_X5_readLines (σ : qM) : qR := e_X5_readLines (q_lim (D_X5_readLines)) σ
set_option maxHeartbeats 4000000 in
set_option maxRecDepth 100000 in
theorem c_X5_readLines (l : Launch) (D : va_G) (cI : ClassId) (tys : List (ClassId × FieldType)) (ht : tys[0]? = some (cI, .int)) (a : Nat → Nat) (σ : qM) : q_Met l yX5_readLines wsX5_readLines ({ frames := 3, cells := 0, slots := 0, locals := 63 }) [.ref (a 0)] D tys (p_P cI a) σ (f_X5_readLines σ) := by
  refine x_ofWi (cc := cX5_readLines) (maxL := 2) (ret := (some .int)) (by decide +kernel) rfl (pf_P cI a) (Nat.le_of_ble_eq_true rfl) ?_
  intro p e s m below meth c A ls qq h hx hb hml hr hlocks hown hts hK hP hD hA hS hl
  have hown : s.vm.findClass RX5 = some m.cls := hown
  have hl : lv_has ls 2 [(0, .ref (a 0))] := hl
  have main : ∀ k9 : Nat, (∀ (σ : qM) (x3 : Int32) (H : Heap) (locs : List Loc) (ls : Array Slot), q_it (D_X5_readLines) k9 0 σ [x3] = some qq → va_P D vwCl (p_P cI a σ) H → va_S A s.heap H locs → lv_has ls 2 [(0, .ref (a 0)), (1, .int x3)] → W p l e ({ frames := 3, cells := 0, slots := 0, locals := 63 }) s m [.ref (a 0)].toArray below meth c H locs 0 0 (MQ below (va_Qi (fun r τ => (r, τ) = qq) (fun τ t => va_P D vwCl ((p_P cI a) τ) t.heap) A) [.ref (a 0)].toArray s 0 0 A) (F0 m 12 ls [])) := by
    intro k9
    induction k9 with
    | zero => exact (fun _ _ _ _ _ h _ _ _ => (q_no (show (none : qR) = some qq from h)).elim)
    | succ k9 ih =>
      have i12 := ih
      refine ?_
      · intro σ x3 H locs ls h hP hS hl
        have h : b_X5_readLines_12 (q_it (D_X5_readLines) k9) σ x3 = some qq := h
        unfold b_X5_readLines_12 at h
        refine lv_iload_n hx hb dX5_readLines_12 rfl (lv_at hl 1 rfl) ?_
        refine lv_bipush (v := 120) hx hb dX5_readLines_13 (by decide +kernel) ?_
        refine lv_icmp_ge (tgt := 88) hx hb dX5_readLines_15 (by decide) (fun c4 => ?_) (fun c4 => ?_)
        · have h := if_t c4 h
          refine lv_aload_n hx hb dX5_readLines_88 rfl (lv_at hl 0 rfl) ?_
          refine x_geti (C := RX5) (k := 5) hx hb hts u_X5_readLines_5 hown hK hP (g_P_0 cI a σ) rfl (by decide) ⟨rfl, rfl, rfl⟩ k_X5_readLines_f28 rfl dX5_readLines_89 h (fun x5 h => ?_)
          exact x_iret (p_P cI a) hx hb hr hlocks hP hS dX5_readLines_92 h
        · have h := if_f c4 h
          refine lv_aload_n hx hb dX5_readLines_18 rfl (lv_at hl 0 rfl) ?_
          refine x_cVi (p_P cI a) (p_P cI a) (fun τ => τ) [] [] hx hb hml hl.1 hown hts hK hP hD hS hA rfl (c_X5_readLine l D cI tys ht a σ) gX5_readLines_X5_readLine rfl ⟨rfl, rfl⟩ i_X5_readLine ⟨Nat.le_of_ble_eq_true rfl, Nat.le_of_ble_eq_true rfl⟩ q_frI (g_P_0 cI a σ) rfl rfl (Nat.le_of_ble_eq_true rfl) ⟨Nat.zero_le _, Nat.zero_le _⟩ dX5_readLines_19 h (fun x7 H locs s6 hP hS h => ?_)
          refine lv_if_ne (tgt := 30) hx hb dX5_readLines_22 (by decide) (fun c8 => ?_) (fun c8 => ?_)
          · have h := if_f c8 h
            refine lv_aload_n hx hb dX5_readLines_30 rfl (lv_at hl 0 rfl) ?_
            refine lv_dup hx hb dX5_readLines_31 rfl ?_
            refine x_geti (C := RX5) (k := 4) hx hb hts u_X5_readLines_5 hown hK hP (g_P_0 cI a s6) rfl (by decide) ⟨rfl, rfl, rfl⟩ k_X5_readLines_f25 rfl dX5_readLines_32 h (fun x9 h => ?_)
            refine lv_iconst (v := 1) hx hb dX5_readLines_35 (by decide +kernel) ?_
            refine x_iadd hx hb dX5_readLines_36 h (fun x10 h => ?_)
            refine x_puti (p_P cI a) (C := RX5) (k := 4) hx hb hts u_X5_readLines_5 tyX5 tyX5_ok nmX5 hown hK hP hD hS h (g_P_0 cI a s6) rfl (by decide) ⟨rfl, rfl, rfl⟩ k_X5_readLines_f25 rfl rfl rfl rfl (Nat.le_of_ble_eq_true rfl) (s_P_0_4 cI a s6 x10) dX5_readLines_37 (fun H locs s11 hP hS h => ?_)
            refine lv_aload_n hx hb dX5_readLines_40 rfl (lv_at hl 0 rfl) ?_
            refine x_geti (C := RX5) (k := 5) hx hb hts u_X5_readLines_5 hown hK hP (g_P_0 cI a s11) rfl (by decide) ⟨rfl, rfl, rfl⟩ k_X5_readLines_f28 rfl dX5_readLines_41 h (fun x12 h => ?_)
            refine lv_aload_n hx hb dX5_readLines_44 rfl (lv_at hl 0 rfl) ?_
            refine x_geti (C := RX5) (k := 1) hx hb hts u_X5_readLines_5 hown hK hP (g_P_0 cI a s11) rfl (by decide) ⟨rfl, rfl, rfl⟩ k_X5_readLines_f21 rfl dX5_readLines_45 h (fun x13 h => ?_)
            refine lv_icmp_ne (tgt := 53) hx hb dX5_readLines_48 (by decide) (fun c14 => ?_) (fun c14 => ?_)
            · have h := if_f c14 h
              refine lv_aload_n hx hb dX5_readLines_53 rfl (lv_at hl 0 rfl) ?_
              refine x_getr (C := RX5) (k := 0) hx hb hts u_X5_readLines_5 hown hK hP (g_P_0 cI a s11) rfl (by decide) ⟨rfl, rfl, rfl⟩ k_X5_readLines_f9 rfl dX5_readLines_54 ?_
              refine lv_aload_n hx hb dX5_readLines_57 rfl (lv_at hl 0 rfl) ?_
              refine x_geti (C := RX5) (k := 5) hx hb hts u_X5_readLines_5 hown hK hP (g_P_0 cI a s11) rfl (by decide) ⟨rfl, rfl, rfl⟩ k_X5_readLines_f28 rfl dX5_readLines_58 h (fun x15 h => ?_)
              refine x_iald (t0 := 0) hx hb hK hP ht h (g_P_1 cI a s11) dX5_readLines_61 (fun x16 h => ?_)
              refine lv_bipush (v := 59) hx hb dX5_readLines_62 (by decide +kernel) ?_
              refine lv_icmp_eq (tgt := 72) hx hb dX5_readLines_64 (by decide) (fun c17 => ?_) (fun c17 => ?_)
              · have h := if_t c17 h
                refine lv_aload_n hx hb dX5_readLines_72 rfl (lv_at hl 0 rfl) ?_
                refine lv_dup hx hb dX5_readLines_73 rfl ?_
                refine x_geti (C := RX5) (k := 5) hx hb hts u_X5_readLines_5 hown hK hP (g_P_0 cI a s11) rfl (by decide) ⟨rfl, rfl, rfl⟩ k_X5_readLines_f28 rfl dX5_readLines_74 h (fun x18 h => ?_)
                refine lv_iconst (v := 1) hx hb dX5_readLines_77 (by decide +kernel) ?_
                refine x_iadd hx hb dX5_readLines_78 h (fun x19 h => ?_)
                refine x_puti (p_P cI a) (C := RX5) (k := 5) hx hb hts u_X5_readLines_5 tyX5 tyX5_ok nmX5 hown hK hP hD hS h (g_P_0 cI a s11) rfl (by decide) ⟨rfl, rfl, rfl⟩ k_X5_readLines_f28 rfl rfl rfl rfl (Nat.le_of_ble_eq_true rfl) (s_P_0_5 cI a s11 x19) dX5_readLines_79 (fun H locs s20 hP hS h => ?_)
                refine x_iinc (k := 1) (w := 1) hx hb dX5_readLines_82 hl rfl (by decide +kernel) (by decide) (fun v9 => [(1, .int v9), (0, .ref (a 0))]) (fun v9 => rfl) h (fun x21 ls hl h => ?_)
                have hl : lv_has ls 2 [(1, .int x21), (0, .ref (a 0))] := hl
                refine lv_goto (tgt := 12) hx hb dX5_readLines_85 (by decide) ?_
                exact i12 s20 x21 _ _ _ h hP hS (lv_sub hl [1, 0] rfl)
              · have h := if_f c17 h
                refine lv_aload_n hx hb dX5_readLines_67 rfl (lv_at hl 0 rfl) ?_
                refine x_geti (C := RX5) (k := 5) hx hb hts u_X5_readLines_5 hown hK hP (g_P_0 cI a s11) rfl (by decide) ⟨rfl, rfl, rfl⟩ k_X5_readLines_f28 rfl dX5_readLines_68 h (fun x22 h => ?_)
                exact x_iret (p_P cI a) hx hb hr hlocks hP hS dX5_readLines_71 h
            · have h := if_t c14 h
              refine lv_iconst (v := (-1)) hx hb dX5_readLines_51 (by decide +kernel) ?_
              exact x_iret (p_P cI a) hx hb hr hlocks hP hS dX5_readLines_52 h
          · have h := if_t c8 h
            refine lv_aload_n hx hb dX5_readLines_25 rfl (lv_at hl 0 rfl) ?_
            refine x_geti (C := RX5) (k := 5) hx hb hts u_X5_readLines_5 hown hK hP (g_P_0 cI a s6) rfl (by decide) ⟨rfl, rfl, rfl⟩ k_X5_readLines_f28 rfl dX5_readLines_26 h (fun x23 h => ?_)
            exact x_iret (p_P cI a) hx hb hr hlocks hP hS dX5_readLines_29 h
  have i12 : ∀ (σ : qM) (x3 : Int32) (H : Heap) (locs : List Loc) (ls : Array Slot), q_lim (D_X5_readLines) 0 σ [x3] = some qq → va_P D vwCl (p_P cI a σ) H → va_S A s.heap H locs → lv_has ls 2 [(0, .ref (a 0)), (1, .int x3)] → W p l e ({ frames := 3, cells := 0, slots := 0, locals := 63 }) s m [.ref (a 0)].toArray below meth c H locs 0 0 (MQ below (va_Qi (fun r τ => (r, τ) = qq) (fun τ t => va_P D vwCl ((p_P cI a) τ) t.heap) A) [.ref (a 0)].toArray s 0 0 A) (F0 m 12 ls []) := by
    intro σ x3 H locs ls h hP hS hl
    obtain ⟨k9, h⟩ := q_lim_n h
    exact (main k9) σ x3 H locs ls h hP hS hl
  have h : e_X5_readLines (q_lim (D_X5_readLines)) σ = some qq := h
  unfold e_X5_readLines at h
  refine lv_aload_n hx hb dX5_readLines_0 rfl (lv_at hl 0 rfl) ?_
  refine lv_iconst (v := 0) hx hb dX5_readLines_1 (by decide +kernel) ?_
  refine x_puti (p_P cI a) (C := RX5) (k := 4) hx hb hts u_X5_readLines_5 tyX5 tyX5_ok nmX5 hown hK hP hD hS h (g_P_0 cI a σ) rfl (by decide) ⟨rfl, rfl, rfl⟩ k_X5_readLines_f25 rfl rfl rfl rfl (Nat.le_of_ble_eq_true rfl) (s_P_0_4 cI a σ 0) dX5_readLines_2 (fun H locs s1 hP hS h => ?_)
  refine lv_aload_n hx hb dX5_readLines_5 rfl (lv_at hl 0 rfl) ?_
  refine lv_iconst (v := 0) hx hb dX5_readLines_6 (by decide +kernel) ?_
  refine x_puti (p_P cI a) (C := RX5) (k := 5) hx hb hts u_X5_readLines_5 tyX5 tyX5_ok nmX5 hown hK hP hD hS h (g_P_0 cI a s1) rfl (by decide) ⟨rfl, rfl, rfl⟩ k_X5_readLines_f28 rfl rfl rfl rfl (Nat.le_of_ble_eq_true rfl) (s_P_0_5 cI a s1 0) dX5_readLines_7 (fun H locs s2 hP hS h => ?_)
  refine lv_iconst (v := 0) hx hb dX5_readLines_10 (by decide +kernel) ?_
  refine lv_istore_n (lv' := [(1, .int 0), (0, .ref (a 0))]) hx hb dX5_readLines_11 rfl hl (by decide) rfl (fun ls hl => ?_)
  exact i12 s2 0 _ _ _ h hP hS (lv_sub hl [1, 0] rfl)
end
