section
-- ===== PART A: goes FIRST, ahead of the names: the tables' words, and 'selects' of the private methods out of them =====
/-- a private method of a class that the tables say can be made, by its rows of tables_1 -/
def lw_okq (q : MethodName × Nat) : Prop := (q.1.cls ≠ "java/lang/invoke/MethodHandle" ∧ q.1.cls ≠ "java/lang/invoke/VarHandle") ∧ Cond.instantiable q.1.cls q.2 ∈ tables_1 ∧ Cond.privateMethod q.1 ∈ tables_1 ∧ Cond.instanceMethod q.1 ∈ tables_1
theorem lw_p0 : lw_okq (⟨"RocketsAsk", "refuse", "(I)I"⟩, 12) := ⟨⟨by decide +kernel, by decide +kernel⟩, List.mem_of_getElem? (i := 14) (by decide +kernel), List.mem_of_getElem? (i := 119) (by decide +kernel), List.mem_of_getElem? (i := 120) (by decide +kernel)⟩
theorem lw_p1 : lw_okq (⟨"RocketsAsk", "wrongLetter", "(I)I"⟩, 12) := ⟨⟨by decide +kernel, by decide +kernel⟩, List.mem_of_getElem? (i := 14) (by decide +kernel), List.mem_of_getElem? (i := 127) (by decide +kernel), List.mem_of_getElem? (i := 128) (by decide +kernel)⟩
theorem lw_p2 : lw_okq (⟨"RocketsAsk", "comesToMind", "(I)Z"⟩, 12) := ⟨⟨by decide +kernel, by decide +kernel⟩, List.mem_of_getElem? (i := 14) (by decide +kernel), List.mem_of_getElem? (i := 234) (by decide +kernel), List.mem_of_getElem? (i := 235) (by decide +kernel)⟩
theorem lw_p3 : lw_okq (⟨"RocketsAsk", "rocketComes", "(I)Z"⟩, 12) := ⟨⟨by decide +kernel, by decide +kernel⟩, List.mem_of_getElem? (i := 14) (by decide +kernel), List.mem_of_getElem? (i := 238) (by decide +kernel), List.mem_of_getElem? (i := 239) (by decide +kernel)⟩
theorem lw_p4 : lw_okq (⟨"RocketsAsk", "numberAt", "(II)I"⟩, 12) := ⟨⟨by decide +kernel, by decide +kernel⟩, List.mem_of_getElem? (i := 14) (by decide +kernel), List.mem_of_getElem? (i := 242) (by decide +kernel), List.mem_of_getElem? (i := 243) (by decide +kernel)⟩
theorem lw_p5 : lw_okq (⟨"RocketsAsk", "rocketGoesUp", "(I)Z"⟩, 12) := ⟨⟨by decide +kernel, by decide +kernel⟩, List.mem_of_getElem? (i := 14) (by decide +kernel), List.mem_of_getElem? (i := 254) (by decide +kernel), List.mem_of_getElem? (i := 255) (by decide +kernel)⟩
theorem lw_p6 : lw_okq (⟨"RocketsAsk", "rocketGoesBack", "(I)Z"⟩, 12) := ⟨⟨by decide +kernel, by decide +kernel⟩, List.mem_of_getElem? (i := 14) (by decide +kernel), List.mem_of_getElem? (i := 296) (by decide +kernel), List.mem_of_getElem? (i := 297) (by decide +kernel)⟩
theorem lw_p7 : lw_okq (⟨"RocketsAsk", "nightsGoBy", "(I)Z"⟩, 12) := ⟨⟨by decide +kernel, by decide +kernel⟩, List.mem_of_getElem? (i := 14) (by decide +kernel), List.mem_of_getElem? (i := 306) (by decide +kernel), List.mem_of_getElem? (i := 307) (by decide +kernel)⟩
theorem lw_p8 : lw_okq (⟨"RocketsAsk", "thinkOn", "(I)V"⟩, 12) := ⟨⟨by decide +kernel, by decide +kernel⟩, List.mem_of_getElem? (i := 14) (by decide +kernel), List.mem_of_getElem? (i := 394) (by decide +kernel), List.mem_of_getElem? (i := 395) (by decide +kernel)⟩
theorem lw_p9 : lw_okq (⟨"RocketsAsk", "firstWhole", "()I"⟩, 12) := ⟨⟨by decide +kernel, by decide +kernel⟩, List.mem_of_getElem? (i := 14) (by decide +kernel), List.mem_of_getElem? (i := 409) (by decide +kernel), List.mem_of_getElem? (i := 410) (by decide +kernel)⟩
theorem lw_p10 : lw_okq (⟨"RocketsAsk", "nightsUntilWhole", "(I)I"⟩, 12) := ⟨⟨by decide +kernel, by decide +kernel⟩, List.mem_of_getElem? (i := 14) (by decide +kernel), List.mem_of_getElem? (i := 413) (by decide +kernel), List.mem_of_getElem? (i := 414) (by decide +kernel)⟩
theorem lw_p11 : lw_okq (⟨"RocketsAsk", "nightsUntilSpent", "()I"⟩, 12) := ⟨⟨by decide +kernel, by decide +kernel⟩, List.mem_of_getElem? (i := 14) (by decide +kernel), List.mem_of_getElem? (i := 427) (by decide +kernel), List.mem_of_getElem? (i := 428) (by decide +kernel)⟩
theorem lw_p12 : lw_okq (⟨"RocketsAsk", "noteWhatIsBrought", "(I)V"⟩, 12) := ⟨⟨by decide +kernel, by decide +kernel⟩, List.mem_of_getElem? (i := 14) (by decide +kernel), List.mem_of_getElem? (i := 435) (by decide +kernel), List.mem_of_getElem? (i := 436) (by decide +kernel)⟩
theorem lw_p13 : lw_okq (⟨"RocketsAsk", "fewestRockets", "(I)I"⟩, 12) := ⟨⟨by decide +kernel, by decide +kernel⟩, List.mem_of_getElem? (i := 14) (by decide +kernel), List.mem_of_getElem? (i := 442) (by decide +kernel), List.mem_of_getElem? (i := 443) (by decide +kernel)⟩
theorem lw_p14 : lw_okq (⟨"RocketsAsk", "makesWhole", "(II)Z"⟩, 12) := ⟨⟨by decide +kernel, by decide +kernel⟩, List.mem_of_getElem? (i := 14) (by decide +kernel), List.mem_of_getElem? (i := 446) (by decide +kernel), List.mem_of_getElem? (i := 447) (by decide +kernel)⟩
theorem lw_p15 : lw_okq (⟨"RocketsAsk", "leastCost", "(I)I"⟩, 12) := ⟨⟨by decide +kernel, by decide +kernel⟩, List.mem_of_getElem? (i := 14) (by decide +kernel), List.mem_of_getElem? (i := 450) (by decide +kernel), List.mem_of_getElem? (i := 451) (by decide +kernel)⟩
def lw_privs_1 : List (MethodName × Nat) := [(⟨"RocketsAsk", "refuse", "(I)I"⟩, 12), (⟨"RocketsAsk", "wrongLetter", "(I)I"⟩, 12), (⟨"RocketsAsk", "comesToMind", "(I)Z"⟩, 12), (⟨"RocketsAsk", "rocketComes", "(I)Z"⟩, 12), (⟨"RocketsAsk", "numberAt", "(II)I"⟩, 12), (⟨"RocketsAsk", "rocketGoesUp", "(I)Z"⟩, 12), (⟨"RocketsAsk", "rocketGoesBack", "(I)Z"⟩, 12), (⟨"RocketsAsk", "nightsGoBy", "(I)Z"⟩, 12), (⟨"RocketsAsk", "thinkOn", "(I)V"⟩, 12), (⟨"RocketsAsk", "firstWhole", "()I"⟩, 12), (⟨"RocketsAsk", "nightsUntilWhole", "(I)I"⟩, 12), (⟨"RocketsAsk", "nightsUntilSpent", "()I"⟩, 12), (⟨"RocketsAsk", "noteWhatIsBrought", "(I)V"⟩, 12), (⟨"RocketsAsk", "fewestRockets", "(I)I"⟩, 12), (⟨"RocketsAsk", "makesWhole", "(II)Z"⟩, 12), (⟨"RocketsAsk", "leastCost", "(I)I"⟩, 12)]
theorem lw_r1 : ∀ q ∈ lw_privs_1, lw_okq q := List.forall_mem_cons.mpr ⟨lw_p0, List.forall_mem_cons.mpr ⟨lw_p1, List.forall_mem_cons.mpr ⟨lw_p2, List.forall_mem_cons.mpr ⟨lw_p3, List.forall_mem_cons.mpr ⟨lw_p4, List.forall_mem_cons.mpr ⟨lw_p5, List.forall_mem_cons.mpr ⟨lw_p6, List.forall_mem_cons.mpr ⟨lw_p7, List.forall_mem_cons.mpr ⟨lw_p8, List.forall_mem_cons.mpr ⟨lw_p9, List.forall_mem_cons.mpr ⟨lw_p10, List.forall_mem_cons.mpr ⟨lw_p11, List.forall_mem_cons.mpr ⟨lw_p12, List.forall_mem_cons.mpr ⟨lw_p13, List.forall_mem_cons.mpr ⟨lw_p14, List.forall_mem_cons.mpr ⟨lw_p15, fun _ h => absurd h List.not_mem_nil⟩⟩⟩⟩⟩⟩⟩⟩⟩⟩⟩⟩⟩⟩⟩⟩
theorem lw_p16 : lw_okq (⟨"RocketsAsk", "costOfChosen", "(I)I"⟩, 12) := ⟨⟨by decide +kernel, by decide +kernel⟩, List.mem_of_getElem? (i := 14) (by decide +kernel), List.mem_of_getElem? (i := 454) (by decide +kernel), List.mem_of_getElem? (i := 455) (by decide +kernel)⟩
theorem lw_p17 : lw_okq (⟨"RocketsAsk", "bestToSpend", "(IZ)I"⟩, 12) := ⟨⟨by decide +kernel, by decide +kernel⟩, List.mem_of_getElem? (i := 14) (by decide +kernel), List.mem_of_getElem? (i := 475) (by decide +kernel), List.mem_of_getElem? (i := 476) (by decide +kernel)⟩
theorem lw_p18 : lw_okq (⟨"RocketsAsk", "wordsHadBySpending", "(IIZ)I"⟩, 12) := ⟨⟨by decide +kernel, by decide +kernel⟩, List.mem_of_getElem? (i := 14) (by decide +kernel), List.mem_of_getElem? (i := 484) (by decide +kernel), List.mem_of_getElem? (i := 485) (by decide +kernel)⟩
theorem lw_p19 : lw_okq (⟨"RocketsAsk", "longestDark", "()I"⟩, 12) := ⟨⟨by decide +kernel, by decide +kernel⟩, List.mem_of_getElem? (i := 14) (by decide +kernel), List.mem_of_getElem? (i := 497) (by decide +kernel), List.mem_of_getElem? (i := 498) (by decide +kernel)⟩
theorem lw_p20 : lw_okq (⟨"RocketsAsk", "costOfTheBox", "()I"⟩, 12) := ⟨⟨by decide +kernel, by decide +kernel⟩, List.mem_of_getElem? (i := 14) (by decide +kernel), List.mem_of_getElem? (i := 501) (by decide +kernel), List.mem_of_getElem? (i := 502) (by decide +kernel)⟩
theorem lw_p21 : lw_okq (⟨"RocketsAsk", "lackingWords", "()I"⟩, 12) := ⟨⟨by decide +kernel, by decide +kernel⟩, List.mem_of_getElem? (i := 14) (by decide +kernel), List.mem_of_getElem? (i := 513) (by decide +kernel), List.mem_of_getElem? (i := 514) (by decide +kernel)⟩
theorem lw_p22 : lw_okq (⟨"RocketsAsk", "knownWords", "()I"⟩, 12) := ⟨⟨by decide +kernel, by decide +kernel⟩, List.mem_of_getElem? (i := 14) (by decide +kernel), List.mem_of_getElem? (i := 517) (by decide +kernel), List.mem_of_getElem? (i := 518) (by decide +kernel)⟩
theorem lw_p23 : lw_okq (⟨"RocketsAsk", "rarestWord", "()I"⟩, 12) := ⟨⟨by decide +kernel, by decide +kernel⟩, List.mem_of_getElem? (i := 14) (by decide +kernel), List.mem_of_getElem? (i := 521) (by decide +kernel), List.mem_of_getElem? (i := 522) (by decide +kernel)⟩
theorem lw_p24 : lw_okq (⟨"RocketsAsk", "noteWhatPairGets", "(IIII)V"⟩, 12) := ⟨⟨by decide +kernel, by decide +kernel⟩, List.mem_of_getElem? (i := 14) (by decide +kernel), List.mem_of_getElem? (i := 544) (by decide +kernel), List.mem_of_getElem? (i := 545) (by decide +kernel)⟩
theorem lw_p25 : lw_okq (⟨"RocketsAsk", "gain", "(II)I"⟩, 12) := ⟨⟨by decide +kernel, by decide +kernel⟩, List.mem_of_getElem? (i := 14) (by decide +kernel), List.mem_of_getElem? (i := 548) (by decide +kernel), List.mem_of_getElem? (i := 549) (by decide +kernel)⟩
theorem lw_p26 : lw_okq (⟨"RocketsAsk", "refuseLong", "(I)J"⟩, 12) := ⟨⟨by decide +kernel, by decide +kernel⟩, List.mem_of_getElem? (i := 14) (by decide +kernel), List.mem_of_getElem? (i := 556) (by decide +kernel), List.mem_of_getElem? (i := 557) (by decide +kernel)⟩
theorem lw_p27 : lw_okq (⟨"RocketsAsk", "isWholeAfter", "(III)Z"⟩, 12) := ⟨⟨by decide +kernel, by decide +kernel⟩, List.mem_of_getElem? (i := 14) (by decide +kernel), List.mem_of_getElem? (i := 561) (by decide +kernel), List.mem_of_getElem? (i := 562) (by decide +kernel)⟩
theorem lw_p28 : lw_okq (⟨"RocketsAsk", "rowFitsMind", "()Z"⟩, 12) := ⟨⟨by decide +kernel, by decide +kernel⟩, List.mem_of_getElem? (i := 14) (by decide +kernel), List.mem_of_getElem? (i := 583) (by decide +kernel), List.mem_of_getElem? (i := 584) (by decide +kernel)⟩
theorem lw_p29 : lw_okq (⟨"RocketsAsk", "refusalsOf", "(I)I"⟩, 12) := ⟨⟨by decide +kernel, by decide +kernel⟩, List.mem_of_getElem? (i := 14) (by decide +kernel), List.mem_of_getElem? (i := 619) (by decide +kernel), List.mem_of_getElem? (i := 620) (by decide +kernel)⟩
theorem lw_p30 : lw_okq (⟨"RocketsAskModel", "no", "(I)I"⟩, 13) := ⟨⟨by decide +kernel, by decide +kernel⟩, List.mem_of_getElem? (i := 623) (by decide +kernel), List.mem_of_getElem? (i := 673) (by decide +kernel), List.mem_of_getElem? (i := 674) (by decide +kernel)⟩
theorem lw_p31 : lw_okq (⟨"RocketsAskModel", "readsStatement", "()Z"⟩, 13) := ⟨⟨by decide +kernel, by decide +kernel⟩, List.mem_of_getElem? (i := 623) (by decide +kernel), List.mem_of_getElem? (i := 681) (by decide +kernel), List.mem_of_getElem? (i := 682) (by decide +kernel)⟩
def lw_privs_2 : List (MethodName × Nat) := [(⟨"RocketsAsk", "costOfChosen", "(I)I"⟩, 12), (⟨"RocketsAsk", "bestToSpend", "(IZ)I"⟩, 12), (⟨"RocketsAsk", "wordsHadBySpending", "(IIZ)I"⟩, 12), (⟨"RocketsAsk", "longestDark", "()I"⟩, 12), (⟨"RocketsAsk", "costOfTheBox", "()I"⟩, 12), (⟨"RocketsAsk", "lackingWords", "()I"⟩, 12), (⟨"RocketsAsk", "knownWords", "()I"⟩, 12), (⟨"RocketsAsk", "rarestWord", "()I"⟩, 12), (⟨"RocketsAsk", "noteWhatPairGets", "(IIII)V"⟩, 12), (⟨"RocketsAsk", "gain", "(II)I"⟩, 12), (⟨"RocketsAsk", "refuseLong", "(I)J"⟩, 12), (⟨"RocketsAsk", "isWholeAfter", "(III)Z"⟩, 12), (⟨"RocketsAsk", "rowFitsMind", "()Z"⟩, 12), (⟨"RocketsAsk", "refusalsOf", "(I)I"⟩, 12), (⟨"RocketsAskModel", "no", "(I)I"⟩, 13), (⟨"RocketsAskModel", "readsStatement", "()Z"⟩, 13)]
theorem lw_r2 : ∀ q ∈ lw_privs_2, lw_okq q := List.forall_mem_cons.mpr ⟨lw_p16, List.forall_mem_cons.mpr ⟨lw_p17, List.forall_mem_cons.mpr ⟨lw_p18, List.forall_mem_cons.mpr ⟨lw_p19, List.forall_mem_cons.mpr ⟨lw_p20, List.forall_mem_cons.mpr ⟨lw_p21, List.forall_mem_cons.mpr ⟨lw_p22, List.forall_mem_cons.mpr ⟨lw_p23, List.forall_mem_cons.mpr ⟨lw_p24, List.forall_mem_cons.mpr ⟨lw_p25, List.forall_mem_cons.mpr ⟨lw_p26, List.forall_mem_cons.mpr ⟨lw_p27, List.forall_mem_cons.mpr ⟨lw_p28, List.forall_mem_cons.mpr ⟨lw_p29, List.forall_mem_cons.mpr ⟨lw_p30, List.forall_mem_cons.mpr ⟨lw_p31, fun _ h => absurd h List.not_mem_nil⟩⟩⟩⟩⟩⟩⟩⟩⟩⟩⟩⟩⟩⟩⟩⟩
theorem lw_p32 : lw_okq (⟨"RocketsAskModel", "here", "()I"⟩, 13) := ⟨⟨by decide +kernel, by decide +kernel⟩, List.mem_of_getElem? (i := 623) (by decide +kernel), List.mem_of_getElem? (i := 685) (by decide +kernel), List.mem_of_getElem? (i := 686) (by decide +kernel)⟩
theorem lw_p33 : lw_okq (⟨"RocketsAskModel", "readsKind", "()Z"⟩, 13) := ⟨⟨by decide +kernel, by decide +kernel⟩, List.mem_of_getElem? (i := 623) (by decide +kernel), List.mem_of_getElem? (i := 689) (by decide +kernel), List.mem_of_getElem? (i := 690) (by decide +kernel)⟩
theorem lw_p34 : lw_okq (⟨"RocketsAskModel", "readsNumber", "(II)Z"⟩, 13) := ⟨⟨by decide +kernel, by decide +kernel⟩, List.mem_of_getElem? (i := 623) (by decide +kernel), List.mem_of_getElem? (i := 696) (by decide +kernel), List.mem_of_getElem? (i := 697) (by decide +kernel)⟩
theorem lw_p35 : lw_okq (⟨"RocketsAskModel", "isDone", "(I)Z"⟩, 13) := ⟨⟨by decide +kernel, by decide +kernel⟩, List.mem_of_getElem? (i := 623) (by decide +kernel), List.mem_of_getElem? (i := 706) (by decide +kernel), List.mem_of_getElem? (i := 707) (by decide +kernel)⟩
theorem lw_p36 : lw_okq (⟨"RocketsAskModel", "addsRocket", "()Z"⟩, 13) := ⟨⟨by decide +kernel, by decide +kernel⟩, List.mem_of_getElem? (i := 623) (by decide +kernel), List.mem_of_getElem? (i := 710) (by decide +kernel), List.mem_of_getElem? (i := 711) (by decide +kernel)⟩
theorem lw_p37 : lw_okq (⟨"RocketsAskModel", "addsReader", "()Z"⟩, 13) := ⟨⟨by decide +kernel, by decide +kernel⟩, List.mem_of_getElem? (i := 623) (by decide +kernel), List.mem_of_getElem? (i := 717) (by decide +kernel), List.mem_of_getElem? (i := 718) (by decide +kernel)⟩
theorem lw_p38 : lw_okq (⟨"RocketsAskModel", "isRocket", "(I)Z"⟩, 13) := ⟨⟨by decide +kernel, by decide +kernel⟩, List.mem_of_getElem? (i := 623) (by decide +kernel), List.mem_of_getElem? (i := 724) (by decide +kernel), List.mem_of_getElem? (i := 725) (by decide +kernel)⟩
theorem lw_p39 : lw_okq (⟨"RocketsAskModel", "isReader", "(I)Z"⟩, 13) := ⟨⟨by decide +kernel, by decide +kernel⟩, List.mem_of_getElem? (i := 623) (by decide +kernel), List.mem_of_getElem? (i := 778) (by decide +kernel), List.mem_of_getElem? (i := 779) (by decide +kernel)⟩
theorem lw_p40 : lw_okq (⟨"RocketsAskModel", "sets", "(III)I"⟩, 13) := ⟨⟨by decide +kernel, by decide +kernel⟩, List.mem_of_getElem? (i := 623) (by decide +kernel), List.mem_of_getElem? (i := 807) (by decide +kernel), List.mem_of_getElem? (i := 808) (by decide +kernel)⟩
theorem lw_p41 : lw_okq (⟨"RocketsAskModel", "takes", "(I)V"⟩, 13) := ⟨⟨by decide +kernel, by decide +kernel⟩, List.mem_of_getElem? (i := 623) (by decide +kernel), List.mem_of_getElem? (i := 834) (by decide +kernel), List.mem_of_getElem? (i := 835) (by decide +kernel)⟩
theorem lw_p42 : lw_okq (⟨"RocketsAskModel", "firstWhole", "()I"⟩, 13) := ⟨⟨by decide +kernel, by decide +kernel⟩, List.mem_of_getElem? (i := 623) (by decide +kernel), List.mem_of_getElem? (i := 846) (by decide +kernel), List.mem_of_getElem? (i := 847) (by decide +kernel)⟩
theorem lw_p43 : lw_okq (⟨"RocketsAskModel", "wholeOf", "(I)I"⟩, 13) := ⟨⟨by decide +kernel, by decide +kernel⟩, List.mem_of_getElem? (i := 623) (by decide +kernel), List.mem_of_getElem? (i := 851) (by decide +kernel), List.mem_of_getElem? (i := 852) (by decide +kernel)⟩
theorem lw_p44 : lw_okq (⟨"RocketsAskModel", "boxed", "()I"⟩, 13) := ⟨⟨by decide +kernel, by decide +kernel⟩, List.mem_of_getElem? (i := 623) (by decide +kernel), List.mem_of_getElem? (i := 863) (by decide +kernel), List.mem_of_getElem? (i := 864) (by decide +kernel)⟩
theorem lw_p45 : lw_okq (⟨"RocketsAskModel", "isWholeBy", "(II)Z"⟩, 13) := ⟨⟨by decide +kernel, by decide +kernel⟩, List.mem_of_getElem? (i := 623) (by decide +kernel), List.mem_of_getElem? (i := 867) (by decide +kernel), List.mem_of_getElem? (i := 868) (by decide +kernel)⟩
theorem lw_p46 : lw_okq (⟨"RocketsAskModel", "costOf", "(I)I"⟩, 13) := ⟨⟨by decide +kernel, by decide +kernel⟩, List.mem_of_getElem? (i := 623) (by decide +kernel), List.mem_of_getElem? (i := 871) (by decide +kernel), List.mem_of_getElem? (i := 872) (by decide +kernel)⟩
theorem lw_p47 : lw_okq (⟨"RocketsAskModel", "bestNow", "(IZ)I"⟩, 13) := ⟨⟨by decide +kernel, by decide +kernel⟩, List.mem_of_getElem? (i := 623) (by decide +kernel), List.mem_of_getElem? (i := 890) (by decide +kernel), List.mem_of_getElem? (i := 891) (by decide +kernel)⟩
def lw_privs_3 : List (MethodName × Nat) := [(⟨"RocketsAskModel", "here", "()I"⟩, 13), (⟨"RocketsAskModel", "readsKind", "()Z"⟩, 13), (⟨"RocketsAskModel", "readsNumber", "(II)Z"⟩, 13), (⟨"RocketsAskModel", "isDone", "(I)Z"⟩, 13), (⟨"RocketsAskModel", "addsRocket", "()Z"⟩, 13), (⟨"RocketsAskModel", "addsReader", "()Z"⟩, 13), (⟨"RocketsAskModel", "isRocket", "(I)Z"⟩, 13), (⟨"RocketsAskModel", "isReader", "(I)Z"⟩, 13), (⟨"RocketsAskModel", "sets", "(III)I"⟩, 13), (⟨"RocketsAskModel", "takes", "(I)V"⟩, 13), (⟨"RocketsAskModel", "firstWhole", "()I"⟩, 13), (⟨"RocketsAskModel", "wholeOf", "(I)I"⟩, 13), (⟨"RocketsAskModel", "boxed", "()I"⟩, 13), (⟨"RocketsAskModel", "isWholeBy", "(II)Z"⟩, 13), (⟨"RocketsAskModel", "costOf", "(I)I"⟩, 13), (⟨"RocketsAskModel", "bestNow", "(IZ)I"⟩, 13)]
theorem lw_r3 : ∀ q ∈ lw_privs_3, lw_okq q := List.forall_mem_cons.mpr ⟨lw_p32, List.forall_mem_cons.mpr ⟨lw_p33, List.forall_mem_cons.mpr ⟨lw_p34, List.forall_mem_cons.mpr ⟨lw_p35, List.forall_mem_cons.mpr ⟨lw_p36, List.forall_mem_cons.mpr ⟨lw_p37, List.forall_mem_cons.mpr ⟨lw_p38, List.forall_mem_cons.mpr ⟨lw_p39, List.forall_mem_cons.mpr ⟨lw_p40, List.forall_mem_cons.mpr ⟨lw_p41, List.forall_mem_cons.mpr ⟨lw_p42, List.forall_mem_cons.mpr ⟨lw_p43, List.forall_mem_cons.mpr ⟨lw_p44, List.forall_mem_cons.mpr ⟨lw_p45, List.forall_mem_cons.mpr ⟨lw_p46, List.forall_mem_cons.mpr ⟨lw_p47, fun _ h => absurd h List.not_mem_nil⟩⟩⟩⟩⟩⟩⟩⟩⟩⟩⟩⟩⟩⟩⟩⟩
theorem lw_p48 : lw_okq (⟨"RocketsAskModel", "darkOf", "(I)I"⟩, 13) := ⟨⟨by decide +kernel, by decide +kernel⟩, List.mem_of_getElem? (i := 623) (by decide +kernel), List.mem_of_getElem? (i := 905) (by decide +kernel), List.mem_of_getElem? (i := 906) (by decide +kernel)⟩
theorem lw_p49 : lw_okq (⟨"RocketsAskModel", "manyWith", "(I)I"⟩, 13) := ⟨⟨by decide +kernel, by decide +kernel⟩, List.mem_of_getElem? (i := 623) (by decide +kernel), List.mem_of_getElem? (i := 917) (by decide +kernel), List.mem_of_getElem? (i := 918) (by decide +kernel)⟩
theorem lw_p50 : lw_okq (⟨"RocketsAskModel", "hasBy", "(IIIII)I"⟩, 13) := ⟨⟨by decide +kernel, by decide +kernel⟩, List.mem_of_getElem? (i := 623) (by decide +kernel), List.mem_of_getElem? (i := 940) (by decide +kernel), List.mem_of_getElem? (i := 941) (by decide +kernel)⟩
theorem lw_p51 : lw_okq (⟨"RocketsAskModel", "noWide", "(I)J"⟩, 13) := ⟨⟨by decide +kernel, by decide +kernel⟩, List.mem_of_getElem? (i := 623) (by decide +kernel), List.mem_of_getElem? (i := 948) (by decide +kernel), List.mem_of_getElem? (i := 949) (by decide +kernel)⟩
theorem lw_p52 : lw_okq (⟨"RocketsAskModel", "isSaidSo", "()Z"⟩, 13) := ⟨⟨by decide +kernel, by decide +kernel⟩, List.mem_of_getElem? (i := 623) (by decide +kernel), List.mem_of_getElem? (i := 967) (by decide +kernel), List.mem_of_getElem? (i := 968) (by decide +kernel)⟩
theorem lw_p53 : lw_okq (⟨"RocketsAskModel", "drawn", "(I)I"⟩, 13) := ⟨⟨by decide +kernel, by decide +kernel⟩, List.mem_of_getElem? (i := 623) (by decide +kernel), List.mem_of_getElem? (i := 987) (by decide +kernel), List.mem_of_getElem? (i := 988) (by decide +kernel)⟩
def lw_privs_4 : List (MethodName × Nat) := [(⟨"RocketsAskModel", "darkOf", "(I)I"⟩, 13), (⟨"RocketsAskModel", "manyWith", "(I)I"⟩, 13), (⟨"RocketsAskModel", "hasBy", "(IIIII)I"⟩, 13), (⟨"RocketsAskModel", "noWide", "(I)J"⟩, 13), (⟨"RocketsAskModel", "isSaidSo", "()Z"⟩, 13), (⟨"RocketsAskModel", "drawn", "(I)I"⟩, 13)]
theorem lw_r4 : ∀ q ∈ lw_privs_4, lw_okq q := List.forall_mem_cons.mpr ⟨lw_p48, List.forall_mem_cons.mpr ⟨lw_p49, List.forall_mem_cons.mpr ⟨lw_p50, List.forall_mem_cons.mpr ⟨lw_p51, List.forall_mem_cons.mpr ⟨lw_p52, List.forall_mem_cons.mpr ⟨lw_p53, fun _ h => absurd h List.not_mem_nil⟩⟩⟩⟩⟩⟩
def lw_privs : List (MethodName × Nat) := lw_privs_1 ++ (lw_privs_2 ++ (lw_privs_3 ++ (lw_privs_4)))
def lw_tbl : List Cond := k2_sels lw_privs ++ tables_1
theorem lw_privs_ok : ∀ q ∈ lw_privs, lw_okq q := by
  show ∀ q ∈ lw_privs_1 ++ (lw_privs_2 ++ (lw_privs_3 ++ (lw_privs_4))), lw_okq q
  exact List.forall_mem_append.mpr ⟨lw_r1, List.forall_mem_append.mpr ⟨lw_r2, List.forall_mem_append.mpr ⟨lw_r3, lw_r4⟩⟩⟩
end
section
def RX0 : String := "RocketsAsk$Valley"
def TX0 : u_T := fun k => match k with
  | 0 => ("RocketsAsk$Valley", "rockets", "I", false)
  | 1 => ("RocketsAsk$Valley", "kind", "[I", true)
  | 2 => ("RocketsAsk$Valley", "figure", "[I", true)
  | 3 => ("RocketsAsk$Valley", "word", "[I", true)
  | 4 => ("RocketsAsk$Valley", "sent", "I", false)
  | 5 => ("RocketsAsk$Valley", "readers", "I", false)
  | 6 => ("RocketsAsk$Valley", "at", "[I", true)
  | 7 => ("RocketsAsk$Valley", "minds", "[I", true)
  | 8 => ("RocketsAsk$Valley", "left", "[I", true)
  | 9 => ("RocketsAsk$Valley", "money", "I", false)
  | 10 => ("RocketsAsk$Valley", "blows", "I", false)
  | _ => ("RocketsAsk$Valley", "night", "I", false)
def tyX0 : Nat → FieldType := fun k => match k with
  | 0 => .int
  | 1 => .array .int
  | 2 => .array .int
  | 3 => .array .int
  | 4 => .int
  | 5 => .int
  | 6 => .array .int
  | 7 => .array .int
  | 8 => .array .int
  | 9 => .int
  | 10 => .int
  | _ => .int
abbrev wsX00 : List Cond := u_ws RX0 TX0 12
theorem nmX0 : ∀ a, a < 12 → ∀ b, b < 12 → a ≠ b → (TX0 a).2.1 ≠ (TX0 b).2.1 := by decide +kernel
theorem tyX0_ok : ∀ k, k < 12 → parseFieldDescriptor (TX0 k).2.2.1 = some (tyX0 k) := by decide +kernel
abbrev cX0_init : ByteArray := prog_2_method_1_code
def yX0_init : MethodName := ⟨RX0, "<init>", "()V"⟩
abbrev cX0_copyFrom : ByteArray := prog_2_method_2_code
def yX0_copyFrom : MethodName := ⟨RX0, "copyFrom", "(LRocketsAsk$Valley;)V"⟩
abbrev cX0_hasRocket : ByteArray := prog_2_method_3_code
def yX0_hasRocket : MethodName := ⟨RX0, "hasRocket", "(I)Z"⟩
abbrev cX0_hasReader : ByteArray := prog_2_method_4_code
def yX0_hasReader : MethodName := ⟨RX0, "hasReader", "(I)Z"⟩
abbrev cX0_addRocket : ByteArray := prog_2_method_5_code
def yX0_addRocket : MethodName := ⟨RX0, "addRocket", "(III)Z"⟩
abbrev cX0_addReader : ByteArray := prog_2_method_6_code
def yX0_addReader : MethodName := ⟨RX0, "addReader", "(II)Z"⟩
abbrev cX0_isSent : ByteArray := prog_2_method_7_code
def yX0_isSent : MethodName := ⟨RX0, "isSent", "(I)Z"⟩
abbrev cX0_costOf : ByteArray := prog_2_method_8_code
def yX0_costOf : MethodName := ⟨RX0, "costOf", "(I)I"⟩
abbrev cX0_reachOf : ByteArray := prog_2_method_9_code
def yX0_reachOf : MethodName := ⟨RX0, "reachOf", "(I)I"⟩
abbrev cX0_darkOf : ByteArray := prog_2_method_10_code
def yX0_darkOf : MethodName := ⟨RX0, "darkOf", "(I)I"⟩
abbrev cX0_burstOf : ByteArray := prog_2_method_11_code
def yX0_burstOf : MethodName := ⟨RX0, "burstOf", "(I)I"⟩
abbrev cX0_readersOf : ByteArray := prog_2_method_12_code
def yX0_readersOf : MethodName := ⟨RX0, "readersOf", "(I)I"⟩
abbrev cX0_canSend : ByteArray := prog_2_method_13_code
def yX0_canSend : MethodName := ⟨RX0, "canSend", "(I)Z"⟩
abbrev cX0_sendUp : ByteArray := prog_2_method_14_code
def yX0_sendUp : MethodName := ⟨RX0, "sendUp", "(II)V"⟩
abbrev cX0_throwAway : ByteArray := prog_2_method_15_code
def yX0_throwAway : MethodName := ⟨RX0, "throwAway", "(I)V"⟩
abbrev cX0_putBack : ByteArray := prog_2_method_16_code
def yX0_putBack : MethodName := ⟨RX0, "putBack", "(I)V"⟩
abbrev cX0_upNext : ByteArray := prog_2_method_17_code
def yX0_upNext : MethodName := ⟨RX0, "upNext", "()I"⟩
abbrev cX0_passNights : ByteArray := prog_2_method_18_code
def yX0_passNights : MethodName := ⟨RX0, "passNights", "(II)V"⟩
abbrev cX0_forget : ByteArray := prog_2_method_19_code
def yX0_forget : MethodName := ⟨RX0, "forget", "()V"⟩
abbrev cX0_wordsOf : ByteArray := prog_2_method_20_code
def yX0_wordsOf : MethodName := ⟨RX0, "wordsOf", "(I)I"⟩
abbrev cX0_isWhole : ByteArray := prog_2_method_21_code
def yX0_isWhole : MethodName := ⟨RX0, "isWhole", "(I)Z"⟩
abbrev cX0_countWhole : ByteArray := prog_2_method_22_code
def yX0_countWhole : MethodName := ⟨RX0, "countWhole", "()I"⟩
abbrev cX0_countWords : ByteArray := prog_2_method_23_code
def yX0_countWords : MethodName := ⟨RX0, "countWords", "()I"⟩
def RX1 : String := "RocketsAsk"
def TX1 : u_T := fun k => match k with
  | 0 => ("RocketsAsk", "now", "LRocketsAsk$Valley;", true)
  | 1 => ("RocketsAsk", "mind", "LRocketsAsk$Valley;", true)
  | 2 => ("RocketsAsk", "picture", "LRocketsAsk$Valley;", true)
  | 3 => ("RocketsAsk", "pictured", "Z", false)
  | 4 => ("RocketsAsk", "letters", "[I", true)
  | 5 => ("RocketsAsk", "letterCount", "I", false)
  | 6 => ("RocketsAsk", "told", "[I", true)
  | 7 => ("RocketsAsk", "toldCount", "I", false)
  | 8 => ("RocketsAsk", "refusals", "[I", true)
  | 9 => ("RocketsAsk", "brings", "[I", true)
  | 10 => ("RocketsAsk", "firstGets", "[I", true)
  | _ => ("RocketsAsk", "otherGets", "[I", true)
def tyX1 : Nat → FieldType := fun k => match k with
  | 0 => .object "RocketsAsk$Valley"
  | 1 => .object "RocketsAsk$Valley"
  | 2 => .object "RocketsAsk$Valley"
  | 3 => .boolean
  | 4 => .array .int
  | 5 => .int
  | 6 => .array .int
  | 7 => .int
  | 8 => .array .int
  | 9 => .array .int
  | 10 => .array .int
  | _ => .array .int
abbrev wsX10 : List Cond := u_ws RX1 TX1 12
theorem nmX1 : ∀ a, a < 12 → ∀ b, b < 12 → a ≠ b → (TX1 a).2.1 ≠ (TX1 b).2.1 := by decide +kernel
theorem tyX1_ok : ∀ k, k < 12 → parseFieldDescriptor (TX1 k).2.2.1 = some (tyX1 k) := by decide +kernel
abbrev cX1_init : ByteArray := prog_1_method_1_code
def yX1_init : MethodName := ⟨RX1, "<init>", "()V"⟩
abbrev cX1_letter : ByteArray := prog_1_method_2_code
def yX1_letter : MethodName := ⟨RX1, "letter", "(I)I"⟩
abbrev cX1_valley : ByteArray := prog_1_method_3_code
def yX1_valley : MethodName := ⟨RX1, "valley", "()I"⟩
abbrev cX1_rocket : ByteArray := prog_1_method_4_code
def yX1_rocket : MethodName := ⟨RX1, "rocket", "(II)I"⟩
abbrev cX1_reader : ByteArray := prog_1_method_5_code
def yX1_reader : MethodName := ⟨RX1, "reader", "(II)I"⟩
abbrev cX1_keeps : ByteArray := prog_1_method_6_code
def yX1_keeps : MethodName := ⟨RX1, "keeps", "(II)I"⟩
abbrev cX1_sends : ByteArray := prog_1_method_7_code
def yX1_sends : MethodName := ⟨RX1, "sends", "(I)I"⟩
abbrev cX1_boxes : ByteArray := prog_1_method_8_code
def yX1_boxes : MethodName := ⟨RX1, "boxes", "(I)I"⟩
abbrev cX1_wind : ByteArray := prog_1_method_9_code
def yX1_wind : MethodName := ⟨RX1, "wind", "(I)I"⟩
abbrev cX1_grant : ByteArray := prog_1_method_10_code
def yX1_grant : MethodName := ⟨RX1, "grant", "(I)I"⟩
abbrev cX1_stands : ByteArray := prog_1_method_11_code
def yX1_stands : MethodName := ⟨RX1, "stands", "(II)I"⟩
abbrev cX1_turn : ByteArray := prog_1_method_12_code
def yX1_turn : MethodName := ⟨RX1, "turn", "(III)I"⟩
abbrev cX1_nights : ByteArray := prog_1_method_13_code
def yX1_nights : MethodName := ⟨RX1, "nights", "(I)I"⟩
abbrev cX1_wordsThen : ByteArray := prog_1_method_14_code
def yX1_wordsThen : MethodName := ⟨RX1, "wordsThen", "(II)I"⟩
abbrev cX1_then : ByteArray := prog_1_method_15_code
def yX1_then : MethodName := ⟨RX1, "then", "(II)I"⟩
abbrev cX1_whole : ByteArray := prog_1_method_16_code
def yX1_whole : MethodName := ⟨RX1, "whole", "(I)I"⟩
abbrev cX1_next : ByteArray := prog_1_method_17_code
def yX1_next : MethodName := ⟨RX1, "next", "(I)I"⟩
abbrev cX1_fewest : ByteArray := prog_1_method_18_code
def yX1_fewest : MethodName := ⟨RX1, "fewest", "(II)I"⟩
abbrev cX1_windBest : ByteArray := prog_1_method_19_code
def yX1_windBest : MethodName := ⟨RX1, "windBest", "(II)I"⟩
abbrev cX1_move : ByteArray := prog_1_method_20_code
def yX1_move : MethodName := ⟨RX1, "move", "(III)I"⟩
abbrev cX1_forgo : ByteArray := prog_1_method_21_code
def yX1_forgo : MethodName := ⟨RX1, "forgo", "(I)I"⟩
abbrev cX1_firstUp : ByteArray := prog_1_method_22_code
def yX1_firstUp : MethodName := ⟨RX1, "firstUp", "(I)I"⟩
abbrev cX1_longest : ByteArray := prog_1_method_23_code
def yX1_longest : MethodName := ⟨RX1, "longest", "(I)I"⟩
abbrev cX1_seen : ByteArray := prog_1_method_24_code
def yX1_seen : MethodName := ⟨RX1, "seen", "(I)I"⟩
abbrev cX1_words : ByteArray := prog_1_method_25_code
def yX1_words : MethodName := ⟨RX1, "words", "(I)I"⟩
abbrev cX1_near : ByteArray := prog_1_method_26_code
def yX1_near : MethodName := ⟨RX1, "near", "()I"⟩
abbrev cX1_alone : ByteArray := prog_1_method_27_code
def yX1_alone : MethodName := ⟨RX1, "alone", "()I"⟩
abbrev cX1_tell : ByteArray := prog_1_method_28_code
def yX1_tell : MethodName := ⟨RX1, "tell", "()I"⟩
abbrev cX1_two : ByteArray := prog_1_method_29_code
def yX1_two : MethodName := ⟨RX1, "two", "(III)I"⟩
abbrev cX1_rain : ByteArray := prog_1_method_30_code
def yX1_rain : MethodName := ⟨RX1, "rain", "(IIII)J"⟩
abbrev cX1_mean : ByteArray := prog_1_method_31_code
def yX1_mean : MethodName := ⟨RX1, "mean", "(I)J"⟩
abbrev cX1_whatSaid : ByteArray := prog_1_method_32_code
def yX1_whatSaid : MethodName := ⟨RX1, "whatSaid", "(II)I"⟩
abbrev cX1_row : ByteArray := prog_1_method_33_code
def yX1_row : MethodName := ⟨RX1, "row", "(I)I"⟩
abbrev cX1_judge : ByteArray := prog_1_method_34_code
def yX1_judge : MethodName := ⟨RX1, "judge", "()I"⟩
abbrev cX1_clear : ByteArray := prog_1_method_35_code
def yX1_clear : MethodName := ⟨RX1, "clear", "()I"⟩
abbrev cX1_lots : ByteArray := prog_1_method_36_code
def yX1_lots : MethodName := ⟨RX1, "lots", "(III)I"⟩
abbrev cX1_image : ByteArray := prog_1_method_37_code
def yX1_image : MethodName := ⟨RX1, "image", "()I"⟩
abbrev cX1_on : ByteArray := prog_1_method_38_code
def yX1_on : MethodName := ⟨RX1, "on", "()I"⟩
abbrev cX1_count : ByteArray := prog_1_method_39_code
def yX1_count : MethodName := ⟨RX1, "count", "(I)I"⟩
abbrev cX1_refuse : ByteArray := prog_1_method_40_code
def yX1_refuse : MethodName := ⟨RX1, "refuse", "(I)I"⟩
abbrev cX1_refuseLong : ByteArray := prog_1_method_41_code
def yX1_refuseLong : MethodName := ⟨RX1, "refuseLong", "(I)J"⟩
abbrev cX1_refusalsOf : ByteArray := prog_1_method_42_code
def yX1_refusalsOf : MethodName := ⟨RX1, "refusalsOf", "(I)I"⟩
abbrev cX1_outside : ByteArray := prog_1_method_43_code
def yX1_outside : MethodName := ⟨RX1, "outside", "(III)I"⟩
abbrev cX1_isOneOfTwo : ByteArray := prog_1_method_44_code
def yX1_isOneOfTwo : MethodName := ⟨RX1, "isOneOfTwo", "(I)Z"⟩
abbrev cX1_lettersBehind : ByteArray := prog_1_method_45_code
def yX1_lettersBehind : MethodName := ⟨RX1, "lettersBehind", "(I)I"⟩
abbrev cX1_wrongLetter : ByteArray := prog_1_method_46_code
def yX1_wrongLetter : MethodName := ⟨RX1, "wrongLetter", "(I)I"⟩
abbrev cX1_canStand : ByteArray := prog_1_method_47_code
def yX1_canStand : MethodName := ⟨RX1, "canStand", "(III)Z"⟩
abbrev cX1_kindOf : ByteArray := prog_1_method_48_code
def yX1_kindOf : MethodName := ⟨RX1, "kindOf", "(I)I"⟩
abbrev cX1_numberAt : ByteArray := prog_1_method_49_code
def yX1_numberAt : MethodName := ⟨RX1, "numberAt", "(II)I"⟩
abbrev cX1_comesToMind : ByteArray := prog_1_method_50_code
def yX1_comesToMind : MethodName := ⟨RX1, "comesToMind", "(I)Z"⟩
abbrev cX1_rocketComes : ByteArray := prog_1_method_51_code
def yX1_rocketComes : MethodName := ⟨RX1, "rocketComes", "(I)Z"⟩
abbrev cX1_rocketGoesUp : ByteArray := prog_1_method_52_code
def yX1_rocketGoesUp : MethodName := ⟨RX1, "rocketGoesUp", "(I)Z"⟩
abbrev cX1_rocketGoesBack : ByteArray := prog_1_method_53_code
def yX1_rocketGoesBack : MethodName := ⟨RX1, "rocketGoesBack", "(I)Z"⟩
abbrev cX1_nightsGoBy : ByteArray := prog_1_method_54_code
def yX1_nightsGoBy : MethodName := ⟨RX1, "nightsGoBy", "(I)Z"⟩
abbrev cX1_thinkOn : ByteArray := prog_1_method_55_code
def yX1_thinkOn : MethodName := ⟨RX1, "thinkOn", "(I)V"⟩
abbrev cX1_nightsUntilWhole : ByteArray := prog_1_method_56_code
def yX1_nightsUntilWhole : MethodName := ⟨RX1, "nightsUntilWhole", "(I)I"⟩
abbrev cX1_firstWhole : ByteArray := prog_1_method_57_code
def yX1_firstWhole : MethodName := ⟨RX1, "firstWhole", "()I"⟩
abbrev cX1_nightsUntilSpent : ByteArray := prog_1_method_58_code
def yX1_nightsUntilSpent : MethodName := ⟨RX1, "nightsUntilSpent", "()I"⟩
abbrev cX1_noteWhatIsBrought : ByteArray := prog_1_method_59_code
def yX1_noteWhatIsBrought : MethodName := ⟨RX1, "noteWhatIsBrought", "(I)V"⟩
abbrev cX1_makesWhole : ByteArray := prog_1_method_60_code
def yX1_makesWhole : MethodName := ⟨RX1, "makesWhole", "(II)Z"⟩
abbrev cX1_costOfChosen : ByteArray := prog_1_method_61_code
def yX1_costOfChosen : MethodName := ⟨RX1, "costOfChosen", "(I)I"⟩
abbrev cX1_fewestRockets : ByteArray := prog_1_method_62_code
def yX1_fewestRockets : MethodName := ⟨RX1, "fewestRockets", "(I)I"⟩
abbrev cX1_leastCost : ByteArray := prog_1_method_63_code
def yX1_leastCost : MethodName := ⟨RX1, "leastCost", "(I)I"⟩
abbrev cX1_bestToSpend : ByteArray := prog_1_method_64_code
def yX1_bestToSpend : MethodName := ⟨RX1, "bestToSpend", "(IZ)I"⟩
abbrev cX1_wordsHadBySpending : ByteArray := prog_1_method_65_code
def yX1_wordsHadBySpending : MethodName := ⟨RX1, "wordsHadBySpending", "(IIZ)I"⟩
abbrev cX1_longestDark : ByteArray := prog_1_method_66_code
def yX1_longestDark : MethodName := ⟨RX1, "longestDark", "()I"⟩
abbrev cX1_costOfTheBox : ByteArray := prog_1_method_67_code
def yX1_costOfTheBox : MethodName := ⟨RX1, "costOfTheBox", "()I"⟩
abbrev cX1_lackingWords : ByteArray := prog_1_method_68_code
def yX1_lackingWords : MethodName := ⟨RX1, "lackingWords", "()I"⟩
abbrev cX1_knownWords : ByteArray := prog_1_method_69_code
def yX1_knownWords : MethodName := ⟨RX1, "knownWords", "()I"⟩
abbrev cX1_rarestWord : ByteArray := prog_1_method_70_code
def yX1_rarestWord : MethodName := ⟨RX1, "rarestWord", "()I"⟩
abbrev cX1_noteWhatPairGets : ByteArray := prog_1_method_71_code
def yX1_noteWhatPairGets : MethodName := ⟨RX1, "noteWhatPairGets", "(IIII)V"⟩
abbrev cX1_gain : ByteArray := prog_1_method_72_code
def yX1_gain : MethodName := ⟨RX1, "gain", "(II)I"⟩
abbrev cX1_isWholeAfter : ByteArray := prog_1_method_73_code
def yX1_isWholeAfter : MethodName := ⟨RX1, "isWholeAfter", "(III)Z"⟩
abbrev cX1_rowFitsMind : ByteArray := prog_1_method_74_code
def yX1_rowFitsMind : MethodName := ⟨RX1, "rowFitsMind", "()Z"⟩
abbrev cX1_power : ByteArray := prog_1_method_75_code
def yX1_power : MethodName := ⟨RX1, "power", "(II)J"⟩
abbrev cX1_partOf : ByteArray := prog_1_method_76_code
def yX1_partOf : MethodName := ⟨RX1, "partOf", "(JJI)J"⟩
abbrev cX1_commonDivisor : ByteArray := prog_1_method_77_code
def yX1_commonDivisor : MethodName := ⟨RX1, "commonDivisor", "(JJ)J"⟩
def RX2 : String := "RocketsAskModel"
def TX2 : u_T := fun k => match k with
  | 0 => ("RocketsAskModel", "s", "[I", true)
  | 1 => ("RocketsAskModel", "m", "[I", true)
  | 2 => ("RocketsAskModel", "image", "[I", true)
  | 3 => ("RocketsAskModel", "was", "[I", true)
  | 4 => ("RocketsAskModel", "hasImage", "Z", false)
  | 5 => ("RocketsAskModel", "letters", "[I", true)
  | 6 => ("RocketsAskModel", "row", "[I", true)
  | 7 => ("RocketsAskModel", "refused", "[I", true)
  | 8 => ("RocketsAskModel", "letterMany", "I", false)
  | 9 => ("RocketsAskModel", "rowMany", "I", false)
  | 10 => ("RocketsAskModel", "place", "I", false)
  | 11 => ("RocketsAskModel", "numbers", "[I", true)
  | _ => ("RocketsAskModel", "seed", "I", false)
def tyX2 : Nat → FieldType := fun k => match k with
  | 0 => .array .int
  | 1 => .array .int
  | 2 => .array .int
  | 3 => .array .int
  | 4 => .boolean
  | 5 => .array .int
  | 6 => .array .int
  | 7 => .array .int
  | 8 => .int
  | 9 => .int
  | 10 => .int
  | 11 => .array .int
  | _ => .int
abbrev wsX20 : List Cond := u_ws RX2 TX2 13
theorem nmX2 : ∀ a, a < 13 → ∀ b, b < 13 → a ≠ b → (TX2 a).2.1 ≠ (TX2 b).2.1 := by decide +kernel
theorem tyX2_ok : ∀ k, k < 13 → parseFieldDescriptor (TX2 k).2.2.1 = some (tyX2 k) := by decide +kernel
abbrev cX2_init : ByteArray := prog_4_method_1_code
def yX2_init : MethodName := ⟨RX2, "<init>", "()V"⟩
abbrev cX2_isIn : ByteArray := prog_4_method_2_code
def yX2_isIn : MethodName := ⟨RX2, "isIn", "(III)Z"⟩
abbrev cX2_apart : ByteArray := prog_4_method_3_code
def yX2_apart : MethodName := ⟨RX2, "apart", "(II)I"⟩
abbrev cX2_copies : ByteArray := prog_4_method_4_code
def yX2_copies : MethodName := ⟨RX2, "copies", "([I[I)V"⟩
abbrev cX2_no : ByteArray := prog_4_method_5_code
def yX2_no : MethodName := ⟨RX2, "no", "(I)I"⟩
abbrev cX2_noWide : ByteArray := prog_4_method_6_code
def yX2_noWide : MethodName := ⟨RX2, "noWide", "(I)J"⟩
abbrev cX2_ofR : ByteArray := prog_4_method_7_code
def yX2_ofR : MethodName := ⟨RX2, "ofR", "(II)I"⟩
abbrev cX2_ofP : ByteArray := prog_4_method_8_code
def yX2_ofP : MethodName := ⟨RX2, "ofP", "(II)I"⟩
abbrev cX2_isRocket : ByteArray := prog_4_method_9_code
def yX2_isRocket : MethodName := ⟨RX2, "isRocket", "(I)Z"⟩
abbrev cX2_isReader : ByteArray := prog_4_method_10_code
def yX2_isReader : MethodName := ⟨RX2, "isReader", "(I)Z"⟩
abbrev cX2_has : ByteArray := prog_4_method_11_code
def yX2_has : MethodName := ⟨RX2, "has", "(II)Z"⟩
abbrev cX2_bits : ByteArray := prog_4_method_12_code
def yX2_bits : MethodName := ⟨RX2, "bits", "(I)I"⟩
abbrev cX2_costBy : ByteArray := prog_4_method_13_code
def yX2_costBy : MethodName := ⟨RX2, "costBy", "(I)I"⟩
abbrev cX2_reachBy : ByteArray := prog_4_method_14_code
def yX2_reachBy : MethodName := ⟨RX2, "reachBy", "(II)I"⟩
abbrev cX2_darkBy : ByteArray := prog_4_method_15_code
def yX2_darkBy : MethodName := ⟨RX2, "darkBy", "(II)I"⟩
abbrev cX2_burstsAt : ByteArray := prog_4_method_16_code
def yX2_burstsAt : MethodName := ⟨RX2, "burstsAt", "([II)I"⟩
abbrev cX2_isRead : ByteArray := prog_4_method_17_code
def yX2_isRead : MethodName := ⟨RX2, "isRead", "([III)Z"⟩
abbrev cX2_readers : ByteArray := prog_4_method_18_code
def yX2_readers : MethodName := ⟨RX2, "readers", "([II)I"⟩
abbrev cX2_bursts : ByteArray := prog_4_method_19_code
def yX2_bursts : MethodName := ⟨RX2, "bursts", "([III)V"⟩
abbrev cX2_canGo : ByteArray := prog_4_method_20_code
def yX2_canGo : MethodName := ⟨RX2, "canGo", "([II)Z"⟩
abbrev cX2_sendsIn : ByteArray := prog_4_method_21_code
def yX2_sendsIn : MethodName := ⟨RX2, "sendsIn", "([III)V"⟩
abbrev cX2_nextOf : ByteArray := prog_4_method_22_code
def yX2_nextOf : MethodName := ⟨RX2, "nextOf", "([I)I"⟩
abbrev cX2_night : ByteArray := prog_4_method_23_code
def yX2_night : MethodName := ⟨RX2, "night", "([II)V"⟩
abbrev cX2_nightsOn : ByteArray := prog_4_method_24_code
def yX2_nightsOn : MethodName := ⟨RX2, "nightsOn", "([III)V"⟩
abbrev cX2_wordsOf : ByteArray := prog_4_method_25_code
def yX2_wordsOf : MethodName := ⟨RX2, "wordsOf", "([II)I"⟩
abbrev cX2_allWords : ByteArray := prog_4_method_26_code
def yX2_allWords : MethodName := ⟨RX2, "allWords", "([I)I"⟩
abbrev cX2_wholeOnes : ByteArray := prog_4_method_27_code
def yX2_wholeOnes : MethodName := ⟨RX2, "wholeOnes", "([I)I"⟩
abbrev cX2_sentIn : ByteArray := prog_4_method_28_code
def yX2_sentIn : MethodName := ⟨RX2, "sentIn", "([I)I"⟩
abbrev cX2_letter : ByteArray := prog_4_method_29_code
def yX2_letter : MethodName := ⟨RX2, "letter", "(I)I"⟩
abbrev cX2_here : ByteArray := prog_4_method_30_code
def yX2_here : MethodName := ⟨RX2, "here", "()I"⟩
abbrev cX2_readsNumber : ByteArray := prog_4_method_31_code
def yX2_readsNumber : MethodName := ⟨RX2, "readsNumber", "(II)Z"⟩
abbrev cX2_kindBy : ByteArray := prog_4_method_32_code
def yX2_kindBy : MethodName := ⟨RX2, "kindBy", "(I)I"⟩
abbrev cX2_readsKind : ByteArray := prog_4_method_33_code
def yX2_readsKind : MethodName := ⟨RX2, "readsKind", "()Z"⟩
abbrev cX2_readsStatement : ByteArray := prog_4_method_34_code
def yX2_readsStatement : MethodName := ⟨RX2, "readsStatement", "()Z"⟩
abbrev cX2_addsRocket : ByteArray := prog_4_method_35_code
def yX2_addsRocket : MethodName := ⟨RX2, "addsRocket", "()Z"⟩
abbrev cX2_addsReader : ByteArray := prog_4_method_36_code
def yX2_addsReader : MethodName := ⟨RX2, "addsReader", "()Z"⟩
abbrev cX2_isDone : ByteArray := prog_4_method_37_code
def yX2_isDone : MethodName := ⟨RX2, "isDone", "(I)Z"⟩
abbrev cX2_valley : ByteArray := prog_4_method_38_code
def yX2_valley : MethodName := ⟨RX2, "valley", "()I"⟩
abbrev cX2_rocket : ByteArray := prog_4_method_39_code
def yX2_rocket : MethodName := ⟨RX2, "rocket", "(II)I"⟩
abbrev cX2_reader : ByteArray := prog_4_method_40_code
def yX2_reader : MethodName := ⟨RX2, "reader", "(II)I"⟩
abbrev cX2_keeps : ByteArray := prog_4_method_41_code
def yX2_keeps : MethodName := ⟨RX2, "keeps", "(II)I"⟩
abbrev cX2_sends : ByteArray := prog_4_method_42_code
def yX2_sends : MethodName := ⟨RX2, "sends", "(I)I"⟩
abbrev cX2_boxes : ByteArray := prog_4_method_43_code
def yX2_boxes : MethodName := ⟨RX2, "boxes", "(I)I"⟩
abbrev cX2_wrongBy : ByteArray := prog_4_method_44_code
def yX2_wrongBy : MethodName := ⟨RX2, "wrongBy", "(III)I"⟩
abbrev cX2_sets : ByteArray := prog_4_method_45_code
def yX2_sets : MethodName := ⟨RX2, "sets", "(III)I"⟩
abbrev cX2_wind : ByteArray := prog_4_method_46_code
def yX2_wind : MethodName := ⟨RX2, "wind", "(I)I"⟩
abbrev cX2_grant : ByteArray := prog_4_method_47_code
def yX2_grant : MethodName := ⟨RX2, "grant", "(I)I"⟩
abbrev cX2_stands : ByteArray := prog_4_method_48_code
def yX2_stands : MethodName := ⟨RX2, "stands", "(II)I"⟩
abbrev cX2_turn : ByteArray := prog_4_method_49_code
def yX2_turn : MethodName := ⟨RX2, "turn", "(III)I"⟩
abbrev cX2_nights : ByteArray := prog_4_method_50_code
def yX2_nights : MethodName := ⟨RX2, "nights", "(I)I"⟩
abbrev cX2_takes : ByteArray := prog_4_method_51_code
def yX2_takes : MethodName := ⟨RX2, "takes", "(I)V"⟩
abbrev cX2_wordsThen : ByteArray := prog_4_method_52_code
def yX2_wordsThen : MethodName := ⟨RX2, "wordsThen", "(II)I"⟩
abbrev cX2_then : ByteArray := prog_4_method_53_code
def yX2_then : MethodName := ⟨RX2, "then", "(II)I"⟩
abbrev cX2_wholeOf : ByteArray := prog_4_method_54_code
def yX2_wholeOf : MethodName := ⟨RX2, "wholeOf", "(I)I"⟩
abbrev cX2_firstWhole : ByteArray := prog_4_method_55_code
def yX2_firstWhole : MethodName := ⟨RX2, "firstWhole", "()I"⟩
abbrev cX2_whole : ByteArray := prog_4_method_56_code
def yX2_whole : MethodName := ⟨RX2, "whole", "(I)I"⟩
abbrev cX2_next : ByteArray := prog_4_method_57_code
def yX2_next : MethodName := ⟨RX2, "next", "(I)I"⟩
abbrev cX2_isWholeBy : ByteArray := prog_4_method_58_code
def yX2_isWholeBy : MethodName := ⟨RX2, "isWholeBy", "(II)Z"⟩
abbrev cX2_costOf : ByteArray := prog_4_method_59_code
def yX2_costOf : MethodName := ⟨RX2, "costOf", "(I)I"⟩
abbrev cX2_boxed : ByteArray := prog_4_method_60_code
def yX2_boxed : MethodName := ⟨RX2, "boxed", "()I"⟩
abbrev cX2_fewest : ByteArray := prog_4_method_61_code
def yX2_fewest : MethodName := ⟨RX2, "fewest", "(II)I"⟩
abbrev cX2_windBest : ByteArray := prog_4_method_62_code
def yX2_windBest : MethodName := ⟨RX2, "windBest", "(II)I"⟩
abbrev cX2_move : ByteArray := prog_4_method_63_code
def yX2_move : MethodName := ⟨RX2, "move", "(III)I"⟩
abbrev cX2_bestNow : ByteArray := prog_4_method_64_code
def yX2_bestNow : MethodName := ⟨RX2, "bestNow", "(IZ)I"⟩
abbrev cX2_forgo : ByteArray := prog_4_method_65_code
def yX2_forgo : MethodName := ⟨RX2, "forgo", "(I)I"⟩
abbrev cX2_firstUp : ByteArray := prog_4_method_66_code
def yX2_firstUp : MethodName := ⟨RX2, "firstUp", "(I)I"⟩
abbrev cX2_darkOf : ByteArray := prog_4_method_67_code
def yX2_darkOf : MethodName := ⟨RX2, "darkOf", "(I)I"⟩
abbrev cX2_longest : ByteArray := prog_4_method_68_code
def yX2_longest : MethodName := ⟨RX2, "longest", "(I)I"⟩
abbrev cX2_seen : ByteArray := prog_4_method_69_code
def yX2_seen : MethodName := ⟨RX2, "seen", "(I)I"⟩
abbrev cX2_manyWith : ByteArray := prog_4_method_70_code
def yX2_manyWith : MethodName := ⟨RX2, "manyWith", "(I)I"⟩
abbrev cX2_words : ByteArray := prog_4_method_71_code
def yX2_words : MethodName := ⟨RX2, "words", "(I)I"⟩
abbrev cX2_near : ByteArray := prog_4_method_72_code
def yX2_near : MethodName := ⟨RX2, "near", "()I"⟩
abbrev cX2_alone : ByteArray := prog_4_method_73_code
def yX2_alone : MethodName := ⟨RX2, "alone", "()I"⟩
abbrev cX2_tell : ByteArray := prog_4_method_74_code
def yX2_tell : MethodName := ⟨RX2, "tell", "()I"⟩
abbrev cX2_hasBy : ByteArray := prog_4_method_75_code
def yX2_hasBy : MethodName := ⟨RX2, "hasBy", "(IIIII)I"⟩
abbrev cX2_lookingBy : ByteArray := prog_4_method_76_code
def yX2_lookingBy : MethodName := ⟨RX2, "lookingBy", "(IIII)I"⟩
abbrev cX2_two : ByteArray := prog_4_method_77_code
def yX2_two : MethodName := ⟨RX2, "two", "(III)I"⟩
abbrev cX2_gcd : ByteArray := prog_4_method_78_code
def yX2_gcd : MethodName := ⟨RX2, "gcd", "(JJ)J"⟩
abbrev cX2_partOf : ByteArray := prog_4_method_79_code
def yX2_partOf : MethodName := ⟨RX2, "partOf", "(JJI)J"⟩
abbrev cX2_rain : ByteArray := prog_4_method_80_code
def yX2_rain : MethodName := ⟨RX2, "rain", "(IIII)J"⟩
abbrev cX2_mean : ByteArray := prog_4_method_81_code
def yX2_mean : MethodName := ⟨RX2, "mean", "(I)J"⟩
abbrev cX2_isSaidSo : ByteArray := prog_4_method_82_code
def yX2_isSaidSo : MethodName := ⟨RX2, "isSaidSo", "()Z"⟩
abbrev cX2_whatSaid : ByteArray := prog_4_method_83_code
def yX2_whatSaid : MethodName := ⟨RX2, "whatSaid", "(II)I"⟩
abbrev cX2_row : ByteArray := prog_4_method_84_code
def yX2_row : MethodName := ⟨RX2, "row", "(I)I"⟩
abbrev cX2_judge : ByteArray := prog_4_method_85_code
def yX2_judge : MethodName := ⟨RX2, "judge", "()I"⟩
abbrev cX2_clear : ByteArray := prog_4_method_86_code
def yX2_clear : MethodName := ⟨RX2, "clear", "()I"⟩
abbrev cX2_drawn : ByteArray := prog_4_method_87_code
def yX2_drawn : MethodName := ⟨RX2, "drawn", "(I)I"⟩
abbrev cX2_lots : ByteArray := prog_4_method_88_code
def yX2_lots : MethodName := ⟨RX2, "lots", "(III)I"⟩
abbrev cX2_image : ByteArray := prog_4_method_89_code
def yX2_image : MethodName := ⟨RX2, "image", "()I"⟩
abbrev cX2_on : ByteArray := prog_4_method_90_code
def yX2_on : MethodName := ⟨RX2, "on", "()I"⟩
abbrev cX2_count : ByteArray := prog_4_method_91_code
def yX2_count : MethodName := ⟨RX2, "count", "(I)I"⟩
def RJ11 : String := "java/lang/Character"
def TJ11 : u_T := fun k => match k with
  | _ => ("", "", "", false)
def tyJ11 : Nat → FieldType := fun k => match k with
  | _ => .int
theorem nmJ11 : ∀ a, a < 0 → ∀ b, b < 0 → a ≠ b → (TJ11 a).2.1 ≠ (TJ11 b).2.1 := by decide +kernel
theorem tyJ11_ok : ∀ k, k < 0 → parseFieldDescriptor (TJ11 k).2.2.1 = some (tyJ11 k) := by decide +kernel
abbrev cJ11_isValidCodePoint_9a6ad : ByteArray := prog_5_method_11_code
def yJ11_isValidCodePoint_9a6ad : MethodName := ⟨RJ11, "isValidCodePoint", "(I)Z"⟩
abbrev cJ11_highSurrogate_5068e : ByteArray := prog_5_method_28_code
def yJ11_highSurrogate_5068e : MethodName := ⟨RJ11, "highSurrogate", "(I)C"⟩
abbrev cJ11_lowSurrogate_5068e : ByteArray := prog_5_method_29_code
def yJ11_lowSurrogate_5068e : MethodName := ⟨RJ11, "lowSurrogate", "(I)C"⟩
def RJ6 : String := "java/lang/Integer"
def TJ6 : u_T := fun k => match k with
  | _ => ("", "", "", false)
def tyJ6 : Nat → FieldType := fun k => match k with
  | _ => .int
theorem nmJ6 : ∀ a, a < 0 → ∀ b, b < 0 → a ≠ b → (TJ6 a).2.1 ≠ (TJ6 b).2.1 := by decide +kernel
theorem tyJ6_ok : ∀ k, k < 0 → parseFieldDescriptor (TJ6 k).2.2.1 = some (tyJ6 k) := by decide +kernel
abbrev cJ6_bitCount_0f7a4 : ByteArray := prog_6_method_49_code
def yJ6_bitCount_0f7a4 : MethodName := ⟨RJ6, "bitCount", "(I)I"⟩
def RJ9 : String := "java/lang/Math"
def TJ9 : u_T := fun k => match k with
  | _ => ("", "", "", false)
def tyJ9 : Nat → FieldType := fun k => match k with
  | _ => .int
theorem nmJ9 : ∀ a, a < 0 → ∀ b, b < 0 → a ≠ b → (TJ9 a).2.1 ≠ (TJ9 b).2.1 := by decide +kernel
theorem tyJ9_ok : ∀ k, k < 0 → parseFieldDescriptor (TJ9 k).2.2.1 = some (tyJ9 k) := by decide +kernel
abbrev cJ9_abs_0f7a4 : ByteArray := prog_7_method_59_code
def yJ9_abs_0f7a4 : MethodName := ⟨RJ9, "abs", "(I)I"⟩
abbrev cJ9_max_7cf53 : ByteArray := prog_7_method_65_code
def yJ9_max_7cf53 : MethodName := ⟨RJ9, "max", "(II)I"⟩
abbrev cJ9_min_7cf53 : ByteArray := prog_7_method_69_code
def yJ9_min_7cf53 : MethodName := ⟨RJ9, "min", "(II)I"⟩
def RJ0 : String := "java/lang/String"
def TJ0 : u_T := fun k => match k with
  | _ => ("", "", "", false)
def tyJ0 : Nat → FieldType := fun k => match k with
  | _ => .int
theorem nmJ0 : ∀ a, a < 0 → ∀ b, b < 0 → a ≠ b → (TJ0 a).2.1 ≠ (TJ0 b).2.1 := by decide +kernel
theorem tyJ0_ok : ∀ k, k < 0 → parseFieldDescriptor (TJ0 k).2.2.1 = some (tyJ0 k) := by decide +kernel
abbrev cJ0_length_8abf5 : ByteArray := prog_8_method_54_code
def yJ0_length_8abf5 : MethodName := ⟨RJ0, "length", "()I"⟩
abbrev cJ0_indexOf_0f7a4 : ByteArray := prog_8_method_79_code
def yJ0_indexOf_0f7a4 : MethodName := ⟨RJ0, "indexOf", "(I)I"⟩
abbrev cJ0_indexOf_7cf53 : ByteArray := prog_8_method_80_code
def yJ0_indexOf_7cf53 : MethodName := ⟨RJ0, "indexOf", "(II)I"⟩
abbrev cJ0_coder_7d493 : ByteArray := prog_8_method_152_code
def yJ0_coder_7d493 : MethodName := ⟨RJ0, "coder", "()B"⟩
abbrev cJ0_isLatin1_aae02 : ByteArray := prog_8_method_154_code
def yJ0_isLatin1_aae02 : MethodName := ⟨RJ0, "isLatin1", "()Z"⟩
abbrev cJ0_checkBoundsBeginEnd_23922 : ByteArray := prog_8_method_158_code
def yJ0_checkBoundsBeginEnd_23922 : MethodName := ⟨RJ0, "checkBoundsBeginEnd", "(III)V"⟩
def RJ1 : String := "java/lang/StringLatin1"
def TJ1 : u_T := fun k => match k with
  | _ => ("", "", "", false)
def tyJ1 : Nat → FieldType := fun k => match k with
  | _ => .int
theorem nmJ1 : ∀ a, a < 0 → ∀ b, b < 0 → a ≠ b → (TJ1 a).2.1 ≠ (TJ1 b).2.1 := by decide +kernel
theorem tyJ1_ok : ∀ k, k < 0 → parseFieldDescriptor (TJ1 k).2.2.1 = some (tyJ1 k) := by decide +kernel
abbrev cJ1_canEncode_9a6ad : ByteArray := prog_9_method_4_code
def yJ1_canEncode_9a6ad : MethodName := ⟨RJ1, "canEncode", "(I)Z"⟩
abbrev cJ1_indexOf_4cfef : ByteArray := prog_9_method_22_code
def yJ1_indexOf_4cfef : MethodName := ⟨RJ1, "indexOf", "([BIII)I"⟩
abbrev cJ1_indexOfChar_4cfef : ByteArray := prog_9_method_23_code
def yJ1_indexOfChar_4cfef : MethodName := ⟨RJ1, "indexOfChar", "([BIII)I"⟩
def RJ2 : String := "java/lang/StringUTF16"
def TJ2 : u_T := fun k => match k with
  | _ => ("", "", "", false)
def tyJ2 : Nat → FieldType := fun k => match k with
  | _ => .int
theorem nmJ2 : ∀ a, a < 0 → ∀ b, b < 0 → a ≠ b → (TJ2 a).2.1 ≠ (TJ2 b).2.1 := by decide +kernel
theorem tyJ2_ok : ∀ k, k < 0 → parseFieldDescriptor (TJ2 k).2.2.1 = some (tyJ2 k) := by decide +kernel
abbrev cJ2_getChar_3b067 : ByteArray := prog_10_method_5_code
def yJ2_getChar_3b067 : MethodName := ⟨RJ2, "getChar", "([BI)C"⟩
abbrev cJ2_length_9d52b : ByteArray := prog_10_method_6_code
def yJ2_length_9d52b : MethodName := ⟨RJ2, "length", "([B)I"⟩
abbrev cJ2_indexOf_4cfef : ByteArray := prog_10_method_40_code
def yJ2_indexOf_4cfef : MethodName := ⟨RJ2, "indexOf", "([BIII)I"⟩
abbrev cJ2_indexOfChar_4cfef : ByteArray := prog_10_method_47_code
def yJ2_indexOfChar_4cfef : MethodName := ⟨RJ2, "indexOfChar", "([BIII)I"⟩
abbrev cJ2_indexOfCharUnsafe_4cfef : ByteArray := prog_10_method_48_code
def yJ2_indexOfCharUnsafe_4cfef : MethodName := ⟨RJ2, "indexOfCharUnsafe", "([BIII)I"⟩
abbrev cJ2_indexOfSupplementary_4cfef : ByteArray := prog_10_method_49_code
def yJ2_indexOfSupplementary_4cfef : MethodName := ⟨RJ2, "indexOfSupplementary", "([BIII)I"⟩
abbrev cJ2_checkBoundsBeginEnd_d044e : ByteArray := prog_10_method_93_code
def yJ2_checkBoundsBeginEnd_d044e : MethodName := ⟨RJ2, "checkBoundsBeginEnd", "(II[B)V"⟩
def RJ10 : String := "java/lang/System"
def TJ10 : u_T := fun k => match k with
  | _ => ("", "", "", false)
def tyJ10 : Nat → FieldType := fun k => match k with
  | _ => .int
theorem nmJ10 : ∀ a, a < 0 → ∀ b, b < 0 → a ≠ b → (TJ10 a).2.1 ≠ (TJ10 b).2.1 := by decide +kernel
theorem tyJ10_ok : ∀ k, k < 0 → parseFieldDescriptor (TJ10 k).2.2.1 = some (tyJ10 k) := by decide +kernel
def RJ7 : String := "java/util/Arrays"
def TJ7 : u_T := fun k => match k with
  | _ => ("", "", "", false)
def tyJ7 : Nat → FieldType := fun k => match k with
  | _ => .int
theorem nmJ7 : ∀ a, a < 0 → ∀ b, b < 0 → a ≠ b → (TJ7 a).2.1 ≠ (TJ7 b).2.1 := by decide +kernel
theorem tyJ7_ok : ∀ k, k < 0 → parseFieldDescriptor (TJ7 k).2.2.1 = some (tyJ7 k) := by decide +kernel
abbrev cJ7_fill_53178 : ByteArray := prog_12_method_103_code
def yJ7_fill_53178 : MethodName := ⟨RJ7, "fill", "([II)V"⟩
def RJ3 : String := "jdk/internal/util/Preconditions"
def TJ3 : u_T := fun k => match k with
  | _ => ("", "", "", false)
def tyJ3 : Nat → FieldType := fun k => match k with
  | _ => .int
theorem nmJ3 : ∀ a, a < 0 → ∀ b, b < 0 → a ≠ b → (TJ3 a).2.1 ≠ (TJ3 b).2.1 := by decide +kernel
theorem tyJ3_ok : ∀ k, k < 0 → parseFieldDescriptor (TJ3 k).2.2.1 = some (tyJ3 k) := by decide +kernel
abbrev cJ3_checkFromToIndex_8c36e : ByteArray := prog_13_method_12_code
def yJ3_checkFromToIndex_8c36e : MethodName := ⟨RJ3, "checkFromToIndex", "(IIILjava/util/function/BiFunction;)I"⟩
def RL : String := "RocketsAskLaw"
abbrev cL_law : ByteArray := code
def yL_law : MethodName := ⟨RL, "law", "([I)Z"⟩
abbrev vwCl : List vw_C := [(RX0, TX0, 12), (RX1, TX1, 12), (RX2, TX2, 13)]
end
section
theorem dX0_init_0 : decode cX0_init 0 = .ok (.aload_n 0, 1) := by decide +kernel
theorem dX0_init_1 : decode cX0_init 1 = .ok (.invokespecial 3, 3) := by decide +kernel
theorem dX0_init_4 : decode cX0_init 4 = .ok (.aload_n 0, 1) := by decide +kernel
theorem dX0_init_5 : decode cX0_init 5 = .ok (.iconst 0, 1) := by decide +kernel
theorem dX0_init_6 : decode cX0_init 6 = .ok (.putfield 9, 3) := by decide +kernel
theorem dX0_init_9 : decode cX0_init 9 = .ok (.aload_n 0, 1) := by decide +kernel
theorem dX0_init_10 : decode cX0_init 10 = .ok (.bipush 9, 2) := by decide +kernel
theorem dX0_init_12 : decode cX0_init 12 = .ok (.newarray .int, 2) := by decide +kernel
theorem dX0_init_14 : decode cX0_init 14 = .ok (.putfield 15, 3) := by decide +kernel
theorem dX0_init_17 : decode cX0_init 17 = .ok (.aload_n 0, 1) := by decide +kernel
theorem dX0_init_18 : decode cX0_init 18 = .ok (.bipush 9, 2) := by decide +kernel
theorem dX0_init_20 : decode cX0_init 20 = .ok (.newarray .int, 2) := by decide +kernel
theorem dX0_init_22 : decode cX0_init 22 = .ok (.putfield 19, 3) := by decide +kernel
theorem dX0_init_25 : decode cX0_init 25 = .ok (.aload_n 0, 1) := by decide +kernel
theorem dX0_init_26 : decode cX0_init 26 = .ok (.bipush 9, 2) := by decide +kernel
theorem dX0_init_28 : decode cX0_init 28 = .ok (.newarray .int, 2) := by decide +kernel
theorem dX0_init_30 : decode cX0_init 30 = .ok (.putfield 22, 3) := by decide +kernel
theorem dX0_init_33 : decode cX0_init 33 = .ok (.aload_n 0, 1) := by decide +kernel
theorem dX0_init_34 : decode cX0_init 34 = .ok (.iconst 0, 1) := by decide +kernel
theorem dX0_init_35 : decode cX0_init 35 = .ok (.putfield 25, 3) := by decide +kernel
theorem dX0_init_38 : decode cX0_init 38 = .ok (.aload_n 0, 1) := by decide +kernel
theorem dX0_init_39 : decode cX0_init 39 = .ok (.iconst 0, 1) := by decide +kernel
theorem dX0_init_40 : decode cX0_init 40 = .ok (.putfield 28, 3) := by decide +kernel
theorem dX0_init_43 : decode cX0_init 43 = .ok (.aload_n 0, 1) := by decide +kernel
theorem dX0_init_44 : decode cX0_init 44 = .ok (.iconst 5, 1) := by decide +kernel
theorem dX0_init_45 : decode cX0_init 45 = .ok (.newarray .int, 2) := by decide +kernel
theorem dX0_init_47 : decode cX0_init 47 = .ok (.putfield 31, 3) := by decide +kernel
theorem dX0_init_50 : decode cX0_init 50 = .ok (.aload_n 0, 1) := by decide +kernel
theorem dX0_init_51 : decode cX0_init 51 = .ok (.iconst 5, 1) := by decide +kernel
theorem dX0_init_52 : decode cX0_init 52 = .ok (.newarray .int, 2) := by decide +kernel
theorem dX0_init_54 : decode cX0_init 54 = .ok (.putfield 34, 3) := by decide +kernel
theorem dX0_init_57 : decode cX0_init 57 = .ok (.aload_n 0, 1) := by decide +kernel
theorem dX0_init_58 : decode cX0_init 58 = .ok (.bipush 30, 2) := by decide +kernel
theorem dX0_init_60 : decode cX0_init 60 = .ok (.newarray .int, 2) := by decide +kernel
theorem dX0_init_62 : decode cX0_init 62 = .ok (.putfield 37, 3) := by decide +kernel
theorem dX0_init_65 : decode cX0_init 65 = .ok (.aload_n 0, 1) := by decide +kernel
theorem dX0_init_66 : decode cX0_init 66 = .ok (.bipush 100, 2) := by decide +kernel
theorem dX0_init_68 : decode cX0_init 68 = .ok (.putfield 40, 3) := by decide +kernel
theorem dX0_init_71 : decode cX0_init 71 = .ok (.aload_n 0, 1) := by decide +kernel
theorem dX0_init_72 : decode cX0_init 72 = .ok (.iconst 5, 1) := by decide +kernel
theorem dX0_init_73 : decode cX0_init 73 = .ok (.putfield 43, 3) := by decide +kernel
theorem dX0_init_76 : decode cX0_init 76 = .ok (.aload_n 0, 1) := by decide +kernel
theorem dX0_init_77 : decode cX0_init 77 = .ok (.iconst 0, 1) := by decide +kernel
theorem dX0_init_78 : decode cX0_init 78 = .ok (.putfield 46, 3) := by decide +kernel
theorem dX0_init_81 : decode cX0_init 81 = .ok (.return_, 1) := by decide +kernel
theorem dX0_copyFrom_0 : decode cX0_copyFrom 0 = .ok (.aload_n 0, 1) := by decide +kernel
theorem dX0_copyFrom_1 : decode cX0_copyFrom 1 = .ok (.aload_n 1, 1) := by decide +kernel
theorem dX0_copyFrom_2 : decode cX0_copyFrom 2 = .ok (.getfield 9, 3) := by decide +kernel
theorem dX0_copyFrom_5 : decode cX0_copyFrom 5 = .ok (.putfield 9, 3) := by decide +kernel
theorem dX0_copyFrom_8 : decode cX0_copyFrom 8 = .ok (.aload_n 1, 1) := by decide +kernel
theorem dX0_copyFrom_9 : decode cX0_copyFrom 9 = .ok (.getfield 15, 3) := by decide +kernel
theorem dX0_copyFrom_12 : decode cX0_copyFrom 12 = .ok (.iconst 0, 1) := by decide +kernel
theorem dX0_copyFrom_13 : decode cX0_copyFrom 13 = .ok (.aload_n 0, 1) := by decide +kernel
theorem dX0_copyFrom_14 : decode cX0_copyFrom 14 = .ok (.getfield 15, 3) := by decide +kernel
theorem dX0_copyFrom_17 : decode cX0_copyFrom 17 = .ok (.iconst 0, 1) := by decide +kernel
theorem dX0_copyFrom_18 : decode cX0_copyFrom 18 = .ok (.bipush 9, 2) := by decide +kernel
theorem dX0_copyFrom_20 : decode cX0_copyFrom 20 = .ok (.invokestatic 49, 3) := by decide +kernel
theorem dX0_copyFrom_23 : decode cX0_copyFrom 23 = .ok (.aload_n 1, 1) := by decide +kernel
theorem dX0_copyFrom_24 : decode cX0_copyFrom 24 = .ok (.getfield 19, 3) := by decide +kernel
theorem dX0_copyFrom_27 : decode cX0_copyFrom 27 = .ok (.iconst 0, 1) := by decide +kernel
theorem dX0_copyFrom_28 : decode cX0_copyFrom 28 = .ok (.aload_n 0, 1) := by decide +kernel
theorem dX0_copyFrom_29 : decode cX0_copyFrom 29 = .ok (.getfield 19, 3) := by decide +kernel
theorem dX0_copyFrom_32 : decode cX0_copyFrom 32 = .ok (.iconst 0, 1) := by decide +kernel
theorem dX0_copyFrom_33 : decode cX0_copyFrom 33 = .ok (.bipush 9, 2) := by decide +kernel
theorem dX0_copyFrom_35 : decode cX0_copyFrom 35 = .ok (.invokestatic 49, 3) := by decide +kernel
theorem dX0_copyFrom_38 : decode cX0_copyFrom 38 = .ok (.aload_n 1, 1) := by decide +kernel
theorem dX0_copyFrom_39 : decode cX0_copyFrom 39 = .ok (.getfield 22, 3) := by decide +kernel
theorem dX0_copyFrom_42 : decode cX0_copyFrom 42 = .ok (.iconst 0, 1) := by decide +kernel
theorem dX0_copyFrom_43 : decode cX0_copyFrom 43 = .ok (.aload_n 0, 1) := by decide +kernel
theorem dX0_copyFrom_44 : decode cX0_copyFrom 44 = .ok (.getfield 22, 3) := by decide +kernel
theorem dX0_copyFrom_47 : decode cX0_copyFrom 47 = .ok (.iconst 0, 1) := by decide +kernel
theorem dX0_copyFrom_48 : decode cX0_copyFrom 48 = .ok (.bipush 9, 2) := by decide +kernel
theorem dX0_copyFrom_50 : decode cX0_copyFrom 50 = .ok (.invokestatic 49, 3) := by decide +kernel
theorem dX0_copyFrom_53 : decode cX0_copyFrom 53 = .ok (.aload_n 0, 1) := by decide +kernel
theorem dX0_copyFrom_54 : decode cX0_copyFrom 54 = .ok (.aload_n 1, 1) := by decide +kernel
theorem dX0_copyFrom_55 : decode cX0_copyFrom 55 = .ok (.getfield 25, 3) := by decide +kernel
theorem dX0_copyFrom_58 : decode cX0_copyFrom 58 = .ok (.putfield 25, 3) := by decide +kernel
theorem dX0_copyFrom_61 : decode cX0_copyFrom 61 = .ok (.aload_n 0, 1) := by decide +kernel
theorem dX0_copyFrom_62 : decode cX0_copyFrom 62 = .ok (.aload_n 1, 1) := by decide +kernel
theorem dX0_copyFrom_63 : decode cX0_copyFrom 63 = .ok (.getfield 28, 3) := by decide +kernel
theorem dX0_copyFrom_66 : decode cX0_copyFrom 66 = .ok (.putfield 28, 3) := by decide +kernel
theorem dX0_copyFrom_69 : decode cX0_copyFrom 69 = .ok (.aload_n 1, 1) := by decide +kernel
theorem dX0_copyFrom_70 : decode cX0_copyFrom 70 = .ok (.getfield 31, 3) := by decide +kernel
theorem dX0_copyFrom_73 : decode cX0_copyFrom 73 = .ok (.iconst 0, 1) := by decide +kernel
theorem dX0_copyFrom_74 : decode cX0_copyFrom 74 = .ok (.aload_n 0, 1) := by decide +kernel
theorem dX0_copyFrom_75 : decode cX0_copyFrom 75 = .ok (.getfield 31, 3) := by decide +kernel
theorem dX0_copyFrom_78 : decode cX0_copyFrom 78 = .ok (.iconst 0, 1) := by decide +kernel
theorem dX0_copyFrom_79 : decode cX0_copyFrom 79 = .ok (.iconst 5, 1) := by decide +kernel
theorem dX0_copyFrom_80 : decode cX0_copyFrom 80 = .ok (.invokestatic 49, 3) := by decide +kernel
theorem dX0_copyFrom_83 : decode cX0_copyFrom 83 = .ok (.aload_n 1, 1) := by decide +kernel
theorem dX0_copyFrom_84 : decode cX0_copyFrom 84 = .ok (.getfield 34, 3) := by decide +kernel
theorem dX0_copyFrom_87 : decode cX0_copyFrom 87 = .ok (.iconst 0, 1) := by decide +kernel
theorem dX0_copyFrom_88 : decode cX0_copyFrom 88 = .ok (.aload_n 0, 1) := by decide +kernel
theorem dX0_copyFrom_89 : decode cX0_copyFrom 89 = .ok (.getfield 34, 3) := by decide +kernel
theorem dX0_copyFrom_92 : decode cX0_copyFrom 92 = .ok (.iconst 0, 1) := by decide +kernel
theorem dX0_copyFrom_93 : decode cX0_copyFrom 93 = .ok (.iconst 5, 1) := by decide +kernel
theorem dX0_copyFrom_94 : decode cX0_copyFrom 94 = .ok (.invokestatic 49, 3) := by decide +kernel
theorem dX0_copyFrom_97 : decode cX0_copyFrom 97 = .ok (.aload_n 1, 1) := by decide +kernel
theorem dX0_copyFrom_98 : decode cX0_copyFrom 98 = .ok (.getfield 37, 3) := by decide +kernel
theorem dX0_copyFrom_101 : decode cX0_copyFrom 101 = .ok (.iconst 0, 1) := by decide +kernel
theorem dX0_copyFrom_102 : decode cX0_copyFrom 102 = .ok (.aload_n 0, 1) := by decide +kernel
theorem dX0_copyFrom_103 : decode cX0_copyFrom 103 = .ok (.getfield 37, 3) := by decide +kernel
theorem dX0_copyFrom_106 : decode cX0_copyFrom 106 = .ok (.iconst 0, 1) := by decide +kernel
theorem dX0_copyFrom_107 : decode cX0_copyFrom 107 = .ok (.bipush 30, 2) := by decide +kernel
theorem dX0_copyFrom_109 : decode cX0_copyFrom 109 = .ok (.invokestatic 49, 3) := by decide +kernel
theorem dX0_copyFrom_112 : decode cX0_copyFrom 112 = .ok (.aload_n 0, 1) := by decide +kernel
theorem dX0_copyFrom_113 : decode cX0_copyFrom 113 = .ok (.aload_n 1, 1) := by decide +kernel
theorem dX0_copyFrom_114 : decode cX0_copyFrom 114 = .ok (.getfield 40, 3) := by decide +kernel
theorem dX0_copyFrom_117 : decode cX0_copyFrom 117 = .ok (.putfield 40, 3) := by decide +kernel
theorem dX0_copyFrom_120 : decode cX0_copyFrom 120 = .ok (.aload_n 0, 1) := by decide +kernel
theorem dX0_copyFrom_121 : decode cX0_copyFrom 121 = .ok (.aload_n 1, 1) := by decide +kernel
theorem dX0_copyFrom_122 : decode cX0_copyFrom 122 = .ok (.getfield 43, 3) := by decide +kernel
theorem dX0_copyFrom_125 : decode cX0_copyFrom 125 = .ok (.putfield 43, 3) := by decide +kernel
theorem dX0_copyFrom_128 : decode cX0_copyFrom 128 = .ok (.aload_n 0, 1) := by decide +kernel
theorem dX0_copyFrom_129 : decode cX0_copyFrom 129 = .ok (.aload_n 1, 1) := by decide +kernel
theorem dX0_copyFrom_130 : decode cX0_copyFrom 130 = .ok (.getfield 46, 3) := by decide +kernel
theorem dX0_copyFrom_133 : decode cX0_copyFrom 133 = .ok (.putfield 46, 3) := by decide +kernel
theorem dX0_copyFrom_136 : decode cX0_copyFrom 136 = .ok (.return_, 1) := by decide +kernel
theorem dX0_hasRocket_0 : decode cX0_hasRocket 0 = .ok (.iload_n 1, 1) := by decide +kernel
theorem dX0_hasRocket_1 : decode cX0_hasRocket 1 = .ok (.ifCond .lt 15, 3) := by decide +kernel
theorem dX0_hasRocket_4 : decode cX0_hasRocket 4 = .ok (.iload_n 1, 1) := by decide +kernel
theorem dX0_hasRocket_5 : decode cX0_hasRocket 5 = .ok (.aload_n 0, 1) := by decide +kernel
theorem dX0_hasRocket_6 : decode cX0_hasRocket 6 = .ok (.getfield 9, 3) := by decide +kernel
theorem dX0_hasRocket_9 : decode cX0_hasRocket 9 = .ok (.if_icmp .ge 7, 3) := by decide +kernel
theorem dX0_hasRocket_12 : decode cX0_hasRocket 12 = .ok (.iconst 1, 1) := by decide +kernel
theorem dX0_hasRocket_13 : decode cX0_hasRocket 13 = .ok (.goto 4, 3) := by decide +kernel
theorem dX0_hasRocket_16 : decode cX0_hasRocket 16 = .ok (.iconst 0, 1) := by decide +kernel
theorem dX0_hasRocket_17 : decode cX0_hasRocket 17 = .ok (.ireturn, 1) := by decide +kernel
theorem dX0_hasReader_0 : decode cX0_hasReader 0 = .ok (.iload_n 1, 1) := by decide +kernel
theorem dX0_hasReader_1 : decode cX0_hasReader 1 = .ok (.ifCond .lt 15, 3) := by decide +kernel
theorem dX0_hasReader_4 : decode cX0_hasReader 4 = .ok (.iload_n 1, 1) := by decide +kernel
theorem dX0_hasReader_5 : decode cX0_hasReader 5 = .ok (.aload_n 0, 1) := by decide +kernel
theorem dX0_hasReader_6 : decode cX0_hasReader 6 = .ok (.getfield 28, 3) := by decide +kernel
theorem dX0_hasReader_9 : decode cX0_hasReader 9 = .ok (.if_icmp .ge 7, 3) := by decide +kernel
theorem dX0_hasReader_12 : decode cX0_hasReader 12 = .ok (.iconst 1, 1) := by decide +kernel
theorem dX0_hasReader_13 : decode cX0_hasReader 13 = .ok (.goto 4, 3) := by decide +kernel
theorem dX0_hasReader_16 : decode cX0_hasReader 16 = .ok (.iconst 0, 1) := by decide +kernel
theorem dX0_hasReader_17 : decode cX0_hasReader 17 = .ok (.ireturn, 1) := by decide +kernel
theorem dX0_addRocket_0 : decode cX0_addRocket 0 = .ok (.iload_n 1, 1) := by decide +kernel
theorem dX0_addRocket_1 : decode cX0_addRocket 1 = .ok (.ifCond .lt 23, 3) := by decide +kernel
theorem dX0_addRocket_4 : decode cX0_addRocket 4 = .ok (.iload_n 1, 1) := by decide +kernel
theorem dX0_addRocket_5 : decode cX0_addRocket 5 = .ok (.bipush 6, 2) := by decide +kernel
theorem dX0_addRocket_7 : decode cX0_addRocket 7 = .ok (.if_icmp .ge 17, 3) := by decide +kernel
theorem dX0_addRocket_10 : decode cX0_addRocket 10 = .ok (.iload_n 3, 1) := by decide +kernel
theorem dX0_addRocket_11 : decode cX0_addRocket 11 = .ok (.ifCond .lt 13, 3) := by decide +kernel
theorem dX0_addRocket_14 : decode cX0_addRocket 14 = .ok (.iload_n 3, 1) := by decide +kernel
theorem dX0_addRocket_15 : decode cX0_addRocket 15 = .ok (.bipush 6, 2) := by decide +kernel
theorem dX0_addRocket_17 : decode cX0_addRocket 17 = .ok (.if_icmp .ge 7, 3) := by decide +kernel
theorem dX0_addRocket_20 : decode cX0_addRocket 20 = .ok (.iconst 1, 1) := by decide +kernel
theorem dX0_addRocket_21 : decode cX0_addRocket 21 = .ok (.goto 4, 3) := by decide +kernel
theorem dX0_addRocket_24 : decode cX0_addRocket 24 = .ok (.iconst 0, 1) := by decide +kernel
theorem dX0_addRocket_25 : decode cX0_addRocket 25 = .ok (.istore 4, 2) := by decide +kernel
theorem dX0_addRocket_27 : decode cX0_addRocket 27 = .ok (.iload 4, 2) := by decide +kernel
theorem dX0_addRocket_29 : decode cX0_addRocket 29 = .ok (.ifCond .eq 12, 3) := by decide +kernel
theorem dX0_addRocket_32 : decode cX0_addRocket 32 = .ok (.aload_n 0, 1) := by decide +kernel
theorem dX0_addRocket_33 : decode cX0_addRocket 33 = .ok (.getfield 9, 3) := by decide +kernel
theorem dX0_addRocket_36 : decode cX0_addRocket 36 = .ok (.bipush 9, 2) := by decide +kernel
theorem dX0_addRocket_38 : decode cX0_addRocket 38 = .ok (.if_icmp .lt 5, 3) := by decide +kernel
theorem dX0_addRocket_41 : decode cX0_addRocket 41 = .ok (.iconst 0, 1) := by decide +kernel
theorem dX0_addRocket_42 : decode cX0_addRocket 42 = .ok (.ireturn, 1) := by decide +kernel
theorem dX0_addRocket_43 : decode cX0_addRocket 43 = .ok (.aload_n 0, 1) := by decide +kernel
theorem dX0_addRocket_44 : decode cX0_addRocket 44 = .ok (.getfield 15, 3) := by decide +kernel
theorem dX0_addRocket_47 : decode cX0_addRocket 47 = .ok (.aload_n 0, 1) := by decide +kernel
theorem dX0_addRocket_48 : decode cX0_addRocket 48 = .ok (.getfield 9, 3) := by decide +kernel
theorem dX0_addRocket_51 : decode cX0_addRocket 51 = .ok (.iload_n 1, 1) := by decide +kernel
theorem dX0_addRocket_52 : decode cX0_addRocket 52 = .ok (.iastore, 1) := by decide +kernel
theorem dX0_addRocket_53 : decode cX0_addRocket 53 = .ok (.aload_n 0, 1) := by decide +kernel
theorem dX0_addRocket_54 : decode cX0_addRocket 54 = .ok (.getfield 19, 3) := by decide +kernel
theorem dX0_addRocket_57 : decode cX0_addRocket 57 = .ok (.aload_n 0, 1) := by decide +kernel
theorem dX0_addRocket_58 : decode cX0_addRocket 58 = .ok (.getfield 9, 3) := by decide +kernel
theorem dX0_addRocket_61 : decode cX0_addRocket 61 = .ok (.iload_n 2, 1) := by decide +kernel
theorem dX0_addRocket_62 : decode cX0_addRocket 62 = .ok (.iastore, 1) := by decide +kernel
theorem dX0_addRocket_63 : decode cX0_addRocket 63 = .ok (.aload_n 0, 1) := by decide +kernel
theorem dX0_addRocket_64 : decode cX0_addRocket 64 = .ok (.getfield 22, 3) := by decide +kernel
theorem dX0_addRocket_67 : decode cX0_addRocket 67 = .ok (.aload_n 0, 1) := by decide +kernel
theorem dX0_addRocket_68 : decode cX0_addRocket 68 = .ok (.getfield 9, 3) := by decide +kernel
theorem dX0_addRocket_71 : decode cX0_addRocket 71 = .ok (.iload_n 3, 1) := by decide +kernel
theorem dX0_addRocket_72 : decode cX0_addRocket 72 = .ok (.iastore, 1) := by decide +kernel
theorem dX0_addRocket_73 : decode cX0_addRocket 73 = .ok (.aload_n 0, 1) := by decide +kernel
theorem dX0_addRocket_74 : decode cX0_addRocket 74 = .ok (.dup, 1) := by decide +kernel
theorem dX0_addRocket_75 : decode cX0_addRocket 75 = .ok (.getfield 9, 3) := by decide +kernel
theorem dX0_addRocket_78 : decode cX0_addRocket 78 = .ok (.iconst 1, 1) := by decide +kernel
theorem dX0_addRocket_79 : decode cX0_addRocket 79 = .ok (.iadd, 1) := by decide +kernel
theorem dX0_addRocket_80 : decode cX0_addRocket 80 = .ok (.putfield 9, 3) := by decide +kernel
theorem dX0_addRocket_83 : decode cX0_addRocket 83 = .ok (.iconst 1, 1) := by decide +kernel
theorem dX0_addRocket_84 : decode cX0_addRocket 84 = .ok (.ireturn, 1) := by decide +kernel
theorem dX0_addReader_0 : decode cX0_addReader 0 = .ok (.iload_n 1, 1) := by decide +kernel
theorem dX0_addReader_1 : decode cX0_addReader 1 = .ok (.ifCond .lt 17, 3) := by decide +kernel
theorem dX0_addReader_4 : decode cX0_addReader 4 = .ok (.iload_n 1, 1) := by decide +kernel
theorem dX0_addReader_5 : decode cX0_addReader 5 = .ok (.bipush 20, 2) := by decide +kernel
theorem dX0_addReader_7 : decode cX0_addReader 7 = .ok (.if_icmp .ge 11, 3) := by decide +kernel
theorem dX0_addReader_10 : decode cX0_addReader 10 = .ok (.aload_n 0, 1) := by decide +kernel
theorem dX0_addReader_11 : decode cX0_addReader 11 = .ok (.getfield 28, 3) := by decide +kernel
theorem dX0_addReader_14 : decode cX0_addReader 14 = .ok (.iconst 5, 1) := by decide +kernel
theorem dX0_addReader_15 : decode cX0_addReader 15 = .ok (.if_icmp .lt 5, 3) := by decide +kernel
theorem dX0_addReader_18 : decode cX0_addReader 18 = .ok (.iconst 0, 1) := by decide +kernel
theorem dX0_addReader_19 : decode cX0_addReader 19 = .ok (.ireturn, 1) := by decide +kernel
theorem dX0_addReader_20 : decode cX0_addReader 20 = .ok (.aload_n 0, 1) := by decide +kernel
theorem dX0_addReader_21 : decode cX0_addReader 21 = .ok (.getfield 31, 3) := by decide +kernel
theorem dX0_addReader_24 : decode cX0_addReader 24 = .ok (.aload_n 0, 1) := by decide +kernel
theorem dX0_addReader_25 : decode cX0_addReader 25 = .ok (.getfield 28, 3) := by decide +kernel
theorem dX0_addReader_28 : decode cX0_addReader 28 = .ok (.iload_n 1, 1) := by decide +kernel
theorem dX0_addReader_29 : decode cX0_addReader 29 = .ok (.iastore, 1) := by decide +kernel
theorem dX0_addReader_30 : decode cX0_addReader 30 = .ok (.aload_n 0, 1) := by decide +kernel
theorem dX0_addReader_31 : decode cX0_addReader 31 = .ok (.getfield 34, 3) := by decide +kernel
theorem dX0_addReader_34 : decode cX0_addReader 34 = .ok (.aload_n 0, 1) := by decide +kernel
theorem dX0_addReader_35 : decode cX0_addReader 35 = .ok (.getfield 28, 3) := by decide +kernel
theorem dX0_addReader_38 : decode cX0_addReader 38 = .ok (.iload_n 2, 1) := by decide +kernel
theorem dX0_addReader_39 : decode cX0_addReader 39 = .ok (.iastore, 1) := by decide +kernel
theorem dX0_addReader_40 : decode cX0_addReader 40 = .ok (.aload_n 0, 1) := by decide +kernel
theorem dX0_addReader_41 : decode cX0_addReader 41 = .ok (.dup, 1) := by decide +kernel
theorem dX0_addReader_42 : decode cX0_addReader 42 = .ok (.getfield 28, 3) := by decide +kernel
theorem dX0_addReader_45 : decode cX0_addReader 45 = .ok (.iconst 1, 1) := by decide +kernel
theorem dX0_addReader_46 : decode cX0_addReader 46 = .ok (.iadd, 1) := by decide +kernel
theorem dX0_addReader_47 : decode cX0_addReader 47 = .ok (.putfield 28, 3) := by decide +kernel
theorem dX0_addReader_50 : decode cX0_addReader 50 = .ok (.iconst 1, 1) := by decide +kernel
theorem dX0_addReader_51 : decode cX0_addReader 51 = .ok (.ireturn, 1) := by decide +kernel
theorem dX0_isSent_0 : decode cX0_isSent 0 = .ok (.aload_n 0, 1) := by decide +kernel
theorem dX0_isSent_1 : decode cX0_isSent 1 = .ok (.getfield 25, 3) := by decide +kernel
theorem dX0_isSent_4 : decode cX0_isSent 4 = .ok (.iload_n 1, 1) := by decide +kernel
theorem dX0_isSent_5 : decode cX0_isSent 5 = .ok (.ishr, 1) := by decide +kernel
theorem dX0_isSent_6 : decode cX0_isSent 6 = .ok (.iconst 1, 1) := by decide +kernel
theorem dX0_isSent_7 : decode cX0_isSent 7 = .ok (.iand, 1) := by decide +kernel
theorem dX0_isSent_8 : decode cX0_isSent 8 = .ok (.iconst 1, 1) := by decide +kernel
theorem dX0_isSent_9 : decode cX0_isSent 9 = .ok (.if_icmp .ne 7, 3) := by decide +kernel
theorem dX0_isSent_12 : decode cX0_isSent 12 = .ok (.iconst 1, 1) := by decide +kernel
theorem dX0_isSent_13 : decode cX0_isSent 13 = .ok (.goto 4, 3) := by decide +kernel
theorem dX0_isSent_16 : decode cX0_isSent 16 = .ok (.iconst 0, 1) := by decide +kernel
theorem dX0_isSent_17 : decode cX0_isSent 17 = .ok (.ireturn, 1) := by decide +kernel
theorem dX0_costOf_0 : decode cX0_costOf 0 = .ok (.getstatic 55, 3) := by decide +kernel
theorem dX0_costOf_3 : decode cX0_costOf 3 = .ok (.aload_n 0, 1) := by decide +kernel
theorem dX0_costOf_4 : decode cX0_costOf 4 = .ok (.getfield 15, 3) := by decide +kernel
theorem dX0_costOf_7 : decode cX0_costOf 7 = .ok (.iload_n 1, 1) := by decide +kernel
theorem dX0_costOf_8 : decode cX0_costOf 8 = .ok (.iaload, 1) := by decide +kernel
theorem dX0_costOf_9 : decode cX0_costOf 9 = .ok (.iaload, 1) := by decide +kernel
theorem dX0_costOf_10 : decode cX0_costOf 10 = .ok (.ireturn, 1) := by decide +kernel
theorem dX0_reachOf_0 : decode cX0_reachOf 0 = .ok (.aload_n 0, 1) := by decide +kernel
theorem dX0_reachOf_1 : decode cX0_reachOf 1 = .ok (.getfield 19, 3) := by decide +kernel
theorem dX0_reachOf_4 : decode cX0_reachOf 4 = .ok (.iload_n 1, 1) := by decide +kernel
theorem dX0_reachOf_5 : decode cX0_reachOf 5 = .ok (.iaload, 1) := by decide +kernel
theorem dX0_reachOf_6 : decode cX0_reachOf 6 = .ok (.iconst 2, 1) := by decide +kernel
theorem dX0_reachOf_7 : decode cX0_reachOf 7 = .ok (.idiv, 1) := by decide +kernel
theorem dX0_reachOf_8 : decode cX0_reachOf 8 = .ok (.iconst 2, 1) := by decide +kernel
theorem dX0_reachOf_9 : decode cX0_reachOf 9 = .ok (.iadd, 1) := by decide +kernel
theorem dX0_reachOf_10 : decode cX0_reachOf 10 = .ok (.istore_n 2, 1) := by decide +kernel
theorem dX0_reachOf_11 : decode cX0_reachOf 11 = .ok (.aload_n 0, 1) := by decide +kernel
theorem dX0_reachOf_12 : decode cX0_reachOf 12 = .ok (.getfield 15, 3) := by decide +kernel
theorem dX0_reachOf_15 : decode cX0_reachOf 15 = .ok (.iload_n 1, 1) := by decide +kernel
theorem dX0_reachOf_16 : decode cX0_reachOf 16 = .ok (.iaload, 1) := by decide +kernel
theorem dX0_reachOf_17 : decode cX0_reachOf 17 = .ok (.tableswitch 57 1 5 #[35, 43, 47, 39, 51], 35) := by decide +kernel
theorem dX0_reachOf_52 : decode cX0_reachOf 52 = .ok (.iload_n 2, 1) := by decide +kernel
theorem dX0_reachOf_53 : decode cX0_reachOf 53 = .ok (.iconst 2, 1) := by decide +kernel
theorem dX0_reachOf_54 : decode cX0_reachOf 54 = .ok (.idiv, 1) := by decide +kernel
theorem dX0_reachOf_55 : decode cX0_reachOf 55 = .ok (.ireturn, 1) := by decide +kernel
theorem dX0_reachOf_56 : decode cX0_reachOf 56 = .ok (.iload_n 2, 1) := by decide +kernel
theorem dX0_reachOf_57 : decode cX0_reachOf 57 = .ok (.iconst 2, 1) := by decide +kernel
theorem dX0_reachOf_58 : decode cX0_reachOf 58 = .ok (.idiv, 1) := by decide +kernel
theorem dX0_reachOf_59 : decode cX0_reachOf 59 = .ok (.ireturn, 1) := by decide +kernel
theorem dX0_reachOf_60 : decode cX0_reachOf 60 = .ok (.iload_n 2, 1) := by decide +kernel
theorem dX0_reachOf_61 : decode cX0_reachOf 61 = .ok (.iconst 3, 1) := by decide +kernel
theorem dX0_reachOf_62 : decode cX0_reachOf 62 = .ok (.iadd, 1) := by decide +kernel
theorem dX0_reachOf_63 : decode cX0_reachOf 63 = .ok (.ireturn, 1) := by decide +kernel
theorem dX0_reachOf_64 : decode cX0_reachOf 64 = .ok (.iload_n 2, 1) := by decide +kernel
theorem dX0_reachOf_65 : decode cX0_reachOf 65 = .ok (.iconst 3, 1) := by decide +kernel
theorem dX0_reachOf_66 : decode cX0_reachOf 66 = .ok (.iadd, 1) := by decide +kernel
theorem dX0_reachOf_67 : decode cX0_reachOf 67 = .ok (.ireturn, 1) := by decide +kernel
theorem dX0_reachOf_68 : decode cX0_reachOf 68 = .ok (.iconst 2, 1) := by decide +kernel
theorem dX0_reachOf_69 : decode cX0_reachOf 69 = .ok (.iload_n 2, 1) := by decide +kernel
theorem dX0_reachOf_70 : decode cX0_reachOf 70 = .ok (.iconst 3, 1) := by decide +kernel
theorem dX0_reachOf_71 : decode cX0_reachOf 71 = .ok (.iadd, 1) := by decide +kernel
theorem dX0_reachOf_72 : decode cX0_reachOf 72 = .ok (.imul, 1) := by decide +kernel
theorem dX0_reachOf_73 : decode cX0_reachOf 73 = .ok (.ireturn, 1) := by decide +kernel
theorem dX0_reachOf_74 : decode cX0_reachOf 74 = .ok (.iload_n 2, 1) := by decide +kernel
theorem dX0_reachOf_75 : decode cX0_reachOf 75 = .ok (.ireturn, 1) := by decide +kernel
theorem dX0_darkOf_0 : decode cX0_darkOf 0 = .ok (.aload_n 0, 1) := by decide +kernel
theorem dX0_darkOf_1 : decode cX0_darkOf 1 = .ok (.getfield 19, 3) := by decide +kernel
theorem dX0_darkOf_4 : decode cX0_darkOf 4 = .ok (.iload_n 1, 1) := by decide +kernel
theorem dX0_darkOf_5 : decode cX0_darkOf 5 = .ok (.iaload, 1) := by decide +kernel
theorem dX0_darkOf_6 : decode cX0_darkOf 6 = .ok (.iconst 1, 1) := by decide +kernel
theorem dX0_darkOf_7 : decode cX0_darkOf 7 = .ok (.iadd, 1) := by decide +kernel
theorem dX0_darkOf_8 : decode cX0_darkOf 8 = .ok (.istore_n 2, 1) := by decide +kernel
theorem dX0_darkOf_9 : decode cX0_darkOf 9 = .ok (.aload_n 0, 1) := by decide +kernel
theorem dX0_darkOf_10 : decode cX0_darkOf 10 = .ok (.getfield 15, 3) := by decide +kernel
theorem dX0_darkOf_13 : decode cX0_darkOf 13 = .ok (.iload_n 1, 1) := by decide +kernel
theorem dX0_darkOf_14 : decode cX0_darkOf 14 = .ok (.iaload, 1) := by decide +kernel
theorem dX0_darkOf_15 : decode cX0_darkOf 15 = .ok (.tableswitch 50 1 5 #[33, 38, 42, 35, 46], 33) := by decide +kernel
theorem dX0_darkOf_48 : decode cX0_darkOf 48 = .ok (.iconst 0, 1) := by decide +kernel
theorem dX0_darkOf_49 : decode cX0_darkOf 49 = .ok (.ireturn, 1) := by decide +kernel
theorem dX0_darkOf_50 : decode cX0_darkOf 50 = .ok (.bipush 9, 2) := by decide +kernel
theorem dX0_darkOf_52 : decode cX0_darkOf 52 = .ok (.ireturn, 1) := by decide +kernel
theorem dX0_darkOf_53 : decode cX0_darkOf 53 = .ok (.iconst 2, 1) := by decide +kernel
theorem dX0_darkOf_54 : decode cX0_darkOf 54 = .ok (.iload_n 2, 1) := by decide +kernel
theorem dX0_darkOf_55 : decode cX0_darkOf 55 = .ok (.imul, 1) := by decide +kernel
theorem dX0_darkOf_56 : decode cX0_darkOf 56 = .ok (.ireturn, 1) := by decide +kernel
theorem dX0_darkOf_57 : decode cX0_darkOf 57 = .ok (.iconst 2, 1) := by decide +kernel
theorem dX0_darkOf_58 : decode cX0_darkOf 58 = .ok (.iload_n 2, 1) := by decide +kernel
theorem dX0_darkOf_59 : decode cX0_darkOf 59 = .ok (.imul, 1) := by decide +kernel
theorem dX0_darkOf_60 : decode cX0_darkOf 60 = .ok (.ireturn, 1) := by decide +kernel
theorem dX0_darkOf_61 : decode cX0_darkOf 61 = .ok (.iconst 2, 1) := by decide +kernel
theorem dX0_darkOf_62 : decode cX0_darkOf 62 = .ok (.iload_n 2, 1) := by decide +kernel
theorem dX0_darkOf_63 : decode cX0_darkOf 63 = .ok (.imul, 1) := by decide +kernel
theorem dX0_darkOf_64 : decode cX0_darkOf 64 = .ok (.ireturn, 1) := by decide +kernel
theorem dX0_darkOf_65 : decode cX0_darkOf 65 = .ok (.iload_n 2, 1) := by decide +kernel
theorem dX0_darkOf_66 : decode cX0_darkOf 66 = .ok (.ireturn, 1) := by decide +kernel
theorem dX0_burstOf_0 : decode cX0_burstOf 0 = .ok (.aload_n 0, 1) := by decide +kernel
theorem dX0_burstOf_1 : decode cX0_burstOf 1 = .ok (.getfield 15, 3) := by decide +kernel
theorem dX0_burstOf_4 : decode cX0_burstOf 4 = .ok (.iload_n 1, 1) := by decide +kernel
theorem dX0_burstOf_5 : decode cX0_burstOf 5 = .ok (.iaload, 1) := by decide +kernel
theorem dX0_burstOf_6 : decode cX0_burstOf 6 = .ok (.iconst 3, 1) := by decide +kernel
theorem dX0_burstOf_7 : decode cX0_burstOf 7 = .ok (.if_icmp .eq 13, 3) := by decide +kernel
theorem dX0_burstOf_10 : decode cX0_burstOf 10 = .ok (.aload_n 0, 1) := by decide +kernel
theorem dX0_burstOf_11 : decode cX0_burstOf 11 = .ok (.getfield 15, 3) := by decide +kernel
theorem dX0_burstOf_14 : decode cX0_burstOf 14 = .ok (.iload_n 1, 1) := by decide +kernel
theorem dX0_burstOf_15 : decode cX0_burstOf 15 = .ok (.iaload, 1) := by decide +kernel
theorem dX0_burstOf_16 : decode cX0_burstOf 16 = .ok (.iconst 5, 1) := by decide +kernel
theorem dX0_burstOf_17 : decode cX0_burstOf 17 = .ok (.if_icmp .ne 7, 3) := by decide +kernel
theorem dX0_burstOf_20 : decode cX0_burstOf 20 = .ok (.iconst 1, 1) := by decide +kernel
theorem dX0_burstOf_21 : decode cX0_burstOf 21 = .ok (.goto 4, 3) := by decide +kernel
theorem dX0_burstOf_24 : decode cX0_burstOf 24 = .ok (.iconst 0, 1) := by decide +kernel
theorem dX0_burstOf_25 : decode cX0_burstOf 25 = .ok (.istore_n 2, 1) := by decide +kernel
theorem dX0_burstOf_26 : decode cX0_burstOf 26 = .ok (.aload_n 0, 1) := by decide +kernel
theorem dX0_burstOf_27 : decode cX0_burstOf 27 = .ok (.getfield 43, 3) := by decide +kernel
theorem dX0_burstOf_30 : decode cX0_burstOf 30 = .ok (.iconst 5, 1) := by decide +kernel
theorem dX0_burstOf_31 : decode cX0_burstOf 31 = .ok (.isub, 1) := by decide +kernel
theorem dX0_burstOf_32 : decode cX0_burstOf 32 = .ok (.istore_n 3, 1) := by decide +kernel
theorem dX0_burstOf_33 : decode cX0_burstOf 33 = .ok (.bipush 10, 2) := by decide +kernel
theorem dX0_burstOf_35 : decode cX0_burstOf 35 = .ok (.iload_n 2, 1) := by decide +kernel
theorem dX0_burstOf_36 : decode cX0_burstOf 36 = .ok (.ifCond .eq 9, 3) := by decide +kernel
theorem dX0_burstOf_39 : decode cX0_burstOf 39 = .ok (.iconst 3, 1) := by decide +kernel
theorem dX0_burstOf_40 : decode cX0_burstOf 40 = .ok (.iload_n 3, 1) := by decide +kernel
theorem dX0_burstOf_41 : decode cX0_burstOf 41 = .ok (.imul, 1) := by decide +kernel
theorem dX0_burstOf_42 : decode cX0_burstOf 42 = .ok (.goto 4, 3) := by decide +kernel
theorem dX0_burstOf_45 : decode cX0_burstOf 45 = .ok (.iload_n 3, 1) := by decide +kernel
theorem dX0_burstOf_46 : decode cX0_burstOf 46 = .ok (.iadd, 1) := by decide +kernel
theorem dX0_burstOf_47 : decode cX0_burstOf 47 = .ok (.istore 4, 2) := by decide +kernel
theorem dX0_burstOf_49 : decode cX0_burstOf 49 = .ok (.iload 4, 2) := by decide +kernel
theorem dX0_burstOf_51 : decode cX0_burstOf 51 = .ok (.ifCond .ge 5, 3) := by decide +kernel
theorem dX0_burstOf_54 : decode cX0_burstOf 54 = .ok (.iconst 0, 1) := by decide +kernel
theorem dX0_burstOf_55 : decode cX0_burstOf 55 = .ok (.ireturn, 1) := by decide +kernel
theorem dX0_burstOf_56 : decode cX0_burstOf 56 = .ok (.iload 4, 2) := by decide +kernel
theorem dX0_burstOf_58 : decode cX0_burstOf 58 = .ok (.bipush 20, 2) := by decide +kernel
theorem dX0_burstOf_60 : decode cX0_burstOf 60 = .ok (.if_icmp .lt 8, 3) := by decide +kernel
theorem dX0_burstOf_63 : decode cX0_burstOf 63 = .ok (.bipush 19, 2) := by decide +kernel
theorem dX0_burstOf_65 : decode cX0_burstOf 65 = .ok (.goto 5, 3) := by decide +kernel
theorem dX0_burstOf_68 : decode cX0_burstOf 68 = .ok (.iload 4, 2) := by decide +kernel
theorem dX0_burstOf_70 : decode cX0_burstOf 70 = .ok (.ireturn, 1) := by decide +kernel
theorem dX0_readersOf_0 : decode cX0_readersOf 0 = .ok (.aload_n 0, 1) := by decide +kernel
theorem dX0_readersOf_1 : decode cX0_readersOf 1 = .ok (.iload_n 1, 1) := by decide +kernel
theorem dX0_readersOf_2 : decode cX0_readersOf 2 = .ok (.invokevirtual 58, 3) := by decide +kernel
theorem dX0_readersOf_5 : decode cX0_readersOf 5 = .ok (.istore_n 2, 1) := by decide +kernel
theorem dX0_readersOf_6 : decode cX0_readersOf 6 = .ok (.aload_n 0, 1) := by decide +kernel
theorem dX0_readersOf_7 : decode cX0_readersOf 7 = .ok (.iload_n 1, 1) := by decide +kernel
theorem dX0_readersOf_8 : decode cX0_readersOf 8 = .ok (.invokevirtual 62, 3) := by decide +kernel
theorem dX0_readersOf_11 : decode cX0_readersOf 11 = .ok (.istore_n 3, 1) := by decide +kernel
theorem dX0_readersOf_12 : decode cX0_readersOf 12 = .ok (.iconst 0, 1) := by decide +kernel
theorem dX0_readersOf_13 : decode cX0_readersOf 13 = .ok (.istore 4, 2) := by decide +kernel
theorem dX0_readersOf_15 : decode cX0_readersOf 15 = .ok (.iconst 0, 1) := by decide +kernel
theorem dX0_readersOf_16 : decode cX0_readersOf 16 = .ok (.istore 5, 2) := by decide +kernel
theorem dX0_readersOf_18 : decode cX0_readersOf 18 = .ok (.iload 5, 2) := by decide +kernel
theorem dX0_readersOf_20 : decode cX0_readersOf 20 = .ok (.aload_n 0, 1) := by decide +kernel
theorem dX0_readersOf_21 : decode cX0_readersOf 21 = .ok (.getfield 28, 3) := by decide +kernel
theorem dX0_readersOf_24 : decode cX0_readersOf 24 = .ok (.if_icmp .ge 58, 3) := by decide +kernel
theorem dX0_readersOf_27 : decode cX0_readersOf 27 = .ok (.aload_n 0, 1) := by decide +kernel
theorem dX0_readersOf_28 : decode cX0_readersOf 28 = .ok (.getfield 31, 3) := by decide +kernel
theorem dX0_readersOf_31 : decode cX0_readersOf 31 = .ok (.iload 5, 2) := by decide +kernel
theorem dX0_readersOf_33 : decode cX0_readersOf 33 = .ok (.iaload, 1) := by decide +kernel
theorem dX0_readersOf_34 : decode cX0_readersOf 34 = .ok (.iload_n 2, 1) := by decide +kernel
theorem dX0_readersOf_35 : decode cX0_readersOf 35 = .ok (.if_icmp .ge 15, 3) := by decide +kernel
theorem dX0_readersOf_38 : decode cX0_readersOf 38 = .ok (.iload_n 2, 1) := by decide +kernel
theorem dX0_readersOf_39 : decode cX0_readersOf 39 = .ok (.aload_n 0, 1) := by decide +kernel
theorem dX0_readersOf_40 : decode cX0_readersOf 40 = .ok (.getfield 31, 3) := by decide +kernel
theorem dX0_readersOf_43 : decode cX0_readersOf 43 = .ok (.iload 5, 2) := by decide +kernel
theorem dX0_readersOf_45 : decode cX0_readersOf 45 = .ok (.iaload, 1) := by decide +kernel
theorem dX0_readersOf_46 : decode cX0_readersOf 46 = .ok (.isub, 1) := by decide +kernel
theorem dX0_readersOf_47 : decode cX0_readersOf 47 = .ok (.goto 12, 3) := by decide +kernel
theorem dX0_readersOf_50 : decode cX0_readersOf 50 = .ok (.aload_n 0, 1) := by decide +kernel
theorem dX0_readersOf_51 : decode cX0_readersOf 51 = .ok (.getfield 31, 3) := by decide +kernel
theorem dX0_readersOf_54 : decode cX0_readersOf 54 = .ok (.iload 5, 2) := by decide +kernel
theorem dX0_readersOf_56 : decode cX0_readersOf 56 = .ok (.iaload, 1) := by decide +kernel
theorem dX0_readersOf_57 : decode cX0_readersOf 57 = .ok (.iload_n 2, 1) := by decide +kernel
theorem dX0_readersOf_58 : decode cX0_readersOf 58 = .ok (.isub, 1) := by decide +kernel
theorem dX0_readersOf_59 : decode cX0_readersOf 59 = .ok (.istore 6, 2) := by decide +kernel
theorem dX0_readersOf_61 : decode cX0_readersOf 61 = .ok (.iload 6, 2) := by decide +kernel
theorem dX0_readersOf_63 : decode cX0_readersOf 63 = .ok (.iload_n 3, 1) := by decide +kernel
theorem dX0_readersOf_64 : decode cX0_readersOf 64 = .ok (.if_icmp .gt 12, 3) := by decide +kernel
theorem dX0_readersOf_67 : decode cX0_readersOf 67 = .ok (.iload 4, 2) := by decide +kernel
theorem dX0_readersOf_69 : decode cX0_readersOf 69 = .ok (.iconst 1, 1) := by decide +kernel
theorem dX0_readersOf_70 : decode cX0_readersOf 70 = .ok (.iload 5, 2) := by decide +kernel
theorem dX0_readersOf_72 : decode cX0_readersOf 72 = .ok (.ishl, 1) := by decide +kernel
theorem dX0_readersOf_73 : decode cX0_readersOf 73 = .ok (.ior, 1) := by decide +kernel
theorem dX0_readersOf_74 : decode cX0_readersOf 74 = .ok (.istore 4, 2) := by decide +kernel
theorem dX0_readersOf_76 : decode cX0_readersOf 76 = .ok (.iinc 5 1, 3) := by decide +kernel
theorem dX0_readersOf_79 : decode cX0_readersOf 79 = .ok (.goto (-61), 3) := by decide +kernel
theorem dX0_readersOf_82 : decode cX0_readersOf 82 = .ok (.iload 4, 2) := by decide +kernel
theorem dX0_readersOf_84 : decode cX0_readersOf 84 = .ok (.ireturn, 1) := by decide +kernel
theorem dX0_canSend_0 : decode cX0_canSend 0 = .ok (.aload_n 0, 1) := by decide +kernel
theorem dX0_canSend_1 : decode cX0_canSend 1 = .ok (.iload_n 1, 1) := by decide +kernel
theorem dX0_canSend_2 : decode cX0_canSend 2 = .ok (.invokevirtual 65, 3) := by decide +kernel
theorem dX0_canSend_5 : decode cX0_canSend 5 = .ok (.ifCond .eq 27, 3) := by decide +kernel
theorem dX0_canSend_8 : decode cX0_canSend 8 = .ok (.aload_n 0, 1) := by decide +kernel
theorem dX0_canSend_9 : decode cX0_canSend 9 = .ok (.iload_n 1, 1) := by decide +kernel
theorem dX0_canSend_10 : decode cX0_canSend 10 = .ok (.invokevirtual 69, 3) := by decide +kernel
theorem dX0_canSend_13 : decode cX0_canSend 13 = .ok (.ifCond .ne 19, 3) := by decide +kernel
theorem dX0_canSend_16 : decode cX0_canSend 16 = .ok (.aload_n 0, 1) := by decide +kernel
theorem dX0_canSend_17 : decode cX0_canSend 17 = .ok (.iload_n 1, 1) := by decide +kernel
theorem dX0_canSend_18 : decode cX0_canSend 18 = .ok (.invokevirtual 72, 3) := by decide +kernel
theorem dX0_canSend_21 : decode cX0_canSend 21 = .ok (.aload_n 0, 1) := by decide +kernel
theorem dX0_canSend_22 : decode cX0_canSend 22 = .ok (.getfield 40, 3) := by decide +kernel
theorem dX0_canSend_25 : decode cX0_canSend 25 = .ok (.if_icmp .gt 7, 3) := by decide +kernel
theorem dX0_canSend_28 : decode cX0_canSend 28 = .ok (.iconst 1, 1) := by decide +kernel
theorem dX0_canSend_29 : decode cX0_canSend 29 = .ok (.goto 4, 3) := by decide +kernel
theorem dX0_canSend_32 : decode cX0_canSend 32 = .ok (.iconst 0, 1) := by decide +kernel
theorem dX0_canSend_33 : decode cX0_canSend 33 = .ok (.ireturn, 1) := by decide +kernel
theorem dX0_sendUp_0 : decode cX0_sendUp 0 = .ok (.aload_n 0, 1) := by decide +kernel
theorem dX0_sendUp_1 : decode cX0_sendUp 1 = .ok (.dup, 1) := by decide +kernel
theorem dX0_sendUp_2 : decode cX0_sendUp 2 = .ok (.getfield 40, 3) := by decide +kernel
theorem dX0_sendUp_5 : decode cX0_sendUp 5 = .ok (.aload_n 0, 1) := by decide +kernel
theorem dX0_sendUp_6 : decode cX0_sendUp 6 = .ok (.iload_n 1, 1) := by decide +kernel
theorem dX0_sendUp_7 : decode cX0_sendUp 7 = .ok (.invokevirtual 72, 3) := by decide +kernel
theorem dX0_sendUp_10 : decode cX0_sendUp 10 = .ok (.isub, 1) := by decide +kernel
theorem dX0_sendUp_11 : decode cX0_sendUp 11 = .ok (.putfield 40, 3) := by decide +kernel
theorem dX0_sendUp_14 : decode cX0_sendUp 14 = .ok (.aload_n 0, 1) := by decide +kernel
theorem dX0_sendUp_15 : decode cX0_sendUp 15 = .ok (.iload_n 1, 1) := by decide +kernel
theorem dX0_sendUp_16 : decode cX0_sendUp 16 = .ok (.invokevirtual 75, 3) := by decide +kernel
theorem dX0_sendUp_19 : decode cX0_sendUp 19 = .ok (.aload_n 0, 1) := by decide +kernel
theorem dX0_sendUp_20 : decode cX0_sendUp 20 = .ok (.iload_n 1, 1) := by decide +kernel
theorem dX0_sendUp_21 : decode cX0_sendUp 21 = .ok (.invokevirtual 79, 3) := by decide +kernel
theorem dX0_sendUp_24 : decode cX0_sendUp 24 = .ok (.iload_n 2, 1) := by decide +kernel
theorem dX0_sendUp_25 : decode cX0_sendUp 25 = .ok (.iand, 1) := by decide +kernel
theorem dX0_sendUp_26 : decode cX0_sendUp 26 = .ok (.istore_n 3, 1) := by decide +kernel
theorem dX0_sendUp_27 : decode cX0_sendUp 27 = .ok (.iconst 0, 1) := by decide +kernel
theorem dX0_sendUp_28 : decode cX0_sendUp 28 = .ok (.istore 4, 2) := by decide +kernel
theorem dX0_sendUp_30 : decode cX0_sendUp 30 = .ok (.iload 4, 2) := by decide +kernel
theorem dX0_sendUp_32 : decode cX0_sendUp 32 = .ok (.aload_n 0, 1) := by decide +kernel
theorem dX0_sendUp_33 : decode cX0_sendUp 33 = .ok (.getfield 28, 3) := by decide +kernel
theorem dX0_sendUp_36 : decode cX0_sendUp 36 = .ok (.if_icmp .ge 80, 3) := by decide +kernel
theorem dX0_sendUp_39 : decode cX0_sendUp 39 = .ok (.iload 4, 2) := by decide +kernel
theorem dX0_sendUp_41 : decode cX0_sendUp 41 = .ok (.bipush 6, 2) := by decide +kernel
theorem dX0_sendUp_43 : decode cX0_sendUp 43 = .ok (.imul, 1) := by decide +kernel
theorem dX0_sendUp_44 : decode cX0_sendUp 44 = .ok (.aload_n 0, 1) := by decide +kernel
theorem dX0_sendUp_45 : decode cX0_sendUp 45 = .ok (.getfield 22, 3) := by decide +kernel
theorem dX0_sendUp_48 : decode cX0_sendUp 48 = .ok (.iload_n 1, 1) := by decide +kernel
theorem dX0_sendUp_49 : decode cX0_sendUp 49 = .ok (.iaload, 1) := by decide +kernel
theorem dX0_sendUp_50 : decode cX0_sendUp 50 = .ok (.iadd, 1) := by decide +kernel
theorem dX0_sendUp_51 : decode cX0_sendUp 51 = .ok (.istore 5, 2) := by decide +kernel
theorem dX0_sendUp_53 : decode cX0_sendUp 53 = .ok (.aload_n 0, 1) := by decide +kernel
theorem dX0_sendUp_54 : decode cX0_sendUp 54 = .ok (.getfield 34, 3) := by decide +kernel
theorem dX0_sendUp_57 : decode cX0_sendUp 57 = .ok (.iload 4, 2) := by decide +kernel
theorem dX0_sendUp_59 : decode cX0_sendUp 59 = .ok (.iaload, 1) := by decide +kernel
theorem dX0_sendUp_60 : decode cX0_sendUp 60 = .ok (.bipush 9, 2) := by decide +kernel
theorem dX0_sendUp_62 : decode cX0_sendUp 62 = .ok (.if_icmp .ne 8, 3) := by decide +kernel
theorem dX0_sendUp_65 : decode cX0_sendUp 65 = .ok (.bipush 99, 2) := by decide +kernel
theorem dX0_sendUp_67 : decode cX0_sendUp 67 = .ok (.goto 10, 3) := by decide +kernel
theorem dX0_sendUp_70 : decode cX0_sendUp 70 = .ok (.aload_n 0, 1) := by decide +kernel
theorem dX0_sendUp_71 : decode cX0_sendUp 71 = .ok (.getfield 34, 3) := by decide +kernel
theorem dX0_sendUp_74 : decode cX0_sendUp 74 = .ok (.iload 4, 2) := by decide +kernel
theorem dX0_sendUp_76 : decode cX0_sendUp 76 = .ok (.iaload, 1) := by decide +kernel
theorem dX0_sendUp_77 : decode cX0_sendUp 77 = .ok (.istore 6, 2) := by decide +kernel
theorem dX0_sendUp_79 : decode cX0_sendUp 79 = .ok (.iload_n 3, 1) := by decide +kernel
theorem dX0_sendUp_80 : decode cX0_sendUp 80 = .ok (.iload 4, 2) := by decide +kernel
theorem dX0_sendUp_82 : decode cX0_sendUp 82 = .ok (.ishr, 1) := by decide +kernel
theorem dX0_sendUp_83 : decode cX0_sendUp 83 = .ok (.iconst 1, 1) := by decide +kernel
theorem dX0_sendUp_84 : decode cX0_sendUp 84 = .ok (.iand, 1) := by decide +kernel
theorem dX0_sendUp_85 : decode cX0_sendUp 85 = .ok (.iconst 1, 1) := by decide +kernel
theorem dX0_sendUp_86 : decode cX0_sendUp 86 = .ok (.if_icmp .ne 24, 3) := by decide +kernel
theorem dX0_sendUp_89 : decode cX0_sendUp 89 = .ok (.iload 6, 2) := by decide +kernel
theorem dX0_sendUp_91 : decode cX0_sendUp 91 = .ok (.aload_n 0, 1) := by decide +kernel
theorem dX0_sendUp_92 : decode cX0_sendUp 92 = .ok (.getfield 37, 3) := by decide +kernel
theorem dX0_sendUp_95 : decode cX0_sendUp 95 = .ok (.iload 5, 2) := by decide +kernel
theorem dX0_sendUp_97 : decode cX0_sendUp 97 = .ok (.iaload, 1) := by decide +kernel
theorem dX0_sendUp_98 : decode cX0_sendUp 98 = .ok (.if_icmp .le 12, 3) := by decide +kernel
theorem dX0_sendUp_101 : decode cX0_sendUp 101 = .ok (.aload_n 0, 1) := by decide +kernel
theorem dX0_sendUp_102 : decode cX0_sendUp 102 = .ok (.getfield 37, 3) := by decide +kernel
theorem dX0_sendUp_105 : decode cX0_sendUp 105 = .ok (.iload 5, 2) := by decide +kernel
theorem dX0_sendUp_107 : decode cX0_sendUp 107 = .ok (.iload 6, 2) := by decide +kernel
theorem dX0_sendUp_109 : decode cX0_sendUp 109 = .ok (.iastore, 1) := by decide +kernel
theorem dX0_sendUp_110 : decode cX0_sendUp 110 = .ok (.iinc 4 1, 3) := by decide +kernel
theorem dX0_sendUp_113 : decode cX0_sendUp 113 = .ok (.goto (-83), 3) := by decide +kernel
theorem dX0_sendUp_116 : decode cX0_sendUp 116 = .ok (.return_, 1) := by decide +kernel
theorem dX0_throwAway_0 : decode cX0_throwAway 0 = .ok (.aload_n 0, 1) := by decide +kernel
theorem dX0_throwAway_1 : decode cX0_throwAway 1 = .ok (.dup, 1) := by decide +kernel
theorem dX0_throwAway_2 : decode cX0_throwAway 2 = .ok (.getfield 25, 3) := by decide +kernel
theorem dX0_throwAway_5 : decode cX0_throwAway 5 = .ok (.iconst 1, 1) := by decide +kernel
theorem dX0_throwAway_6 : decode cX0_throwAway 6 = .ok (.iload_n 1, 1) := by decide +kernel
theorem dX0_throwAway_7 : decode cX0_throwAway 7 = .ok (.ishl, 1) := by decide +kernel
theorem dX0_throwAway_8 : decode cX0_throwAway 8 = .ok (.ior, 1) := by decide +kernel
theorem dX0_throwAway_9 : decode cX0_throwAway 9 = .ok (.putfield 25, 3) := by decide +kernel
theorem dX0_throwAway_12 : decode cX0_throwAway 12 = .ok (.return_, 1) := by decide +kernel
theorem dX0_putBack_0 : decode cX0_putBack 0 = .ok (.aload_n 0, 1) := by decide +kernel
theorem dX0_putBack_1 : decode cX0_putBack 1 = .ok (.dup, 1) := by decide +kernel
theorem dX0_putBack_2 : decode cX0_putBack 2 = .ok (.getfield 25, 3) := by decide +kernel
theorem dX0_putBack_5 : decode cX0_putBack 5 = .ok (.iconst 1, 1) := by decide +kernel
theorem dX0_putBack_6 : decode cX0_putBack 6 = .ok (.iload_n 1, 1) := by decide +kernel
theorem dX0_putBack_7 : decode cX0_putBack 7 = .ok (.ishl, 1) := by decide +kernel
theorem dX0_putBack_8 : decode cX0_putBack 8 = .ok (.iconst (-1), 1) := by decide +kernel
theorem dX0_putBack_9 : decode cX0_putBack 9 = .ok (.ixor, 1) := by decide +kernel
theorem dX0_putBack_10 : decode cX0_putBack 10 = .ok (.iand, 1) := by decide +kernel
theorem dX0_putBack_11 : decode cX0_putBack 11 = .ok (.putfield 25, 3) := by decide +kernel
theorem dX0_putBack_14 : decode cX0_putBack 14 = .ok (.return_, 1) := by decide +kernel
theorem dX0_upNext_0 : decode cX0_upNext 0 = .ok (.iconst 0, 1) := by decide +kernel
theorem dX0_upNext_1 : decode cX0_upNext 1 = .ok (.istore_n 1, 1) := by decide +kernel
theorem dX0_upNext_2 : decode cX0_upNext 2 = .ok (.iload_n 1, 1) := by decide +kernel
theorem dX0_upNext_3 : decode cX0_upNext 3 = .ok (.aload_n 0, 1) := by decide +kernel
theorem dX0_upNext_4 : decode cX0_upNext 4 = .ok (.getfield 9, 3) := by decide +kernel
theorem dX0_upNext_7 : decode cX0_upNext 7 = .ok (.if_icmp .ge 19, 3) := by decide +kernel
theorem dX0_upNext_10 : decode cX0_upNext 10 = .ok (.aload_n 0, 1) := by decide +kernel
theorem dX0_upNext_11 : decode cX0_upNext 11 = .ok (.iload_n 1, 1) := by decide +kernel
theorem dX0_upNext_12 : decode cX0_upNext 12 = .ok (.invokevirtual 82, 3) := by decide +kernel
theorem dX0_upNext_15 : decode cX0_upNext 15 = .ok (.ifCond .eq 5, 3) := by decide +kernel
theorem dX0_upNext_18 : decode cX0_upNext 18 = .ok (.iload_n 1, 1) := by decide +kernel
theorem dX0_upNext_19 : decode cX0_upNext 19 = .ok (.ireturn, 1) := by decide +kernel
theorem dX0_upNext_20 : decode cX0_upNext 20 = .ok (.iinc 1 1, 3) := by decide +kernel
theorem dX0_upNext_23 : decode cX0_upNext 23 = .ok (.goto (-21), 3) := by decide +kernel
theorem dX0_upNext_26 : decode cX0_upNext 26 = .ok (.bipush (-9), 2) := by decide +kernel
theorem dX0_upNext_28 : decode cX0_upNext 28 = .ok (.ireturn, 1) := by decide +kernel
theorem dX0_passNights_0 : decode cX0_passNights 0 = .ok (.iconst 0, 1) := by decide +kernel
theorem dX0_passNights_1 : decode cX0_passNights 1 = .ok (.istore_n 3, 1) := by decide +kernel
theorem dX0_passNights_2 : decode cX0_passNights 2 = .ok (.iload_n 3, 1) := by decide +kernel
theorem dX0_passNights_3 : decode cX0_passNights 3 = .ok (.iload_n 1, 1) := by decide +kernel
theorem dX0_passNights_4 : decode cX0_passNights 4 = .ok (.if_icmp .ge 43, 3) := by decide +kernel
theorem dX0_passNights_7 : decode cX0_passNights 7 = .ok (.aload_n 0, 1) := by decide +kernel
theorem dX0_passNights_8 : decode cX0_passNights 8 = .ok (.dup, 1) := by decide +kernel
theorem dX0_passNights_9 : decode cX0_passNights 9 = .ok (.getfield 46, 3) := by decide +kernel
theorem dX0_passNights_12 : decode cX0_passNights 12 = .ok (.iconst 1, 1) := by decide +kernel
theorem dX0_passNights_13 : decode cX0_passNights 13 = .ok (.iadd, 1) := by decide +kernel
theorem dX0_passNights_14 : decode cX0_passNights 14 = .ok (.putfield 46, 3) := by decide +kernel
theorem dX0_passNights_17 : decode cX0_passNights 17 = .ok (.aload_n 0, 1) := by decide +kernel
theorem dX0_passNights_18 : decode cX0_passNights 18 = .ok (.invokevirtual 85, 3) := by decide +kernel
theorem dX0_passNights_21 : decode cX0_passNights 21 = .ok (.aload_n 0, 1) := by decide +kernel
theorem dX0_passNights_22 : decode cX0_passNights 22 = .ok (.invokevirtual 88, 3) := by decide +kernel
theorem dX0_passNights_25 : decode cX0_passNights 25 = .ok (.istore 4, 2) := by decide +kernel
theorem dX0_passNights_27 : decode cX0_passNights 27 = .ok (.iload 4, 2) := by decide +kernel
theorem dX0_passNights_29 : decode cX0_passNights 29 = .ok (.bipush (-9), 2) := by decide +kernel
theorem dX0_passNights_31 : decode cX0_passNights 31 = .ok (.if_icmp .eq 10, 3) := by decide +kernel
theorem dX0_passNights_34 : decode cX0_passNights 34 = .ok (.aload_n 0, 1) := by decide +kernel
theorem dX0_passNights_35 : decode cX0_passNights 35 = .ok (.iload 4, 2) := by decide +kernel
theorem dX0_passNights_37 : decode cX0_passNights 37 = .ok (.iload_n 2, 1) := by decide +kernel
theorem dX0_passNights_38 : decode cX0_passNights 38 = .ok (.invokevirtual 92, 3) := by decide +kernel
theorem dX0_passNights_41 : decode cX0_passNights 41 = .ok (.iinc 3 1, 3) := by decide +kernel
theorem dX0_passNights_44 : decode cX0_passNights 44 = .ok (.goto (-42), 3) := by decide +kernel
theorem dX0_passNights_47 : decode cX0_passNights 47 = .ok (.return_, 1) := by decide +kernel
theorem dX0_forget_0 : decode cX0_forget 0 = .ok (.iconst 0, 1) := by decide +kernel
theorem dX0_forget_1 : decode cX0_forget 1 = .ok (.istore_n 1, 1) := by decide +kernel
theorem dX0_forget_2 : decode cX0_forget 2 = .ok (.iload_n 1, 1) := by decide +kernel
theorem dX0_forget_3 : decode cX0_forget 3 = .ok (.aload_n 0, 1) := by decide +kernel
theorem dX0_forget_4 : decode cX0_forget 4 = .ok (.getfield 28, 3) := by decide +kernel
theorem dX0_forget_7 : decode cX0_forget 7 = .ok (.bipush 6, 2) := by decide +kernel
theorem dX0_forget_9 : decode cX0_forget 9 = .ok (.imul, 1) := by decide +kernel
theorem dX0_forget_10 : decode cX0_forget 10 = .ok (.if_icmp .ge 39, 3) := by decide +kernel
theorem dX0_forget_13 : decode cX0_forget 13 = .ok (.aload_n 0, 1) := by decide +kernel
theorem dX0_forget_14 : decode cX0_forget 14 = .ok (.getfield 37, 3) := by decide +kernel
theorem dX0_forget_17 : decode cX0_forget 17 = .ok (.iload_n 1, 1) := by decide +kernel
theorem dX0_forget_18 : decode cX0_forget 18 = .ok (.iaload, 1) := by decide +kernel
theorem dX0_forget_19 : decode cX0_forget 19 = .ok (.ifCond .le 24, 3) := by decide +kernel
theorem dX0_forget_22 : decode cX0_forget 22 = .ok (.aload_n 0, 1) := by decide +kernel
theorem dX0_forget_23 : decode cX0_forget 23 = .ok (.getfield 37, 3) := by decide +kernel
theorem dX0_forget_26 : decode cX0_forget 26 = .ok (.iload_n 1, 1) := by decide +kernel
theorem dX0_forget_27 : decode cX0_forget 27 = .ok (.iaload, 1) := by decide +kernel
theorem dX0_forget_28 : decode cX0_forget 28 = .ok (.bipush 99, 2) := by decide +kernel
theorem dX0_forget_30 : decode cX0_forget 30 = .ok (.if_icmp .eq 13, 3) := by decide +kernel
theorem dX0_forget_33 : decode cX0_forget 33 = .ok (.aload_n 0, 1) := by decide +kernel
theorem dX0_forget_34 : decode cX0_forget 34 = .ok (.getfield 37, 3) := by decide +kernel
theorem dX0_forget_37 : decode cX0_forget 37 = .ok (.iload_n 1, 1) := by decide +kernel
theorem dX0_forget_38 : decode cX0_forget 38 = .ok (.dup2, 1) := by decide +kernel
theorem dX0_forget_39 : decode cX0_forget 39 = .ok (.iaload, 1) := by decide +kernel
theorem dX0_forget_40 : decode cX0_forget 40 = .ok (.iconst 1, 1) := by decide +kernel
theorem dX0_forget_41 : decode cX0_forget 41 = .ok (.isub, 1) := by decide +kernel
theorem dX0_forget_42 : decode cX0_forget 42 = .ok (.iastore, 1) := by decide +kernel
theorem dX0_forget_43 : decode cX0_forget 43 = .ok (.iinc 1 1, 3) := by decide +kernel
theorem dX0_forget_46 : decode cX0_forget 46 = .ok (.goto (-44), 3) := by decide +kernel
theorem dX0_forget_49 : decode cX0_forget 49 = .ok (.return_, 1) := by decide +kernel
theorem dX0_wordsOf_0 : decode cX0_wordsOf 0 = .ok (.iconst 0, 1) := by decide +kernel
theorem dX0_wordsOf_1 : decode cX0_wordsOf 1 = .ok (.istore_n 2, 1) := by decide +kernel
theorem dX0_wordsOf_2 : decode cX0_wordsOf 2 = .ok (.iconst 0, 1) := by decide +kernel
theorem dX0_wordsOf_3 : decode cX0_wordsOf 3 = .ok (.istore_n 3, 1) := by decide +kernel
theorem dX0_wordsOf_4 : decode cX0_wordsOf 4 = .ok (.iload_n 3, 1) := by decide +kernel
theorem dX0_wordsOf_5 : decode cX0_wordsOf 5 = .ok (.bipush 6, 2) := by decide +kernel
theorem dX0_wordsOf_7 : decode cX0_wordsOf 7 = .ok (.if_icmp .ge 29, 3) := by decide +kernel
theorem dX0_wordsOf_10 : decode cX0_wordsOf 10 = .ok (.aload_n 0, 1) := by decide +kernel
theorem dX0_wordsOf_11 : decode cX0_wordsOf 11 = .ok (.getfield 37, 3) := by decide +kernel
theorem dX0_wordsOf_14 : decode cX0_wordsOf 14 = .ok (.iload_n 1, 1) := by decide +kernel
theorem dX0_wordsOf_15 : decode cX0_wordsOf 15 = .ok (.bipush 6, 2) := by decide +kernel
theorem dX0_wordsOf_17 : decode cX0_wordsOf 17 = .ok (.imul, 1) := by decide +kernel
theorem dX0_wordsOf_18 : decode cX0_wordsOf 18 = .ok (.iload_n 3, 1) := by decide +kernel
theorem dX0_wordsOf_19 : decode cX0_wordsOf 19 = .ok (.iadd, 1) := by decide +kernel
theorem dX0_wordsOf_20 : decode cX0_wordsOf 20 = .ok (.iaload, 1) := by decide +kernel
theorem dX0_wordsOf_21 : decode cX0_wordsOf 21 = .ok (.ifCond .le 9, 3) := by decide +kernel
theorem dX0_wordsOf_24 : decode cX0_wordsOf 24 = .ok (.iload_n 2, 1) := by decide +kernel
theorem dX0_wordsOf_25 : decode cX0_wordsOf 25 = .ok (.iconst 1, 1) := by decide +kernel
theorem dX0_wordsOf_26 : decode cX0_wordsOf 26 = .ok (.iload_n 3, 1) := by decide +kernel
theorem dX0_wordsOf_27 : decode cX0_wordsOf 27 = .ok (.ishl, 1) := by decide +kernel
theorem dX0_wordsOf_28 : decode cX0_wordsOf 28 = .ok (.ior, 1) := by decide +kernel
theorem dX0_wordsOf_29 : decode cX0_wordsOf 29 = .ok (.istore_n 2, 1) := by decide +kernel
theorem dX0_wordsOf_30 : decode cX0_wordsOf 30 = .ok (.iinc 3 1, 3) := by decide +kernel
theorem dX0_wordsOf_33 : decode cX0_wordsOf 33 = .ok (.goto (-29), 3) := by decide +kernel
theorem dX0_wordsOf_36 : decode cX0_wordsOf 36 = .ok (.iload_n 2, 1) := by decide +kernel
theorem dX0_wordsOf_37 : decode cX0_wordsOf 37 = .ok (.ireturn, 1) := by decide +kernel
theorem dX0_isWhole_0 : decode cX0_isWhole 0 = .ok (.aload_n 0, 1) := by decide +kernel
theorem dX0_isWhole_1 : decode cX0_isWhole 1 = .ok (.iload_n 1, 1) := by decide +kernel
theorem dX0_isWhole_2 : decode cX0_isWhole 2 = .ok (.invokevirtual 96, 3) := by decide +kernel
theorem dX0_isWhole_5 : decode cX0_isWhole 5 = .ok (.bipush 63, 2) := by decide +kernel
theorem dX0_isWhole_7 : decode cX0_isWhole 7 = .ok (.if_icmp .ne 7, 3) := by decide +kernel
theorem dX0_isWhole_10 : decode cX0_isWhole 10 = .ok (.iconst 1, 1) := by decide +kernel
theorem dX0_isWhole_11 : decode cX0_isWhole 11 = .ok (.goto 4, 3) := by decide +kernel
theorem dX0_isWhole_14 : decode cX0_isWhole 14 = .ok (.iconst 0, 1) := by decide +kernel
theorem dX0_isWhole_15 : decode cX0_isWhole 15 = .ok (.ireturn, 1) := by decide +kernel
theorem dX0_countWhole_0 : decode cX0_countWhole 0 = .ok (.iconst 0, 1) := by decide +kernel
theorem dX0_countWhole_1 : decode cX0_countWhole 1 = .ok (.istore_n 1, 1) := by decide +kernel
theorem dX0_countWhole_2 : decode cX0_countWhole 2 = .ok (.iconst 0, 1) := by decide +kernel
theorem dX0_countWhole_3 : decode cX0_countWhole 3 = .ok (.istore_n 2, 1) := by decide +kernel
theorem dX0_countWhole_4 : decode cX0_countWhole 4 = .ok (.iload_n 2, 1) := by decide +kernel
theorem dX0_countWhole_5 : decode cX0_countWhole 5 = .ok (.aload_n 0, 1) := by decide +kernel
theorem dX0_countWhole_6 : decode cX0_countWhole 6 = .ok (.getfield 28, 3) := by decide +kernel
theorem dX0_countWhole_9 : decode cX0_countWhole 9 = .ok (.if_icmp .ge 25, 3) := by decide +kernel
theorem dX0_countWhole_12 : decode cX0_countWhole 12 = .ok (.iload_n 1, 1) := by decide +kernel
theorem dX0_countWhole_13 : decode cX0_countWhole 13 = .ok (.aload_n 0, 1) := by decide +kernel
theorem dX0_countWhole_14 : decode cX0_countWhole 14 = .ok (.iload_n 2, 1) := by decide +kernel
theorem dX0_countWhole_15 : decode cX0_countWhole 15 = .ok (.invokevirtual 99, 3) := by decide +kernel
theorem dX0_countWhole_18 : decode cX0_countWhole 18 = .ok (.ifCond .eq 7, 3) := by decide +kernel
theorem dX0_countWhole_21 : decode cX0_countWhole 21 = .ok (.iconst 1, 1) := by decide +kernel
theorem dX0_countWhole_22 : decode cX0_countWhole 22 = .ok (.goto 4, 3) := by decide +kernel
theorem dX0_countWhole_25 : decode cX0_countWhole 25 = .ok (.iconst 0, 1) := by decide +kernel
theorem dX0_countWhole_26 : decode cX0_countWhole 26 = .ok (.iadd, 1) := by decide +kernel
theorem dX0_countWhole_27 : decode cX0_countWhole 27 = .ok (.istore_n 1, 1) := by decide +kernel
theorem dX0_countWhole_28 : decode cX0_countWhole 28 = .ok (.iinc 2 1, 3) := by decide +kernel
theorem dX0_countWhole_31 : decode cX0_countWhole 31 = .ok (.goto (-27), 3) := by decide +kernel
theorem dX0_countWhole_34 : decode cX0_countWhole 34 = .ok (.iload_n 1, 1) := by decide +kernel
theorem dX0_countWhole_35 : decode cX0_countWhole 35 = .ok (.ireturn, 1) := by decide +kernel
theorem dX0_countWords_0 : decode cX0_countWords 0 = .ok (.iconst 0, 1) := by decide +kernel
theorem dX0_countWords_1 : decode cX0_countWords 1 = .ok (.istore_n 1, 1) := by decide +kernel
theorem dX0_countWords_2 : decode cX0_countWords 2 = .ok (.iconst 0, 1) := by decide +kernel
theorem dX0_countWords_3 : decode cX0_countWords 3 = .ok (.istore_n 2, 1) := by decide +kernel
theorem dX0_countWords_4 : decode cX0_countWords 4 = .ok (.iload_n 2, 1) := by decide +kernel
theorem dX0_countWords_5 : decode cX0_countWords 5 = .ok (.aload_n 0, 1) := by decide +kernel
theorem dX0_countWords_6 : decode cX0_countWords 6 = .ok (.getfield 28, 3) := by decide +kernel
theorem dX0_countWords_9 : decode cX0_countWords 9 = .ok (.if_icmp .ge 20, 3) := by decide +kernel
theorem dX0_countWords_12 : decode cX0_countWords 12 = .ok (.iload_n 1, 1) := by decide +kernel
theorem dX0_countWords_13 : decode cX0_countWords 13 = .ok (.aload_n 0, 1) := by decide +kernel
theorem dX0_countWords_14 : decode cX0_countWords 14 = .ok (.iload_n 2, 1) := by decide +kernel
theorem dX0_countWords_15 : decode cX0_countWords 15 = .ok (.invokevirtual 96, 3) := by decide +kernel
theorem dX0_countWords_18 : decode cX0_countWords 18 = .ok (.invokestatic 102, 3) := by decide +kernel
theorem dX0_countWords_21 : decode cX0_countWords 21 = .ok (.iadd, 1) := by decide +kernel
theorem dX0_countWords_22 : decode cX0_countWords 22 = .ok (.istore_n 1, 1) := by decide +kernel
theorem dX0_countWords_23 : decode cX0_countWords 23 = .ok (.iinc 2 1, 3) := by decide +kernel
theorem dX0_countWords_26 : decode cX0_countWords 26 = .ok (.goto (-22), 3) := by decide +kernel
theorem dX0_countWords_29 : decode cX0_countWords 29 = .ok (.iload_n 1, 1) := by decide +kernel
theorem dX0_countWords_30 : decode cX0_countWords 30 = .ok (.ireturn, 1) := by decide +kernel
theorem dX1_init_0 : decode cX1_init 0 = .ok (.aload_n 0, 1) := by decide +kernel
theorem dX1_init_1 : decode cX1_init 1 = .ok (.invokespecial 1, 3) := by decide +kernel
theorem dX1_init_4 : decode cX1_init 4 = .ok (.aload_n 0, 1) := by decide +kernel
theorem dX1_init_5 : decode cX1_init 5 = .ok (.new 7, 3) := by decide +kernel
theorem dX1_init_8 : decode cX1_init 8 = .ok (.dup, 1) := by decide +kernel
theorem dX1_init_9 : decode cX1_init 9 = .ok (.invokespecial 9, 3) := by decide +kernel
theorem dX1_init_12 : decode cX1_init 12 = .ok (.putfield 10, 3) := by decide +kernel
theorem dX1_init_15 : decode cX1_init 15 = .ok (.aload_n 0, 1) := by decide +kernel
theorem dX1_init_16 : decode cX1_init 16 = .ok (.new 7, 3) := by decide +kernel
theorem dX1_init_19 : decode cX1_init 19 = .ok (.dup, 1) := by decide +kernel
theorem dX1_init_20 : decode cX1_init 20 = .ok (.invokespecial 9, 3) := by decide +kernel
theorem dX1_init_23 : decode cX1_init 23 = .ok (.putfield 16, 3) := by decide +kernel
theorem dX1_init_26 : decode cX1_init 26 = .ok (.aload_n 0, 1) := by decide +kernel
theorem dX1_init_27 : decode cX1_init 27 = .ok (.new 7, 3) := by decide +kernel
theorem dX1_init_30 : decode cX1_init 30 = .ok (.dup, 1) := by decide +kernel
theorem dX1_init_31 : decode cX1_init 31 = .ok (.invokespecial 9, 3) := by decide +kernel
theorem dX1_init_34 : decode cX1_init 34 = .ok (.putfield 19, 3) := by decide +kernel
theorem dX1_init_37 : decode cX1_init 37 = .ok (.aload_n 0, 1) := by decide +kernel
theorem dX1_init_38 : decode cX1_init 38 = .ok (.iconst 0, 1) := by decide +kernel
theorem dX1_init_39 : decode cX1_init 39 = .ok (.putfield 22, 3) := by decide +kernel
theorem dX1_init_42 : decode cX1_init 42 = .ok (.aload_n 0, 1) := by decide +kernel
theorem dX1_init_43 : decode cX1_init 43 = .ok (.bipush 96, 2) := by decide +kernel
theorem dX1_init_45 : decode cX1_init 45 = .ok (.newarray .int, 2) := by decide +kernel
theorem dX1_init_47 : decode cX1_init 47 = .ok (.putfield 26, 3) := by decide +kernel
theorem dX1_init_50 : decode cX1_init 50 = .ok (.aload_n 0, 1) := by decide +kernel
theorem dX1_init_51 : decode cX1_init 51 = .ok (.iconst 0, 1) := by decide +kernel
theorem dX1_init_52 : decode cX1_init 52 = .ok (.putfield 30, 3) := by decide +kernel
theorem dX1_init_55 : decode cX1_init 55 = .ok (.aload_n 0, 1) := by decide +kernel
theorem dX1_init_56 : decode cX1_init 56 = .ok (.bipush 16, 2) := by decide +kernel
theorem dX1_init_58 : decode cX1_init 58 = .ok (.newarray .int, 2) := by decide +kernel
theorem dX1_init_60 : decode cX1_init 60 = .ok (.putfield 34, 3) := by decide +kernel
theorem dX1_init_63 : decode cX1_init 63 = .ok (.aload_n 0, 1) := by decide +kernel
theorem dX1_init_64 : decode cX1_init 64 = .ok (.iconst 0, 1) := by decide +kernel
theorem dX1_init_65 : decode cX1_init 65 = .ok (.putfield 37, 3) := by decide +kernel
theorem dX1_init_68 : decode cX1_init 68 = .ok (.aload_n 0, 1) := by decide +kernel
theorem dX1_init_69 : decode cX1_init 69 = .ok (.bipush 7, 2) := by decide +kernel
theorem dX1_init_71 : decode cX1_init 71 = .ok (.newarray .int, 2) := by decide +kernel
theorem dX1_init_73 : decode cX1_init 73 = .ok (.putfield 40, 3) := by decide +kernel
theorem dX1_init_76 : decode cX1_init 76 = .ok (.aload_n 0, 1) := by decide +kernel
theorem dX1_init_77 : decode cX1_init 77 = .ok (.bipush 9, 2) := by decide +kernel
theorem dX1_init_79 : decode cX1_init 79 = .ok (.newarray .int, 2) := by decide +kernel
theorem dX1_init_81 : decode cX1_init 81 = .ok (.putfield 43, 3) := by decide +kernel
theorem dX1_init_84 : decode cX1_init 84 = .ok (.aload_n 0, 1) := by decide +kernel
theorem dX1_init_85 : decode cX1_init 85 = .ok (.iconst 4, 1) := by decide +kernel
theorem dX1_init_86 : decode cX1_init 86 = .ok (.newarray .int, 2) := by decide +kernel
theorem dX1_init_88 : decode cX1_init 88 = .ok (.putfield 46, 3) := by decide +kernel
theorem dX1_init_91 : decode cX1_init 91 = .ok (.aload_n 0, 1) := by decide +kernel
theorem dX1_init_92 : decode cX1_init 92 = .ok (.iconst 4, 1) := by decide +kernel
theorem dX1_init_93 : decode cX1_init 93 = .ok (.newarray .int, 2) := by decide +kernel
theorem dX1_init_95 : decode cX1_init 95 = .ok (.putfield 49, 3) := by decide +kernel
theorem dX1_init_98 : decode cX1_init 98 = .ok (.return_, 1) := by decide +kernel
theorem dX1_letter_0 : decode cX1_letter 0 = .ok (.iload_n 1, 1) := by decide +kernel
theorem dX1_letter_1 : decode cX1_letter 1 = .ok (.ifCond .ge 10, 3) := by decide +kernel
theorem dX1_letter_4 : decode cX1_letter 4 = .ok (.aload_n 0, 1) := by decide +kernel
theorem dX1_letter_5 : decode cX1_letter 5 = .ok (.bipush (-4), 2) := by decide +kernel
theorem dX1_letter_7 : decode cX1_letter 7 = .ok (.invokevirtual 52, 3) := by decide +kernel
theorem dX1_letter_10 : decode cX1_letter 10 = .ok (.ireturn, 1) := by decide +kernel
theorem dX1_letter_11 : decode cX1_letter 11 = .ok (.iload_n 1, 1) := by decide +kernel
theorem dX1_letter_12 : decode cX1_letter 12 = .ok (.sipush 255, 3) := by decide +kernel
theorem dX1_letter_15 : decode cX1_letter 15 = .ok (.if_icmp .gt 12, 3) := by decide +kernel
theorem dX1_letter_18 : decode cX1_letter 18 = .ok (.aload_n 0, 1) := by decide +kernel
theorem dX1_letter_19 : decode cX1_letter 19 = .ok (.getfield 30, 3) := by decide +kernel
theorem dX1_letter_22 : decode cX1_letter 22 = .ok (.bipush 96, 2) := by decide +kernel
theorem dX1_letter_24 : decode cX1_letter 24 = .ok (.if_icmp .lt 10, 3) := by decide +kernel
theorem dX1_letter_27 : decode cX1_letter 27 = .ok (.aload_n 0, 1) := by decide +kernel
theorem dX1_letter_28 : decode cX1_letter 28 = .ok (.bipush (-6), 2) := by decide +kernel
theorem dX1_letter_30 : decode cX1_letter 30 = .ok (.invokevirtual 52, 3) := by decide +kernel
theorem dX1_letter_33 : decode cX1_letter 33 = .ok (.ireturn, 1) := by decide +kernel
theorem dX1_letter_34 : decode cX1_letter 34 = .ok (.aload_n 0, 1) := by decide +kernel
theorem dX1_letter_35 : decode cX1_letter 35 = .ok (.getfield 26, 3) := by decide +kernel
theorem dX1_letter_38 : decode cX1_letter 38 = .ok (.aload_n 0, 1) := by decide +kernel
theorem dX1_letter_39 : decode cX1_letter 39 = .ok (.getfield 30, 3) := by decide +kernel
theorem dX1_letter_42 : decode cX1_letter 42 = .ok (.iload_n 1, 1) := by decide +kernel
theorem dX1_letter_43 : decode cX1_letter 43 = .ok (.iastore, 1) := by decide +kernel
theorem dX1_letter_44 : decode cX1_letter 44 = .ok (.aload_n 0, 1) := by decide +kernel
theorem dX1_letter_45 : decode cX1_letter 45 = .ok (.dup, 1) := by decide +kernel
theorem dX1_letter_46 : decode cX1_letter 46 = .ok (.getfield 30, 3) := by decide +kernel
theorem dX1_letter_49 : decode cX1_letter 49 = .ok (.iconst 1, 1) := by decide +kernel
theorem dX1_letter_50 : decode cX1_letter 50 = .ok (.iadd, 1) := by decide +kernel
theorem dX1_letter_51 : decode cX1_letter 51 = .ok (.putfield 30, 3) := by decide +kernel
theorem dX1_letter_54 : decode cX1_letter 54 = .ok (.aload_n 0, 1) := by decide +kernel
theorem dX1_letter_55 : decode cX1_letter 55 = .ok (.getfield 30, 3) := by decide +kernel
theorem dX1_letter_58 : decode cX1_letter 58 = .ok (.ireturn, 1) := by decide +kernel
theorem dX1_valley_0 : decode cX1_valley 0 = .ok (.aload_n 0, 1) := by decide +kernel
theorem dX1_valley_1 : decode cX1_valley 1 = .ok (.getfield 30, 3) := by decide +kernel
theorem dX1_valley_4 : decode cX1_valley 4 = .ok (.istore_n 1, 1) := by decide +kernel
theorem dX1_valley_5 : decode cX1_valley 5 = .ok (.aload_n 0, 1) := by decide +kernel
theorem dX1_valley_6 : decode cX1_valley 6 = .ok (.iconst 0, 1) := by decide +kernel
theorem dX1_valley_7 : decode cX1_valley 7 = .ok (.putfield 30, 3) := by decide +kernel
theorem dX1_valley_10 : decode cX1_valley 10 = .ok (.aload_n 0, 1) := by decide +kernel
theorem dX1_valley_11 : decode cX1_valley 11 = .ok (.iload_n 1, 1) := by decide +kernel
theorem dX1_valley_12 : decode cX1_valley 12 = .ok (.invokevirtual 56, 3) := by decide +kernel
theorem dX1_valley_15 : decode cX1_valley 15 = .ok (.istore_n 2, 1) := by decide +kernel
theorem dX1_valley_16 : decode cX1_valley 16 = .ok (.iload_n 2, 1) := by decide +kernel
theorem dX1_valley_17 : decode cX1_valley 17 = .ok (.ifCond .lt 9, 3) := by decide +kernel
theorem dX1_valley_20 : decode cX1_valley 20 = .ok (.sipush (-1000), 3) := by decide +kernel
theorem dX1_valley_23 : decode cX1_valley 23 = .ok (.iload_n 2, 1) := by decide +kernel
theorem dX1_valley_24 : decode cX1_valley 24 = .ok (.isub, 1) := by decide +kernel
theorem dX1_valley_25 : decode cX1_valley 25 = .ok (.ireturn, 1) := by decide +kernel
theorem dX1_valley_26 : decode cX1_valley 26 = .ok (.aload_n 0, 1) := by decide +kernel
theorem dX1_valley_27 : decode cX1_valley 27 = .ok (.getfield 16, 3) := by decide +kernel
theorem dX1_valley_30 : decode cX1_valley 30 = .ok (.aload_n 0, 1) := by decide +kernel
theorem dX1_valley_31 : decode cX1_valley 31 = .ok (.getfield 10, 3) := by decide +kernel
theorem dX1_valley_34 : decode cX1_valley 34 = .ok (.invokevirtual 59, 3) := by decide +kernel
theorem dX1_valley_37 : decode cX1_valley 37 = .ok (.iconst 0, 1) := by decide +kernel
theorem dX1_valley_38 : decode cX1_valley 38 = .ok (.istore_n 3, 1) := by decide +kernel
theorem dX1_valley_39 : decode cX1_valley 39 = .ok (.iconst 0, 1) := by decide +kernel
theorem dX1_valley_40 : decode cX1_valley 40 = .ok (.istore 4, 2) := by decide +kernel
theorem dX1_valley_42 : decode cX1_valley 42 = .ok (.iload 4, 2) := by decide +kernel
theorem dX1_valley_44 : decode cX1_valley 44 = .ok (.iload_n 1, 1) := by decide +kernel
theorem dX1_valley_45 : decode cX1_valley 45 = .ok (.if_icmp .ge 42, 3) := by decide +kernel
theorem dX1_valley_48 : decode cX1_valley 48 = .ok (.aload_n 0, 1) := by decide +kernel
theorem dX1_valley_49 : decode cX1_valley 49 = .ok (.iload 4, 2) := by decide +kernel
theorem dX1_valley_51 : decode cX1_valley 51 = .ok (.invokevirtual 63, 3) := by decide +kernel
theorem dX1_valley_54 : decode cX1_valley 54 = .ok (.ifCond .ne 10, 3) := by decide +kernel
theorem dX1_valley_57 : decode cX1_valley 57 = .ok (.sipush (-2000), 3) := by decide +kernel
theorem dX1_valley_60 : decode cX1_valley 60 = .ok (.iload 4, 2) := by decide +kernel
theorem dX1_valley_62 : decode cX1_valley 62 = .ok (.isub, 1) := by decide +kernel
theorem dX1_valley_63 : decode cX1_valley 63 = .ok (.ireturn, 1) := by decide +kernel
theorem dX1_valley_64 : decode cX1_valley 64 = .ok (.iinc 3 1, 3) := by decide +kernel
theorem dX1_valley_67 : decode cX1_valley 67 = .ok (.iload 4, 2) := by decide +kernel
theorem dX1_valley_69 : decode cX1_valley 69 = .ok (.iconst 1, 1) := by decide +kernel
theorem dX1_valley_70 : decode cX1_valley 70 = .ok (.aload_n 0, 1) := by decide +kernel
theorem dX1_valley_71 : decode cX1_valley 71 = .ok (.getfield 26, 3) := by decide +kernel
theorem dX1_valley_74 : decode cX1_valley 74 = .ok (.iload 4, 2) := by decide +kernel
theorem dX1_valley_76 : decode cX1_valley 76 = .ok (.iaload, 1) := by decide +kernel
theorem dX1_valley_77 : decode cX1_valley 77 = .ok (.invokestatic 67, 3) := by decide +kernel
theorem dX1_valley_80 : decode cX1_valley 80 = .ok (.iadd, 1) := by decide +kernel
theorem dX1_valley_81 : decode cX1_valley 81 = .ok (.iadd, 1) := by decide +kernel
theorem dX1_valley_82 : decode cX1_valley 82 = .ok (.istore 4, 2) := by decide +kernel
theorem dX1_valley_84 : decode cX1_valley 84 = .ok (.goto (-42), 3) := by decide +kernel
theorem dX1_valley_87 : decode cX1_valley 87 = .ok (.aload_n 0, 1) := by decide +kernel
theorem dX1_valley_88 : decode cX1_valley 88 = .ok (.getfield 10, 3) := by decide +kernel
theorem dX1_valley_91 : decode cX1_valley 91 = .ok (.aload_n 0, 1) := by decide +kernel
theorem dX1_valley_92 : decode cX1_valley 92 = .ok (.getfield 16, 3) := by decide +kernel
theorem dX1_valley_95 : decode cX1_valley 95 = .ok (.invokevirtual 59, 3) := by decide +kernel
theorem dX1_valley_98 : decode cX1_valley 98 = .ok (.iload_n 3, 1) := by decide +kernel
theorem dX1_valley_99 : decode cX1_valley 99 = .ok (.ireturn, 1) := by decide +kernel
theorem dX1_rocket_0 : decode cX1_rocket 0 = .ok (.aload_n 0, 1) := by decide +kernel
theorem dX1_rocket_1 : decode cX1_rocket 1 = .ok (.getfield 10, 3) := by decide +kernel
theorem dX1_rocket_4 : decode cX1_rocket 4 = .ok (.iload_n 1, 1) := by decide +kernel
theorem dX1_rocket_5 : decode cX1_rocket 5 = .ok (.invokevirtual 70, 3) := by decide +kernel
theorem dX1_rocket_8 : decode cX1_rocket 8 = .ok (.ifCond .ne 9, 3) := by decide +kernel
theorem dX1_rocket_11 : decode cX1_rocket 11 = .ok (.aload_n 0, 1) := by decide +kernel
theorem dX1_rocket_12 : decode cX1_rocket 12 = .ok (.iconst (-1), 1) := by decide +kernel
theorem dX1_rocket_13 : decode cX1_rocket 13 = .ok (.invokevirtual 52, 3) := by decide +kernel
theorem dX1_rocket_16 : decode cX1_rocket 16 = .ok (.ireturn, 1) := by decide +kernel
theorem dX1_rocket_17 : decode cX1_rocket 17 = .ok (.iload_n 2, 1) := by decide +kernel
theorem dX1_rocket_18 : decode cX1_rocket 18 = .ok (.tableswitch 142 0 8 #[50, 60, 70, 80, 97, 106, 115, 124, 133], 50) := by decide +kernel
theorem dX1_rocket_68 : decode cX1_rocket 68 = .ok (.aload_n 0, 1) := by decide +kernel
theorem dX1_rocket_69 : decode cX1_rocket 69 = .ok (.getfield 10, 3) := by decide +kernel
theorem dX1_rocket_72 : decode cX1_rocket 72 = .ok (.getfield 73, 3) := by decide +kernel
theorem dX1_rocket_75 : decode cX1_rocket 75 = .ok (.iload_n 1, 1) := by decide +kernel
theorem dX1_rocket_76 : decode cX1_rocket 76 = .ok (.iaload, 1) := by decide +kernel
theorem dX1_rocket_77 : decode cX1_rocket 77 = .ok (.ireturn, 1) := by decide +kernel
theorem dX1_rocket_78 : decode cX1_rocket 78 = .ok (.aload_n 0, 1) := by decide +kernel
theorem dX1_rocket_79 : decode cX1_rocket 79 = .ok (.getfield 10, 3) := by decide +kernel
theorem dX1_rocket_82 : decode cX1_rocket 82 = .ok (.getfield 76, 3) := by decide +kernel
theorem dX1_rocket_85 : decode cX1_rocket 85 = .ok (.iload_n 1, 1) := by decide +kernel
theorem dX1_rocket_86 : decode cX1_rocket 86 = .ok (.iaload, 1) := by decide +kernel
theorem dX1_rocket_87 : decode cX1_rocket 87 = .ok (.ireturn, 1) := by decide +kernel
theorem dX1_rocket_88 : decode cX1_rocket 88 = .ok (.aload_n 0, 1) := by decide +kernel
theorem dX1_rocket_89 : decode cX1_rocket 89 = .ok (.getfield 10, 3) := by decide +kernel
theorem dX1_rocket_92 : decode cX1_rocket 92 = .ok (.getfield 79, 3) := by decide +kernel
theorem dX1_rocket_95 : decode cX1_rocket 95 = .ok (.iload_n 1, 1) := by decide +kernel
theorem dX1_rocket_96 : decode cX1_rocket 96 = .ok (.iaload, 1) := by decide +kernel
theorem dX1_rocket_97 : decode cX1_rocket 97 = .ok (.ireturn, 1) := by decide +kernel
theorem dX1_rocket_98 : decode cX1_rocket 98 = .ok (.aload_n 0, 1) := by decide +kernel
theorem dX1_rocket_99 : decode cX1_rocket 99 = .ok (.getfield 10, 3) := by decide +kernel
theorem dX1_rocket_102 : decode cX1_rocket 102 = .ok (.iload_n 1, 1) := by decide +kernel
theorem dX1_rocket_103 : decode cX1_rocket 103 = .ok (.invokevirtual 82, 3) := by decide +kernel
theorem dX1_rocket_106 : decode cX1_rocket 106 = .ok (.ifCond .eq 7, 3) := by decide +kernel
theorem dX1_rocket_109 : decode cX1_rocket 109 = .ok (.iconst 1, 1) := by decide +kernel
theorem dX1_rocket_110 : decode cX1_rocket 110 = .ok (.goto 4, 3) := by decide +kernel
theorem dX1_rocket_113 : decode cX1_rocket 113 = .ok (.iconst 0, 1) := by decide +kernel
theorem dX1_rocket_114 : decode cX1_rocket 114 = .ok (.ireturn, 1) := by decide +kernel
theorem dX1_rocket_115 : decode cX1_rocket 115 = .ok (.aload_n 0, 1) := by decide +kernel
theorem dX1_rocket_116 : decode cX1_rocket 116 = .ok (.getfield 10, 3) := by decide +kernel
theorem dX1_rocket_119 : decode cX1_rocket 119 = .ok (.iload_n 1, 1) := by decide +kernel
theorem dX1_rocket_120 : decode cX1_rocket 120 = .ok (.invokevirtual 85, 3) := by decide +kernel
theorem dX1_rocket_123 : decode cX1_rocket 123 = .ok (.ireturn, 1) := by decide +kernel
theorem dX1_rocket_124 : decode cX1_rocket 124 = .ok (.aload_n 0, 1) := by decide +kernel
theorem dX1_rocket_125 : decode cX1_rocket 125 = .ok (.getfield 10, 3) := by decide +kernel
theorem dX1_rocket_128 : decode cX1_rocket 128 = .ok (.iload_n 1, 1) := by decide +kernel
theorem dX1_rocket_129 : decode cX1_rocket 129 = .ok (.invokevirtual 88, 3) := by decide +kernel
theorem dX1_rocket_132 : decode cX1_rocket 132 = .ok (.ireturn, 1) := by decide +kernel
theorem dX1_rocket_133 : decode cX1_rocket 133 = .ok (.aload_n 0, 1) := by decide +kernel
theorem dX1_rocket_134 : decode cX1_rocket 134 = .ok (.getfield 10, 3) := by decide +kernel
theorem dX1_rocket_137 : decode cX1_rocket 137 = .ok (.iload_n 1, 1) := by decide +kernel
theorem dX1_rocket_138 : decode cX1_rocket 138 = .ok (.invokevirtual 91, 3) := by decide +kernel
theorem dX1_rocket_141 : decode cX1_rocket 141 = .ok (.ireturn, 1) := by decide +kernel
theorem dX1_rocket_142 : decode cX1_rocket 142 = .ok (.aload_n 0, 1) := by decide +kernel
theorem dX1_rocket_143 : decode cX1_rocket 143 = .ok (.getfield 10, 3) := by decide +kernel
theorem dX1_rocket_146 : decode cX1_rocket 146 = .ok (.iload_n 1, 1) := by decide +kernel
theorem dX1_rocket_147 : decode cX1_rocket 147 = .ok (.invokevirtual 94, 3) := by decide +kernel
theorem dX1_rocket_150 : decode cX1_rocket 150 = .ok (.ireturn, 1) := by decide +kernel
theorem dX1_rocket_151 : decode cX1_rocket 151 = .ok (.aload_n 0, 1) := by decide +kernel
theorem dX1_rocket_152 : decode cX1_rocket 152 = .ok (.getfield 10, 3) := by decide +kernel
theorem dX1_rocket_155 : decode cX1_rocket 155 = .ok (.iload_n 1, 1) := by decide +kernel
theorem dX1_rocket_156 : decode cX1_rocket 156 = .ok (.invokevirtual 97, 3) := by decide +kernel
theorem dX1_rocket_159 : decode cX1_rocket 159 = .ok (.ireturn, 1) := by decide +kernel
theorem dX1_rocket_160 : decode cX1_rocket 160 = .ok (.aload_n 0, 1) := by decide +kernel
theorem dX1_rocket_161 : decode cX1_rocket 161 = .ok (.bipush (-2), 2) := by decide +kernel
theorem dX1_rocket_163 : decode cX1_rocket 163 = .ok (.invokevirtual 52, 3) := by decide +kernel
theorem dX1_rocket_166 : decode cX1_rocket 166 = .ok (.ireturn, 1) := by decide +kernel
theorem dX1_reader_0 : decode cX1_reader 0 = .ok (.aload_n 0, 1) := by decide +kernel
theorem dX1_reader_1 : decode cX1_reader 1 = .ok (.getfield 10, 3) := by decide +kernel
theorem dX1_reader_4 : decode cX1_reader 4 = .ok (.iload_n 1, 1) := by decide +kernel
theorem dX1_reader_5 : decode cX1_reader 5 = .ok (.invokevirtual 100, 3) := by decide +kernel
theorem dX1_reader_8 : decode cX1_reader 8 = .ok (.ifCond .ne 9, 3) := by decide +kernel
theorem dX1_reader_11 : decode cX1_reader 11 = .ok (.aload_n 0, 1) := by decide +kernel
theorem dX1_reader_12 : decode cX1_reader 12 = .ok (.iconst (-1), 1) := by decide +kernel
theorem dX1_reader_13 : decode cX1_reader 13 = .ok (.invokevirtual 52, 3) := by decide +kernel
theorem dX1_reader_16 : decode cX1_reader 16 = .ok (.ireturn, 1) := by decide +kernel
theorem dX1_reader_17 : decode cX1_reader 17 = .ok (.iload_n 2, 1) := by decide +kernel
theorem dX1_reader_18 : decode cX1_reader 18 = .ok (.tableswitch 55 0 2 #[26, 36, 46], 26) := by decide +kernel
theorem dX1_reader_44 : decode cX1_reader 44 = .ok (.aload_n 0, 1) := by decide +kernel
theorem dX1_reader_45 : decode cX1_reader 45 = .ok (.getfield 10, 3) := by decide +kernel
theorem dX1_reader_48 : decode cX1_reader 48 = .ok (.getfield 103, 3) := by decide +kernel
theorem dX1_reader_51 : decode cX1_reader 51 = .ok (.iload_n 1, 1) := by decide +kernel
theorem dX1_reader_52 : decode cX1_reader 52 = .ok (.iaload, 1) := by decide +kernel
theorem dX1_reader_53 : decode cX1_reader 53 = .ok (.ireturn, 1) := by decide +kernel
theorem dX1_reader_54 : decode cX1_reader 54 = .ok (.aload_n 0, 1) := by decide +kernel
theorem dX1_reader_55 : decode cX1_reader 55 = .ok (.getfield 10, 3) := by decide +kernel
theorem dX1_reader_58 : decode cX1_reader 58 = .ok (.getfield 106, 3) := by decide +kernel
theorem dX1_reader_61 : decode cX1_reader 61 = .ok (.iload_n 1, 1) := by decide +kernel
theorem dX1_reader_62 : decode cX1_reader 62 = .ok (.iaload, 1) := by decide +kernel
theorem dX1_reader_63 : decode cX1_reader 63 = .ok (.ireturn, 1) := by decide +kernel
theorem dX1_reader_64 : decode cX1_reader 64 = .ok (.aload_n 0, 1) := by decide +kernel
theorem dX1_reader_65 : decode cX1_reader 65 = .ok (.getfield 10, 3) := by decide +kernel
theorem dX1_reader_68 : decode cX1_reader 68 = .ok (.iload_n 1, 1) := by decide +kernel
theorem dX1_reader_69 : decode cX1_reader 69 = .ok (.invokevirtual 109, 3) := by decide +kernel
theorem dX1_reader_72 : decode cX1_reader 72 = .ok (.ireturn, 1) := by decide +kernel
theorem dX1_reader_73 : decode cX1_reader 73 = .ok (.aload_n 0, 1) := by decide +kernel
theorem dX1_reader_74 : decode cX1_reader 74 = .ok (.bipush (-2), 2) := by decide +kernel
theorem dX1_reader_76 : decode cX1_reader 76 = .ok (.invokevirtual 52, 3) := by decide +kernel
theorem dX1_reader_79 : decode cX1_reader 79 = .ok (.ireturn, 1) := by decide +kernel
theorem dX1_keeps_0 : decode cX1_keeps 0 = .ok (.aload_n 0, 1) := by decide +kernel
theorem dX1_keeps_1 : decode cX1_keeps 1 = .ok (.getfield 10, 3) := by decide +kernel
theorem dX1_keeps_4 : decode cX1_keeps 4 = .ok (.iload_n 1, 1) := by decide +kernel
theorem dX1_keeps_5 : decode cX1_keeps 5 = .ok (.invokevirtual 100, 3) := by decide +kernel
theorem dX1_keeps_8 : decode cX1_keeps 8 = .ok (.ifCond .eq 13, 3) := by decide +kernel
theorem dX1_keeps_11 : decode cX1_keeps 11 = .ok (.iload_n 2, 1) := by decide +kernel
theorem dX1_keeps_12 : decode cX1_keeps 12 = .ok (.ifCond .lt 9, 3) := by decide +kernel
theorem dX1_keeps_15 : decode cX1_keeps 15 = .ok (.iload_n 2, 1) := by decide +kernel
theorem dX1_keeps_16 : decode cX1_keeps 16 = .ok (.bipush 6, 2) := by decide +kernel
theorem dX1_keeps_18 : decode cX1_keeps 18 = .ok (.if_icmp .lt 9, 3) := by decide +kernel
theorem dX1_keeps_21 : decode cX1_keeps 21 = .ok (.aload_n 0, 1) := by decide +kernel
theorem dX1_keeps_22 : decode cX1_keeps 22 = .ok (.iconst (-1), 1) := by decide +kernel
theorem dX1_keeps_23 : decode cX1_keeps 23 = .ok (.invokevirtual 52, 3) := by decide +kernel
theorem dX1_keeps_26 : decode cX1_keeps 26 = .ok (.ireturn, 1) := by decide +kernel
theorem dX1_keeps_27 : decode cX1_keeps 27 = .ok (.aload_n 0, 1) := by decide +kernel
theorem dX1_keeps_28 : decode cX1_keeps 28 = .ok (.getfield 10, 3) := by decide +kernel
theorem dX1_keeps_31 : decode cX1_keeps 31 = .ok (.getfield 112, 3) := by decide +kernel
theorem dX1_keeps_34 : decode cX1_keeps 34 = .ok (.iload_n 1, 1) := by decide +kernel
theorem dX1_keeps_35 : decode cX1_keeps 35 = .ok (.bipush 6, 2) := by decide +kernel
theorem dX1_keeps_37 : decode cX1_keeps 37 = .ok (.imul, 1) := by decide +kernel
theorem dX1_keeps_38 : decode cX1_keeps 38 = .ok (.iload_n 2, 1) := by decide +kernel
theorem dX1_keeps_39 : decode cX1_keeps 39 = .ok (.iadd, 1) := by decide +kernel
theorem dX1_keeps_40 : decode cX1_keeps 40 = .ok (.iaload, 1) := by decide +kernel
theorem dX1_keeps_41 : decode cX1_keeps 41 = .ok (.ireturn, 1) := by decide +kernel
theorem dX1_sends_0 : decode cX1_sends 0 = .ok (.aload_n 0, 1) := by decide +kernel
theorem dX1_sends_1 : decode cX1_sends 1 = .ok (.getfield 10, 3) := by decide +kernel
theorem dX1_sends_4 : decode cX1_sends 4 = .ok (.iload_n 1, 1) := by decide +kernel
theorem dX1_sends_5 : decode cX1_sends 5 = .ok (.invokevirtual 70, 3) := by decide +kernel
theorem dX1_sends_8 : decode cX1_sends 8 = .ok (.ifCond .ne 9, 3) := by decide +kernel
theorem dX1_sends_11 : decode cX1_sends 11 = .ok (.aload_n 0, 1) := by decide +kernel
theorem dX1_sends_12 : decode cX1_sends 12 = .ok (.iconst (-1), 1) := by decide +kernel
theorem dX1_sends_13 : decode cX1_sends 13 = .ok (.invokevirtual 52, 3) := by decide +kernel
theorem dX1_sends_16 : decode cX1_sends 16 = .ok (.ireturn, 1) := by decide +kernel
theorem dX1_sends_17 : decode cX1_sends 17 = .ok (.aload_n 0, 1) := by decide +kernel
theorem dX1_sends_18 : decode cX1_sends 18 = .ok (.getfield 10, 3) := by decide +kernel
theorem dX1_sends_21 : decode cX1_sends 21 = .ok (.iload_n 1, 1) := by decide +kernel
theorem dX1_sends_22 : decode cX1_sends 22 = .ok (.invokevirtual 115, 3) := by decide +kernel
theorem dX1_sends_25 : decode cX1_sends 25 = .ok (.ifCond .ne 10, 3) := by decide +kernel
theorem dX1_sends_28 : decode cX1_sends 28 = .ok (.aload_n 0, 1) := by decide +kernel
theorem dX1_sends_29 : decode cX1_sends 29 = .ok (.bipush (-3), 2) := by decide +kernel
theorem dX1_sends_31 : decode cX1_sends 31 = .ok (.invokevirtual 52, 3) := by decide +kernel
theorem dX1_sends_34 : decode cX1_sends 34 = .ok (.ireturn, 1) := by decide +kernel
theorem dX1_sends_35 : decode cX1_sends 35 = .ok (.aload_n 0, 1) := by decide +kernel
theorem dX1_sends_36 : decode cX1_sends 36 = .ok (.getfield 10, 3) := by decide +kernel
theorem dX1_sends_39 : decode cX1_sends 39 = .ok (.iload_n 1, 1) := by decide +kernel
theorem dX1_sends_40 : decode cX1_sends 40 = .ok (.bipush 31, 2) := by decide +kernel
theorem dX1_sends_42 : decode cX1_sends 42 = .ok (.invokevirtual 118, 3) := by decide +kernel
theorem dX1_sends_45 : decode cX1_sends 45 = .ok (.aload_n 0, 1) := by decide +kernel
theorem dX1_sends_46 : decode cX1_sends 46 = .ok (.getfield 10, 3) := by decide +kernel
theorem dX1_sends_49 : decode cX1_sends 49 = .ok (.getfield 122, 3) := by decide +kernel
theorem dX1_sends_52 : decode cX1_sends 52 = .ok (.ireturn, 1) := by decide +kernel
theorem dX1_boxes_0 : decode cX1_boxes 0 = .ok (.aload_n 0, 1) := by decide +kernel
theorem dX1_boxes_1 : decode cX1_boxes 1 = .ok (.getfield 10, 3) := by decide +kernel
theorem dX1_boxes_4 : decode cX1_boxes 4 = .ok (.iload_n 1, 1) := by decide +kernel
theorem dX1_boxes_5 : decode cX1_boxes 5 = .ok (.invokevirtual 70, 3) := by decide +kernel
theorem dX1_boxes_8 : decode cX1_boxes 8 = .ok (.ifCond .ne 9, 3) := by decide +kernel
theorem dX1_boxes_11 : decode cX1_boxes 11 = .ok (.aload_n 0, 1) := by decide +kernel
theorem dX1_boxes_12 : decode cX1_boxes 12 = .ok (.iconst (-1), 1) := by decide +kernel
theorem dX1_boxes_13 : decode cX1_boxes 13 = .ok (.invokevirtual 52, 3) := by decide +kernel
theorem dX1_boxes_16 : decode cX1_boxes 16 = .ok (.ireturn, 1) := by decide +kernel
theorem dX1_boxes_17 : decode cX1_boxes 17 = .ok (.aload_n 0, 1) := by decide +kernel
theorem dX1_boxes_18 : decode cX1_boxes 18 = .ok (.getfield 10, 3) := by decide +kernel
theorem dX1_boxes_21 : decode cX1_boxes 21 = .ok (.iload_n 1, 1) := by decide +kernel
theorem dX1_boxes_22 : decode cX1_boxes 22 = .ok (.invokevirtual 82, 3) := by decide +kernel
theorem dX1_boxes_25 : decode cX1_boxes 25 = .ok (.ifCond .ne 10, 3) := by decide +kernel
theorem dX1_boxes_28 : decode cX1_boxes 28 = .ok (.aload_n 0, 1) := by decide +kernel
theorem dX1_boxes_29 : decode cX1_boxes 29 = .ok (.bipush (-3), 2) := by decide +kernel
theorem dX1_boxes_31 : decode cX1_boxes 31 = .ok (.invokevirtual 52, 3) := by decide +kernel
theorem dX1_boxes_34 : decode cX1_boxes 34 = .ok (.ireturn, 1) := by decide +kernel
theorem dX1_boxes_35 : decode cX1_boxes 35 = .ok (.aload_n 0, 1) := by decide +kernel
theorem dX1_boxes_36 : decode cX1_boxes 36 = .ok (.getfield 10, 3) := by decide +kernel
theorem dX1_boxes_39 : decode cX1_boxes 39 = .ok (.iload_n 1, 1) := by decide +kernel
theorem dX1_boxes_40 : decode cX1_boxes 40 = .ok (.invokevirtual 125, 3) := by decide +kernel
theorem dX1_boxes_43 : decode cX1_boxes 43 = .ok (.aload_n 0, 1) := by decide +kernel
theorem dX1_boxes_44 : decode cX1_boxes 44 = .ok (.getfield 10, 3) := by decide +kernel
theorem dX1_boxes_47 : decode cX1_boxes 47 = .ok (.getfield 129, 3) := by decide +kernel
theorem dX1_boxes_50 : decode cX1_boxes 50 = .ok (.aload_n 0, 1) := by decide +kernel
theorem dX1_boxes_51 : decode cX1_boxes 51 = .ok (.getfield 10, 3) := by decide +kernel
theorem dX1_boxes_54 : decode cX1_boxes 54 = .ok (.getfield 132, 3) := by decide +kernel
theorem dX1_boxes_57 : decode cX1_boxes 57 = .ok (.invokestatic 135, 3) := by decide +kernel
theorem dX1_boxes_60 : decode cX1_boxes 60 = .ok (.isub, 1) := by decide +kernel
theorem dX1_boxes_61 : decode cX1_boxes 61 = .ok (.ireturn, 1) := by decide +kernel
theorem dX1_wind_0 : decode cX1_wind 0 = .ok (.iload_n 1, 1) := by decide +kernel
theorem dX1_wind_1 : decode cX1_wind 1 = .ok (.iconst 0, 1) := by decide +kernel
theorem dX1_wind_2 : decode cX1_wind 2 = .ok (.bipush 9, 2) := by decide +kernel
theorem dX1_wind_4 : decode cX1_wind 4 = .ok (.invokestatic 140, 3) := by decide +kernel
theorem dX1_wind_7 : decode cX1_wind 7 = .ok (.istore_n 2, 1) := by decide +kernel
theorem dX1_wind_8 : decode cX1_wind 8 = .ok (.iload_n 2, 1) := by decide +kernel
theorem dX1_wind_9 : decode cX1_wind 9 = .ok (.ifCond .eq 9, 3) := by decide +kernel
theorem dX1_wind_12 : decode cX1_wind 12 = .ok (.aload_n 0, 1) := by decide +kernel
theorem dX1_wind_13 : decode cX1_wind 13 = .ok (.iload_n 2, 1) := by decide +kernel
theorem dX1_wind_14 : decode cX1_wind 14 = .ok (.invokevirtual 52, 3) := by decide +kernel
theorem dX1_wind_17 : decode cX1_wind 17 = .ok (.ireturn, 1) := by decide +kernel
theorem dX1_wind_18 : decode cX1_wind 18 = .ok (.aload_n 0, 1) := by decide +kernel
theorem dX1_wind_19 : decode cX1_wind 19 = .ok (.getfield 10, 3) := by decide +kernel
theorem dX1_wind_22 : decode cX1_wind 22 = .ok (.getfield 144, 3) := by decide +kernel
theorem dX1_wind_25 : decode cX1_wind 25 = .ok (.istore_n 3, 1) := by decide +kernel
theorem dX1_wind_26 : decode cX1_wind 26 = .ok (.aload_n 0, 1) := by decide +kernel
theorem dX1_wind_27 : decode cX1_wind 27 = .ok (.getfield 10, 3) := by decide +kernel
theorem dX1_wind_30 : decode cX1_wind 30 = .ok (.iload_n 1, 1) := by decide +kernel
theorem dX1_wind_31 : decode cX1_wind 31 = .ok (.putfield 144, 3) := by decide +kernel
theorem dX1_wind_34 : decode cX1_wind 34 = .ok (.iload_n 3, 1) := by decide +kernel
theorem dX1_wind_35 : decode cX1_wind 35 = .ok (.ireturn, 1) := by decide +kernel
theorem dX1_grant_0 : decode cX1_grant 0 = .ok (.iload_n 1, 1) := by decide +kernel
theorem dX1_grant_1 : decode cX1_grant 1 = .ok (.iconst 0, 1) := by decide +kernel
theorem dX1_grant_2 : decode cX1_grant 2 = .ok (.sipush 999, 3) := by decide +kernel
theorem dX1_grant_5 : decode cX1_grant 5 = .ok (.invokestatic 140, 3) := by decide +kernel
theorem dX1_grant_8 : decode cX1_grant 8 = .ok (.istore_n 2, 1) := by decide +kernel
theorem dX1_grant_9 : decode cX1_grant 9 = .ok (.iload_n 2, 1) := by decide +kernel
theorem dX1_grant_10 : decode cX1_grant 10 = .ok (.ifCond .eq 9, 3) := by decide +kernel
theorem dX1_grant_13 : decode cX1_grant 13 = .ok (.aload_n 0, 1) := by decide +kernel
theorem dX1_grant_14 : decode cX1_grant 14 = .ok (.iload_n 2, 1) := by decide +kernel
theorem dX1_grant_15 : decode cX1_grant 15 = .ok (.invokevirtual 52, 3) := by decide +kernel
theorem dX1_grant_18 : decode cX1_grant 18 = .ok (.ireturn, 1) := by decide +kernel
theorem dX1_grant_19 : decode cX1_grant 19 = .ok (.aload_n 0, 1) := by decide +kernel
theorem dX1_grant_20 : decode cX1_grant 20 = .ok (.getfield 10, 3) := by decide +kernel
theorem dX1_grant_23 : decode cX1_grant 23 = .ok (.getfield 122, 3) := by decide +kernel
theorem dX1_grant_26 : decode cX1_grant 26 = .ok (.istore_n 3, 1) := by decide +kernel
theorem dX1_grant_27 : decode cX1_grant 27 = .ok (.aload_n 0, 1) := by decide +kernel
theorem dX1_grant_28 : decode cX1_grant 28 = .ok (.getfield 10, 3) := by decide +kernel
theorem dX1_grant_31 : decode cX1_grant 31 = .ok (.iload_n 1, 1) := by decide +kernel
theorem dX1_grant_32 : decode cX1_grant 32 = .ok (.putfield 122, 3) := by decide +kernel
theorem dX1_grant_35 : decode cX1_grant 35 = .ok (.iload_n 3, 1) := by decide +kernel
theorem dX1_grant_36 : decode cX1_grant 36 = .ok (.ireturn, 1) := by decide +kernel
theorem dX1_stands_0 : decode cX1_stands 0 = .ok (.aload_n 0, 1) := by decide +kernel
theorem dX1_stands_1 : decode cX1_stands 1 = .ok (.getfield 10, 3) := by decide +kernel
theorem dX1_stands_4 : decode cX1_stands 4 = .ok (.iload_n 1, 1) := by decide +kernel
theorem dX1_stands_5 : decode cX1_stands 5 = .ok (.invokevirtual 100, 3) := by decide +kernel
theorem dX1_stands_8 : decode cX1_stands 8 = .ok (.ifCond .eq 13, 3) := by decide +kernel
theorem dX1_stands_11 : decode cX1_stands 11 = .ok (.iload_n 2, 1) := by decide +kernel
theorem dX1_stands_12 : decode cX1_stands 12 = .ok (.ifCond .lt 9, 3) := by decide +kernel
theorem dX1_stands_15 : decode cX1_stands 15 = .ok (.iload_n 2, 1) := by decide +kernel
theorem dX1_stands_16 : decode cX1_stands 16 = .ok (.bipush 20, 2) := by decide +kernel
theorem dX1_stands_18 : decode cX1_stands 18 = .ok (.if_icmp .lt 9, 3) := by decide +kernel
theorem dX1_stands_21 : decode cX1_stands 21 = .ok (.aload_n 0, 1) := by decide +kernel
theorem dX1_stands_22 : decode cX1_stands 22 = .ok (.iconst (-1), 1) := by decide +kernel
theorem dX1_stands_23 : decode cX1_stands 23 = .ok (.invokevirtual 52, 3) := by decide +kernel
theorem dX1_stands_26 : decode cX1_stands 26 = .ok (.ireturn, 1) := by decide +kernel
theorem dX1_stands_27 : decode cX1_stands 27 = .ok (.aload_n 0, 1) := by decide +kernel
theorem dX1_stands_28 : decode cX1_stands 28 = .ok (.getfield 10, 3) := by decide +kernel
theorem dX1_stands_31 : decode cX1_stands 31 = .ok (.getfield 103, 3) := by decide +kernel
theorem dX1_stands_34 : decode cX1_stands 34 = .ok (.iload_n 1, 1) := by decide +kernel
theorem dX1_stands_35 : decode cX1_stands 35 = .ok (.iaload, 1) := by decide +kernel
theorem dX1_stands_36 : decode cX1_stands 36 = .ok (.istore_n 3, 1) := by decide +kernel
theorem dX1_stands_37 : decode cX1_stands 37 = .ok (.aload_n 0, 1) := by decide +kernel
theorem dX1_stands_38 : decode cX1_stands 38 = .ok (.getfield 10, 3) := by decide +kernel
theorem dX1_stands_41 : decode cX1_stands 41 = .ok (.getfield 103, 3) := by decide +kernel
theorem dX1_stands_44 : decode cX1_stands 44 = .ok (.iload_n 1, 1) := by decide +kernel
theorem dX1_stands_45 : decode cX1_stands 45 = .ok (.iload_n 2, 1) := by decide +kernel
theorem dX1_stands_46 : decode cX1_stands 46 = .ok (.iastore, 1) := by decide +kernel
theorem dX1_stands_47 : decode cX1_stands 47 = .ok (.iload_n 3, 1) := by decide +kernel
theorem dX1_stands_48 : decode cX1_stands 48 = .ok (.ireturn, 1) := by decide +kernel
theorem dX1_turn_0 : decode cX1_turn 0 = .ok (.aload_n 0, 1) := by decide +kernel
theorem dX1_turn_1 : decode cX1_turn 1 = .ok (.getfield 10, 3) := by decide +kernel
theorem dX1_turn_4 : decode cX1_turn 4 = .ok (.iload_n 1, 1) := by decide +kernel
theorem dX1_turn_5 : decode cX1_turn 5 = .ok (.invokevirtual 70, 3) := by decide +kernel
theorem dX1_turn_8 : decode cX1_turn 8 = .ok (.ifCond .ne 9, 3) := by decide +kernel
theorem dX1_turn_11 : decode cX1_turn 11 = .ok (.aload_n 0, 1) := by decide +kernel
theorem dX1_turn_12 : decode cX1_turn 12 = .ok (.iconst (-1), 1) := by decide +kernel
theorem dX1_turn_13 : decode cX1_turn 13 = .ok (.invokevirtual 52, 3) := by decide +kernel
theorem dX1_turn_16 : decode cX1_turn 16 = .ok (.ireturn, 1) := by decide +kernel
theorem dX1_turn_17 : decode cX1_turn 17 = .ok (.iload_n 2, 1) := by decide +kernel
theorem dX1_turn_18 : decode cX1_turn 18 = .ok (.ifCond .lt 9, 3) := by decide +kernel
theorem dX1_turn_21 : decode cX1_turn 21 = .ok (.iload_n 2, 1) := by decide +kernel
theorem dX1_turn_22 : decode cX1_turn 22 = .ok (.bipush 6, 2) := by decide +kernel
theorem dX1_turn_24 : decode cX1_turn 24 = .ok (.if_icmp .lt 10, 3) := by decide +kernel
theorem dX1_turn_27 : decode cX1_turn 27 = .ok (.aload_n 0, 1) := by decide +kernel
theorem dX1_turn_28 : decode cX1_turn 28 = .ok (.bipush (-2), 2) := by decide +kernel
theorem dX1_turn_30 : decode cX1_turn 30 = .ok (.invokevirtual 52, 3) := by decide +kernel
theorem dX1_turn_33 : decode cX1_turn 33 = .ok (.ireturn, 1) := by decide +kernel
theorem dX1_turn_34 : decode cX1_turn 34 = .ok (.iload_n 3, 1) := by decide +kernel
theorem dX1_turn_35 : decode cX1_turn 35 = .ok (.iconst 0, 1) := by decide +kernel
theorem dX1_turn_36 : decode cX1_turn 36 = .ok (.bipush 9, 2) := by decide +kernel
theorem dX1_turn_38 : decode cX1_turn 38 = .ok (.invokestatic 140, 3) := by decide +kernel
theorem dX1_turn_41 : decode cX1_turn 41 = .ok (.istore 4, 2) := by decide +kernel
theorem dX1_turn_43 : decode cX1_turn 43 = .ok (.iload 4, 2) := by decide +kernel
theorem dX1_turn_45 : decode cX1_turn 45 = .ok (.ifCond .eq 10, 3) := by decide +kernel
theorem dX1_turn_48 : decode cX1_turn 48 = .ok (.aload_n 0, 1) := by decide +kernel
theorem dX1_turn_49 : decode cX1_turn 49 = .ok (.iload 4, 2) := by decide +kernel
theorem dX1_turn_51 : decode cX1_turn 51 = .ok (.invokevirtual 52, 3) := by decide +kernel
theorem dX1_turn_54 : decode cX1_turn 54 = .ok (.ireturn, 1) := by decide +kernel
theorem dX1_turn_55 : decode cX1_turn 55 = .ok (.bipush 10, 2) := by decide +kernel
theorem dX1_turn_57 : decode cX1_turn 57 = .ok (.aload_n 0, 1) := by decide +kernel
theorem dX1_turn_58 : decode cX1_turn 58 = .ok (.getfield 10, 3) := by decide +kernel
theorem dX1_turn_61 : decode cX1_turn 61 = .ok (.getfield 73, 3) := by decide +kernel
theorem dX1_turn_64 : decode cX1_turn 64 = .ok (.iload_n 1, 1) := by decide +kernel
theorem dX1_turn_65 : decode cX1_turn 65 = .ok (.iaload, 1) := by decide +kernel
theorem dX1_turn_66 : decode cX1_turn 66 = .ok (.imul, 1) := by decide +kernel
theorem dX1_turn_67 : decode cX1_turn 67 = .ok (.aload_n 0, 1) := by decide +kernel
theorem dX1_turn_68 : decode cX1_turn 68 = .ok (.getfield 10, 3) := by decide +kernel
theorem dX1_turn_71 : decode cX1_turn 71 = .ok (.getfield 76, 3) := by decide +kernel
theorem dX1_turn_74 : decode cX1_turn 74 = .ok (.iload_n 1, 1) := by decide +kernel
theorem dX1_turn_75 : decode cX1_turn 75 = .ok (.iaload, 1) := by decide +kernel
theorem dX1_turn_76 : decode cX1_turn 76 = .ok (.iadd, 1) := by decide +kernel
theorem dX1_turn_77 : decode cX1_turn 77 = .ok (.istore 5, 2) := by decide +kernel
theorem dX1_turn_79 : decode cX1_turn 79 = .ok (.aload_n 0, 1) := by decide +kernel
theorem dX1_turn_80 : decode cX1_turn 80 = .ok (.getfield 10, 3) := by decide +kernel
theorem dX1_turn_83 : decode cX1_turn 83 = .ok (.getfield 73, 3) := by decide +kernel
theorem dX1_turn_86 : decode cX1_turn 86 = .ok (.iload_n 1, 1) := by decide +kernel
theorem dX1_turn_87 : decode cX1_turn 87 = .ok (.iload_n 2, 1) := by decide +kernel
theorem dX1_turn_88 : decode cX1_turn 88 = .ok (.iastore, 1) := by decide +kernel
theorem dX1_turn_89 : decode cX1_turn 89 = .ok (.aload_n 0, 1) := by decide +kernel
theorem dX1_turn_90 : decode cX1_turn 90 = .ok (.getfield 10, 3) := by decide +kernel
theorem dX1_turn_93 : decode cX1_turn 93 = .ok (.getfield 76, 3) := by decide +kernel
theorem dX1_turn_96 : decode cX1_turn 96 = .ok (.iload_n 1, 1) := by decide +kernel
theorem dX1_turn_97 : decode cX1_turn 97 = .ok (.iload_n 3, 1) := by decide +kernel
theorem dX1_turn_98 : decode cX1_turn 98 = .ok (.iastore, 1) := by decide +kernel
theorem dX1_turn_99 : decode cX1_turn 99 = .ok (.iload 5, 2) := by decide +kernel
theorem dX1_turn_101 : decode cX1_turn 101 = .ok (.ireturn, 1) := by decide +kernel
theorem dX1_nights_0 : decode cX1_nights 0 = .ok (.iload_n 1, 1) := by decide +kernel
theorem dX1_nights_1 : decode cX1_nights 1 = .ok (.iconst 1, 1) := by decide +kernel
theorem dX1_nights_2 : decode cX1_nights 2 = .ok (.bipush 60, 2) := by decide +kernel
theorem dX1_nights_4 : decode cX1_nights 4 = .ok (.invokestatic 140, 3) := by decide +kernel
theorem dX1_nights_7 : decode cX1_nights 7 = .ok (.istore_n 2, 1) := by decide +kernel
theorem dX1_nights_8 : decode cX1_nights 8 = .ok (.iload_n 2, 1) := by decide +kernel
theorem dX1_nights_9 : decode cX1_nights 9 = .ok (.ifCond .eq 9, 3) := by decide +kernel
theorem dX1_nights_12 : decode cX1_nights 12 = .ok (.aload_n 0, 1) := by decide +kernel
theorem dX1_nights_13 : decode cX1_nights 13 = .ok (.iload_n 2, 1) := by decide +kernel
theorem dX1_nights_14 : decode cX1_nights 14 = .ok (.invokevirtual 52, 3) := by decide +kernel
theorem dX1_nights_17 : decode cX1_nights 17 = .ok (.ireturn, 1) := by decide +kernel
theorem dX1_nights_18 : decode cX1_nights 18 = .ok (.aload_n 0, 1) := by decide +kernel
theorem dX1_nights_19 : decode cX1_nights 19 = .ok (.getfield 10, 3) := by decide +kernel
theorem dX1_nights_22 : decode cX1_nights 22 = .ok (.getfield 147, 3) := by decide +kernel
theorem dX1_nights_25 : decode cX1_nights 25 = .ok (.iload_n 1, 1) := by decide +kernel
theorem dX1_nights_26 : decode cX1_nights 26 = .ok (.iadd, 1) := by decide +kernel
theorem dX1_nights_27 : decode cX1_nights 27 = .ok (.sipush 999, 3) := by decide +kernel
theorem dX1_nights_30 : decode cX1_nights 30 = .ok (.if_icmp .le 10, 3) := by decide +kernel
theorem dX1_nights_33 : decode cX1_nights 33 = .ok (.aload_n 0, 1) := by decide +kernel
theorem dX1_nights_34 : decode cX1_nights 34 = .ok (.bipush (-6), 2) := by decide +kernel
theorem dX1_nights_36 : decode cX1_nights 36 = .ok (.invokevirtual 52, 3) := by decide +kernel
theorem dX1_nights_39 : decode cX1_nights 39 = .ok (.ireturn, 1) := by decide +kernel
theorem dX1_nights_40 : decode cX1_nights 40 = .ok (.aload_n 0, 1) := by decide +kernel
theorem dX1_nights_41 : decode cX1_nights 41 = .ok (.getfield 10, 3) := by decide +kernel
theorem dX1_nights_44 : decode cX1_nights 44 = .ok (.iload_n 1, 1) := by decide +kernel
theorem dX1_nights_45 : decode cX1_nights 45 = .ok (.bipush 31, 2) := by decide +kernel
theorem dX1_nights_47 : decode cX1_nights 47 = .ok (.invokevirtual 150, 3) := by decide +kernel
theorem dX1_nights_50 : decode cX1_nights 50 = .ok (.aload_n 0, 1) := by decide +kernel
theorem dX1_nights_51 : decode cX1_nights 51 = .ok (.getfield 10, 3) := by decide +kernel
theorem dX1_nights_54 : decode cX1_nights 54 = .ok (.getfield 122, 3) := by decide +kernel
theorem dX1_nights_57 : decode cX1_nights 57 = .ok (.ireturn, 1) := by decide +kernel
theorem dX1_wordsThen_0 : decode cX1_wordsThen 0 = .ok (.aload_n 0, 1) := by decide +kernel
theorem dX1_wordsThen_1 : decode cX1_wordsThen 1 = .ok (.getfield 10, 3) := by decide +kernel
theorem dX1_wordsThen_4 : decode cX1_wordsThen 4 = .ok (.iload_n 1, 1) := by decide +kernel
theorem dX1_wordsThen_5 : decode cX1_wordsThen 5 = .ok (.invokevirtual 100, 3) := by decide +kernel
theorem dX1_wordsThen_8 : decode cX1_wordsThen 8 = .ok (.ifCond .ne 9, 3) := by decide +kernel
theorem dX1_wordsThen_11 : decode cX1_wordsThen 11 = .ok (.aload_n 0, 1) := by decide +kernel
theorem dX1_wordsThen_12 : decode cX1_wordsThen 12 = .ok (.iconst (-1), 1) := by decide +kernel
theorem dX1_wordsThen_13 : decode cX1_wordsThen 13 = .ok (.invokevirtual 52, 3) := by decide +kernel
theorem dX1_wordsThen_16 : decode cX1_wordsThen 16 = .ok (.ireturn, 1) := by decide +kernel
theorem dX1_wordsThen_17 : decode cX1_wordsThen 17 = .ok (.iload_n 2, 1) := by decide +kernel
theorem dX1_wordsThen_18 : decode cX1_wordsThen 18 = .ok (.iconst 0, 1) := by decide +kernel
theorem dX1_wordsThen_19 : decode cX1_wordsThen 19 = .ok (.bipush 60, 2) := by decide +kernel
theorem dX1_wordsThen_21 : decode cX1_wordsThen 21 = .ok (.invokestatic 140, 3) := by decide +kernel
theorem dX1_wordsThen_24 : decode cX1_wordsThen 24 = .ok (.istore_n 3, 1) := by decide +kernel
theorem dX1_wordsThen_25 : decode cX1_wordsThen 25 = .ok (.iload_n 3, 1) := by decide +kernel
theorem dX1_wordsThen_26 : decode cX1_wordsThen 26 = .ok (.ifCond .eq 9, 3) := by decide +kernel
theorem dX1_wordsThen_29 : decode cX1_wordsThen 29 = .ok (.aload_n 0, 1) := by decide +kernel
theorem dX1_wordsThen_30 : decode cX1_wordsThen 30 = .ok (.iload_n 3, 1) := by decide +kernel
theorem dX1_wordsThen_31 : decode cX1_wordsThen 31 = .ok (.invokevirtual 52, 3) := by decide +kernel
theorem dX1_wordsThen_34 : decode cX1_wordsThen 34 = .ok (.ireturn, 1) := by decide +kernel
theorem dX1_wordsThen_35 : decode cX1_wordsThen 35 = .ok (.aload_n 0, 1) := by decide +kernel
theorem dX1_wordsThen_36 : decode cX1_wordsThen 36 = .ok (.iload_n 2, 1) := by decide +kernel
theorem dX1_wordsThen_37 : decode cX1_wordsThen 37 = .ok (.invokevirtual 153, 3) := by decide +kernel
theorem dX1_wordsThen_40 : decode cX1_wordsThen 40 = .ok (.aload_n 0, 1) := by decide +kernel
theorem dX1_wordsThen_41 : decode cX1_wordsThen 41 = .ok (.getfield 16, 3) := by decide +kernel
theorem dX1_wordsThen_44 : decode cX1_wordsThen 44 = .ok (.iload_n 1, 1) := by decide +kernel
theorem dX1_wordsThen_45 : decode cX1_wordsThen 45 = .ok (.invokevirtual 109, 3) := by decide +kernel
theorem dX1_wordsThen_48 : decode cX1_wordsThen 48 = .ok (.ireturn, 1) := by decide +kernel
theorem dX1_then_0 : decode cX1_then 0 = .ok (.iload_n 1, 1) := by decide +kernel
theorem dX1_then_1 : decode cX1_then 1 = .ok (.iconst 0, 1) := by decide +kernel
theorem dX1_then_2 : decode cX1_then 2 = .ok (.bipush 60, 2) := by decide +kernel
theorem dX1_then_4 : decode cX1_then 4 = .ok (.invokestatic 140, 3) := by decide +kernel
theorem dX1_then_7 : decode cX1_then 7 = .ok (.istore_n 3, 1) := by decide +kernel
theorem dX1_then_8 : decode cX1_then 8 = .ok (.iload_n 3, 1) := by decide +kernel
theorem dX1_then_9 : decode cX1_then 9 = .ok (.ifCond .eq 9, 3) := by decide +kernel
theorem dX1_then_12 : decode cX1_then 12 = .ok (.aload_n 0, 1) := by decide +kernel
theorem dX1_then_13 : decode cX1_then 13 = .ok (.iload_n 3, 1) := by decide +kernel
theorem dX1_then_14 : decode cX1_then 14 = .ok (.invokevirtual 52, 3) := by decide +kernel
theorem dX1_then_17 : decode cX1_then 17 = .ok (.ireturn, 1) := by decide +kernel
theorem dX1_then_18 : decode cX1_then 18 = .ok (.iload_n 2, 1) := by decide +kernel
theorem dX1_then_19 : decode cX1_then 19 = .ok (.invokestatic 156, 3) := by decide +kernel
theorem dX1_then_22 : decode cX1_then 22 = .ok (.ifCond .ne 10, 3) := by decide +kernel
theorem dX1_then_25 : decode cX1_then 25 = .ok (.aload_n 0, 1) := by decide +kernel
theorem dX1_then_26 : decode cX1_then 26 = .ok (.bipush (-2), 2) := by decide +kernel
theorem dX1_then_28 : decode cX1_then 28 = .ok (.invokevirtual 52, 3) := by decide +kernel
theorem dX1_then_31 : decode cX1_then 31 = .ok (.ireturn, 1) := by decide +kernel
theorem dX1_then_32 : decode cX1_then 32 = .ok (.aload_n 0, 1) := by decide +kernel
theorem dX1_then_33 : decode cX1_then 33 = .ok (.iload_n 1, 1) := by decide +kernel
theorem dX1_then_34 : decode cX1_then 34 = .ok (.invokevirtual 153, 3) := by decide +kernel
theorem dX1_then_37 : decode cX1_then 37 = .ok (.iload_n 2, 1) := by decide +kernel
theorem dX1_then_38 : decode cX1_then 38 = .ok (.ifCond .ne 13, 3) := by decide +kernel
theorem dX1_then_41 : decode cX1_then 41 = .ok (.aload_n 0, 1) := by decide +kernel
theorem dX1_then_42 : decode cX1_then 42 = .ok (.getfield 16, 3) := by decide +kernel
theorem dX1_then_45 : decode cX1_then 45 = .ok (.getfield 122, 3) := by decide +kernel
theorem dX1_then_48 : decode cX1_then 48 = .ok (.goto 10, 3) := by decide +kernel
theorem dX1_then_51 : decode cX1_then 51 = .ok (.aload_n 0, 1) := by decide +kernel
theorem dX1_then_52 : decode cX1_then 52 = .ok (.getfield 16, 3) := by decide +kernel
theorem dX1_then_55 : decode cX1_then 55 = .ok (.getfield 132, 3) := by decide +kernel
theorem dX1_then_58 : decode cX1_then 58 = .ok (.ireturn, 1) := by decide +kernel
theorem dX1_whole_0 : decode cX1_whole 0 = .ok (.iload_n 1, 1) := by decide +kernel
theorem dX1_whole_1 : decode cX1_whole 1 = .ok (.iconst (-1), 1) := by decide +kernel
theorem dX1_whole_2 : decode cX1_whole 2 = .ok (.if_icmp .ne 8, 3) := by decide +kernel
theorem dX1_whole_5 : decode cX1_whole 5 = .ok (.aload_n 0, 1) := by decide +kernel
theorem dX1_whole_6 : decode cX1_whole 6 = .ok (.invokevirtual 159, 3) := by decide +kernel
theorem dX1_whole_9 : decode cX1_whole 9 = .ok (.ireturn, 1) := by decide +kernel
theorem dX1_whole_10 : decode cX1_whole 10 = .ok (.aload_n 0, 1) := by decide +kernel
theorem dX1_whole_11 : decode cX1_whole 11 = .ok (.getfield 10, 3) := by decide +kernel
theorem dX1_whole_14 : decode cX1_whole 14 = .ok (.iload_n 1, 1) := by decide +kernel
theorem dX1_whole_15 : decode cX1_whole 15 = .ok (.invokevirtual 100, 3) := by decide +kernel
theorem dX1_whole_18 : decode cX1_whole 18 = .ok (.ifCond .ne 9, 3) := by decide +kernel
theorem dX1_whole_21 : decode cX1_whole 21 = .ok (.aload_n 0, 1) := by decide +kernel
theorem dX1_whole_22 : decode cX1_whole 22 = .ok (.iconst (-1), 1) := by decide +kernel
theorem dX1_whole_23 : decode cX1_whole 23 = .ok (.invokevirtual 52, 3) := by decide +kernel
theorem dX1_whole_26 : decode cX1_whole 26 = .ok (.ireturn, 1) := by decide +kernel
theorem dX1_whole_27 : decode cX1_whole 27 = .ok (.aload_n 0, 1) := by decide +kernel
theorem dX1_whole_28 : decode cX1_whole 28 = .ok (.iload_n 1, 1) := by decide +kernel
theorem dX1_whole_29 : decode cX1_whole 29 = .ok (.invokevirtual 163, 3) := by decide +kernel
theorem dX1_whole_32 : decode cX1_whole 32 = .ok (.ireturn, 1) := by decide +kernel
theorem dX1_next_0 : decode cX1_next 0 = .ok (.iload_n 1, 1) := by decide +kernel
theorem dX1_next_1 : decode cX1_next 1 = .ok (.invokestatic 156, 3) := by decide +kernel
theorem dX1_next_4 : decode cX1_next 4 = .ok (.ifCond .ne 10, 3) := by decide +kernel
theorem dX1_next_7 : decode cX1_next 7 = .ok (.aload_n 0, 1) := by decide +kernel
theorem dX1_next_8 : decode cX1_next 8 = .ok (.bipush (-2), 2) := by decide +kernel
theorem dX1_next_10 : decode cX1_next 10 = .ok (.invokevirtual 52, 3) := by decide +kernel
theorem dX1_next_13 : decode cX1_next 13 = .ok (.ireturn, 1) := by decide +kernel
theorem dX1_next_14 : decode cX1_next 14 = .ok (.iload_n 1, 1) := by decide +kernel
theorem dX1_next_15 : decode cX1_next 15 = .ok (.ifCond .ne 13, 3) := by decide +kernel
theorem dX1_next_18 : decode cX1_next 18 = .ok (.aload_n 0, 1) := by decide +kernel
theorem dX1_next_19 : decode cX1_next 19 = .ok (.getfield 10, 3) := by decide +kernel
theorem dX1_next_22 : decode cX1_next 22 = .ok (.invokevirtual 166, 3) := by decide +kernel
theorem dX1_next_25 : decode cX1_next 25 = .ok (.goto 7, 3) := by decide +kernel
theorem dX1_next_28 : decode cX1_next 28 = .ok (.aload_n 0, 1) := by decide +kernel
theorem dX1_next_29 : decode cX1_next 29 = .ok (.invokevirtual 169, 3) := by decide +kernel
theorem dX1_next_32 : decode cX1_next 32 = .ok (.ireturn, 1) := by decide +kernel
theorem dX1_fewest_0 : decode cX1_fewest 0 = .ok (.aload_n 0, 1) := by decide +kernel
theorem dX1_fewest_1 : decode cX1_fewest 1 = .ok (.getfield 10, 3) := by decide +kernel
theorem dX1_fewest_4 : decode cX1_fewest 4 = .ok (.iload_n 1, 1) := by decide +kernel
theorem dX1_fewest_5 : decode cX1_fewest 5 = .ok (.invokevirtual 100, 3) := by decide +kernel
theorem dX1_fewest_8 : decode cX1_fewest 8 = .ok (.ifCond .ne 9, 3) := by decide +kernel
theorem dX1_fewest_11 : decode cX1_fewest 11 = .ok (.aload_n 0, 1) := by decide +kernel
theorem dX1_fewest_12 : decode cX1_fewest 12 = .ok (.iconst (-1), 1) := by decide +kernel
theorem dX1_fewest_13 : decode cX1_fewest 13 = .ok (.invokevirtual 52, 3) := by decide +kernel
theorem dX1_fewest_16 : decode cX1_fewest 16 = .ok (.ireturn, 1) := by decide +kernel
theorem dX1_fewest_17 : decode cX1_fewest 17 = .ok (.iload_n 2, 1) := by decide +kernel
theorem dX1_fewest_18 : decode cX1_fewest 18 = .ok (.invokestatic 156, 3) := by decide +kernel
theorem dX1_fewest_21 : decode cX1_fewest 21 = .ok (.ifCond .ne 10, 3) := by decide +kernel
theorem dX1_fewest_24 : decode cX1_fewest 24 = .ok (.aload_n 0, 1) := by decide +kernel
theorem dX1_fewest_25 : decode cX1_fewest 25 = .ok (.bipush (-2), 2) := by decide +kernel
theorem dX1_fewest_27 : decode cX1_fewest 27 = .ok (.invokevirtual 52, 3) := by decide +kernel
theorem dX1_fewest_30 : decode cX1_fewest 30 = .ok (.ireturn, 1) := by decide +kernel
theorem dX1_fewest_31 : decode cX1_fewest 31 = .ok (.aload_n 0, 1) := by decide +kernel
theorem dX1_fewest_32 : decode cX1_fewest 32 = .ok (.iload_n 1, 1) := by decide +kernel
theorem dX1_fewest_33 : decode cX1_fewest 33 = .ok (.invokevirtual 172, 3) := by decide +kernel
theorem dX1_fewest_36 : decode cX1_fewest 36 = .ok (.iload_n 2, 1) := by decide +kernel
theorem dX1_fewest_37 : decode cX1_fewest 37 = .ok (.ifCond .ne 11, 3) := by decide +kernel
theorem dX1_fewest_40 : decode cX1_fewest 40 = .ok (.aload_n 0, 1) := by decide +kernel
theorem dX1_fewest_41 : decode cX1_fewest 41 = .ok (.iload_n 1, 1) := by decide +kernel
theorem dX1_fewest_42 : decode cX1_fewest 42 = .ok (.invokevirtual 175, 3) := by decide +kernel
theorem dX1_fewest_45 : decode cX1_fewest 45 = .ok (.goto 8, 3) := by decide +kernel
theorem dX1_fewest_48 : decode cX1_fewest 48 = .ok (.aload_n 0, 1) := by decide +kernel
theorem dX1_fewest_49 : decode cX1_fewest 49 = .ok (.iload_n 1, 1) := by decide +kernel
theorem dX1_fewest_50 : decode cX1_fewest 50 = .ok (.invokevirtual 178, 3) := by decide +kernel
theorem dX1_fewest_53 : decode cX1_fewest 53 = .ok (.ireturn, 1) := by decide +kernel
theorem dX1_windBest_0 : decode cX1_windBest 0 = .ok (.iload_n 1, 1) := by decide +kernel
theorem dX1_windBest_1 : decode cX1_windBest 1 = .ok (.iconst 0, 1) := by decide +kernel
theorem dX1_windBest_2 : decode cX1_windBest 2 = .ok (.bipush 30, 2) := by decide +kernel
theorem dX1_windBest_4 : decode cX1_windBest 4 = .ok (.invokestatic 140, 3) := by decide +kernel
theorem dX1_windBest_7 : decode cX1_windBest 7 = .ok (.istore_n 3, 1) := by decide +kernel
theorem dX1_windBest_8 : decode cX1_windBest 8 = .ok (.iload_n 3, 1) := by decide +kernel
theorem dX1_windBest_9 : decode cX1_windBest 9 = .ok (.ifCond .eq 9, 3) := by decide +kernel
theorem dX1_windBest_12 : decode cX1_windBest 12 = .ok (.aload_n 0, 1) := by decide +kernel
theorem dX1_windBest_13 : decode cX1_windBest 13 = .ok (.iload_n 3, 1) := by decide +kernel
theorem dX1_windBest_14 : decode cX1_windBest 14 = .ok (.invokevirtual 52, 3) := by decide +kernel
theorem dX1_windBest_17 : decode cX1_windBest 17 = .ok (.ireturn, 1) := by decide +kernel
theorem dX1_windBest_18 : decode cX1_windBest 18 = .ok (.iload_n 2, 1) := by decide +kernel
theorem dX1_windBest_19 : decode cX1_windBest 19 = .ok (.invokestatic 156, 3) := by decide +kernel
theorem dX1_windBest_22 : decode cX1_windBest 22 = .ok (.ifCond .ne 10, 3) := by decide +kernel
theorem dX1_windBest_25 : decode cX1_windBest 25 = .ok (.aload_n 0, 1) := by decide +kernel
theorem dX1_windBest_26 : decode cX1_windBest 26 = .ok (.bipush (-2), 2) := by decide +kernel
theorem dX1_windBest_28 : decode cX1_windBest 28 = .ok (.invokevirtual 52, 3) := by decide +kernel
theorem dX1_windBest_31 : decode cX1_windBest 31 = .ok (.ireturn, 1) := by decide +kernel
theorem dX1_windBest_32 : decode cX1_windBest 32 = .ok (.iconst 0, 1) := by decide +kernel
theorem dX1_windBest_33 : decode cX1_windBest 33 = .ok (.istore 4, 2) := by decide +kernel
theorem dX1_windBest_35 : decode cX1_windBest 35 = .ok (.iconst (-1), 1) := by decide +kernel
theorem dX1_windBest_36 : decode cX1_windBest 36 = .ok (.istore 5, 2) := by decide +kernel
theorem dX1_windBest_38 : decode cX1_windBest 38 = .ok (.iconst 0, 1) := by decide +kernel
theorem dX1_windBest_39 : decode cX1_windBest 39 = .ok (.istore 6, 2) := by decide +kernel
theorem dX1_windBest_41 : decode cX1_windBest 41 = .ok (.iload 6, 2) := by decide +kernel
theorem dX1_windBest_43 : decode cX1_windBest 43 = .ok (.bipush 10, 2) := by decide +kernel
theorem dX1_windBest_45 : decode cX1_windBest 45 = .ok (.if_icmp .ge 63, 3) := by decide +kernel
theorem dX1_windBest_48 : decode cX1_windBest 48 = .ok (.aload_n 0, 1) := by decide +kernel
theorem dX1_windBest_49 : decode cX1_windBest 49 = .ok (.getfield 16, 3) := by decide +kernel
theorem dX1_windBest_52 : decode cX1_windBest 52 = .ok (.aload_n 0, 1) := by decide +kernel
theorem dX1_windBest_53 : decode cX1_windBest 53 = .ok (.getfield 10, 3) := by decide +kernel
theorem dX1_windBest_56 : decode cX1_windBest 56 = .ok (.invokevirtual 59, 3) := by decide +kernel
theorem dX1_windBest_59 : decode cX1_windBest 59 = .ok (.aload_n 0, 1) := by decide +kernel
theorem dX1_windBest_60 : decode cX1_windBest 60 = .ok (.getfield 16, 3) := by decide +kernel
theorem dX1_windBest_63 : decode cX1_windBest 63 = .ok (.iload 6, 2) := by decide +kernel
theorem dX1_windBest_65 : decode cX1_windBest 65 = .ok (.putfield 144, 3) := by decide +kernel
theorem dX1_windBest_68 : decode cX1_windBest 68 = .ok (.aload_n 0, 1) := by decide +kernel
theorem dX1_windBest_69 : decode cX1_windBest 69 = .ok (.getfield 16, 3) := by decide +kernel
theorem dX1_windBest_72 : decode cX1_windBest 72 = .ok (.iload_n 1, 1) := by decide +kernel
theorem dX1_windBest_73 : decode cX1_windBest 73 = .ok (.bipush 31, 2) := by decide +kernel
theorem dX1_windBest_75 : decode cX1_windBest 75 = .ok (.invokevirtual 150, 3) := by decide +kernel
theorem dX1_windBest_78 : decode cX1_windBest 78 = .ok (.aload_n 0, 1) := by decide +kernel
theorem dX1_windBest_79 : decode cX1_windBest 79 = .ok (.getfield 16, 3) := by decide +kernel
theorem dX1_windBest_82 : decode cX1_windBest 82 = .ok (.invokevirtual 181, 3) := by decide +kernel
theorem dX1_windBest_85 : decode cX1_windBest 85 = .ok (.istore 7, 2) := by decide +kernel
theorem dX1_windBest_87 : decode cX1_windBest 87 = .ok (.iload 7, 2) := by decide +kernel
theorem dX1_windBest_89 : decode cX1_windBest 89 = .ok (.iload 5, 2) := by decide +kernel
theorem dX1_windBest_91 : decode cX1_windBest 91 = .ok (.if_icmp .le 11, 3) := by decide +kernel
theorem dX1_windBest_94 : decode cX1_windBest 94 = .ok (.iload 7, 2) := by decide +kernel
theorem dX1_windBest_96 : decode cX1_windBest 96 = .ok (.istore 5, 2) := by decide +kernel
theorem dX1_windBest_98 : decode cX1_windBest 98 = .ok (.iload 6, 2) := by decide +kernel
theorem dX1_windBest_100 : decode cX1_windBest 100 = .ok (.istore 4, 2) := by decide +kernel
theorem dX1_windBest_102 : decode cX1_windBest 102 = .ok (.iinc 6 1, 3) := by decide +kernel
theorem dX1_windBest_105 : decode cX1_windBest 105 = .ok (.goto (-64), 3) := by decide +kernel
theorem dX1_windBest_108 : decode cX1_windBest 108 = .ok (.iload_n 2, 1) := by decide +kernel
theorem dX1_windBest_109 : decode cX1_windBest 109 = .ok (.ifCond .ne 8, 3) := by decide +kernel
theorem dX1_windBest_112 : decode cX1_windBest 112 = .ok (.iload 4, 2) := by decide +kernel
theorem dX1_windBest_114 : decode cX1_windBest 114 = .ok (.goto 5, 3) := by decide +kernel
theorem dX1_windBest_117 : decode cX1_windBest 117 = .ok (.iload 5, 2) := by decide +kernel
theorem dX1_windBest_119 : decode cX1_windBest 119 = .ok (.ireturn, 1) := by decide +kernel
theorem dX1_move_0 : decode cX1_move 0 = .ok (.aload_n 0, 1) := by decide +kernel
theorem dX1_move_1 : decode cX1_move 1 = .ok (.getfield 10, 3) := by decide +kernel
theorem dX1_move_4 : decode cX1_move 4 = .ok (.iload_n 1, 1) := by decide +kernel
theorem dX1_move_5 : decode cX1_move 5 = .ok (.invokevirtual 100, 3) := by decide +kernel
theorem dX1_move_8 : decode cX1_move 8 = .ok (.ifCond .ne 9, 3) := by decide +kernel
theorem dX1_move_11 : decode cX1_move 11 = .ok (.aload_n 0, 1) := by decide +kernel
theorem dX1_move_12 : decode cX1_move 12 = .ok (.iconst (-1), 1) := by decide +kernel
theorem dX1_move_13 : decode cX1_move 13 = .ok (.invokevirtual 52, 3) := by decide +kernel
theorem dX1_move_16 : decode cX1_move 16 = .ok (.ireturn, 1) := by decide +kernel
theorem dX1_move_17 : decode cX1_move 17 = .ok (.iload_n 2, 1) := by decide +kernel
theorem dX1_move_18 : decode cX1_move 18 = .ok (.iconst 0, 1) := by decide +kernel
theorem dX1_move_19 : decode cX1_move 19 = .ok (.bipush 30, 2) := by decide +kernel
theorem dX1_move_21 : decode cX1_move 21 = .ok (.invokestatic 140, 3) := by decide +kernel
theorem dX1_move_24 : decode cX1_move 24 = .ok (.istore 4, 2) := by decide +kernel
theorem dX1_move_26 : decode cX1_move 26 = .ok (.iload 4, 2) := by decide +kernel
theorem dX1_move_28 : decode cX1_move 28 = .ok (.ifCond .eq 10, 3) := by decide +kernel
theorem dX1_move_31 : decode cX1_move 31 = .ok (.aload_n 0, 1) := by decide +kernel
theorem dX1_move_32 : decode cX1_move 32 = .ok (.iload 4, 2) := by decide +kernel
theorem dX1_move_34 : decode cX1_move 34 = .ok (.invokevirtual 52, 3) := by decide +kernel
theorem dX1_move_37 : decode cX1_move 37 = .ok (.ireturn, 1) := by decide +kernel
theorem dX1_move_38 : decode cX1_move 38 = .ok (.iload_n 3, 1) := by decide +kernel
theorem dX1_move_39 : decode cX1_move 39 = .ok (.invokestatic 156, 3) := by decide +kernel
theorem dX1_move_42 : decode cX1_move 42 = .ok (.ifCond .ne 10, 3) := by decide +kernel
theorem dX1_move_45 : decode cX1_move 45 = .ok (.aload_n 0, 1) := by decide +kernel
theorem dX1_move_46 : decode cX1_move 46 = .ok (.bipush (-2), 2) := by decide +kernel
theorem dX1_move_48 : decode cX1_move 48 = .ok (.invokevirtual 52, 3) := by decide +kernel
theorem dX1_move_51 : decode cX1_move 51 = .ok (.ireturn, 1) := by decide +kernel
theorem dX1_move_52 : decode cX1_move 52 = .ok (.iconst 0, 1) := by decide +kernel
theorem dX1_move_53 : decode cX1_move 53 = .ok (.istore 5, 2) := by decide +kernel
theorem dX1_move_55 : decode cX1_move 55 = .ok (.iconst (-1), 1) := by decide +kernel
theorem dX1_move_56 : decode cX1_move 56 = .ok (.istore 6, 2) := by decide +kernel
theorem dX1_move_58 : decode cX1_move 58 = .ok (.iconst 0, 1) := by decide +kernel
theorem dX1_move_59 : decode cX1_move 59 = .ok (.istore 7, 2) := by decide +kernel
theorem dX1_move_61 : decode cX1_move 61 = .ok (.iload 7, 2) := by decide +kernel
theorem dX1_move_63 : decode cX1_move 63 = .ok (.bipush 20, 2) := by decide +kernel
theorem dX1_move_65 : decode cX1_move 65 = .ok (.if_icmp .ge 69, 3) := by decide +kernel
theorem dX1_move_68 : decode cX1_move 68 = .ok (.aload_n 0, 1) := by decide +kernel
theorem dX1_move_69 : decode cX1_move 69 = .ok (.getfield 16, 3) := by decide +kernel
theorem dX1_move_72 : decode cX1_move 72 = .ok (.aload_n 0, 1) := by decide +kernel
theorem dX1_move_73 : decode cX1_move 73 = .ok (.getfield 10, 3) := by decide +kernel
theorem dX1_move_76 : decode cX1_move 76 = .ok (.invokevirtual 59, 3) := by decide +kernel
theorem dX1_move_79 : decode cX1_move 79 = .ok (.aload_n 0, 1) := by decide +kernel
theorem dX1_move_80 : decode cX1_move 80 = .ok (.getfield 16, 3) := by decide +kernel
theorem dX1_move_83 : decode cX1_move 83 = .ok (.getfield 103, 3) := by decide +kernel
theorem dX1_move_86 : decode cX1_move 86 = .ok (.iload_n 1, 1) := by decide +kernel
theorem dX1_move_87 : decode cX1_move 87 = .ok (.iload 7, 2) := by decide +kernel
theorem dX1_move_89 : decode cX1_move 89 = .ok (.iastore, 1) := by decide +kernel
theorem dX1_move_90 : decode cX1_move 90 = .ok (.aload_n 0, 1) := by decide +kernel
theorem dX1_move_91 : decode cX1_move 91 = .ok (.getfield 16, 3) := by decide +kernel
theorem dX1_move_94 : decode cX1_move 94 = .ok (.iload_n 2, 1) := by decide +kernel
theorem dX1_move_95 : decode cX1_move 95 = .ok (.bipush 31, 2) := by decide +kernel
theorem dX1_move_97 : decode cX1_move 97 = .ok (.invokevirtual 150, 3) := by decide +kernel
theorem dX1_move_100 : decode cX1_move 100 = .ok (.aload_n 0, 1) := by decide +kernel
theorem dX1_move_101 : decode cX1_move 101 = .ok (.getfield 16, 3) := by decide +kernel
theorem dX1_move_104 : decode cX1_move 104 = .ok (.iload_n 1, 1) := by decide +kernel
theorem dX1_move_105 : decode cX1_move 105 = .ok (.invokevirtual 109, 3) := by decide +kernel
theorem dX1_move_108 : decode cX1_move 108 = .ok (.invokestatic 135, 3) := by decide +kernel
theorem dX1_move_111 : decode cX1_move 111 = .ok (.istore 8, 2) := by decide +kernel
theorem dX1_move_113 : decode cX1_move 113 = .ok (.iload 8, 2) := by decide +kernel
theorem dX1_move_115 : decode cX1_move 115 = .ok (.iload 6, 2) := by decide +kernel
theorem dX1_move_117 : decode cX1_move 117 = .ok (.if_icmp .le 11, 3) := by decide +kernel
theorem dX1_move_120 : decode cX1_move 120 = .ok (.iload 8, 2) := by decide +kernel
theorem dX1_move_122 : decode cX1_move 122 = .ok (.istore 6, 2) := by decide +kernel
theorem dX1_move_124 : decode cX1_move 124 = .ok (.iload 7, 2) := by decide +kernel
theorem dX1_move_126 : decode cX1_move 126 = .ok (.istore 5, 2) := by decide +kernel
theorem dX1_move_128 : decode cX1_move 128 = .ok (.iinc 7 1, 3) := by decide +kernel
theorem dX1_move_131 : decode cX1_move 131 = .ok (.goto (-70), 3) := by decide +kernel
theorem dX1_move_134 : decode cX1_move 134 = .ok (.iload_n 3, 1) := by decide +kernel
theorem dX1_move_135 : decode cX1_move 135 = .ok (.ifCond .ne 8, 3) := by decide +kernel
theorem dX1_move_138 : decode cX1_move 138 = .ok (.iload 5, 2) := by decide +kernel
theorem dX1_move_140 : decode cX1_move 140 = .ok (.goto 5, 3) := by decide +kernel
theorem dX1_move_143 : decode cX1_move 143 = .ok (.iload 6, 2) := by decide +kernel
theorem dX1_move_145 : decode cX1_move 145 = .ok (.ireturn, 1) := by decide +kernel
theorem dX1_forgo_0 : decode cX1_forgo 0 = .ok (.iload_n 1, 1) := by decide +kernel
theorem dX1_forgo_1 : decode cX1_forgo 1 = .ok (.iconst 1, 1) := by decide +kernel
theorem dX1_forgo_2 : decode cX1_forgo 2 = .ok (.bipush 30, 2) := by decide +kernel
theorem dX1_forgo_4 : decode cX1_forgo 4 = .ok (.invokestatic 140, 3) := by decide +kernel
theorem dX1_forgo_7 : decode cX1_forgo 7 = .ok (.istore_n 2, 1) := by decide +kernel
theorem dX1_forgo_8 : decode cX1_forgo 8 = .ok (.iload_n 2, 1) := by decide +kernel
theorem dX1_forgo_9 : decode cX1_forgo 9 = .ok (.ifCond .eq 9, 3) := by decide +kernel
theorem dX1_forgo_12 : decode cX1_forgo 12 = .ok (.aload_n 0, 1) := by decide +kernel
theorem dX1_forgo_13 : decode cX1_forgo 13 = .ok (.iload_n 2, 1) := by decide +kernel
theorem dX1_forgo_14 : decode cX1_forgo 14 = .ok (.invokevirtual 52, 3) := by decide +kernel
theorem dX1_forgo_17 : decode cX1_forgo 17 = .ok (.ireturn, 1) := by decide +kernel
theorem dX1_forgo_18 : decode cX1_forgo 18 = .ok (.aload_n 0, 1) := by decide +kernel
theorem dX1_forgo_19 : decode cX1_forgo 19 = .ok (.iload_n 1, 1) := by decide +kernel
theorem dX1_forgo_20 : decode cX1_forgo 20 = .ok (.iconst 0, 1) := by decide +kernel
theorem dX1_forgo_21 : decode cX1_forgo 21 = .ok (.invokevirtual 184, 3) := by decide +kernel
theorem dX1_forgo_24 : decode cX1_forgo 24 = .ok (.ireturn, 1) := by decide +kernel
theorem dX1_firstUp_0 : decode cX1_firstUp 0 = .ok (.iload_n 1, 1) := by decide +kernel
theorem dX1_firstUp_1 : decode cX1_firstUp 1 = .ok (.iconst 1, 1) := by decide +kernel
theorem dX1_firstUp_2 : decode cX1_firstUp 2 = .ok (.bipush 30, 2) := by decide +kernel
theorem dX1_firstUp_4 : decode cX1_firstUp 4 = .ok (.invokestatic 140, 3) := by decide +kernel
theorem dX1_firstUp_7 : decode cX1_firstUp 7 = .ok (.istore_n 2, 1) := by decide +kernel
theorem dX1_firstUp_8 : decode cX1_firstUp 8 = .ok (.iload_n 2, 1) := by decide +kernel
theorem dX1_firstUp_9 : decode cX1_firstUp 9 = .ok (.ifCond .eq 9, 3) := by decide +kernel
theorem dX1_firstUp_12 : decode cX1_firstUp 12 = .ok (.aload_n 0, 1) := by decide +kernel
theorem dX1_firstUp_13 : decode cX1_firstUp 13 = .ok (.iload_n 2, 1) := by decide +kernel
theorem dX1_firstUp_14 : decode cX1_firstUp 14 = .ok (.invokevirtual 52, 3) := by decide +kernel
theorem dX1_firstUp_17 : decode cX1_firstUp 17 = .ok (.ireturn, 1) := by decide +kernel
theorem dX1_firstUp_18 : decode cX1_firstUp 18 = .ok (.aload_n 0, 1) := by decide +kernel
theorem dX1_firstUp_19 : decode cX1_firstUp 19 = .ok (.iload_n 1, 1) := by decide +kernel
theorem dX1_firstUp_20 : decode cX1_firstUp 20 = .ok (.iconst 1, 1) := by decide +kernel
theorem dX1_firstUp_21 : decode cX1_firstUp 21 = .ok (.invokevirtual 184, 3) := by decide +kernel
theorem dX1_firstUp_24 : decode cX1_firstUp 24 = .ok (.ireturn, 1) := by decide +kernel
theorem dX1_longest_0 : decode cX1_longest 0 = .ok (.iload_n 1, 1) := by decide +kernel
theorem dX1_longest_1 : decode cX1_longest 1 = .ok (.invokestatic 156, 3) := by decide +kernel
theorem dX1_longest_4 : decode cX1_longest 4 = .ok (.ifCond .ne 10, 3) := by decide +kernel
theorem dX1_longest_7 : decode cX1_longest 7 = .ok (.aload_n 0, 1) := by decide +kernel
theorem dX1_longest_8 : decode cX1_longest 8 = .ok (.bipush (-2), 2) := by decide +kernel
theorem dX1_longest_10 : decode cX1_longest 10 = .ok (.invokevirtual 52, 3) := by decide +kernel
theorem dX1_longest_13 : decode cX1_longest 13 = .ok (.ireturn, 1) := by decide +kernel
theorem dX1_longest_14 : decode cX1_longest 14 = .ok (.iload_n 1, 1) := by decide +kernel
theorem dX1_longest_15 : decode cX1_longest 15 = .ok (.ifCond .ne 10, 3) := by decide +kernel
theorem dX1_longest_18 : decode cX1_longest 18 = .ok (.aload_n 0, 1) := by decide +kernel
theorem dX1_longest_19 : decode cX1_longest 19 = .ok (.invokevirtual 188, 3) := by decide +kernel
theorem dX1_longest_22 : decode cX1_longest 22 = .ok (.goto 7, 3) := by decide +kernel
theorem dX1_longest_25 : decode cX1_longest 25 = .ok (.aload_n 0, 1) := by decide +kernel
theorem dX1_longest_26 : decode cX1_longest 26 = .ok (.invokevirtual 191, 3) := by decide +kernel
theorem dX1_longest_29 : decode cX1_longest 29 = .ok (.ireturn, 1) := by decide +kernel
theorem dX1_seen_0 : decode cX1_seen 0 = .ok (.iload_n 1, 1) := by decide +kernel
theorem dX1_seen_1 : decode cX1_seen 1 = .ok (.invokestatic 156, 3) := by decide +kernel
theorem dX1_seen_4 : decode cX1_seen 4 = .ok (.ifCond .ne 10, 3) := by decide +kernel
theorem dX1_seen_7 : decode cX1_seen 7 = .ok (.aload_n 0, 1) := by decide +kernel
theorem dX1_seen_8 : decode cX1_seen 8 = .ok (.bipush (-2), 2) := by decide +kernel
theorem dX1_seen_10 : decode cX1_seen 10 = .ok (.invokevirtual 52, 3) := by decide +kernel
theorem dX1_seen_13 : decode cX1_seen 13 = .ok (.ireturn, 1) := by decide +kernel
theorem dX1_seen_14 : decode cX1_seen 14 = .ok (.bipush (-9), 2) := by decide +kernel
theorem dX1_seen_16 : decode cX1_seen 16 = .ok (.istore_n 2, 1) := by decide +kernel
theorem dX1_seen_17 : decode cX1_seen 17 = .ok (.iconst 0, 1) := by decide +kernel
theorem dX1_seen_18 : decode cX1_seen 18 = .ok (.istore_n 3, 1) := by decide +kernel
theorem dX1_seen_19 : decode cX1_seen 19 = .ok (.iconst 0, 1) := by decide +kernel
theorem dX1_seen_20 : decode cX1_seen 20 = .ok (.istore 4, 2) := by decide +kernel
theorem dX1_seen_22 : decode cX1_seen 22 = .ok (.iload 4, 2) := by decide +kernel
theorem dX1_seen_24 : decode cX1_seen 24 = .ok (.aload_n 0, 1) := by decide +kernel
theorem dX1_seen_25 : decode cX1_seen 25 = .ok (.getfield 10, 3) := by decide +kernel
theorem dX1_seen_28 : decode cX1_seen 28 = .ok (.getfield 129, 3) := by decide +kernel
theorem dX1_seen_31 : decode cX1_seen 31 = .ok (.if_icmp .ge 41, 3) := by decide +kernel
theorem dX1_seen_34 : decode cX1_seen 34 = .ok (.aload_n 0, 1) := by decide +kernel
theorem dX1_seen_35 : decode cX1_seen 35 = .ok (.getfield 10, 3) := by decide +kernel
theorem dX1_seen_38 : decode cX1_seen 38 = .ok (.iload 4, 2) := by decide +kernel
theorem dX1_seen_40 : decode cX1_seen 40 = .ok (.invokevirtual 97, 3) := by decide +kernel
theorem dX1_seen_43 : decode cX1_seen 43 = .ok (.invokestatic 135, 3) := by decide +kernel
theorem dX1_seen_46 : decode cX1_seen 46 = .ok (.istore 5, 2) := by decide +kernel
theorem dX1_seen_48 : decode cX1_seen 48 = .ok (.iload_n 2, 1) := by decide +kernel
theorem dX1_seen_49 : decode cX1_seen 49 = .ok (.bipush (-9), 2) := by decide +kernel
theorem dX1_seen_51 : decode cX1_seen 51 = .ok (.if_icmp .eq 9, 3) := by decide +kernel
theorem dX1_seen_54 : decode cX1_seen 54 = .ok (.iload 5, 2) := by decide +kernel
theorem dX1_seen_56 : decode cX1_seen 56 = .ok (.iload_n 3, 1) := by decide +kernel
theorem dX1_seen_57 : decode cX1_seen 57 = .ok (.if_icmp .le 9, 3) := by decide +kernel
theorem dX1_seen_60 : decode cX1_seen 60 = .ok (.iload 5, 2) := by decide +kernel
theorem dX1_seen_62 : decode cX1_seen 62 = .ok (.istore_n 3, 1) := by decide +kernel
theorem dX1_seen_63 : decode cX1_seen 63 = .ok (.iload 4, 2) := by decide +kernel
theorem dX1_seen_65 : decode cX1_seen 65 = .ok (.istore_n 2, 1) := by decide +kernel
theorem dX1_seen_66 : decode cX1_seen 66 = .ok (.iinc 4 1, 3) := by decide +kernel
theorem dX1_seen_69 : decode cX1_seen 69 = .ok (.goto (-47), 3) := by decide +kernel
theorem dX1_seen_72 : decode cX1_seen 72 = .ok (.iload_n 1, 1) := by decide +kernel
theorem dX1_seen_73 : decode cX1_seen 73 = .ok (.ifCond .ne 7, 3) := by decide +kernel
theorem dX1_seen_76 : decode cX1_seen 76 = .ok (.iload_n 3, 1) := by decide +kernel
theorem dX1_seen_77 : decode cX1_seen 77 = .ok (.goto 4, 3) := by decide +kernel
theorem dX1_seen_80 : decode cX1_seen 80 = .ok (.iload_n 2, 1) := by decide +kernel
theorem dX1_seen_81 : decode cX1_seen 81 = .ok (.ireturn, 1) := by decide +kernel
theorem dX1_words_0 : decode cX1_words 0 = .ok (.iload_n 1, 1) := by decide +kernel
theorem dX1_words_1 : decode cX1_words 1 = .ok (.tableswitch 42 0 2 #[27, 32, 37], 27) := by decide +kernel
theorem dX1_words_28 : decode cX1_words 28 = .ok (.aload_n 0, 1) := by decide +kernel
theorem dX1_words_29 : decode cX1_words 29 = .ok (.invokevirtual 194, 3) := by decide +kernel
theorem dX1_words_32 : decode cX1_words 32 = .ok (.ireturn, 1) := by decide +kernel
theorem dX1_words_33 : decode cX1_words 33 = .ok (.aload_n 0, 1) := by decide +kernel
theorem dX1_words_34 : decode cX1_words 34 = .ok (.invokevirtual 197, 3) := by decide +kernel
theorem dX1_words_37 : decode cX1_words 37 = .ok (.ireturn, 1) := by decide +kernel
theorem dX1_words_38 : decode cX1_words 38 = .ok (.aload_n 0, 1) := by decide +kernel
theorem dX1_words_39 : decode cX1_words 39 = .ok (.invokevirtual 200, 3) := by decide +kernel
theorem dX1_words_42 : decode cX1_words 42 = .ok (.ireturn, 1) := by decide +kernel
theorem dX1_words_43 : decode cX1_words 43 = .ok (.aload_n 0, 1) := by decide +kernel
theorem dX1_words_44 : decode cX1_words 44 = .ok (.bipush (-2), 2) := by decide +kernel
theorem dX1_words_46 : decode cX1_words 46 = .ok (.invokevirtual 52, 3) := by decide +kernel
theorem dX1_words_49 : decode cX1_words 49 = .ok (.ireturn, 1) := by decide +kernel
theorem dX1_near_0 : decode cX1_near 0 = .ok (.bipush (-9), 2) := by decide +kernel
theorem dX1_near_2 : decode cX1_near 2 = .ok (.istore_n 1, 1) := by decide +kernel
theorem dX1_near_3 : decode cX1_near 3 = .ok (.bipush 20, 2) := by decide +kernel
theorem dX1_near_5 : decode cX1_near 5 = .ok (.istore_n 2, 1) := by decide +kernel
theorem dX1_near_6 : decode cX1_near 6 = .ok (.iconst 0, 1) := by decide +kernel
theorem dX1_near_7 : decode cX1_near 7 = .ok (.istore_n 3, 1) := by decide +kernel
theorem dX1_near_8 : decode cX1_near 8 = .ok (.iload_n 3, 1) := by decide +kernel
theorem dX1_near_9 : decode cX1_near 9 = .ok (.aload_n 0, 1) := by decide +kernel
theorem dX1_near_10 : decode cX1_near 10 = .ok (.getfield 10, 3) := by decide +kernel
theorem dX1_near_13 : decode cX1_near 13 = .ok (.getfield 203, 3) := by decide +kernel
theorem dX1_near_16 : decode cX1_near 16 = .ok (.if_icmp .ge 37, 3) := by decide +kernel
theorem dX1_near_19 : decode cX1_near 19 = .ok (.aload_n 0, 1) := by decide +kernel
theorem dX1_near_20 : decode cX1_near 20 = .ok (.getfield 10, 3) := by decide +kernel
theorem dX1_near_23 : decode cX1_near 23 = .ok (.getfield 103, 3) := by decide +kernel
theorem dX1_near_26 : decode cX1_near 26 = .ok (.iload_n 3, 1) := by decide +kernel
theorem dX1_near_27 : decode cX1_near 27 = .ok (.iaload, 1) := by decide +kernel
theorem dX1_near_28 : decode cX1_near 28 = .ok (.bipush 10, 2) := by decide +kernel
theorem dX1_near_30 : decode cX1_near 30 = .ok (.isub, 1) := by decide +kernel
theorem dX1_near_31 : decode cX1_near 31 = .ok (.invokestatic 206, 3) := by decide +kernel
theorem dX1_near_34 : decode cX1_near 34 = .ok (.istore 4, 2) := by decide +kernel
theorem dX1_near_36 : decode cX1_near 36 = .ok (.iload 4, 2) := by decide +kernel
theorem dX1_near_38 : decode cX1_near 38 = .ok (.iload_n 2, 1) := by decide +kernel
theorem dX1_near_39 : decode cX1_near 39 = .ok (.if_icmp .ge 8, 3) := by decide +kernel
theorem dX1_near_42 : decode cX1_near 42 = .ok (.iload 4, 2) := by decide +kernel
theorem dX1_near_44 : decode cX1_near 44 = .ok (.istore_n 2, 1) := by decide +kernel
theorem dX1_near_45 : decode cX1_near 45 = .ok (.iload_n 3, 1) := by decide +kernel
theorem dX1_near_46 : decode cX1_near 46 = .ok (.istore_n 1, 1) := by decide +kernel
theorem dX1_near_47 : decode cX1_near 47 = .ok (.iinc 3 1, 3) := by decide +kernel
theorem dX1_near_50 : decode cX1_near 50 = .ok (.goto (-42), 3) := by decide +kernel
theorem dX1_near_53 : decode cX1_near 53 = .ok (.iload_n 1, 1) := by decide +kernel
theorem dX1_near_54 : decode cX1_near 54 = .ok (.ireturn, 1) := by decide +kernel
theorem dX1_alone_0 : decode cX1_alone 0 = .ok (.iconst 0, 1) := by decide +kernel
theorem dX1_alone_1 : decode cX1_alone 1 = .ok (.istore_n 1, 1) := by decide +kernel
theorem dX1_alone_2 : decode cX1_alone 2 = .ok (.iconst 0, 1) := by decide +kernel
theorem dX1_alone_3 : decode cX1_alone 3 = .ok (.istore_n 2, 1) := by decide +kernel
theorem dX1_alone_4 : decode cX1_alone 4 = .ok (.iload_n 2, 1) := by decide +kernel
theorem dX1_alone_5 : decode cX1_alone 5 = .ok (.aload_n 0, 1) := by decide +kernel
theorem dX1_alone_6 : decode cX1_alone 6 = .ok (.getfield 10, 3) := by decide +kernel
theorem dX1_alone_9 : decode cX1_alone 9 = .ok (.getfield 203, 3) := by decide +kernel
theorem dX1_alone_12 : decode cX1_alone 12 = .ok (.if_icmp .ge 71, 3) := by decide +kernel
theorem dX1_alone_15 : decode cX1_alone 15 = .ok (.iconst 0, 1) := by decide +kernel
theorem dX1_alone_16 : decode cX1_alone 16 = .ok (.istore_n 3, 1) := by decide +kernel
theorem dX1_alone_17 : decode cX1_alone 17 = .ok (.iconst 0, 1) := by decide +kernel
theorem dX1_alone_18 : decode cX1_alone 18 = .ok (.istore 4, 2) := by decide +kernel
theorem dX1_alone_20 : decode cX1_alone 20 = .ok (.iload 4, 2) := by decide +kernel
theorem dX1_alone_22 : decode cX1_alone 22 = .ok (.aload_n 0, 1) := by decide +kernel
theorem dX1_alone_23 : decode cX1_alone 23 = .ok (.getfield 10, 3) := by decide +kernel
theorem dX1_alone_26 : decode cX1_alone 26 = .ok (.getfield 203, 3) := by decide +kernel
theorem dX1_alone_29 : decode cX1_alone 29 = .ok (.if_icmp .ge 27, 3) := by decide +kernel
theorem dX1_alone_32 : decode cX1_alone 32 = .ok (.iload 4, 2) := by decide +kernel
theorem dX1_alone_34 : decode cX1_alone 34 = .ok (.iload_n 2, 1) := by decide +kernel
theorem dX1_alone_35 : decode cX1_alone 35 = .ok (.if_icmp .eq 15, 3) := by decide +kernel
theorem dX1_alone_38 : decode cX1_alone 38 = .ok (.iload_n 3, 1) := by decide +kernel
theorem dX1_alone_39 : decode cX1_alone 39 = .ok (.aload_n 0, 1) := by decide +kernel
theorem dX1_alone_40 : decode cX1_alone 40 = .ok (.getfield 10, 3) := by decide +kernel
theorem dX1_alone_43 : decode cX1_alone 43 = .ok (.iload 4, 2) := by decide +kernel
theorem dX1_alone_45 : decode cX1_alone 45 = .ok (.invokevirtual 109, 3) := by decide +kernel
theorem dX1_alone_48 : decode cX1_alone 48 = .ok (.ior, 1) := by decide +kernel
theorem dX1_alone_49 : decode cX1_alone 49 = .ok (.istore_n 3, 1) := by decide +kernel
theorem dX1_alone_50 : decode cX1_alone 50 = .ok (.iinc 4 1, 3) := by decide +kernel
theorem dX1_alone_53 : decode cX1_alone 53 = .ok (.goto (-33), 3) := by decide +kernel
theorem dX1_alone_56 : decode cX1_alone 56 = .ok (.aload_n 0, 1) := by decide +kernel
theorem dX1_alone_57 : decode cX1_alone 57 = .ok (.getfield 10, 3) := by decide +kernel
theorem dX1_alone_60 : decode cX1_alone 60 = .ok (.iload_n 2, 1) := by decide +kernel
theorem dX1_alone_61 : decode cX1_alone 61 = .ok (.invokevirtual 109, 3) := by decide +kernel
theorem dX1_alone_64 : decode cX1_alone 64 = .ok (.iload_n 3, 1) := by decide +kernel
theorem dX1_alone_65 : decode cX1_alone 65 = .ok (.iconst (-1), 1) := by decide +kernel
theorem dX1_alone_66 : decode cX1_alone 66 = .ok (.ixor, 1) := by decide +kernel
theorem dX1_alone_67 : decode cX1_alone 67 = .ok (.iand, 1) := by decide +kernel
theorem dX1_alone_68 : decode cX1_alone 68 = .ok (.ifCond .eq 9, 3) := by decide +kernel
theorem dX1_alone_71 : decode cX1_alone 71 = .ok (.iload_n 1, 1) := by decide +kernel
theorem dX1_alone_72 : decode cX1_alone 72 = .ok (.iconst 1, 1) := by decide +kernel
theorem dX1_alone_73 : decode cX1_alone 73 = .ok (.iload_n 2, 1) := by decide +kernel
theorem dX1_alone_74 : decode cX1_alone 74 = .ok (.ishl, 1) := by decide +kernel
theorem dX1_alone_75 : decode cX1_alone 75 = .ok (.ior, 1) := by decide +kernel
theorem dX1_alone_76 : decode cX1_alone 76 = .ok (.istore_n 1, 1) := by decide +kernel
theorem dX1_alone_77 : decode cX1_alone 77 = .ok (.iinc 2 1, 3) := by decide +kernel
theorem dX1_alone_80 : decode cX1_alone 80 = .ok (.goto (-76), 3) := by decide +kernel
theorem dX1_alone_83 : decode cX1_alone 83 = .ok (.iload_n 1, 1) := by decide +kernel
theorem dX1_alone_84 : decode cX1_alone 84 = .ok (.ireturn, 1) := by decide +kernel
theorem dX1_tell_0 : decode cX1_tell 0 = .ok (.iconst 0, 1) := by decide +kernel
theorem dX1_tell_1 : decode cX1_tell 1 = .ok (.istore_n 1, 1) := by decide +kernel
theorem dX1_tell_2 : decode cX1_tell 2 = .ok (.iload_n 1, 1) := by decide +kernel
theorem dX1_tell_3 : decode cX1_tell 3 = .ok (.aload_n 0, 1) := by decide +kernel
theorem dX1_tell_4 : decode cX1_tell 4 = .ok (.getfield 10, 3) := by decide +kernel
theorem dX1_tell_7 : decode cX1_tell 7 = .ok (.getfield 203, 3) := by decide +kernel
theorem dX1_tell_10 : decode cX1_tell 10 = .ok (.if_icmp .ge 65, 3) := by decide +kernel
theorem dX1_tell_13 : decode cX1_tell 13 = .ok (.iconst 0, 1) := by decide +kernel
theorem dX1_tell_14 : decode cX1_tell 14 = .ok (.istore_n 2, 1) := by decide +kernel
theorem dX1_tell_15 : decode cX1_tell 15 = .ok (.iload_n 2, 1) := by decide +kernel
theorem dX1_tell_16 : decode cX1_tell 16 = .ok (.aload_n 0, 1) := by decide +kernel
theorem dX1_tell_17 : decode cX1_tell 17 = .ok (.getfield 10, 3) := by decide +kernel
theorem dX1_tell_20 : decode cX1_tell 20 = .ok (.getfield 203, 3) := by decide +kernel
theorem dX1_tell_23 : decode cX1_tell 23 = .ok (.if_icmp .ge 46, 3) := by decide +kernel
theorem dX1_tell_26 : decode cX1_tell 26 = .ok (.aload_n 0, 1) := by decide +kernel
theorem dX1_tell_27 : decode cX1_tell 27 = .ok (.getfield 10, 3) := by decide +kernel
theorem dX1_tell_30 : decode cX1_tell 30 = .ok (.iload_n 2, 1) := by decide +kernel
theorem dX1_tell_31 : decode cX1_tell 31 = .ok (.invokevirtual 109, 3) := by decide +kernel
theorem dX1_tell_34 : decode cX1_tell 34 = .ok (.istore_n 3, 1) := by decide +kernel
theorem dX1_tell_35 : decode cX1_tell 35 = .ok (.iload_n 3, 1) := by decide +kernel
theorem dX1_tell_36 : decode cX1_tell 36 = .ok (.bipush 63, 2) := by decide +kernel
theorem dX1_tell_38 : decode cX1_tell 38 = .ok (.if_icmp .eq 25, 3) := by decide +kernel
theorem dX1_tell_41 : decode cX1_tell 41 = .ok (.iload_n 3, 1) := by decide +kernel
theorem dX1_tell_42 : decode cX1_tell 42 = .ok (.aload_n 0, 1) := by decide +kernel
theorem dX1_tell_43 : decode cX1_tell 43 = .ok (.getfield 10, 3) := by decide +kernel
theorem dX1_tell_46 : decode cX1_tell 46 = .ok (.iload_n 1, 1) := by decide +kernel
theorem dX1_tell_47 : decode cX1_tell 47 = .ok (.invokevirtual 109, 3) := by decide +kernel
theorem dX1_tell_50 : decode cX1_tell 50 = .ok (.ior, 1) := by decide +kernel
theorem dX1_tell_51 : decode cX1_tell 51 = .ok (.bipush 63, 2) := by decide +kernel
theorem dX1_tell_53 : decode cX1_tell 53 = .ok (.if_icmp .ne 10, 3) := by decide +kernel
theorem dX1_tell_56 : decode cX1_tell 56 = .ok (.bipush 10, 2) := by decide +kernel
theorem dX1_tell_58 : decode cX1_tell 58 = .ok (.iload_n 1, 1) := by decide +kernel
theorem dX1_tell_59 : decode cX1_tell 59 = .ok (.imul, 1) := by decide +kernel
theorem dX1_tell_60 : decode cX1_tell 60 = .ok (.iload_n 2, 1) := by decide +kernel
theorem dX1_tell_61 : decode cX1_tell 61 = .ok (.iadd, 1) := by decide +kernel
theorem dX1_tell_62 : decode cX1_tell 62 = .ok (.ireturn, 1) := by decide +kernel
theorem dX1_tell_63 : decode cX1_tell 63 = .ok (.iinc 2 1, 3) := by decide +kernel
theorem dX1_tell_66 : decode cX1_tell 66 = .ok (.goto (-51), 3) := by decide +kernel
theorem dX1_tell_69 : decode cX1_tell 69 = .ok (.iinc 1 1, 3) := by decide +kernel
theorem dX1_tell_72 : decode cX1_tell 72 = .ok (.goto (-70), 3) := by decide +kernel
theorem dX1_tell_75 : decode cX1_tell 75 = .ok (.bipush (-9), 2) := by decide +kernel
theorem dX1_tell_77 : decode cX1_tell 77 = .ok (.ireturn, 1) := by decide +kernel
theorem dX1_two_0 : decode cX1_two 0 = .ok (.aload_n 0, 1) := by decide +kernel
theorem dX1_two_1 : decode cX1_two 1 = .ok (.getfield 10, 3) := by decide +kernel
theorem dX1_two_4 : decode cX1_two 4 = .ok (.iload_n 1, 1) := by decide +kernel
theorem dX1_two_5 : decode cX1_two 5 = .ok (.invokevirtual 100, 3) := by decide +kernel
theorem dX1_two_8 : decode cX1_two 8 = .ok (.ifCond .eq 19, 3) := by decide +kernel
theorem dX1_two_11 : decode cX1_two 11 = .ok (.aload_n 0, 1) := by decide +kernel
theorem dX1_two_12 : decode cX1_two 12 = .ok (.getfield 10, 3) := by decide +kernel
theorem dX1_two_15 : decode cX1_two 15 = .ok (.iload_n 2, 1) := by decide +kernel
theorem dX1_two_16 : decode cX1_two 16 = .ok (.invokevirtual 100, 3) := by decide +kernel
theorem dX1_two_19 : decode cX1_two 19 = .ok (.ifCond .eq 8, 3) := by decide +kernel
theorem dX1_two_22 : decode cX1_two 22 = .ok (.iload_n 1, 1) := by decide +kernel
theorem dX1_two_23 : decode cX1_two 23 = .ok (.iload_n 2, 1) := by decide +kernel
theorem dX1_two_24 : decode cX1_two 24 = .ok (.if_icmp .ne 9, 3) := by decide +kernel
theorem dX1_two_27 : decode cX1_two 27 = .ok (.aload_n 0, 1) := by decide +kernel
theorem dX1_two_28 : decode cX1_two 28 = .ok (.iconst (-1), 1) := by decide +kernel
theorem dX1_two_29 : decode cX1_two 29 = .ok (.invokevirtual 52, 3) := by decide +kernel
theorem dX1_two_32 : decode cX1_two 32 = .ok (.ireturn, 1) := by decide +kernel
theorem dX1_two_33 : decode cX1_two 33 = .ok (.iload_n 3, 1) := by decide +kernel
theorem dX1_two_34 : decode cX1_two 34 = .ok (.iconst 0, 1) := by decide +kernel
theorem dX1_two_35 : decode cX1_two 35 = .ok (.bipush 30, 2) := by decide +kernel
theorem dX1_two_37 : decode cX1_two 37 = .ok (.invokestatic 140, 3) := by decide +kernel
theorem dX1_two_40 : decode cX1_two 40 = .ok (.istore 4, 2) := by decide +kernel
theorem dX1_two_42 : decode cX1_two 42 = .ok (.iload 4, 2) := by decide +kernel
theorem dX1_two_44 : decode cX1_two 44 = .ok (.ifCond .eq 10, 3) := by decide +kernel
theorem dX1_two_47 : decode cX1_two 47 = .ok (.aload_n 0, 1) := by decide +kernel
theorem dX1_two_48 : decode cX1_two 48 = .ok (.iload 4, 2) := by decide +kernel
theorem dX1_two_50 : decode cX1_two 50 = .ok (.invokevirtual 52, 3) := by decide +kernel
theorem dX1_two_53 : decode cX1_two 53 = .ok (.ireturn, 1) := by decide +kernel
theorem dX1_two_54 : decode cX1_two 54 = .ok (.iconst 0, 1) := by decide +kernel
theorem dX1_two_55 : decode cX1_two 55 = .ok (.istore 5, 2) := by decide +kernel
theorem dX1_two_57 : decode cX1_two 57 = .ok (.iload 5, 2) := by decide +kernel
theorem dX1_two_59 : decode cX1_two 59 = .ok (.iconst 4, 1) := by decide +kernel
theorem dX1_two_60 : decode cX1_two 60 = .ok (.if_icmp .ge 18, 3) := by decide +kernel
theorem dX1_two_63 : decode cX1_two 63 = .ok (.aload_n 0, 1) := by decide +kernel
theorem dX1_two_64 : decode cX1_two 64 = .ok (.iload_n 1, 1) := by decide +kernel
theorem dX1_two_65 : decode cX1_two 65 = .ok (.iload_n 2, 1) := by decide +kernel
theorem dX1_two_66 : decode cX1_two 66 = .ok (.iload_n 3, 1) := by decide +kernel
theorem dX1_two_67 : decode cX1_two 67 = .ok (.iload 5, 2) := by decide +kernel
theorem dX1_two_69 : decode cX1_two 69 = .ok (.invokevirtual 211, 3) := by decide +kernel
theorem dX1_two_72 : decode cX1_two 72 = .ok (.iinc 5 1, 3) := by decide +kernel
theorem dX1_two_75 : decode cX1_two 75 = .ok (.goto (-18), 3) := by decide +kernel
theorem dX1_two_78 : decode cX1_two 78 = .ok (.iconst 0, 1) := by decide +kernel
theorem dX1_two_79 : decode cX1_two 79 = .ok (.istore 5, 2) := by decide +kernel
theorem dX1_two_81 : decode cX1_two 81 = .ok (.iload 5, 2) := by decide +kernel
theorem dX1_two_83 : decode cX1_two 83 = .ok (.iconst 4, 1) := by decide +kernel
theorem dX1_two_84 : decode cX1_two 84 = .ok (.if_icmp .ge 60, 3) := by decide +kernel
theorem dX1_two_87 : decode cX1_two 87 = .ok (.aload_n 0, 1) := by decide +kernel
theorem dX1_two_88 : decode cX1_two 88 = .ok (.getfield 46, 3) := by decide +kernel
theorem dX1_two_91 : decode cX1_two 91 = .ok (.iload 5, 2) := by decide +kernel
theorem dX1_two_93 : decode cX1_two 93 = .ok (.iaload, 1) := by decide +kernel
theorem dX1_two_94 : decode cX1_two 94 = .ok (.aload_n 0, 1) := by decide +kernel
theorem dX1_two_95 : decode cX1_two 95 = .ok (.getfield 46, 3) := by decide +kernel
theorem dX1_two_98 : decode cX1_two 98 = .ok (.iload 5, 2) := by decide +kernel
theorem dX1_two_100 : decode cX1_two 100 = .ok (.iconst 2, 1) := by decide +kernel
theorem dX1_two_101 : decode cX1_two 101 = .ok (.ixor, 1) := by decide +kernel
theorem dX1_two_102 : decode cX1_two 102 = .ok (.iaload, 1) := by decide +kernel
theorem dX1_two_103 : decode cX1_two 103 = .ok (.if_icmp .lt 35, 3) := by decide +kernel
theorem dX1_two_106 : decode cX1_two 106 = .ok (.aload_n 0, 1) := by decide +kernel
theorem dX1_two_107 : decode cX1_two 107 = .ok (.getfield 49, 3) := by decide +kernel
theorem dX1_two_110 : decode cX1_two 110 = .ok (.iload 5, 2) := by decide +kernel
theorem dX1_two_112 : decode cX1_two 112 = .ok (.iaload, 1) := by decide +kernel
theorem dX1_two_113 : decode cX1_two 113 = .ok (.aload_n 0, 1) := by decide +kernel
theorem dX1_two_114 : decode cX1_two 114 = .ok (.getfield 49, 3) := by decide +kernel
theorem dX1_two_117 : decode cX1_two 117 = .ok (.iload 5, 2) := by decide +kernel
theorem dX1_two_119 : decode cX1_two 119 = .ok (.iconst 1, 1) := by decide +kernel
theorem dX1_two_120 : decode cX1_two 120 = .ok (.ixor, 1) := by decide +kernel
theorem dX1_two_121 : decode cX1_two 121 = .ok (.iaload, 1) := by decide +kernel
theorem dX1_two_122 : decode cX1_two 122 = .ok (.if_icmp .lt 16, 3) := by decide +kernel
theorem dX1_two_125 : decode cX1_two 125 = .ok (.bipush 10, 2) := by decide +kernel
theorem dX1_two_127 : decode cX1_two 127 = .ok (.iload 5, 2) := by decide +kernel
theorem dX1_two_129 : decode cX1_two 129 = .ok (.iconst 1, 1) := by decide +kernel
theorem dX1_two_130 : decode cX1_two 130 = .ok (.ishr, 1) := by decide +kernel
theorem dX1_two_131 : decode cX1_two 131 = .ok (.imul, 1) := by decide +kernel
theorem dX1_two_132 : decode cX1_two 132 = .ok (.iload 5, 2) := by decide +kernel
theorem dX1_two_134 : decode cX1_two 134 = .ok (.iconst 1, 1) := by decide +kernel
theorem dX1_two_135 : decode cX1_two 135 = .ok (.iand, 1) := by decide +kernel
theorem dX1_two_136 : decode cX1_two 136 = .ok (.iadd, 1) := by decide +kernel
theorem dX1_two_137 : decode cX1_two 137 = .ok (.ireturn, 1) := by decide +kernel
theorem dX1_two_138 : decode cX1_two 138 = .ok (.iinc 5 1, 3) := by decide +kernel
theorem dX1_two_141 : decode cX1_two 141 = .ok (.goto (-60), 3) := by decide +kernel
theorem dX1_two_144 : decode cX1_two 144 = .ok (.bipush (-9), 2) := by decide +kernel
theorem dX1_two_146 : decode cX1_two 146 = .ok (.ireturn, 1) := by decide +kernel
theorem dX1_rain_0 : decode cX1_rain 0 = .ok (.aload_n 0, 1) := by decide +kernel
theorem dX1_rain_1 : decode cX1_rain 1 = .ok (.getfield 10, 3) := by decide +kernel
theorem dX1_rain_4 : decode cX1_rain 4 = .ok (.iload_n 1, 1) := by decide +kernel
theorem dX1_rain_5 : decode cX1_rain 5 = .ok (.invokevirtual 100, 3) := by decide +kernel
theorem dX1_rain_8 : decode cX1_rain 8 = .ok (.ifCond .ne 9, 3) := by decide +kernel
theorem dX1_rain_11 : decode cX1_rain 11 = .ok (.aload_n 0, 1) := by decide +kernel
theorem dX1_rain_12 : decode cX1_rain 12 = .ok (.iconst (-1), 1) := by decide +kernel
theorem dX1_rain_13 : decode cX1_rain 13 = .ok (.invokevirtual 215, 3) := by decide +kernel
theorem dX1_rain_16 : decode cX1_rain 16 = .ok (.lreturn, 1) := by decide +kernel
theorem dX1_rain_17 : decode cX1_rain 17 = .ok (.iload_n 2, 1) := by decide +kernel
theorem dX1_rain_18 : decode cX1_rain 18 = .ok (.ifCond .lt 8, 3) := by decide +kernel
theorem dX1_rain_21 : decode cX1_rain 21 = .ok (.iload_n 3, 1) := by decide +kernel
theorem dX1_rain_22 : decode cX1_rain 22 = .ok (.iconst 2, 1) := by decide +kernel
theorem dX1_rain_23 : decode cX1_rain 23 = .ok (.if_icmp .ge 10, 3) := by decide +kernel
theorem dX1_rain_26 : decode cX1_rain 26 = .ok (.aload_n 0, 1) := by decide +kernel
theorem dX1_rain_27 : decode cX1_rain 27 = .ok (.bipush (-4), 2) := by decide +kernel
theorem dX1_rain_29 : decode cX1_rain 29 = .ok (.invokevirtual 215, 3) := by decide +kernel
theorem dX1_rain_32 : decode cX1_rain 32 = .ok (.lreturn, 1) := by decide +kernel
theorem dX1_rain_33 : decode cX1_rain 33 = .ok (.iload_n 2, 1) := by decide +kernel
theorem dX1_rain_34 : decode cX1_rain 34 = .ok (.bipush 7, 2) := by decide +kernel
theorem dX1_rain_36 : decode cX1_rain 36 = .ok (.if_icmp .gt 9, 3) := by decide +kernel
theorem dX1_rain_39 : decode cX1_rain 39 = .ok (.iload_n 3, 1) := by decide +kernel
theorem dX1_rain_40 : decode cX1_rain 40 = .ok (.bipush 20, 2) := by decide +kernel
theorem dX1_rain_42 : decode cX1_rain 42 = .ok (.if_icmp .le 10, 3) := by decide +kernel
theorem dX1_rain_45 : decode cX1_rain 45 = .ok (.aload_n 0, 1) := by decide +kernel
theorem dX1_rain_46 : decode cX1_rain 46 = .ok (.bipush (-6), 2) := by decide +kernel
theorem dX1_rain_48 : decode cX1_rain 48 = .ok (.invokevirtual 215, 3) := by decide +kernel
theorem dX1_rain_51 : decode cX1_rain 51 = .ok (.lreturn, 1) := by decide +kernel
theorem dX1_rain_52 : decode cX1_rain 52 = .ok (.iload 4, 2) := by decide +kernel
theorem dX1_rain_54 : decode cX1_rain 54 = .ok (.invokestatic 156, 3) := by decide +kernel
theorem dX1_rain_57 : decode cX1_rain 57 = .ok (.ifCond .ne 10, 3) := by decide +kernel
theorem dX1_rain_60 : decode cX1_rain 60 = .ok (.aload_n 0, 1) := by decide +kernel
theorem dX1_rain_61 : decode cX1_rain 61 = .ok (.bipush (-2), 2) := by decide +kernel
theorem dX1_rain_63 : decode cX1_rain 63 = .ok (.invokevirtual 215, 3) := by decide +kernel
theorem dX1_rain_66 : decode cX1_rain 66 = .ok (.lreturn, 1) := by decide +kernel
theorem dX1_rain_67 : decode cX1_rain 67 = .ok (.lconst 0, 1) := by decide +kernel
theorem dX1_rain_68 : decode cX1_rain 68 = .ok (.lstore 5, 2) := by decide +kernel
theorem dX1_rain_70 : decode cX1_rain 70 = .ok (.iconst 0, 1) := by decide +kernel
theorem dX1_rain_71 : decode cX1_rain 71 = .ok (.istore 7, 2) := by decide +kernel
theorem dX1_rain_73 : decode cX1_rain 73 = .ok (.iload 7, 2) := by decide +kernel
theorem dX1_rain_75 : decode cX1_rain 75 = .ok (.iconst 1, 1) := by decide +kernel
theorem dX1_rain_76 : decode cX1_rain 76 = .ok (.iload_n 2, 1) := by decide +kernel
theorem dX1_rain_77 : decode cX1_rain 77 = .ok (.ishl, 1) := by decide +kernel
theorem dX1_rain_78 : decode cX1_rain 78 = .ok (.if_icmp .ge 36, 3) := by decide +kernel
theorem dX1_rain_81 : decode cX1_rain 81 = .ok (.aload_n 0, 1) := by decide +kernel
theorem dX1_rain_82 : decode cX1_rain 82 = .ok (.iload_n 1, 1) := by decide +kernel
theorem dX1_rain_83 : decode cX1_rain 83 = .ok (.iload_n 2, 1) := by decide +kernel
theorem dX1_rain_84 : decode cX1_rain 84 = .ok (.iload 7, 2) := by decide +kernel
theorem dX1_rain_86 : decode cX1_rain 86 = .ok (.invokevirtual 219, 3) := by decide +kernel
theorem dX1_rain_89 : decode cX1_rain 89 = .ok (.ifCond .eq 19, 3) := by decide +kernel
theorem dX1_rain_92 : decode cX1_rain 92 = .ok (.lload 5, 2) := by decide +kernel
theorem dX1_rain_94 : decode cX1_rain 94 = .ok (.iload_n 3, 1) := by decide +kernel
theorem dX1_rain_95 : decode cX1_rain 95 = .ok (.iconst 1, 1) := by decide +kernel
theorem dX1_rain_96 : decode cX1_rain 96 = .ok (.isub, 1) := by decide +kernel
theorem dX1_rain_97 : decode cX1_rain 97 = .ok (.iload 7, 2) := by decide +kernel
theorem dX1_rain_99 : decode cX1_rain 99 = .ok (.invokestatic 135, 3) := by decide +kernel
theorem dX1_rain_102 : decode cX1_rain 102 = .ok (.invokestatic 223, 3) := by decide +kernel
theorem dX1_rain_105 : decode cX1_rain 105 = .ok (.ladd, 1) := by decide +kernel
theorem dX1_rain_106 : decode cX1_rain 106 = .ok (.lstore 5, 2) := by decide +kernel
theorem dX1_rain_108 : decode cX1_rain 108 = .ok (.iinc 7 1, 3) := by decide +kernel
theorem dX1_rain_111 : decode cX1_rain 111 = .ok (.goto (-38), 3) := by decide +kernel
theorem dX1_rain_114 : decode cX1_rain 114 = .ok (.lload 5, 2) := by decide +kernel
theorem dX1_rain_116 : decode cX1_rain 116 = .ok (.iload_n 3, 1) := by decide +kernel
theorem dX1_rain_117 : decode cX1_rain 117 = .ok (.iload_n 2, 1) := by decide +kernel
theorem dX1_rain_118 : decode cX1_rain 118 = .ok (.invokestatic 223, 3) := by decide +kernel
theorem dX1_rain_121 : decode cX1_rain 121 = .ok (.iload 4, 2) := by decide +kernel
theorem dX1_rain_123 : decode cX1_rain 123 = .ok (.invokestatic 227, 3) := by decide +kernel
theorem dX1_rain_126 : decode cX1_rain 126 = .ok (.lreturn, 1) := by decide +kernel
theorem dX1_mean_0 : decode cX1_mean 0 = .ok (.iload_n 1, 1) := by decide +kernel
theorem dX1_mean_1 : decode cX1_mean 1 = .ok (.invokestatic 156, 3) := by decide +kernel
theorem dX1_mean_4 : decode cX1_mean 4 = .ok (.ifCond .ne 10, 3) := by decide +kernel
theorem dX1_mean_7 : decode cX1_mean 7 = .ok (.aload_n 0, 1) := by decide +kernel
theorem dX1_mean_8 : decode cX1_mean 8 = .ok (.bipush (-2), 2) := by decide +kernel
theorem dX1_mean_10 : decode cX1_mean 10 = .ok (.invokevirtual 215, 3) := by decide +kernel
theorem dX1_mean_13 : decode cX1_mean 13 = .ok (.lreturn, 1) := by decide +kernel
theorem dX1_mean_14 : decode cX1_mean 14 = .ok (.lconst 0, 1) := by decide +kernel
theorem dX1_mean_15 : decode cX1_mean 15 = .ok (.lstore_n 2, 1) := by decide +kernel
theorem dX1_mean_16 : decode cX1_mean 16 = .ok (.iconst 0, 1) := by decide +kernel
theorem dX1_mean_17 : decode cX1_mean 17 = .ok (.istore 4, 2) := by decide +kernel
theorem dX1_mean_19 : decode cX1_mean 19 = .ok (.iload 4, 2) := by decide +kernel
theorem dX1_mean_21 : decode cX1_mean 21 = .ok (.aload_n 0, 1) := by decide +kernel
theorem dX1_mean_22 : decode cX1_mean 22 = .ok (.getfield 10, 3) := by decide +kernel
theorem dX1_mean_25 : decode cX1_mean 25 = .ok (.getfield 129, 3) := by decide +kernel
theorem dX1_mean_28 : decode cX1_mean 28 = .ok (.if_icmp .ge 22, 3) := by decide +kernel
theorem dX1_mean_31 : decode cX1_mean 31 = .ok (.lload_n 2, 1) := by decide +kernel
theorem dX1_mean_32 : decode cX1_mean 32 = .ok (.aload_n 0, 1) := by decide +kernel
theorem dX1_mean_33 : decode cX1_mean 33 = .ok (.getfield 10, 3) := by decide +kernel
theorem dX1_mean_36 : decode cX1_mean 36 = .ok (.iload 4, 2) := by decide +kernel
theorem dX1_mean_38 : decode cX1_mean 38 = .ok (.invokevirtual 85, 3) := by decide +kernel
theorem dX1_mean_41 : decode cX1_mean 41 = .ok (.i2l, 1) := by decide +kernel
theorem dX1_mean_42 : decode cX1_mean 42 = .ok (.ladd, 1) := by decide +kernel
theorem dX1_mean_43 : decode cX1_mean 43 = .ok (.lstore_n 2, 1) := by decide +kernel
theorem dX1_mean_44 : decode cX1_mean 44 = .ok (.iinc 4 1, 3) := by decide +kernel
theorem dX1_mean_47 : decode cX1_mean 47 = .ok (.goto (-28), 3) := by decide +kernel
theorem dX1_mean_50 : decode cX1_mean 50 = .ok (.lload_n 2, 1) := by decide +kernel
theorem dX1_mean_51 : decode cX1_mean 51 = .ok (.aload_n 0, 1) := by decide +kernel
theorem dX1_mean_52 : decode cX1_mean 52 = .ok (.getfield 10, 3) := by decide +kernel
theorem dX1_mean_55 : decode cX1_mean 55 = .ok (.getfield 129, 3) := by decide +kernel
theorem dX1_mean_58 : decode cX1_mean 58 = .ok (.iconst 1, 1) := by decide +kernel
theorem dX1_mean_59 : decode cX1_mean 59 = .ok (.invokestatic 231, 3) := by decide +kernel
theorem dX1_mean_62 : decode cX1_mean 62 = .ok (.i2l, 1) := by decide +kernel
theorem dX1_mean_63 : decode cX1_mean 63 = .ok (.iload_n 1, 1) := by decide +kernel
theorem dX1_mean_64 : decode cX1_mean 64 = .ok (.invokestatic 227, 3) := by decide +kernel
theorem dX1_mean_67 : decode cX1_mean 67 = .ok (.lreturn, 1) := by decide +kernel
theorem dX1_whatSaid_0 : decode cX1_whatSaid 0 = .ok (.aload_n 0, 1) := by decide +kernel
theorem dX1_whatSaid_1 : decode cX1_whatSaid 1 = .ok (.getfield 10, 3) := by decide +kernel
theorem dX1_whatSaid_4 : decode cX1_whatSaid 4 = .ok (.iload_n 1, 1) := by decide +kernel
theorem dX1_whatSaid_5 : decode cX1_whatSaid 5 = .ok (.invokevirtual 70, 3) := by decide +kernel
theorem dX1_whatSaid_8 : decode cX1_whatSaid 8 = .ok (.ifCond .ne 9, 3) := by decide +kernel
theorem dX1_whatSaid_11 : decode cX1_whatSaid 11 = .ok (.aload_n 0, 1) := by decide +kernel
theorem dX1_whatSaid_12 : decode cX1_whatSaid 12 = .ok (.iconst (-1), 1) := by decide +kernel
theorem dX1_whatSaid_13 : decode cX1_whatSaid 13 = .ok (.invokevirtual 52, 3) := by decide +kernel
end
section
theorem dX1_whatSaid_16 : decode cX1_whatSaid 16 = .ok (.ireturn, 1) := by decide +kernel
theorem dX1_whatSaid_17 : decode cX1_whatSaid 17 = .ok (.iload_n 2, 1) := by decide +kernel
theorem dX1_whatSaid_18 : decode cX1_whatSaid 18 = .ok (.invokestatic 156, 3) := by decide +kernel
theorem dX1_whatSaid_21 : decode cX1_whatSaid 21 = .ok (.ifCond .ne 10, 3) := by decide +kernel
theorem dX1_whatSaid_24 : decode cX1_whatSaid 24 = .ok (.aload_n 0, 1) := by decide +kernel
theorem dX1_whatSaid_25 : decode cX1_whatSaid 25 = .ok (.bipush (-2), 2) := by decide +kernel
theorem dX1_whatSaid_27 : decode cX1_whatSaid 27 = .ok (.invokevirtual 52, 3) := by decide +kernel
theorem dX1_whatSaid_30 : decode cX1_whatSaid 30 = .ok (.ireturn, 1) := by decide +kernel
theorem dX1_whatSaid_31 : decode cX1_whatSaid 31 = .ok (.iconst 0, 1) := by decide +kernel
theorem dX1_whatSaid_32 : decode cX1_whatSaid 32 = .ok (.istore_n 3, 1) := by decide +kernel
theorem dX1_whatSaid_33 : decode cX1_whatSaid 33 = .ok (.iload_n 2, 1) := by decide +kernel
theorem dX1_whatSaid_34 : decode cX1_whatSaid 34 = .ok (.ifCond .ne 8, 3) := by decide +kernel
theorem dX1_whatSaid_37 : decode cX1_whatSaid 37 = .ok (.bipush 6, 2) := by decide +kernel
theorem dX1_whatSaid_39 : decode cX1_whatSaid 39 = .ok (.goto 5, 3) := by decide +kernel
theorem dX1_whatSaid_42 : decode cX1_whatSaid 42 = .ok (.bipush 6, 2) := by decide +kernel
theorem dX1_whatSaid_44 : decode cX1_whatSaid 44 = .ok (.istore 4, 2) := by decide +kernel
theorem dX1_whatSaid_46 : decode cX1_whatSaid 46 = .ok (.iconst 0, 1) := by decide +kernel
theorem dX1_whatSaid_47 : decode cX1_whatSaid 47 = .ok (.istore 5, 2) := by decide +kernel
theorem dX1_whatSaid_49 : decode cX1_whatSaid 49 = .ok (.iload 5, 2) := by decide +kernel
theorem dX1_whatSaid_51 : decode cX1_whatSaid 51 = .ok (.iload 4, 2) := by decide +kernel
theorem dX1_whatSaid_53 : decode cX1_whatSaid 53 = .ok (.if_icmp .ge 73, 3) := by decide +kernel
theorem dX1_whatSaid_56 : decode cX1_whatSaid 56 = .ok (.aload_n 0, 1) := by decide +kernel
theorem dX1_whatSaid_57 : decode cX1_whatSaid 57 = .ok (.getfield 16, 3) := by decide +kernel
theorem dX1_whatSaid_60 : decode cX1_whatSaid 60 = .ok (.aload_n 0, 1) := by decide +kernel
theorem dX1_whatSaid_61 : decode cX1_whatSaid 61 = .ok (.getfield 10, 3) := by decide +kernel
theorem dX1_whatSaid_64 : decode cX1_whatSaid 64 = .ok (.invokevirtual 59, 3) := by decide +kernel
theorem dX1_whatSaid_67 : decode cX1_whatSaid 67 = .ok (.iload_n 2, 1) := by decide +kernel
theorem dX1_whatSaid_68 : decode cX1_whatSaid 68 = .ok (.ifCond .ne 17, 3) := by decide +kernel
theorem dX1_whatSaid_71 : decode cX1_whatSaid 71 = .ok (.aload_n 0, 1) := by decide +kernel
theorem dX1_whatSaid_72 : decode cX1_whatSaid 72 = .ok (.getfield 16, 3) := by decide +kernel
theorem dX1_whatSaid_75 : decode cX1_whatSaid 75 = .ok (.getfield 79, 3) := by decide +kernel
theorem dX1_whatSaid_78 : decode cX1_whatSaid 78 = .ok (.iload_n 1, 1) := by decide +kernel
theorem dX1_whatSaid_79 : decode cX1_whatSaid 79 = .ok (.iload 5, 2) := by decide +kernel
theorem dX1_whatSaid_81 : decode cX1_whatSaid 81 = .ok (.iastore, 1) := by decide +kernel
theorem dX1_whatSaid_82 : decode cX1_whatSaid 82 = .ok (.goto 14, 3) := by decide +kernel
theorem dX1_whatSaid_85 : decode cX1_whatSaid 85 = .ok (.aload_n 0, 1) := by decide +kernel
theorem dX1_whatSaid_86 : decode cX1_whatSaid 86 = .ok (.getfield 16, 3) := by decide +kernel
theorem dX1_whatSaid_89 : decode cX1_whatSaid 89 = .ok (.getfield 73, 3) := by decide +kernel
theorem dX1_whatSaid_92 : decode cX1_whatSaid 92 = .ok (.iload_n 1, 1) := by decide +kernel
theorem dX1_whatSaid_93 : decode cX1_whatSaid 93 = .ok (.iload 5, 2) := by decide +kernel
theorem dX1_whatSaid_95 : decode cX1_whatSaid 95 = .ok (.iastore, 1) := by decide +kernel
theorem dX1_whatSaid_96 : decode cX1_whatSaid 96 = .ok (.aload_n 0, 1) := by decide +kernel
theorem dX1_whatSaid_97 : decode cX1_whatSaid 97 = .ok (.getfield 16, 3) := by decide +kernel
theorem dX1_whatSaid_100 : decode cX1_whatSaid 100 = .ok (.iload_n 1, 1) := by decide +kernel
theorem dX1_whatSaid_101 : decode cX1_whatSaid 101 = .ok (.bipush 31, 2) := by decide +kernel
theorem dX1_whatSaid_103 : decode cX1_whatSaid 103 = .ok (.invokevirtual 118, 3) := by decide +kernel
theorem dX1_whatSaid_106 : decode cX1_whatSaid 106 = .ok (.aload_n 0, 1) := by decide +kernel
theorem dX1_whatSaid_107 : decode cX1_whatSaid 107 = .ok (.invokevirtual 235, 3) := by decide +kernel
theorem dX1_whatSaid_110 : decode cX1_whatSaid 110 = .ok (.ifCond .eq 10, 3) := by decide +kernel
theorem dX1_whatSaid_113 : decode cX1_whatSaid 113 = .ok (.iload_n 3, 1) := by decide +kernel
theorem dX1_whatSaid_114 : decode cX1_whatSaid 114 = .ok (.iconst 1, 1) := by decide +kernel
theorem dX1_whatSaid_115 : decode cX1_whatSaid 115 = .ok (.iload 5, 2) := by decide +kernel
theorem dX1_whatSaid_117 : decode cX1_whatSaid 117 = .ok (.ishl, 1) := by decide +kernel
theorem dX1_whatSaid_118 : decode cX1_whatSaid 118 = .ok (.ior, 1) := by decide +kernel
theorem dX1_whatSaid_119 : decode cX1_whatSaid 119 = .ok (.istore_n 3, 1) := by decide +kernel
theorem dX1_whatSaid_120 : decode cX1_whatSaid 120 = .ok (.iinc 5 1, 3) := by decide +kernel
theorem dX1_whatSaid_123 : decode cX1_whatSaid 123 = .ok (.goto (-74), 3) := by decide +kernel
theorem dX1_whatSaid_126 : decode cX1_whatSaid 126 = .ok (.iload_n 3, 1) := by decide +kernel
theorem dX1_whatSaid_127 : decode cX1_whatSaid 127 = .ok (.ireturn, 1) := by decide +kernel
theorem dX1_row_0 : decode cX1_row 0 = .ok (.iload_n 1, 1) := by decide +kernel
theorem dX1_row_1 : decode cX1_row 1 = .ok (.iconst 0, 1) := by decide +kernel
theorem dX1_row_2 : decode cX1_row 2 = .ok (.bipush 99, 2) := by decide +kernel
theorem dX1_row_4 : decode cX1_row 4 = .ok (.invokestatic 140, 3) := by decide +kernel
theorem dX1_row_7 : decode cX1_row 7 = .ok (.istore_n 2, 1) := by decide +kernel
theorem dX1_row_8 : decode cX1_row 8 = .ok (.iload_n 2, 1) := by decide +kernel
theorem dX1_row_9 : decode cX1_row 9 = .ok (.ifCond .eq 9, 3) := by decide +kernel
theorem dX1_row_12 : decode cX1_row 12 = .ok (.aload_n 0, 1) := by decide +kernel
theorem dX1_row_13 : decode cX1_row 13 = .ok (.iload_n 2, 1) := by decide +kernel
theorem dX1_row_14 : decode cX1_row 14 = .ok (.invokevirtual 52, 3) := by decide +kernel
theorem dX1_row_17 : decode cX1_row 17 = .ok (.ireturn, 1) := by decide +kernel
theorem dX1_row_18 : decode cX1_row 18 = .ok (.aload_n 0, 1) := by decide +kernel
theorem dX1_row_19 : decode cX1_row 19 = .ok (.getfield 37, 3) := by decide +kernel
theorem dX1_row_22 : decode cX1_row 22 = .ok (.bipush 16, 2) := by decide +kernel
theorem dX1_row_24 : decode cX1_row 24 = .ok (.if_icmp .lt 10, 3) := by decide +kernel
theorem dX1_row_27 : decode cX1_row 27 = .ok (.aload_n 0, 1) := by decide +kernel
theorem dX1_row_28 : decode cX1_row 28 = .ok (.bipush (-6), 2) := by decide +kernel
theorem dX1_row_30 : decode cX1_row 30 = .ok (.invokevirtual 52, 3) := by decide +kernel
theorem dX1_row_33 : decode cX1_row 33 = .ok (.ireturn, 1) := by decide +kernel
theorem dX1_row_34 : decode cX1_row 34 = .ok (.aload_n 0, 1) := by decide +kernel
theorem dX1_row_35 : decode cX1_row 35 = .ok (.getfield 34, 3) := by decide +kernel
theorem dX1_row_38 : decode cX1_row 38 = .ok (.aload_n 0, 1) := by decide +kernel
theorem dX1_row_39 : decode cX1_row 39 = .ok (.getfield 37, 3) := by decide +kernel
theorem dX1_row_42 : decode cX1_row 42 = .ok (.iload_n 1, 1) := by decide +kernel
theorem dX1_row_43 : decode cX1_row 43 = .ok (.iastore, 1) := by decide +kernel
theorem dX1_row_44 : decode cX1_row 44 = .ok (.aload_n 0, 1) := by decide +kernel
theorem dX1_row_45 : decode cX1_row 45 = .ok (.dup, 1) := by decide +kernel
theorem dX1_row_46 : decode cX1_row 46 = .ok (.getfield 37, 3) := by decide +kernel
theorem dX1_row_49 : decode cX1_row 49 = .ok (.iconst 1, 1) := by decide +kernel
theorem dX1_row_50 : decode cX1_row 50 = .ok (.iadd, 1) := by decide +kernel
theorem dX1_row_51 : decode cX1_row 51 = .ok (.putfield 37, 3) := by decide +kernel
theorem dX1_row_54 : decode cX1_row 54 = .ok (.aload_n 0, 1) := by decide +kernel
theorem dX1_row_55 : decode cX1_row 55 = .ok (.getfield 37, 3) := by decide +kernel
theorem dX1_row_58 : decode cX1_row 58 = .ok (.ireturn, 1) := by decide +kernel
theorem dX1_judge_0 : decode cX1_judge 0 = .ok (.aload_n 0, 1) := by decide +kernel
theorem dX1_judge_1 : decode cX1_judge 1 = .ok (.getfield 37, 3) := by decide +kernel
theorem dX1_judge_4 : decode cX1_judge 4 = .ok (.istore_n 1, 1) := by decide +kernel
theorem dX1_judge_5 : decode cX1_judge 5 = .ok (.aload_n 0, 1) := by decide +kernel
theorem dX1_judge_6 : decode cX1_judge 6 = .ok (.iconst 0, 1) := by decide +kernel
theorem dX1_judge_7 : decode cX1_judge 7 = .ok (.putfield 37, 3) := by decide +kernel
theorem dX1_judge_10 : decode cX1_judge 10 = .ok (.aload_n 0, 1) := by decide +kernel
theorem dX1_judge_11 : decode cX1_judge 11 = .ok (.getfield 16, 3) := by decide +kernel
theorem dX1_judge_14 : decode cX1_judge 14 = .ok (.aload_n 0, 1) := by decide +kernel
theorem dX1_judge_15 : decode cX1_judge 15 = .ok (.getfield 10, 3) := by decide +kernel
theorem dX1_judge_18 : decode cX1_judge 18 = .ok (.invokevirtual 59, 3) := by decide +kernel
theorem dX1_judge_21 : decode cX1_judge 21 = .ok (.iconst 0, 1) := by decide +kernel
theorem dX1_judge_22 : decode cX1_judge 22 = .ok (.istore_n 2, 1) := by decide +kernel
theorem dX1_judge_23 : decode cX1_judge 23 = .ok (.iload_n 2, 1) := by decide +kernel
theorem dX1_judge_24 : decode cX1_judge 24 = .ok (.iload_n 1, 1) := by decide +kernel
theorem dX1_judge_25 : decode cX1_judge 25 = .ok (.if_icmp .ge 42, 3) := by decide +kernel
theorem dX1_judge_28 : decode cX1_judge 28 = .ok (.aload_n 0, 1) := by decide +kernel
theorem dX1_judge_29 : decode cX1_judge 29 = .ok (.getfield 34, 3) := by decide +kernel
theorem dX1_judge_32 : decode cX1_judge 32 = .ok (.iload_n 2, 1) := by decide +kernel
theorem dX1_judge_33 : decode cX1_judge 33 = .ok (.iaload, 1) := by decide +kernel
theorem dX1_judge_34 : decode cX1_judge 34 = .ok (.aload_n 0, 1) := by decide +kernel
theorem dX1_judge_35 : decode cX1_judge 35 = .ok (.getfield 16, 3) := by decide +kernel
theorem dX1_judge_38 : decode cX1_judge 38 = .ok (.getfield 122, 3) := by decide +kernel
theorem dX1_judge_41 : decode cX1_judge 41 = .ok (.bipush 99, 2) := by decide +kernel
theorem dX1_judge_43 : decode cX1_judge 43 = .ok (.invokestatic 239, 3) := by decide +kernel
theorem dX1_judge_46 : decode cX1_judge 46 = .ok (.if_icmp .eq 5, 3) := by decide +kernel
theorem dX1_judge_49 : decode cX1_judge 49 = .ok (.iload_n 2, 1) := by decide +kernel
theorem dX1_judge_50 : decode cX1_judge 50 = .ok (.ireturn, 1) := by decide +kernel
theorem dX1_judge_51 : decode cX1_judge 51 = .ok (.aload_n 0, 1) := by decide +kernel
theorem dX1_judge_52 : decode cX1_judge 52 = .ok (.getfield 16, 3) := by decide +kernel
theorem dX1_judge_55 : decode cX1_judge 55 = .ok (.iconst 1, 1) := by decide +kernel
theorem dX1_judge_56 : decode cX1_judge 56 = .ok (.bipush 31, 2) := by decide +kernel
theorem dX1_judge_58 : decode cX1_judge 58 = .ok (.invokevirtual 150, 3) := by decide +kernel
theorem dX1_judge_61 : decode cX1_judge 61 = .ok (.iinc 2 1, 3) := by decide +kernel
theorem dX1_judge_64 : decode cX1_judge 64 = .ok (.goto (-41), 3) := by decide +kernel
theorem dX1_judge_67 : decode cX1_judge 67 = .ok (.bipush (-9), 2) := by decide +kernel
theorem dX1_judge_69 : decode cX1_judge 69 = .ok (.ireturn, 1) := by decide +kernel
theorem dX1_clear_0 : decode cX1_clear 0 = .ok (.aload_n 0, 1) := by decide +kernel
theorem dX1_clear_1 : decode cX1_clear 1 = .ok (.getfield 37, 3) := by decide +kernel
theorem dX1_clear_4 : decode cX1_clear 4 = .ok (.istore_n 1, 1) := by decide +kernel
theorem dX1_clear_5 : decode cX1_clear 5 = .ok (.aload_n 0, 1) := by decide +kernel
theorem dX1_clear_6 : decode cX1_clear 6 = .ok (.iconst 0, 1) := by decide +kernel
theorem dX1_clear_7 : decode cX1_clear 7 = .ok (.putfield 37, 3) := by decide +kernel
theorem dX1_clear_10 : decode cX1_clear 10 = .ok (.iload_n 1, 1) := by decide +kernel
theorem dX1_clear_11 : decode cX1_clear 11 = .ok (.ireturn, 1) := by decide +kernel
theorem dX1_lots_0 : decode cX1_lots 0 = .ok (.iload_n 1, 1) := by decide +kernel
theorem dX1_lots_1 : decode cX1_lots 1 = .ok (.iconst 1, 1) := by decide +kernel
theorem dX1_lots_2 : decode cX1_lots 2 = .ok (.bipush 20, 2) := by decide +kernel
theorem dX1_lots_4 : decode cX1_lots 4 = .ok (.invokestatic 140, 3) := by decide +kernel
theorem dX1_lots_7 : decode cX1_lots 7 = .ok (.istore 4, 2) := by decide +kernel
theorem dX1_lots_9 : decode cX1_lots 9 = .ok (.iload 4, 2) := by decide +kernel
theorem dX1_lots_11 : decode cX1_lots 11 = .ok (.ifCond .eq 10, 3) := by decide +kernel
theorem dX1_lots_14 : decode cX1_lots 14 = .ok (.aload_n 0, 1) := by decide +kernel
theorem dX1_lots_15 : decode cX1_lots 15 = .ok (.iload 4, 2) := by decide +kernel
theorem dX1_lots_17 : decode cX1_lots 17 = .ok (.invokevirtual 52, 3) := by decide +kernel
theorem dX1_lots_20 : decode cX1_lots 20 = .ok (.ireturn, 1) := by decide +kernel
theorem dX1_lots_21 : decode cX1_lots 21 = .ok (.iload_n 3, 1) := by decide +kernel
theorem dX1_lots_22 : decode cX1_lots 22 = .ok (.invokestatic 156, 3) := by decide +kernel
theorem dX1_lots_25 : decode cX1_lots 25 = .ok (.ifCond .ne 10, 3) := by decide +kernel
theorem dX1_lots_28 : decode cX1_lots 28 = .ok (.aload_n 0, 1) := by decide +kernel
theorem dX1_lots_29 : decode cX1_lots 29 = .ok (.bipush (-2), 2) := by decide +kernel
theorem dX1_lots_31 : decode cX1_lots 31 = .ok (.invokevirtual 52, 3) := by decide +kernel
theorem dX1_lots_34 : decode cX1_lots 34 = .ok (.ireturn, 1) := by decide +kernel
theorem dX1_lots_35 : decode cX1_lots 35 = .ok (.iload_n 2, 1) := by decide +kernel
theorem dX1_lots_36 : decode cX1_lots 36 = .ok (.istore 5, 2) := by decide +kernel
theorem dX1_lots_38 : decode cX1_lots 38 = .ok (.iconst 0, 1) := by decide +kernel
theorem dX1_lots_39 : decode cX1_lots 39 = .ok (.istore 6, 2) := by decide +kernel
theorem dX1_lots_41 : decode cX1_lots 41 = .ok (.iconst 0, 1) := by decide +kernel
theorem dX1_lots_42 : decode cX1_lots 42 = .ok (.istore 7, 2) := by decide +kernel
theorem dX1_lots_44 : decode cX1_lots 44 = .ok (.iload 7, 2) := by decide +kernel
theorem dX1_lots_46 : decode cX1_lots 46 = .ok (.iload_n 1, 1) := by decide +kernel
theorem dX1_lots_47 : decode cX1_lots 47 = .ok (.if_icmp .ge 101, 3) := by decide +kernel
theorem dX1_lots_50 : decode cX1_lots 50 = .ok (.aload_n 0, 1) := by decide +kernel
theorem dX1_lots_51 : decode cX1_lots 51 = .ok (.getfield 16, 3) := by decide +kernel
theorem dX1_lots_54 : decode cX1_lots 54 = .ok (.aload_n 0, 1) := by decide +kernel
theorem dX1_lots_55 : decode cX1_lots 55 = .ok (.getfield 10, 3) := by decide +kernel
theorem dX1_lots_58 : decode cX1_lots 58 = .ok (.invokevirtual 59, 3) := by decide +kernel
theorem dX1_lots_61 : decode cX1_lots 61 = .ok (.iconst 0, 1) := by decide +kernel
theorem dX1_lots_62 : decode cX1_lots 62 = .ok (.istore 8, 2) := by decide +kernel
theorem dX1_lots_64 : decode cX1_lots 64 = .ok (.iload 8, 2) := by decide +kernel
theorem dX1_lots_66 : decode cX1_lots 66 = .ok (.bipush 8, 2) := by decide +kernel
theorem dX1_lots_68 : decode cX1_lots 68 = .ok (.if_icmp .ge 48, 3) := by decide +kernel
theorem dX1_lots_71 : decode cX1_lots 71 = .ok (.iload 5, 2) := by decide +kernel
theorem dX1_lots_73 : decode cX1_lots 73 = .ok (.ldc 242, 2) := by decide +kernel
theorem dX1_lots_75 : decode cX1_lots 75 = .ok (.imul, 1) := by decide +kernel
theorem dX1_lots_76 : decode cX1_lots 76 = .ok (.ldc 243, 2) := by decide +kernel
theorem dX1_lots_78 : decode cX1_lots 78 = .ok (.iadd, 1) := by decide +kernel
theorem dX1_lots_79 : decode cX1_lots 79 = .ok (.istore 5, 2) := by decide +kernel
theorem dX1_lots_81 : decode cX1_lots 81 = .ok (.aload_n 0, 1) := by decide +kernel
theorem dX1_lots_82 : decode cX1_lots 82 = .ok (.getfield 16, 3) := by decide +kernel
theorem dX1_lots_85 : decode cX1_lots 85 = .ok (.iload 5, 2) := by decide +kernel
theorem dX1_lots_87 : decode cX1_lots 87 = .ok (.ldc 244, 2) := by decide +kernel
theorem dX1_lots_89 : decode cX1_lots 89 = .ok (.iand, 1) := by decide +kernel
theorem dX1_lots_90 : decode cX1_lots 90 = .ok (.sipush 256, 3) := by decide +kernel
theorem dX1_lots_93 : decode cX1_lots 93 = .ok (.idiv, 1) := by decide +kernel
theorem dX1_lots_94 : decode cX1_lots 94 = .ok (.bipush 10, 2) := by decide +kernel
theorem dX1_lots_96 : decode cX1_lots 96 = .ok (.irem, 1) := by decide +kernel
theorem dX1_lots_97 : decode cX1_lots 97 = .ok (.putfield 144, 3) := by decide +kernel
theorem dX1_lots_100 : decode cX1_lots 100 = .ok (.aload_n 0, 1) := by decide +kernel
theorem dX1_lots_101 : decode cX1_lots 101 = .ok (.getfield 16, 3) := by decide +kernel
theorem dX1_lots_104 : decode cX1_lots 104 = .ok (.iconst 1, 1) := by decide +kernel
theorem dX1_lots_105 : decode cX1_lots 105 = .ok (.bipush 31, 2) := by decide +kernel
theorem dX1_lots_107 : decode cX1_lots 107 = .ok (.invokevirtual 150, 3) := by decide +kernel
theorem dX1_lots_110 : decode cX1_lots 110 = .ok (.iinc 8 1, 3) := by decide +kernel
theorem dX1_lots_113 : decode cX1_lots 113 = .ok (.goto (-49), 3) := by decide +kernel
theorem dX1_lots_116 : decode cX1_lots 116 = .ok (.iload 6, 2) := by decide +kernel
theorem dX1_lots_118 : decode cX1_lots 118 = .ok (.iload_n 3, 1) := by decide +kernel
theorem dX1_lots_119 : decode cX1_lots 119 = .ok (.ifCond .ne 13, 3) := by decide +kernel
theorem dX1_lots_122 : decode cX1_lots 122 = .ok (.aload_n 0, 1) := by decide +kernel
theorem dX1_lots_123 : decode cX1_lots 123 = .ok (.getfield 16, 3) := by decide +kernel
theorem dX1_lots_126 : decode cX1_lots 126 = .ok (.invokevirtual 181, 3) := by decide +kernel
theorem dX1_lots_129 : decode cX1_lots 129 = .ok (.goto 10, 3) := by decide +kernel
theorem dX1_lots_132 : decode cX1_lots 132 = .ok (.aload_n 0, 1) := by decide +kernel
theorem dX1_lots_133 : decode cX1_lots 133 = .ok (.getfield 16, 3) := by decide +kernel
theorem dX1_lots_136 : decode cX1_lots 136 = .ok (.invokevirtual 245, 3) := by decide +kernel
theorem dX1_lots_139 : decode cX1_lots 139 = .ok (.iadd, 1) := by decide +kernel
theorem dX1_lots_140 : decode cX1_lots 140 = .ok (.istore 6, 2) := by decide +kernel
theorem dX1_lots_142 : decode cX1_lots 142 = .ok (.iinc 7 1, 3) := by decide +kernel
theorem dX1_lots_145 : decode cX1_lots 145 = .ok (.goto (-101), 3) := by decide +kernel
theorem dX1_lots_148 : decode cX1_lots 148 = .ok (.iload 6, 2) := by decide +kernel
theorem dX1_lots_150 : decode cX1_lots 150 = .ok (.ireturn, 1) := by decide +kernel
theorem dX1_image_0 : decode cX1_image 0 = .ok (.aload_n 0, 1) := by decide +kernel
theorem dX1_image_1 : decode cX1_image 1 = .ok (.getfield 19, 3) := by decide +kernel
theorem dX1_image_4 : decode cX1_image 4 = .ok (.aload_n 0, 1) := by decide +kernel
theorem dX1_image_5 : decode cX1_image 5 = .ok (.getfield 10, 3) := by decide +kernel
theorem dX1_image_8 : decode cX1_image 8 = .ok (.invokevirtual 59, 3) := by decide +kernel
theorem dX1_image_11 : decode cX1_image 11 = .ok (.aload_n 0, 1) := by decide +kernel
theorem dX1_image_12 : decode cX1_image 12 = .ok (.iconst 1, 1) := by decide +kernel
theorem dX1_image_13 : decode cX1_image 13 = .ok (.putfield 22, 3) := by decide +kernel
theorem dX1_image_16 : decode cX1_image 16 = .ok (.aload_n 0, 1) := by decide +kernel
theorem dX1_image_17 : decode cX1_image 17 = .ok (.getfield 10, 3) := by decide +kernel
theorem dX1_image_20 : decode cX1_image 20 = .ok (.getfield 147, 3) := by decide +kernel
theorem dX1_image_23 : decode cX1_image 23 = .ok (.ireturn, 1) := by decide +kernel
theorem dX1_on_0 : decode cX1_on 0 = .ok (.aload_n 0, 1) := by decide +kernel
theorem dX1_on_1 : decode cX1_on 1 = .ok (.getfield 22, 3) := by decide +kernel
theorem dX1_on_4 : decode cX1_on 4 = .ok (.ifCond .ne 10, 3) := by decide +kernel
theorem dX1_on_7 : decode cX1_on 7 = .ok (.aload_n 0, 1) := by decide +kernel
theorem dX1_on_8 : decode cX1_on 8 = .ok (.bipush (-3), 2) := by decide +kernel
theorem dX1_on_10 : decode cX1_on 10 = .ok (.invokevirtual 52, 3) := by decide +kernel
theorem dX1_on_13 : decode cX1_on 13 = .ok (.ireturn, 1) := by decide +kernel
theorem dX1_on_14 : decode cX1_on 14 = .ok (.aload_n 0, 1) := by decide +kernel
theorem dX1_on_15 : decode cX1_on 15 = .ok (.getfield 10, 3) := by decide +kernel
theorem dX1_on_18 : decode cX1_on 18 = .ok (.aload_n 0, 1) := by decide +kernel
theorem dX1_on_19 : decode cX1_on 19 = .ok (.getfield 19, 3) := by decide +kernel
theorem dX1_on_22 : decode cX1_on 22 = .ok (.invokevirtual 59, 3) := by decide +kernel
theorem dX1_on_25 : decode cX1_on 25 = .ok (.aload_n 0, 1) := by decide +kernel
theorem dX1_on_26 : decode cX1_on 26 = .ok (.getfield 10, 3) := by decide +kernel
theorem dX1_on_29 : decode cX1_on 29 = .ok (.getfield 147, 3) := by decide +kernel
theorem dX1_on_32 : decode cX1_on 32 = .ok (.ireturn, 1) := by decide +kernel
theorem dX1_count_0 : decode cX1_count 0 = .ok (.iload_n 1, 1) := by decide +kernel
theorem dX1_count_1 : decode cX1_count 1 = .ok (.tableswitch 105 0 7 #[47, 55, 63, 71, 79, 87, 95, 100], 47) := by decide +kernel
theorem dX1_count_48 : decode cX1_count 48 = .ok (.aload_n 0, 1) := by decide +kernel
theorem dX1_count_49 : decode cX1_count 49 = .ok (.getfield 10, 3) := by decide +kernel
theorem dX1_count_52 : decode cX1_count 52 = .ok (.getfield 129, 3) := by decide +kernel
theorem dX1_count_55 : decode cX1_count 55 = .ok (.ireturn, 1) := by decide +kernel
theorem dX1_count_56 : decode cX1_count 56 = .ok (.aload_n 0, 1) := by decide +kernel
theorem dX1_count_57 : decode cX1_count 57 = .ok (.getfield 10, 3) := by decide +kernel
theorem dX1_count_60 : decode cX1_count 60 = .ok (.getfield 203, 3) := by decide +kernel
theorem dX1_count_63 : decode cX1_count 63 = .ok (.ireturn, 1) := by decide +kernel
theorem dX1_count_64 : decode cX1_count 64 = .ok (.aload_n 0, 1) := by decide +kernel
theorem dX1_count_65 : decode cX1_count 65 = .ok (.getfield 10, 3) := by decide +kernel
theorem dX1_count_68 : decode cX1_count 68 = .ok (.getfield 147, 3) := by decide +kernel
theorem dX1_count_71 : decode cX1_count 71 = .ok (.ireturn, 1) := by decide +kernel
theorem dX1_count_72 : decode cX1_count 72 = .ok (.aload_n 0, 1) := by decide +kernel
theorem dX1_count_73 : decode cX1_count 73 = .ok (.getfield 10, 3) := by decide +kernel
theorem dX1_count_76 : decode cX1_count 76 = .ok (.getfield 122, 3) := by decide +kernel
theorem dX1_count_79 : decode cX1_count 79 = .ok (.ireturn, 1) := by decide +kernel
theorem dX1_count_80 : decode cX1_count 80 = .ok (.aload_n 0, 1) := by decide +kernel
theorem dX1_count_81 : decode cX1_count 81 = .ok (.getfield 10, 3) := by decide +kernel
theorem dX1_count_84 : decode cX1_count 84 = .ok (.getfield 132, 3) := by decide +kernel
theorem dX1_count_87 : decode cX1_count 87 = .ok (.ireturn, 1) := by decide +kernel
theorem dX1_count_88 : decode cX1_count 88 = .ok (.aload_n 0, 1) := by decide +kernel
theorem dX1_count_89 : decode cX1_count 89 = .ok (.getfield 10, 3) := by decide +kernel
theorem dX1_count_92 : decode cX1_count 92 = .ok (.invokevirtual 245, 3) := by decide +kernel
theorem dX1_count_95 : decode cX1_count 95 = .ok (.ireturn, 1) := by decide +kernel
theorem dX1_count_96 : decode cX1_count 96 = .ok (.aload_n 0, 1) := by decide +kernel
theorem dX1_count_97 : decode cX1_count 97 = .ok (.getfield 37, 3) := by decide +kernel
theorem dX1_count_100 : decode cX1_count 100 = .ok (.ireturn, 1) := by decide +kernel
theorem dX1_count_101 : decode cX1_count 101 = .ok (.aload_n 0, 1) := by decide +kernel
theorem dX1_count_102 : decode cX1_count 102 = .ok (.getfield 30, 3) := by decide +kernel
theorem dX1_count_105 : decode cX1_count 105 = .ok (.ireturn, 1) := by decide +kernel
theorem dX1_count_106 : decode cX1_count 106 = .ok (.aload_n 0, 1) := by decide +kernel
theorem dX1_count_107 : decode cX1_count 107 = .ok (.iload_n 1, 1) := by decide +kernel
theorem dX1_count_108 : decode cX1_count 108 = .ok (.bipush 10, 2) := by decide +kernel
theorem dX1_count_110 : decode cX1_count 110 = .ok (.isub, 1) := by decide +kernel
theorem dX1_count_111 : decode cX1_count 111 = .ok (.invokevirtual 248, 3) := by decide +kernel
theorem dX1_count_114 : decode cX1_count 114 = .ok (.ireturn, 1) := by decide +kernel
theorem dX1_refuse_0 : decode cX1_refuse 0 = .ok (.iload_n 1, 1) := by decide +kernel
theorem dX1_refuse_1 : decode cX1_refuse 1 = .ok (.ifCond .ge 20, 3) := by decide +kernel
theorem dX1_refuse_4 : decode cX1_refuse 4 = .ok (.iload_n 1, 1) := by decide +kernel
theorem dX1_refuse_5 : decode cX1_refuse 5 = .ok (.bipush (-6), 2) := by decide +kernel
theorem dX1_refuse_7 : decode cX1_refuse 7 = .ok (.if_icmp .lt 14, 3) := by decide +kernel
theorem dX1_refuse_10 : decode cX1_refuse 10 = .ok (.aload_n 0, 1) := by decide +kernel
theorem dX1_refuse_11 : decode cX1_refuse 11 = .ok (.getfield 40, 3) := by decide +kernel
theorem dX1_refuse_14 : decode cX1_refuse 14 = .ok (.iload_n 1, 1) := by decide +kernel
theorem dX1_refuse_15 : decode cX1_refuse 15 = .ok (.ineg, 1) := by decide +kernel
theorem dX1_refuse_16 : decode cX1_refuse 16 = .ok (.dup2, 1) := by decide +kernel
theorem dX1_refuse_17 : decode cX1_refuse 17 = .ok (.iaload, 1) := by decide +kernel
theorem dX1_refuse_18 : decode cX1_refuse 18 = .ok (.iconst 1, 1) := by decide +kernel
theorem dX1_refuse_19 : decode cX1_refuse 19 = .ok (.iadd, 1) := by decide +kernel
theorem dX1_refuse_20 : decode cX1_refuse 20 = .ok (.iastore, 1) := by decide +kernel
theorem dX1_refuse_21 : decode cX1_refuse 21 = .ok (.iload_n 1, 1) := by decide +kernel
theorem dX1_refuse_22 : decode cX1_refuse 22 = .ok (.ireturn, 1) := by decide +kernel
theorem dX1_refuseLong_0 : decode cX1_refuseLong 0 = .ok (.ldc2_w 251, 3) := by decide +kernel
theorem dX1_refuseLong_3 : decode cX1_refuseLong 3 = .ok (.aload_n 0, 1) := by decide +kernel
theorem dX1_refuseLong_4 : decode cX1_refuseLong 4 = .ok (.iload_n 1, 1) := by decide +kernel
theorem dX1_refuseLong_5 : decode cX1_refuseLong 5 = .ok (.invokevirtual 52, 3) := by decide +kernel
theorem dX1_refuseLong_8 : decode cX1_refuseLong 8 = .ok (.i2l, 1) := by decide +kernel
theorem dX1_refuseLong_9 : decode cX1_refuseLong 9 = .ok (.lsub, 1) := by decide +kernel
theorem dX1_refuseLong_10 : decode cX1_refuseLong 10 = .ok (.lreturn, 1) := by decide +kernel
theorem dX1_refusalsOf_0 : decode cX1_refusalsOf 0 = .ok (.iload_n 1, 1) := by decide +kernel
theorem dX1_refusalsOf_1 : decode cX1_refusalsOf 1 = .ok (.iconst 1, 1) := by decide +kernel
theorem dX1_refusalsOf_2 : decode cX1_refusalsOf 2 = .ok (.if_icmp .lt 18, 3) := by decide +kernel
theorem dX1_refusalsOf_5 : decode cX1_refusalsOf 5 = .ok (.iload_n 1, 1) := by decide +kernel
theorem dX1_refusalsOf_6 : decode cX1_refusalsOf 6 = .ok (.bipush 6, 2) := by decide +kernel
theorem dX1_refusalsOf_8 : decode cX1_refusalsOf 8 = .ok (.if_icmp .gt 12, 3) := by decide +kernel
theorem dX1_refusalsOf_11 : decode cX1_refusalsOf 11 = .ok (.aload_n 0, 1) := by decide +kernel
theorem dX1_refusalsOf_12 : decode cX1_refusalsOf 12 = .ok (.getfield 40, 3) := by decide +kernel
theorem dX1_refusalsOf_15 : decode cX1_refusalsOf 15 = .ok (.iload_n 1, 1) := by decide +kernel
theorem dX1_refusalsOf_16 : decode cX1_refusalsOf 16 = .ok (.iaload, 1) := by decide +kernel
theorem dX1_refusalsOf_17 : decode cX1_refusalsOf 17 = .ok (.goto 5, 3) := by decide +kernel
theorem dX1_refusalsOf_20 : decode cX1_refusalsOf 20 = .ok (.bipush (-9), 2) := by decide +kernel
theorem dX1_refusalsOf_22 : decode cX1_refusalsOf 22 = .ok (.ireturn, 1) := by decide +kernel
theorem dX1_outside_0 : decode cX1_outside 0 = .ok (.iload_n 0, 1) := by decide +kernel
theorem dX1_outside_1 : decode cX1_outside 1 = .ok (.iload_n 1, 1) := by decide +kernel
theorem dX1_outside_2 : decode cX1_outside 2 = .ok (.if_icmp .ge 6, 3) := by decide +kernel
theorem dX1_outside_5 : decode cX1_outside 5 = .ok (.bipush (-4), 2) := by decide +kernel
theorem dX1_outside_7 : decode cX1_outside 7 = .ok (.ireturn, 1) := by decide +kernel
theorem dX1_outside_8 : decode cX1_outside 8 = .ok (.iload_n 0, 1) := by decide +kernel
theorem dX1_outside_9 : decode cX1_outside 9 = .ok (.iload_n 2, 1) := by decide +kernel
theorem dX1_outside_10 : decode cX1_outside 10 = .ok (.if_icmp .le 8, 3) := by decide +kernel
theorem dX1_outside_13 : decode cX1_outside 13 = .ok (.bipush (-6), 2) := by decide +kernel
theorem dX1_outside_15 : decode cX1_outside 15 = .ok (.goto 4, 3) := by decide +kernel
theorem dX1_outside_18 : decode cX1_outside 18 = .ok (.iconst 0, 1) := by decide +kernel
theorem dX1_outside_19 : decode cX1_outside 19 = .ok (.ireturn, 1) := by decide +kernel
theorem dX1_isOneOfTwo_0 : decode cX1_isOneOfTwo 0 = .ok (.iload_n 0, 1) := by decide +kernel
theorem dX1_isOneOfTwo_1 : decode cX1_isOneOfTwo 1 = .ok (.ifCond .eq 8, 3) := by decide +kernel
theorem dX1_isOneOfTwo_4 : decode cX1_isOneOfTwo 4 = .ok (.iload_n 0, 1) := by decide +kernel
theorem dX1_isOneOfTwo_5 : decode cX1_isOneOfTwo 5 = .ok (.iconst 1, 1) := by decide +kernel
theorem dX1_isOneOfTwo_6 : decode cX1_isOneOfTwo 6 = .ok (.if_icmp .ne 7, 3) := by decide +kernel
theorem dX1_isOneOfTwo_9 : decode cX1_isOneOfTwo 9 = .ok (.iconst 1, 1) := by decide +kernel
theorem dX1_isOneOfTwo_10 : decode cX1_isOneOfTwo 10 = .ok (.goto 4, 3) := by decide +kernel
theorem dX1_isOneOfTwo_13 : decode cX1_isOneOfTwo 13 = .ok (.iconst 0, 1) := by decide +kernel
theorem dX1_isOneOfTwo_14 : decode cX1_isOneOfTwo 14 = .ok (.ireturn, 1) := by decide +kernel
theorem dX1_lettersBehind_0 : decode cX1_lettersBehind 0 = .ok (.iload_n 0, 1) := by decide +kernel
theorem dX1_lettersBehind_1 : decode cX1_lettersBehind 1 = .ok (.tableswitch 117 98 119 #[115, 117, 117, 117, 117, 107, 117, 117, 117, 117, 117, 117, 109, 117, 105, 117, 103, 111, 117, 117, 117, 113], 103) := by decide +kernel
theorem dX1_lettersBehind_104 : decode cX1_lettersBehind 104 = .ok (.iconst 4, 1) := by decide +kernel
theorem dX1_lettersBehind_105 : decode cX1_lettersBehind 105 = .ok (.ireturn, 1) := by decide +kernel
theorem dX1_lettersBehind_106 : decode cX1_lettersBehind 106 = .ok (.iconst 4, 1) := by decide +kernel
theorem dX1_lettersBehind_107 : decode cX1_lettersBehind 107 = .ok (.ireturn, 1) := by decide +kernel
theorem dX1_lettersBehind_108 : decode cX1_lettersBehind 108 = .ok (.iconst 4, 1) := by decide +kernel
theorem dX1_lettersBehind_109 : decode cX1_lettersBehind 109 = .ok (.ireturn, 1) := by decide +kernel
theorem dX1_lettersBehind_110 : decode cX1_lettersBehind 110 = .ok (.iconst 3, 1) := by decide +kernel
theorem dX1_lettersBehind_111 : decode cX1_lettersBehind 111 = .ok (.ireturn, 1) := by decide +kernel
theorem dX1_lettersBehind_112 : decode cX1_lettersBehind 112 = .ok (.iconst 2, 1) := by decide +kernel
theorem dX1_lettersBehind_113 : decode cX1_lettersBehind 113 = .ok (.ireturn, 1) := by decide +kernel
theorem dX1_lettersBehind_114 : decode cX1_lettersBehind 114 = .ok (.iconst 2, 1) := by decide +kernel
theorem dX1_lettersBehind_115 : decode cX1_lettersBehind 115 = .ok (.ireturn, 1) := by decide +kernel
theorem dX1_lettersBehind_116 : decode cX1_lettersBehind 116 = .ok (.iconst 2, 1) := by decide +kernel
theorem dX1_lettersBehind_117 : decode cX1_lettersBehind 117 = .ok (.ireturn, 1) := by decide +kernel
theorem dX1_lettersBehind_118 : decode cX1_lettersBehind 118 = .ok (.iconst 0, 1) := by decide +kernel
theorem dX1_lettersBehind_119 : decode cX1_lettersBehind 119 = .ok (.ireturn, 1) := by decide +kernel
theorem dX1_wrongLetter_0 : decode cX1_wrongLetter 0 = .ok (.bipush 59, 2) := by decide +kernel
theorem dX1_wrongLetter_2 : decode cX1_wrongLetter 2 = .ok (.istore_n 2, 1) := by decide +kernel
theorem dX1_wrongLetter_3 : decode cX1_wrongLetter 3 = .ok (.iconst 0, 1) := by decide +kernel
theorem dX1_wrongLetter_4 : decode cX1_wrongLetter 4 = .ok (.istore_n 3, 1) := by decide +kernel
theorem dX1_wrongLetter_5 : decode cX1_wrongLetter 5 = .ok (.iconst 0, 1) := by decide +kernel
theorem dX1_wrongLetter_6 : decode cX1_wrongLetter 6 = .ok (.istore 4, 2) := by decide +kernel
theorem dX1_wrongLetter_8 : decode cX1_wrongLetter 8 = .ok (.iload 4, 2) := by decide +kernel
theorem dX1_wrongLetter_10 : decode cX1_wrongLetter 10 = .ok (.iload_n 1, 1) := by decide +kernel
theorem dX1_wrongLetter_11 : decode cX1_wrongLetter 11 = .ok (.if_icmp .ge 54, 3) := by decide +kernel
theorem dX1_wrongLetter_14 : decode cX1_wrongLetter 14 = .ok (.aload_n 0, 1) := by decide +kernel
theorem dX1_wrongLetter_15 : decode cX1_wrongLetter 15 = .ok (.getfield 26, 3) := by decide +kernel
theorem dX1_wrongLetter_18 : decode cX1_wrongLetter 18 = .ok (.iload 4, 2) := by decide +kernel
theorem dX1_wrongLetter_20 : decode cX1_wrongLetter 20 = .ok (.iaload, 1) := by decide +kernel
theorem dX1_wrongLetter_21 : decode cX1_wrongLetter 21 = .ok (.istore 5, 2) := by decide +kernel
theorem dX1_wrongLetter_23 : decode cX1_wrongLetter 23 = .ok (.iload_n 3, 1) := by decide +kernel
theorem dX1_wrongLetter_24 : decode cX1_wrongLetter 24 = .ok (.ifCond .ne 19, 3) := by decide +kernel
theorem dX1_wrongLetter_27 : decode cX1_wrongLetter 27 = .ok (.iload 5, 2) := by decide +kernel
theorem dX1_wrongLetter_29 : decode cX1_wrongLetter 29 = .ok (.istore_n 2, 1) := by decide +kernel
theorem dX1_wrongLetter_30 : decode cX1_wrongLetter 30 = .ok (.iload 5, 2) := by decide +kernel
theorem dX1_wrongLetter_32 : decode cX1_wrongLetter 32 = .ok (.invokestatic 67, 3) := by decide +kernel
theorem dX1_wrongLetter_35 : decode cX1_wrongLetter 35 = .ok (.istore_n 3, 1) := by decide +kernel
theorem dX1_wrongLetter_36 : decode cX1_wrongLetter 36 = .ok (.iload_n 3, 1) := by decide +kernel
theorem dX1_wrongLetter_37 : decode cX1_wrongLetter 37 = .ok (.ifCond .ne 22, 3) := by decide +kernel
theorem dX1_wrongLetter_40 : decode cX1_wrongLetter 40 = .ok (.iload 4, 2) := by decide +kernel
theorem dX1_wrongLetter_42 : decode cX1_wrongLetter 42 = .ok (.ireturn, 1) := by decide +kernel
theorem dX1_wrongLetter_43 : decode cX1_wrongLetter 43 = .ok (.iload 5, 2) := by decide +kernel
theorem dX1_wrongLetter_45 : decode cX1_wrongLetter 45 = .ok (.iload_n 2, 1) := by decide +kernel
theorem dX1_wrongLetter_46 : decode cX1_wrongLetter 46 = .ok (.iload_n 3, 1) := by decide +kernel
theorem dX1_wrongLetter_47 : decode cX1_wrongLetter 47 = .ok (.invokestatic 253, 3) := by decide +kernel
theorem dX1_wrongLetter_50 : decode cX1_wrongLetter 50 = .ok (.ifCond .ne 6, 3) := by decide +kernel
theorem dX1_wrongLetter_53 : decode cX1_wrongLetter 53 = .ok (.iload 4, 2) := by decide +kernel
theorem dX1_wrongLetter_55 : decode cX1_wrongLetter 55 = .ok (.ireturn, 1) := by decide +kernel
theorem dX1_wrongLetter_56 : decode cX1_wrongLetter 56 = .ok (.iinc 3 (-1), 3) := by decide +kernel
theorem dX1_wrongLetter_59 : decode cX1_wrongLetter 59 = .ok (.iinc 4 1, 3) := by decide +kernel
theorem dX1_wrongLetter_62 : decode cX1_wrongLetter 62 = .ok (.goto (-54), 3) := by decide +kernel
theorem dX1_wrongLetter_65 : decode cX1_wrongLetter 65 = .ok (.iload_n 3, 1) := by decide +kernel
theorem dX1_wrongLetter_66 : decode cX1_wrongLetter 66 = .ok (.ifCond .gt 7, 3) := by decide +kernel
theorem dX1_wrongLetter_69 : decode cX1_wrongLetter 69 = .ok (.iload_n 1, 1) := by decide +kernel
theorem dX1_wrongLetter_70 : decode cX1_wrongLetter 70 = .ok (.ifCond .ne 7, 3) := by decide +kernel
theorem dX1_wrongLetter_73 : decode cX1_wrongLetter 73 = .ok (.iload_n 1, 1) := by decide +kernel
theorem dX1_wrongLetter_74 : decode cX1_wrongLetter 74 = .ok (.goto 4, 3) := by decide +kernel
theorem dX1_wrongLetter_77 : decode cX1_wrongLetter 77 = .ok (.iconst (-1), 1) := by decide +kernel
theorem dX1_wrongLetter_78 : decode cX1_wrongLetter 78 = .ok (.ireturn, 1) := by decide +kernel
theorem dX1_canStand_0 : decode cX1_canStand 0 = .ok (.iload_n 2, 1) := by decide +kernel
theorem dX1_canStand_1 : decode cX1_canStand 1 = .ok (.iconst 1, 1) := by decide +kernel
theorem dX1_canStand_2 : decode cX1_canStand 2 = .ok (.if_icmp .ne 15, 3) := by decide +kernel
theorem dX1_canStand_5 : decode cX1_canStand 5 = .ok (.iload_n 0, 1) := by decide +kernel
theorem dX1_canStand_6 : decode cX1_canStand 6 = .ok (.bipush 59, 2) := by decide +kernel
theorem dX1_canStand_8 : decode cX1_canStand 8 = .ok (.if_icmp .ne 7, 3) := by decide +kernel
theorem dX1_canStand_11 : decode cX1_canStand 11 = .ok (.iconst 1, 1) := by decide +kernel
theorem dX1_canStand_12 : decode cX1_canStand 12 = .ok (.goto 4, 3) := by decide +kernel
theorem dX1_canStand_15 : decode cX1_canStand 15 = .ok (.iconst 0, 1) := by decide +kernel
theorem dX1_canStand_16 : decode cX1_canStand 16 = .ok (.ireturn, 1) := by decide +kernel
theorem dX1_canStand_17 : decode cX1_canStand 17 = .ok (.iload_n 1, 1) := by decide +kernel
theorem dX1_canStand_18 : decode cX1_canStand 18 = .ok (.bipush 114, 2) := by decide +kernel
theorem dX1_canStand_20 : decode cX1_canStand 20 = .ok (.if_icmp .ne 21, 3) := by decide +kernel
theorem dX1_canStand_23 : decode cX1_canStand 23 = .ok (.iload_n 2, 1) := by decide +kernel
theorem dX1_canStand_24 : decode cX1_canStand 24 = .ok (.iconst 4, 1) := by decide +kernel
theorem dX1_canStand_25 : decode cX1_canStand 25 = .ok (.if_icmp .ne 16, 3) := by decide +kernel
theorem dX1_canStand_28 : decode cX1_canStand 28 = .ok (.iload_n 0, 1) := by decide +kernel
theorem dX1_canStand_29 : decode cX1_canStand 29 = .ok (.invokestatic 256, 3) := by decide +kernel
theorem dX1_canStand_32 : decode cX1_canStand 32 = .ok (.ifCond .lt 7, 3) := by decide +kernel
theorem dX1_canStand_35 : decode cX1_canStand 35 = .ok (.iconst 1, 1) := by decide +kernel
theorem dX1_canStand_36 : decode cX1_canStand 36 = .ok (.goto 4, 3) := by decide +kernel
theorem dX1_canStand_39 : decode cX1_canStand 39 = .ok (.iconst 0, 1) := by decide +kernel
theorem dX1_canStand_40 : decode cX1_canStand 40 = .ok (.ireturn, 1) := by decide +kernel
theorem dX1_canStand_41 : decode cX1_canStand 41 = .ok (.iload_n 0, 1) := by decide +kernel
theorem dX1_canStand_42 : decode cX1_canStand 42 = .ok (.bipush 48, 2) := by decide +kernel
theorem dX1_canStand_44 : decode cX1_canStand 44 = .ok (.if_icmp .lt 13, 3) := by decide +kernel
theorem dX1_canStand_47 : decode cX1_canStand 47 = .ok (.iload_n 0, 1) := by decide +kernel
theorem dX1_canStand_48 : decode cX1_canStand 48 = .ok (.bipush 57, 2) := by decide +kernel
theorem dX1_canStand_50 : decode cX1_canStand 50 = .ok (.if_icmp .gt 7, 3) := by decide +kernel
theorem dX1_canStand_53 : decode cX1_canStand 53 = .ok (.iconst 1, 1) := by decide +kernel
theorem dX1_canStand_54 : decode cX1_canStand 54 = .ok (.goto 4, 3) := by decide +kernel
theorem dX1_canStand_57 : decode cX1_canStand 57 = .ok (.iconst 0, 1) := by decide +kernel
theorem dX1_canStand_58 : decode cX1_canStand 58 = .ok (.ireturn, 1) := by decide +kernel
theorem dX1_kindOf_0 : decode cX1_kindOf 0 = .ok (.ldc_w 259, 3) := by decide +kernel
theorem dX1_kindOf_3 : decode cX1_kindOf 3 = .ok (.iload_n 0, 1) := by decide +kernel
theorem dX1_kindOf_4 : decode cX1_kindOf 4 = .ok (.i2c, 1) := by decide +kernel
theorem dX1_kindOf_5 : decode cX1_kindOf 5 = .ok (.invokevirtual 261, 3) := by decide +kernel
theorem dX1_kindOf_8 : decode cX1_kindOf 8 = .ok (.ireturn, 1) := by decide +kernel
theorem dX1_numberAt_0 : decode cX1_numberAt 0 = .ok (.iconst 0, 1) := by decide +kernel
theorem dX1_numberAt_1 : decode cX1_numberAt 1 = .ok (.istore_n 3, 1) := by decide +kernel
theorem dX1_numberAt_2 : decode cX1_numberAt 2 = .ok (.iload_n 1, 1) := by decide +kernel
theorem dX1_numberAt_3 : decode cX1_numberAt 3 = .ok (.istore 4, 2) := by decide +kernel
theorem dX1_numberAt_5 : decode cX1_numberAt 5 = .ok (.iload 4, 2) := by decide +kernel
theorem dX1_numberAt_7 : decode cX1_numberAt 7 = .ok (.iload_n 1, 1) := by decide +kernel
theorem dX1_numberAt_8 : decode cX1_numberAt 8 = .ok (.iload_n 2, 1) := by decide +kernel
theorem dX1_numberAt_9 : decode cX1_numberAt 9 = .ok (.iadd, 1) := by decide +kernel
theorem dX1_numberAt_10 : decode cX1_numberAt 10 = .ok (.if_icmp .ge 32, 3) := by decide +kernel
theorem dX1_numberAt_13 : decode cX1_numberAt 13 = .ok (.iload 4, 2) := by decide +kernel
theorem dX1_numberAt_15 : decode cX1_numberAt 15 = .ok (.bipush 96, 2) := by decide +kernel
theorem dX1_numberAt_17 : decode cX1_numberAt 17 = .ok (.if_icmp .ge 25, 3) := by decide +kernel
theorem dX1_numberAt_20 : decode cX1_numberAt 20 = .ok (.bipush 10, 2) := by decide +kernel
theorem dX1_numberAt_22 : decode cX1_numberAt 22 = .ok (.iload_n 3, 1) := by decide +kernel
theorem dX1_numberAt_23 : decode cX1_numberAt 23 = .ok (.imul, 1) := by decide +kernel
theorem dX1_numberAt_24 : decode cX1_numberAt 24 = .ok (.aload_n 0, 1) := by decide +kernel
theorem dX1_numberAt_25 : decode cX1_numberAt 25 = .ok (.getfield 26, 3) := by decide +kernel
theorem dX1_numberAt_28 : decode cX1_numberAt 28 = .ok (.iload 4, 2) := by decide +kernel
theorem dX1_numberAt_30 : decode cX1_numberAt 30 = .ok (.iaload, 1) := by decide +kernel
theorem dX1_numberAt_31 : decode cX1_numberAt 31 = .ok (.bipush 48, 2) := by decide +kernel
theorem dX1_numberAt_33 : decode cX1_numberAt 33 = .ok (.isub, 1) := by decide +kernel
theorem dX1_numberAt_34 : decode cX1_numberAt 34 = .ok (.iadd, 1) := by decide +kernel
theorem dX1_numberAt_35 : decode cX1_numberAt 35 = .ok (.istore_n 3, 1) := by decide +kernel
theorem dX1_numberAt_36 : decode cX1_numberAt 36 = .ok (.iinc 4 1, 3) := by decide +kernel
theorem dX1_numberAt_39 : decode cX1_numberAt 39 = .ok (.goto (-34), 3) := by decide +kernel
theorem dX1_numberAt_42 : decode cX1_numberAt 42 = .ok (.iload_n 3, 1) := by decide +kernel
theorem dX1_numberAt_43 : decode cX1_numberAt 43 = .ok (.ireturn, 1) := by decide +kernel
theorem dX1_comesToMind_0 : decode cX1_comesToMind 0 = .ok (.aload_n 0, 1) := by decide +kernel
theorem dX1_comesToMind_1 : decode cX1_comesToMind 1 = .ok (.getfield 26, 3) := by decide +kernel
theorem dX1_comesToMind_4 : decode cX1_comesToMind 4 = .ok (.iload_n 1, 1) := by decide +kernel
theorem dX1_comesToMind_5 : decode cX1_comesToMind 5 = .ok (.iaload, 1) := by decide +kernel
theorem dX1_comesToMind_6 : decode cX1_comesToMind 6 = .ok (.tableswitch 205 98 119 #[145, 205, 205, 205, 205, 188, 205, 205, 205, 205, 205, 205, 158, 205, 108, 205, 102, 132, 205, 205, 205, 171], 102) := by decide +kernel
theorem dX1_comesToMind_108 : decode cX1_comesToMind 108 = .ok (.aload_n 0, 1) := by decide +kernel
theorem dX1_comesToMind_109 : decode cX1_comesToMind 109 = .ok (.iload_n 1, 1) := by decide +kernel
theorem dX1_comesToMind_110 : decode cX1_comesToMind 110 = .ok (.invokevirtual 266, 3) := by decide +kernel
theorem dX1_comesToMind_113 : decode cX1_comesToMind 113 = .ok (.ireturn, 1) := by decide +kernel
theorem dX1_comesToMind_114 : decode cX1_comesToMind 114 = .ok (.aload_n 0, 1) := by decide +kernel
theorem dX1_comesToMind_115 : decode cX1_comesToMind 115 = .ok (.getfield 16, 3) := by decide +kernel
theorem dX1_comesToMind_118 : decode cX1_comesToMind 118 = .ok (.aload_n 0, 1) := by decide +kernel
theorem dX1_comesToMind_119 : decode cX1_comesToMind 119 = .ok (.iload_n 1, 1) := by decide +kernel
theorem dX1_comesToMind_120 : decode cX1_comesToMind 120 = .ok (.iconst 1, 1) := by decide +kernel
theorem dX1_comesToMind_121 : decode cX1_comesToMind 121 = .ok (.iadd, 1) := by decide +kernel
theorem dX1_comesToMind_122 : decode cX1_comesToMind 122 = .ok (.iconst 2, 1) := by decide +kernel
theorem dX1_comesToMind_123 : decode cX1_comesToMind 123 = .ok (.invokevirtual 269, 3) := by decide +kernel
theorem dX1_comesToMind_126 : decode cX1_comesToMind 126 = .ok (.aload_n 0, 1) := by decide +kernel
theorem dX1_comesToMind_127 : decode cX1_comesToMind 127 = .ok (.iload_n 1, 1) := by decide +kernel
theorem dX1_comesToMind_128 : decode cX1_comesToMind 128 = .ok (.iconst 3, 1) := by decide +kernel
theorem dX1_comesToMind_129 : decode cX1_comesToMind 129 = .ok (.iadd, 1) := by decide +kernel
theorem dX1_comesToMind_130 : decode cX1_comesToMind 130 = .ok (.iconst 1, 1) := by decide +kernel
theorem dX1_comesToMind_131 : decode cX1_comesToMind 131 = .ok (.invokevirtual 269, 3) := by decide +kernel
theorem dX1_comesToMind_134 : decode cX1_comesToMind 134 = .ok (.invokevirtual 272, 3) := by decide +kernel
theorem dX1_comesToMind_137 : decode cX1_comesToMind 137 = .ok (.ireturn, 1) := by decide +kernel
theorem dX1_comesToMind_138 : decode cX1_comesToMind 138 = .ok (.aload_n 0, 1) := by decide +kernel
theorem dX1_comesToMind_139 : decode cX1_comesToMind 139 = .ok (.aload_n 0, 1) := by decide +kernel
theorem dX1_comesToMind_140 : decode cX1_comesToMind 140 = .ok (.iload_n 1, 1) := by decide +kernel
theorem dX1_comesToMind_141 : decode cX1_comesToMind 141 = .ok (.iconst 1, 1) := by decide +kernel
theorem dX1_comesToMind_142 : decode cX1_comesToMind 142 = .ok (.iadd, 1) := by decide +kernel
theorem dX1_comesToMind_143 : decode cX1_comesToMind 143 = .ok (.iconst 1, 1) := by decide +kernel
theorem dX1_comesToMind_144 : decode cX1_comesToMind 144 = .ok (.invokevirtual 269, 3) := by decide +kernel
theorem dX1_comesToMind_147 : decode cX1_comesToMind 147 = .ok (.invokevirtual 276, 3) := by decide +kernel
theorem dX1_comesToMind_150 : decode cX1_comesToMind 150 = .ok (.ireturn, 1) := by decide +kernel
theorem dX1_comesToMind_151 : decode cX1_comesToMind 151 = .ok (.aload_n 0, 1) := by decide +kernel
theorem dX1_comesToMind_152 : decode cX1_comesToMind 152 = .ok (.aload_n 0, 1) := by decide +kernel
theorem dX1_comesToMind_153 : decode cX1_comesToMind 153 = .ok (.iload_n 1, 1) := by decide +kernel
theorem dX1_comesToMind_154 : decode cX1_comesToMind 154 = .ok (.iconst 1, 1) := by decide +kernel
theorem dX1_comesToMind_155 : decode cX1_comesToMind 155 = .ok (.iadd, 1) := by decide +kernel
theorem dX1_comesToMind_156 : decode cX1_comesToMind 156 = .ok (.iconst 1, 1) := by decide +kernel
theorem dX1_comesToMind_157 : decode cX1_comesToMind 157 = .ok (.invokevirtual 269, 3) := by decide +kernel
theorem dX1_comesToMind_160 : decode cX1_comesToMind 160 = .ok (.invokevirtual 279, 3) := by decide +kernel
theorem dX1_comesToMind_163 : decode cX1_comesToMind 163 = .ok (.ireturn, 1) := by decide +kernel
theorem dX1_comesToMind_164 : decode cX1_comesToMind 164 = .ok (.aload_n 0, 1) := by decide +kernel
theorem dX1_comesToMind_165 : decode cX1_comesToMind 165 = .ok (.aload_n 0, 1) := by decide +kernel
theorem dX1_comesToMind_166 : decode cX1_comesToMind 166 = .ok (.iload_n 1, 1) := by decide +kernel
theorem dX1_comesToMind_167 : decode cX1_comesToMind 167 = .ok (.iconst 1, 1) := by decide +kernel
theorem dX1_comesToMind_168 : decode cX1_comesToMind 168 = .ok (.iadd, 1) := by decide +kernel
theorem dX1_comesToMind_169 : decode cX1_comesToMind 169 = .ok (.iconst 2, 1) := by decide +kernel
theorem dX1_comesToMind_170 : decode cX1_comesToMind 170 = .ok (.invokevirtual 269, 3) := by decide +kernel
theorem dX1_comesToMind_173 : decode cX1_comesToMind 173 = .ok (.invokevirtual 282, 3) := by decide +kernel
theorem dX1_comesToMind_176 : decode cX1_comesToMind 176 = .ok (.ireturn, 1) := by decide +kernel
theorem dX1_comesToMind_177 : decode cX1_comesToMind 177 = .ok (.aload_n 0, 1) := by decide +kernel
theorem dX1_comesToMind_178 : decode cX1_comesToMind 178 = .ok (.getfield 16, 3) := by decide +kernel
theorem dX1_comesToMind_181 : decode cX1_comesToMind 181 = .ok (.aload_n 0, 1) := by decide +kernel
theorem dX1_comesToMind_182 : decode cX1_comesToMind 182 = .ok (.iload_n 1, 1) := by decide +kernel
theorem dX1_comesToMind_183 : decode cX1_comesToMind 183 = .ok (.iconst 1, 1) := by decide +kernel
theorem dX1_comesToMind_184 : decode cX1_comesToMind 184 = .ok (.iadd, 1) := by decide +kernel
theorem dX1_comesToMind_185 : decode cX1_comesToMind 185 = .ok (.iconst 1, 1) := by decide +kernel
theorem dX1_comesToMind_186 : decode cX1_comesToMind 186 = .ok (.invokevirtual 269, 3) := by decide +kernel
theorem dX1_comesToMind_189 : decode cX1_comesToMind 189 = .ok (.putfield 144, 3) := by decide +kernel
theorem dX1_comesToMind_192 : decode cX1_comesToMind 192 = .ok (.iconst 1, 1) := by decide +kernel
theorem dX1_comesToMind_193 : decode cX1_comesToMind 193 = .ok (.ireturn, 1) := by decide +kernel
theorem dX1_comesToMind_194 : decode cX1_comesToMind 194 = .ok (.aload_n 0, 1) := by decide +kernel
theorem dX1_comesToMind_195 : decode cX1_comesToMind 195 = .ok (.getfield 16, 3) := by decide +kernel
theorem dX1_comesToMind_198 : decode cX1_comesToMind 198 = .ok (.aload_n 0, 1) := by decide +kernel
theorem dX1_comesToMind_199 : decode cX1_comesToMind 199 = .ok (.iload_n 1, 1) := by decide +kernel
theorem dX1_comesToMind_200 : decode cX1_comesToMind 200 = .ok (.iconst 1, 1) := by decide +kernel
theorem dX1_comesToMind_201 : decode cX1_comesToMind 201 = .ok (.iadd, 1) := by decide +kernel
theorem dX1_comesToMind_202 : decode cX1_comesToMind 202 = .ok (.iconst 3, 1) := by decide +kernel
theorem dX1_comesToMind_203 : decode cX1_comesToMind 203 = .ok (.invokevirtual 269, 3) := by decide +kernel
theorem dX1_comesToMind_206 : decode cX1_comesToMind 206 = .ok (.putfield 122, 3) := by decide +kernel
theorem dX1_comesToMind_209 : decode cX1_comesToMind 209 = .ok (.iconst 1, 1) := by decide +kernel
theorem dX1_comesToMind_210 : decode cX1_comesToMind 210 = .ok (.ireturn, 1) := by decide +kernel
theorem dX1_comesToMind_211 : decode cX1_comesToMind 211 = .ok (.iconst 0, 1) := by decide +kernel
theorem dX1_comesToMind_212 : decode cX1_comesToMind 212 = .ok (.ireturn, 1) := by decide +kernel
theorem dX1_rocketComes_0 : decode cX1_rocketComes 0 = .ok (.iload_n 1, 1) := by decide +kernel
theorem dX1_rocketComes_1 : decode cX1_rocketComes 1 = .ok (.iconst 1, 1) := by decide +kernel
theorem dX1_rocketComes_2 : decode cX1_rocketComes 2 = .ok (.iadd, 1) := by decide +kernel
theorem dX1_rocketComes_3 : decode cX1_rocketComes 3 = .ok (.bipush 96, 2) := by decide +kernel
theorem dX1_rocketComes_5 : decode cX1_rocketComes 5 = .ok (.if_icmp .lt 5, 3) := by decide +kernel
theorem dX1_rocketComes_8 : decode cX1_rocketComes 8 = .ok (.iconst 0, 1) := by decide +kernel
theorem dX1_rocketComes_9 : decode cX1_rocketComes 9 = .ok (.ireturn, 1) := by decide +kernel
theorem dX1_rocketComes_10 : decode cX1_rocketComes 10 = .ok (.aload_n 0, 1) := by decide +kernel
theorem dX1_rocketComes_11 : decode cX1_rocketComes 11 = .ok (.getfield 16, 3) := by decide +kernel
theorem dX1_rocketComes_14 : decode cX1_rocketComes 14 = .ok (.aload_n 0, 1) := by decide +kernel
theorem dX1_rocketComes_15 : decode cX1_rocketComes 15 = .ok (.getfield 26, 3) := by decide +kernel
theorem dX1_rocketComes_18 : decode cX1_rocketComes 18 = .ok (.iload_n 1, 1) := by decide +kernel
theorem dX1_rocketComes_19 : decode cX1_rocketComes 19 = .ok (.iconst 1, 1) := by decide +kernel
theorem dX1_rocketComes_20 : decode cX1_rocketComes 20 = .ok (.iadd, 1) := by decide +kernel
theorem dX1_rocketComes_21 : decode cX1_rocketComes 21 = .ok (.iaload, 1) := by decide +kernel
theorem dX1_rocketComes_22 : decode cX1_rocketComes 22 = .ok (.invokestatic 256, 3) := by decide +kernel
theorem dX1_rocketComes_25 : decode cX1_rocketComes 25 = .ok (.aload_n 0, 1) := by decide +kernel
theorem dX1_rocketComes_26 : decode cX1_rocketComes 26 = .ok (.iload_n 1, 1) := by decide +kernel
theorem dX1_rocketComes_27 : decode cX1_rocketComes 27 = .ok (.iconst 2, 1) := by decide +kernel
theorem dX1_rocketComes_28 : decode cX1_rocketComes 28 = .ok (.iadd, 1) := by decide +kernel
theorem dX1_rocketComes_29 : decode cX1_rocketComes 29 = .ok (.iconst 1, 1) := by decide +kernel
theorem dX1_rocketComes_30 : decode cX1_rocketComes 30 = .ok (.invokevirtual 269, 3) := by decide +kernel
theorem dX1_rocketComes_33 : decode cX1_rocketComes 33 = .ok (.aload_n 0, 1) := by decide +kernel
theorem dX1_rocketComes_34 : decode cX1_rocketComes 34 = .ok (.iload_n 1, 1) := by decide +kernel
theorem dX1_rocketComes_35 : decode cX1_rocketComes 35 = .ok (.iconst 3, 1) := by decide +kernel
theorem dX1_rocketComes_36 : decode cX1_rocketComes 36 = .ok (.iadd, 1) := by decide +kernel
theorem dX1_rocketComes_37 : decode cX1_rocketComes 37 = .ok (.iconst 1, 1) := by decide +kernel
theorem dX1_rocketComes_38 : decode cX1_rocketComes 38 = .ok (.invokevirtual 269, 3) := by decide +kernel
theorem dX1_rocketComes_41 : decode cX1_rocketComes 41 = .ok (.invokevirtual 285, 3) := by decide +kernel
theorem dX1_rocketComes_44 : decode cX1_rocketComes 44 = .ok (.ireturn, 1) := by decide +kernel
theorem dX1_rocketGoesUp_0 : decode cX1_rocketGoesUp 0 = .ok (.aload_n 0, 1) := by decide +kernel
theorem dX1_rocketGoesUp_1 : decode cX1_rocketGoesUp 1 = .ok (.getfield 16, 3) := by decide +kernel
theorem dX1_rocketGoesUp_4 : decode cX1_rocketGoesUp 4 = .ok (.iload_n 1, 1) := by decide +kernel
theorem dX1_rocketGoesUp_5 : decode cX1_rocketGoesUp 5 = .ok (.invokevirtual 115, 3) := by decide +kernel
theorem dX1_rocketGoesUp_8 : decode cX1_rocketGoesUp 8 = .ok (.ifCond .ne 5, 3) := by decide +kernel
theorem dX1_rocketGoesUp_11 : decode cX1_rocketGoesUp 11 = .ok (.iconst 0, 1) := by decide +kernel
theorem dX1_rocketGoesUp_12 : decode cX1_rocketGoesUp 12 = .ok (.ireturn, 1) := by decide +kernel
theorem dX1_rocketGoesUp_13 : decode cX1_rocketGoesUp 13 = .ok (.aload_n 0, 1) := by decide +kernel
theorem dX1_rocketGoesUp_14 : decode cX1_rocketGoesUp 14 = .ok (.getfield 16, 3) := by decide +kernel
theorem dX1_rocketGoesUp_17 : decode cX1_rocketGoesUp 17 = .ok (.iload_n 1, 1) := by decide +kernel
theorem dX1_rocketGoesUp_18 : decode cX1_rocketGoesUp 18 = .ok (.bipush 31, 2) := by decide +kernel
theorem dX1_rocketGoesUp_20 : decode cX1_rocketGoesUp 20 = .ok (.invokevirtual 118, 3) := by decide +kernel
theorem dX1_rocketGoesUp_23 : decode cX1_rocketGoesUp 23 = .ok (.iconst 1, 1) := by decide +kernel
theorem dX1_rocketGoesUp_24 : decode cX1_rocketGoesUp 24 = .ok (.ireturn, 1) := by decide +kernel
theorem dX1_rocketGoesBack_0 : decode cX1_rocketGoesBack 0 = .ok (.aload_n 0, 1) := by decide +kernel
theorem dX1_rocketGoesBack_1 : decode cX1_rocketGoesBack 1 = .ok (.getfield 16, 3) := by decide +kernel
theorem dX1_rocketGoesBack_4 : decode cX1_rocketGoesBack 4 = .ok (.iload_n 1, 1) := by decide +kernel
theorem dX1_rocketGoesBack_5 : decode cX1_rocketGoesBack 5 = .ok (.invokevirtual 70, 3) := by decide +kernel
theorem dX1_rocketGoesBack_8 : decode cX1_rocketGoesBack 8 = .ok (.ifCond .eq 14, 3) := by decide +kernel
theorem dX1_rocketGoesBack_11 : decode cX1_rocketGoesBack 11 = .ok (.aload_n 0, 1) := by decide +kernel
theorem dX1_rocketGoesBack_12 : decode cX1_rocketGoesBack 12 = .ok (.getfield 16, 3) := by decide +kernel
theorem dX1_rocketGoesBack_15 : decode cX1_rocketGoesBack 15 = .ok (.iload_n 1, 1) := by decide +kernel
theorem dX1_rocketGoesBack_16 : decode cX1_rocketGoesBack 16 = .ok (.invokevirtual 82, 3) := by decide +kernel
theorem dX1_rocketGoesBack_19 : decode cX1_rocketGoesBack 19 = .ok (.ifCond .ne 5, 3) := by decide +kernel
theorem dX1_rocketGoesBack_22 : decode cX1_rocketGoesBack 22 = .ok (.iconst 0, 1) := by decide +kernel
theorem dX1_rocketGoesBack_23 : decode cX1_rocketGoesBack 23 = .ok (.ireturn, 1) := by decide +kernel
theorem dX1_rocketGoesBack_24 : decode cX1_rocketGoesBack 24 = .ok (.aload_n 0, 1) := by decide +kernel
theorem dX1_rocketGoesBack_25 : decode cX1_rocketGoesBack 25 = .ok (.getfield 16, 3) := by decide +kernel
theorem dX1_rocketGoesBack_28 : decode cX1_rocketGoesBack 28 = .ok (.iload_n 1, 1) := by decide +kernel
theorem dX1_rocketGoesBack_29 : decode cX1_rocketGoesBack 29 = .ok (.invokevirtual 125, 3) := by decide +kernel
theorem dX1_rocketGoesBack_32 : decode cX1_rocketGoesBack 32 = .ok (.iconst 1, 1) := by decide +kernel
theorem dX1_rocketGoesBack_33 : decode cX1_rocketGoesBack 33 = .ok (.ireturn, 1) := by decide +kernel
theorem dX1_nightsGoBy_0 : decode cX1_nightsGoBy 0 = .ok (.iload_n 1, 1) := by decide +kernel
theorem dX1_nightsGoBy_1 : decode cX1_nightsGoBy 1 = .ok (.iconst 1, 1) := by decide +kernel
theorem dX1_nightsGoBy_2 : decode cX1_nightsGoBy 2 = .ok (.if_icmp .lt 24, 3) := by decide +kernel
theorem dX1_nightsGoBy_5 : decode cX1_nightsGoBy 5 = .ok (.iload_n 1, 1) := by decide +kernel
theorem dX1_nightsGoBy_6 : decode cX1_nightsGoBy 6 = .ok (.bipush 60, 2) := by decide +kernel
theorem dX1_nightsGoBy_8 : decode cX1_nightsGoBy 8 = .ok (.if_icmp .gt 18, 3) := by decide +kernel
theorem dX1_nightsGoBy_11 : decode cX1_nightsGoBy 11 = .ok (.aload_n 0, 1) := by decide +kernel
theorem dX1_nightsGoBy_12 : decode cX1_nightsGoBy 12 = .ok (.getfield 16, 3) := by decide +kernel
theorem dX1_nightsGoBy_15 : decode cX1_nightsGoBy 15 = .ok (.getfield 147, 3) := by decide +kernel
theorem dX1_nightsGoBy_18 : decode cX1_nightsGoBy 18 = .ok (.iload_n 1, 1) := by decide +kernel
theorem dX1_nightsGoBy_19 : decode cX1_nightsGoBy 19 = .ok (.iadd, 1) := by decide +kernel
theorem dX1_nightsGoBy_20 : decode cX1_nightsGoBy 20 = .ok (.sipush 999, 3) := by decide +kernel
theorem dX1_nightsGoBy_23 : decode cX1_nightsGoBy 23 = .ok (.if_icmp .le 5, 3) := by decide +kernel
theorem dX1_nightsGoBy_26 : decode cX1_nightsGoBy 26 = .ok (.iconst 0, 1) := by decide +kernel
theorem dX1_nightsGoBy_27 : decode cX1_nightsGoBy 27 = .ok (.ireturn, 1) := by decide +kernel
theorem dX1_nightsGoBy_28 : decode cX1_nightsGoBy 28 = .ok (.aload_n 0, 1) := by decide +kernel
theorem dX1_nightsGoBy_29 : decode cX1_nightsGoBy 29 = .ok (.getfield 16, 3) := by decide +kernel
theorem dX1_nightsGoBy_32 : decode cX1_nightsGoBy 32 = .ok (.iload_n 1, 1) := by decide +kernel
theorem dX1_nightsGoBy_33 : decode cX1_nightsGoBy 33 = .ok (.bipush 31, 2) := by decide +kernel
theorem dX1_nightsGoBy_35 : decode cX1_nightsGoBy 35 = .ok (.invokevirtual 150, 3) := by decide +kernel
theorem dX1_nightsGoBy_38 : decode cX1_nightsGoBy 38 = .ok (.iconst 1, 1) := by decide +kernel
theorem dX1_nightsGoBy_39 : decode cX1_nightsGoBy 39 = .ok (.ireturn, 1) := by decide +kernel
theorem dX1_thinkOn_0 : decode cX1_thinkOn 0 = .ok (.aload_n 0, 1) := by decide +kernel
theorem dX1_thinkOn_1 : decode cX1_thinkOn 1 = .ok (.getfield 16, 3) := by decide +kernel
theorem dX1_thinkOn_4 : decode cX1_thinkOn 4 = .ok (.aload_n 0, 1) := by decide +kernel
theorem dX1_thinkOn_5 : decode cX1_thinkOn 5 = .ok (.getfield 10, 3) := by decide +kernel
theorem dX1_thinkOn_8 : decode cX1_thinkOn 8 = .ok (.invokevirtual 59, 3) := by decide +kernel
theorem dX1_thinkOn_11 : decode cX1_thinkOn 11 = .ok (.aload_n 0, 1) := by decide +kernel
theorem dX1_thinkOn_12 : decode cX1_thinkOn 12 = .ok (.getfield 16, 3) := by decide +kernel
theorem dX1_thinkOn_15 : decode cX1_thinkOn 15 = .ok (.iload_n 1, 1) := by decide +kernel
theorem dX1_thinkOn_16 : decode cX1_thinkOn 16 = .ok (.bipush 31, 2) := by decide +kernel
theorem dX1_thinkOn_18 : decode cX1_thinkOn 18 = .ok (.invokevirtual 150, 3) := by decide +kernel
theorem dX1_thinkOn_21 : decode cX1_thinkOn 21 = .ok (.return_, 1) := by decide +kernel
theorem dX1_nightsUntilWhole_0 : decode cX1_nightsUntilWhole 0 = .ok (.aload_n 0, 1) := by decide +kernel
theorem dX1_nightsUntilWhole_1 : decode cX1_nightsUntilWhole 1 = .ok (.getfield 16, 3) := by decide +kernel
theorem dX1_nightsUntilWhole_4 : decode cX1_nightsUntilWhole 4 = .ok (.aload_n 0, 1) := by decide +kernel
theorem dX1_nightsUntilWhole_5 : decode cX1_nightsUntilWhole 5 = .ok (.getfield 10, 3) := by decide +kernel
theorem dX1_nightsUntilWhole_8 : decode cX1_nightsUntilWhole 8 = .ok (.invokevirtual 59, 3) := by decide +kernel
theorem dX1_nightsUntilWhole_11 : decode cX1_nightsUntilWhole 11 = .ok (.iconst 0, 1) := by decide +kernel
theorem dX1_nightsUntilWhole_12 : decode cX1_nightsUntilWhole 12 = .ok (.istore_n 2, 1) := by decide +kernel
theorem dX1_nightsUntilWhole_13 : decode cX1_nightsUntilWhole 13 = .ok (.iload_n 2, 1) := by decide +kernel
theorem dX1_nightsUntilWhole_14 : decode cX1_nightsUntilWhole 14 = .ok (.bipush 60, 2) := by decide +kernel
theorem dX1_nightsUntilWhole_16 : decode cX1_nightsUntilWhole 16 = .ok (.if_icmp .gt 32, 3) := by decide +kernel
theorem dX1_nightsUntilWhole_19 : decode cX1_nightsUntilWhole 19 = .ok (.aload_n 0, 1) := by decide +kernel
theorem dX1_nightsUntilWhole_20 : decode cX1_nightsUntilWhole 20 = .ok (.getfield 16, 3) := by decide +kernel
theorem dX1_nightsUntilWhole_23 : decode cX1_nightsUntilWhole 23 = .ok (.iload_n 1, 1) := by decide +kernel
theorem dX1_nightsUntilWhole_24 : decode cX1_nightsUntilWhole 24 = .ok (.invokevirtual 288, 3) := by decide +kernel
theorem dX1_nightsUntilWhole_27 : decode cX1_nightsUntilWhole 27 = .ok (.ifCond .eq 5, 3) := by decide +kernel
theorem dX1_nightsUntilWhole_30 : decode cX1_nightsUntilWhole 30 = .ok (.iload_n 2, 1) := by decide +kernel
theorem dX1_nightsUntilWhole_31 : decode cX1_nightsUntilWhole 31 = .ok (.ireturn, 1) := by decide +kernel
theorem dX1_nightsUntilWhole_32 : decode cX1_nightsUntilWhole 32 = .ok (.aload_n 0, 1) := by decide +kernel
theorem dX1_nightsUntilWhole_33 : decode cX1_nightsUntilWhole 33 = .ok (.getfield 16, 3) := by decide +kernel
theorem dX1_nightsUntilWhole_36 : decode cX1_nightsUntilWhole 36 = .ok (.iconst 1, 1) := by decide +kernel
theorem dX1_nightsUntilWhole_37 : decode cX1_nightsUntilWhole 37 = .ok (.bipush 31, 2) := by decide +kernel
theorem dX1_nightsUntilWhole_39 : decode cX1_nightsUntilWhole 39 = .ok (.invokevirtual 150, 3) := by decide +kernel
theorem dX1_nightsUntilWhole_42 : decode cX1_nightsUntilWhole 42 = .ok (.iinc 2 1, 3) := by decide +kernel
theorem dX1_nightsUntilWhole_45 : decode cX1_nightsUntilWhole 45 = .ok (.goto (-32), 3) := by decide +kernel
theorem dX1_nightsUntilWhole_48 : decode cX1_nightsUntilWhole 48 = .ok (.bipush (-9), 2) := by decide +kernel
theorem dX1_nightsUntilWhole_50 : decode cX1_nightsUntilWhole 50 = .ok (.ireturn, 1) := by decide +kernel
theorem dX1_firstWhole_0 : decode cX1_firstWhole 0 = .ok (.bipush (-9), 2) := by decide +kernel
theorem dX1_firstWhole_2 : decode cX1_firstWhole 2 = .ok (.istore_n 1, 1) := by decide +kernel
theorem dX1_firstWhole_3 : decode cX1_firstWhole 3 = .ok (.bipush 61, 2) := by decide +kernel
theorem dX1_firstWhole_5 : decode cX1_firstWhole 5 = .ok (.istore_n 2, 1) := by decide +kernel
theorem dX1_firstWhole_6 : decode cX1_firstWhole 6 = .ok (.iconst 0, 1) := by decide +kernel
theorem dX1_firstWhole_7 : decode cX1_firstWhole 7 = .ok (.istore_n 3, 1) := by decide +kernel
theorem dX1_firstWhole_8 : decode cX1_firstWhole 8 = .ok (.iload_n 3, 1) := by decide +kernel
theorem dX1_firstWhole_9 : decode cX1_firstWhole 9 = .ok (.aload_n 0, 1) := by decide +kernel
theorem dX1_firstWhole_10 : decode cX1_firstWhole 10 = .ok (.getfield 10, 3) := by decide +kernel
theorem dX1_firstWhole_13 : decode cX1_firstWhole 13 = .ok (.getfield 203, 3) := by decide +kernel
theorem dX1_firstWhole_16 : decode cX1_firstWhole 16 = .ok (.if_icmp .ge 34, 3) := by decide +kernel
theorem dX1_firstWhole_19 : decode cX1_firstWhole 19 = .ok (.aload_n 0, 1) := by decide +kernel
theorem dX1_firstWhole_20 : decode cX1_firstWhole 20 = .ok (.iload_n 3, 1) := by decide +kernel
theorem dX1_firstWhole_21 : decode cX1_firstWhole 21 = .ok (.invokevirtual 163, 3) := by decide +kernel
theorem dX1_firstWhole_24 : decode cX1_firstWhole 24 = .ok (.istore 4, 2) := by decide +kernel
theorem dX1_firstWhole_26 : decode cX1_firstWhole 26 = .ok (.iload 4, 2) := by decide +kernel
theorem dX1_firstWhole_28 : decode cX1_firstWhole 28 = .ok (.bipush (-9), 2) := by decide +kernel
theorem dX1_firstWhole_30 : decode cX1_firstWhole 30 = .ok (.if_icmp .eq 14, 3) := by decide +kernel
theorem dX1_firstWhole_33 : decode cX1_firstWhole 33 = .ok (.iload 4, 2) := by decide +kernel
theorem dX1_firstWhole_35 : decode cX1_firstWhole 35 = .ok (.iload_n 2, 1) := by decide +kernel
theorem dX1_firstWhole_36 : decode cX1_firstWhole 36 = .ok (.if_icmp .ge 8, 3) := by decide +kernel
theorem dX1_firstWhole_39 : decode cX1_firstWhole 39 = .ok (.iload 4, 2) := by decide +kernel
theorem dX1_firstWhole_41 : decode cX1_firstWhole 41 = .ok (.istore_n 2, 1) := by decide +kernel
theorem dX1_firstWhole_42 : decode cX1_firstWhole 42 = .ok (.iload_n 3, 1) := by decide +kernel
theorem dX1_firstWhole_43 : decode cX1_firstWhole 43 = .ok (.istore_n 1, 1) := by decide +kernel
theorem dX1_firstWhole_44 : decode cX1_firstWhole 44 = .ok (.iinc 3 1, 3) := by decide +kernel
theorem dX1_firstWhole_47 : decode cX1_firstWhole 47 = .ok (.goto (-39), 3) := by decide +kernel
theorem dX1_firstWhole_50 : decode cX1_firstWhole 50 = .ok (.iload_n 1, 1) := by decide +kernel
theorem dX1_firstWhole_51 : decode cX1_firstWhole 51 = .ok (.ireturn, 1) := by decide +kernel
theorem dX1_nightsUntilSpent_0 : decode cX1_nightsUntilSpent 0 = .ok (.aload_n 0, 1) := by decide +kernel
theorem dX1_nightsUntilSpent_1 : decode cX1_nightsUntilSpent 1 = .ok (.getfield 16, 3) := by decide +kernel
theorem dX1_nightsUntilSpent_4 : decode cX1_nightsUntilSpent 4 = .ok (.aload_n 0, 1) := by decide +kernel
theorem dX1_nightsUntilSpent_5 : decode cX1_nightsUntilSpent 5 = .ok (.getfield 10, 3) := by decide +kernel
theorem dX1_nightsUntilSpent_8 : decode cX1_nightsUntilSpent 8 = .ok (.invokevirtual 59, 3) := by decide +kernel
theorem dX1_nightsUntilSpent_11 : decode cX1_nightsUntilSpent 11 = .ok (.iconst 0, 1) := by decide +kernel
theorem dX1_nightsUntilSpent_12 : decode cX1_nightsUntilSpent 12 = .ok (.istore_n 1, 1) := by decide +kernel
theorem dX1_nightsUntilSpent_13 : decode cX1_nightsUntilSpent 13 = .ok (.iload_n 1, 1) := by decide +kernel
theorem dX1_nightsUntilSpent_14 : decode cX1_nightsUntilSpent 14 = .ok (.bipush 60, 2) := by decide +kernel
theorem dX1_nightsUntilSpent_16 : decode cX1_nightsUntilSpent 16 = .ok (.if_icmp .gt 33, 3) := by decide +kernel
theorem dX1_nightsUntilSpent_19 : decode cX1_nightsUntilSpent 19 = .ok (.aload_n 0, 1) := by decide +kernel
theorem dX1_nightsUntilSpent_20 : decode cX1_nightsUntilSpent 20 = .ok (.getfield 16, 3) := by decide +kernel
theorem dX1_nightsUntilSpent_23 : decode cX1_nightsUntilSpent 23 = .ok (.invokevirtual 166, 3) := by decide +kernel
theorem dX1_nightsUntilSpent_26 : decode cX1_nightsUntilSpent 26 = .ok (.bipush (-9), 2) := by decide +kernel
theorem dX1_nightsUntilSpent_28 : decode cX1_nightsUntilSpent 28 = .ok (.if_icmp .ne 5, 3) := by decide +kernel
theorem dX1_nightsUntilSpent_31 : decode cX1_nightsUntilSpent 31 = .ok (.iload_n 1, 1) := by decide +kernel
theorem dX1_nightsUntilSpent_32 : decode cX1_nightsUntilSpent 32 = .ok (.ireturn, 1) := by decide +kernel
theorem dX1_nightsUntilSpent_33 : decode cX1_nightsUntilSpent 33 = .ok (.aload_n 0, 1) := by decide +kernel
theorem dX1_nightsUntilSpent_34 : decode cX1_nightsUntilSpent 34 = .ok (.getfield 16, 3) := by decide +kernel
theorem dX1_nightsUntilSpent_37 : decode cX1_nightsUntilSpent 37 = .ok (.iconst 1, 1) := by decide +kernel
theorem dX1_nightsUntilSpent_38 : decode cX1_nightsUntilSpent 38 = .ok (.bipush 31, 2) := by decide +kernel
theorem dX1_nightsUntilSpent_40 : decode cX1_nightsUntilSpent 40 = .ok (.invokevirtual 150, 3) := by decide +kernel
theorem dX1_nightsUntilSpent_43 : decode cX1_nightsUntilSpent 43 = .ok (.iinc 1 1, 3) := by decide +kernel
theorem dX1_nightsUntilSpent_46 : decode cX1_nightsUntilSpent 46 = .ok (.goto (-33), 3) := by decide +kernel
theorem dX1_nightsUntilSpent_49 : decode cX1_nightsUntilSpent 49 = .ok (.bipush (-9), 2) := by decide +kernel
theorem dX1_nightsUntilSpent_51 : decode cX1_nightsUntilSpent 51 = .ok (.ireturn, 1) := by decide +kernel
theorem dX1_noteWhatIsBrought_0 : decode cX1_noteWhatIsBrought 0 = .ok (.aload_n 0, 1) := by decide +kernel
theorem dX1_noteWhatIsBrought_1 : decode cX1_noteWhatIsBrought 1 = .ok (.getfield 43, 3) := by decide +kernel
theorem dX1_noteWhatIsBrought_4 : decode cX1_noteWhatIsBrought 4 = .ok (.iconst 0, 1) := by decide +kernel
theorem dX1_noteWhatIsBrought_5 : decode cX1_noteWhatIsBrought 5 = .ok (.invokestatic 291, 3) := by decide +kernel
theorem dX1_noteWhatIsBrought_8 : decode cX1_noteWhatIsBrought 8 = .ok (.iconst 0, 1) := by decide +kernel
theorem dX1_noteWhatIsBrought_9 : decode cX1_noteWhatIsBrought 9 = .ok (.istore_n 2, 1) := by decide +kernel
theorem dX1_noteWhatIsBrought_10 : decode cX1_noteWhatIsBrought 10 = .ok (.iload_n 2, 1) := by decide +kernel
theorem dX1_noteWhatIsBrought_11 : decode cX1_noteWhatIsBrought 11 = .ok (.aload_n 0, 1) := by decide +kernel
theorem dX1_noteWhatIsBrought_12 : decode cX1_noteWhatIsBrought 12 = .ok (.getfield 10, 3) := by decide +kernel
theorem dX1_noteWhatIsBrought_15 : decode cX1_noteWhatIsBrought 15 = .ok (.getfield 129, 3) := by decide +kernel
theorem dX1_noteWhatIsBrought_18 : decode cX1_noteWhatIsBrought 18 = .ok (.if_icmp .ge 75, 3) := by decide +kernel
theorem dX1_noteWhatIsBrought_21 : decode cX1_noteWhatIsBrought 21 = .ok (.aload_n 0, 1) := by decide +kernel
theorem dX1_noteWhatIsBrought_22 : decode cX1_noteWhatIsBrought 22 = .ok (.getfield 10, 3) := by decide +kernel
theorem dX1_noteWhatIsBrought_25 : decode cX1_noteWhatIsBrought 25 = .ok (.iload_n 2, 1) := by decide +kernel
theorem dX1_noteWhatIsBrought_26 : decode cX1_noteWhatIsBrought 26 = .ok (.invokevirtual 97, 3) := by decide +kernel
theorem dX1_noteWhatIsBrought_29 : decode cX1_noteWhatIsBrought 29 = .ok (.iload_n 1, 1) := by decide +kernel
theorem dX1_noteWhatIsBrought_30 : decode cX1_noteWhatIsBrought 30 = .ok (.ishr, 1) := by decide +kernel
theorem dX1_noteWhatIsBrought_31 : decode cX1_noteWhatIsBrought 31 = .ok (.iconst 1, 1) := by decide +kernel
theorem dX1_noteWhatIsBrought_32 : decode cX1_noteWhatIsBrought 32 = .ok (.iand, 1) := by decide +kernel
theorem dX1_noteWhatIsBrought_33 : decode cX1_noteWhatIsBrought 33 = .ok (.iconst 1, 1) := by decide +kernel
theorem dX1_noteWhatIsBrought_34 : decode cX1_noteWhatIsBrought 34 = .ok (.if_icmp .ne 7, 3) := by decide +kernel
theorem dX1_noteWhatIsBrought_37 : decode cX1_noteWhatIsBrought 37 = .ok (.iconst 1, 1) := by decide +kernel
theorem dX1_noteWhatIsBrought_38 : decode cX1_noteWhatIsBrought 38 = .ok (.goto 4, 3) := by decide +kernel
theorem dX1_noteWhatIsBrought_41 : decode cX1_noteWhatIsBrought 41 = .ok (.iconst 0, 1) := by decide +kernel
theorem dX1_noteWhatIsBrought_42 : decode cX1_noteWhatIsBrought 42 = .ok (.istore_n 3, 1) := by decide +kernel
theorem dX1_noteWhatIsBrought_43 : decode cX1_noteWhatIsBrought 43 = .ok (.aload_n 0, 1) := by decide +kernel
theorem dX1_noteWhatIsBrought_44 : decode cX1_noteWhatIsBrought 44 = .ok (.getfield 10, 3) := by decide +kernel
theorem dX1_noteWhatIsBrought_47 : decode cX1_noteWhatIsBrought 47 = .ok (.iload_n 2, 1) := by decide +kernel
theorem dX1_noteWhatIsBrought_48 : decode cX1_noteWhatIsBrought 48 = .ok (.invokevirtual 82, 3) := by decide +kernel
theorem dX1_noteWhatIsBrought_51 : decode cX1_noteWhatIsBrought 51 = .ok (.ifCond .ne 36, 3) := by decide +kernel
theorem dX1_noteWhatIsBrought_54 : decode cX1_noteWhatIsBrought 54 = .ok (.iload_n 3, 1) := by decide +kernel
theorem dX1_noteWhatIsBrought_55 : decode cX1_noteWhatIsBrought 55 = .ok (.ifCond .eq 32, 3) := by decide +kernel
theorem dX1_noteWhatIsBrought_58 : decode cX1_noteWhatIsBrought 58 = .ok (.aload_n 0, 1) := by decide +kernel
theorem dX1_noteWhatIsBrought_59 : decode cX1_noteWhatIsBrought 59 = .ok (.getfield 10, 3) := by decide +kernel
theorem dX1_noteWhatIsBrought_62 : decode cX1_noteWhatIsBrought 62 = .ok (.getfield 106, 3) := by decide +kernel
theorem dX1_noteWhatIsBrought_65 : decode cX1_noteWhatIsBrought 65 = .ok (.iload_n 1, 1) := by decide +kernel
theorem dX1_noteWhatIsBrought_66 : decode cX1_noteWhatIsBrought 66 = .ok (.iaload, 1) := by decide +kernel
theorem dX1_noteWhatIsBrought_67 : decode cX1_noteWhatIsBrought 67 = .ok (.ifCond .le 20, 3) := by decide +kernel
theorem dX1_noteWhatIsBrought_70 : decode cX1_noteWhatIsBrought 70 = .ok (.aload_n 0, 1) := by decide +kernel
theorem dX1_noteWhatIsBrought_71 : decode cX1_noteWhatIsBrought 71 = .ok (.getfield 43, 3) := by decide +kernel
theorem dX1_noteWhatIsBrought_74 : decode cX1_noteWhatIsBrought 74 = .ok (.iload_n 2, 1) := by decide +kernel
theorem dX1_noteWhatIsBrought_75 : decode cX1_noteWhatIsBrought 75 = .ok (.iconst 1, 1) := by decide +kernel
theorem dX1_noteWhatIsBrought_76 : decode cX1_noteWhatIsBrought 76 = .ok (.aload_n 0, 1) := by decide +kernel
theorem dX1_noteWhatIsBrought_77 : decode cX1_noteWhatIsBrought 77 = .ok (.getfield 10, 3) := by decide +kernel
theorem dX1_noteWhatIsBrought_80 : decode cX1_noteWhatIsBrought 80 = .ok (.getfield 79, 3) := by decide +kernel
theorem dX1_noteWhatIsBrought_83 : decode cX1_noteWhatIsBrought 83 = .ok (.iload_n 2, 1) := by decide +kernel
theorem dX1_noteWhatIsBrought_84 : decode cX1_noteWhatIsBrought 84 = .ok (.iaload, 1) := by decide +kernel
theorem dX1_noteWhatIsBrought_85 : decode cX1_noteWhatIsBrought 85 = .ok (.ishl, 1) := by decide +kernel
theorem dX1_noteWhatIsBrought_86 : decode cX1_noteWhatIsBrought 86 = .ok (.iastore, 1) := by decide +kernel
theorem dX1_noteWhatIsBrought_87 : decode cX1_noteWhatIsBrought 87 = .ok (.iinc 2 1, 3) := by decide +kernel
theorem dX1_noteWhatIsBrought_90 : decode cX1_noteWhatIsBrought 90 = .ok (.goto (-80), 3) := by decide +kernel
theorem dX1_noteWhatIsBrought_93 : decode cX1_noteWhatIsBrought 93 = .ok (.return_, 1) := by decide +kernel
theorem dX1_makesWhole_0 : decode cX1_makesWhole 0 = .ok (.aload_n 0, 1) := by decide +kernel
theorem dX1_makesWhole_1 : decode cX1_makesWhole 1 = .ok (.getfield 10, 3) := by decide +kernel
theorem dX1_makesWhole_4 : decode cX1_makesWhole 4 = .ok (.iload_n 1, 1) := by decide +kernel
theorem dX1_makesWhole_5 : decode cX1_makesWhole 5 = .ok (.invokevirtual 109, 3) := by decide +kernel
theorem dX1_makesWhole_8 : decode cX1_makesWhole 8 = .ok (.istore_n 3, 1) := by decide +kernel
theorem dX1_makesWhole_9 : decode cX1_makesWhole 9 = .ok (.iconst 0, 1) := by decide +kernel
theorem dX1_makesWhole_10 : decode cX1_makesWhole 10 = .ok (.istore 4, 2) := by decide +kernel
theorem dX1_makesWhole_12 : decode cX1_makesWhole 12 = .ok (.iload 4, 2) := by decide +kernel
theorem dX1_makesWhole_14 : decode cX1_makesWhole 14 = .ok (.aload_n 0, 1) := by decide +kernel
theorem dX1_makesWhole_15 : decode cX1_makesWhole 15 = .ok (.getfield 10, 3) := by decide +kernel
theorem dX1_makesWhole_18 : decode cX1_makesWhole 18 = .ok (.getfield 129, 3) := by decide +kernel
theorem dX1_makesWhole_21 : decode cX1_makesWhole 21 = .ok (.if_icmp .ge 29, 3) := by decide +kernel
theorem dX1_makesWhole_24 : decode cX1_makesWhole 24 = .ok (.iload_n 2, 1) := by decide +kernel
theorem dX1_makesWhole_25 : decode cX1_makesWhole 25 = .ok (.iload 4, 2) := by decide +kernel
theorem dX1_makesWhole_27 : decode cX1_makesWhole 27 = .ok (.ishr, 1) := by decide +kernel
theorem dX1_makesWhole_28 : decode cX1_makesWhole 28 = .ok (.iconst 1, 1) := by decide +kernel
theorem dX1_makesWhole_29 : decode cX1_makesWhole 29 = .ok (.iand, 1) := by decide +kernel
theorem dX1_makesWhole_30 : decode cX1_makesWhole 30 = .ok (.iconst 1, 1) := by decide +kernel
theorem dX1_makesWhole_31 : decode cX1_makesWhole 31 = .ok (.if_icmp .ne 13, 3) := by decide +kernel
theorem dX1_makesWhole_34 : decode cX1_makesWhole 34 = .ok (.iload_n 3, 1) := by decide +kernel
theorem dX1_makesWhole_35 : decode cX1_makesWhole 35 = .ok (.aload_n 0, 1) := by decide +kernel
theorem dX1_makesWhole_36 : decode cX1_makesWhole 36 = .ok (.getfield 43, 3) := by decide +kernel
theorem dX1_makesWhole_39 : decode cX1_makesWhole 39 = .ok (.iload 4, 2) := by decide +kernel
theorem dX1_makesWhole_41 : decode cX1_makesWhole 41 = .ok (.iaload, 1) := by decide +kernel
theorem dX1_makesWhole_42 : decode cX1_makesWhole 42 = .ok (.ior, 1) := by decide +kernel
theorem dX1_makesWhole_43 : decode cX1_makesWhole 43 = .ok (.istore_n 3, 1) := by decide +kernel
theorem dX1_makesWhole_44 : decode cX1_makesWhole 44 = .ok (.iinc 4 1, 3) := by decide +kernel
theorem dX1_makesWhole_47 : decode cX1_makesWhole 47 = .ok (.goto (-35), 3) := by decide +kernel
theorem dX1_makesWhole_50 : decode cX1_makesWhole 50 = .ok (.iload_n 3, 1) := by decide +kernel
theorem dX1_makesWhole_51 : decode cX1_makesWhole 51 = .ok (.bipush 63, 2) := by decide +kernel
theorem dX1_makesWhole_53 : decode cX1_makesWhole 53 = .ok (.if_icmp .ne 7, 3) := by decide +kernel
theorem dX1_makesWhole_56 : decode cX1_makesWhole 56 = .ok (.iconst 1, 1) := by decide +kernel
theorem dX1_makesWhole_57 : decode cX1_makesWhole 57 = .ok (.goto 4, 3) := by decide +kernel
theorem dX1_makesWhole_60 : decode cX1_makesWhole 60 = .ok (.iconst 0, 1) := by decide +kernel
theorem dX1_makesWhole_61 : decode cX1_makesWhole 61 = .ok (.ireturn, 1) := by decide +kernel
theorem dX1_costOfChosen_0 : decode cX1_costOfChosen 0 = .ok (.iconst 0, 1) := by decide +kernel
theorem dX1_costOfChosen_1 : decode cX1_costOfChosen 1 = .ok (.istore_n 2, 1) := by decide +kernel
theorem dX1_costOfChosen_2 : decode cX1_costOfChosen 2 = .ok (.iconst 0, 1) := by decide +kernel
theorem dX1_costOfChosen_3 : decode cX1_costOfChosen 3 = .ok (.istore_n 3, 1) := by decide +kernel
theorem dX1_costOfChosen_4 : decode cX1_costOfChosen 4 = .ok (.iload_n 3, 1) := by decide +kernel
theorem dX1_costOfChosen_5 : decode cX1_costOfChosen 5 = .ok (.aload_n 0, 1) := by decide +kernel
theorem dX1_costOfChosen_6 : decode cX1_costOfChosen 6 = .ok (.getfield 10, 3) := by decide +kernel
theorem dX1_costOfChosen_9 : decode cX1_costOfChosen 9 = .ok (.getfield 129, 3) := by decide +kernel
theorem dX1_costOfChosen_12 : decode cX1_costOfChosen 12 = .ok (.if_icmp .ge 29, 3) := by decide +kernel
theorem dX1_costOfChosen_15 : decode cX1_costOfChosen 15 = .ok (.iload_n 1, 1) := by decide +kernel
theorem dX1_costOfChosen_16 : decode cX1_costOfChosen 16 = .ok (.iload_n 3, 1) := by decide +kernel
theorem dX1_costOfChosen_17 : decode cX1_costOfChosen 17 = .ok (.ishr, 1) := by decide +kernel
theorem dX1_costOfChosen_18 : decode cX1_costOfChosen 18 = .ok (.iconst 1, 1) := by decide +kernel
theorem dX1_costOfChosen_19 : decode cX1_costOfChosen 19 = .ok (.iand, 1) := by decide +kernel
theorem dX1_costOfChosen_20 : decode cX1_costOfChosen 20 = .ok (.iconst 1, 1) := by decide +kernel
theorem dX1_costOfChosen_21 : decode cX1_costOfChosen 21 = .ok (.if_icmp .ne 14, 3) := by decide +kernel
theorem dX1_costOfChosen_24 : decode cX1_costOfChosen 24 = .ok (.iload_n 2, 1) := by decide +kernel
theorem dX1_costOfChosen_25 : decode cX1_costOfChosen 25 = .ok (.aload_n 0, 1) := by decide +kernel
theorem dX1_costOfChosen_26 : decode cX1_costOfChosen 26 = .ok (.getfield 10, 3) := by decide +kernel
theorem dX1_costOfChosen_29 : decode cX1_costOfChosen 29 = .ok (.iload_n 3, 1) := by decide +kernel
theorem dX1_costOfChosen_30 : decode cX1_costOfChosen 30 = .ok (.invokevirtual 85, 3) := by decide +kernel
theorem dX1_costOfChosen_33 : decode cX1_costOfChosen 33 = .ok (.iadd, 1) := by decide +kernel
theorem dX1_costOfChosen_34 : decode cX1_costOfChosen 34 = .ok (.istore_n 2, 1) := by decide +kernel
theorem dX1_costOfChosen_35 : decode cX1_costOfChosen 35 = .ok (.iinc 3 1, 3) := by decide +kernel
theorem dX1_costOfChosen_38 : decode cX1_costOfChosen 38 = .ok (.goto (-34), 3) := by decide +kernel
theorem dX1_costOfChosen_41 : decode cX1_costOfChosen 41 = .ok (.iload_n 2, 1) := by decide +kernel
theorem dX1_costOfChosen_42 : decode cX1_costOfChosen 42 = .ok (.ireturn, 1) := by decide +kernel
theorem dX1_fewestRockets_0 : decode cX1_fewestRockets 0 = .ok (.bipush (-9), 2) := by decide +kernel
theorem dX1_fewestRockets_2 : decode cX1_fewestRockets 2 = .ok (.istore_n 2, 1) := by decide +kernel
theorem dX1_fewestRockets_3 : decode cX1_fewestRockets 3 = .ok (.bipush 10, 2) := by decide +kernel
theorem dX1_fewestRockets_5 : decode cX1_fewestRockets 5 = .ok (.istore_n 3, 1) := by decide +kernel
theorem dX1_fewestRockets_6 : decode cX1_fewestRockets 6 = .ok (.iconst 0, 1) := by decide +kernel
theorem dX1_fewestRockets_7 : decode cX1_fewestRockets 7 = .ok (.istore 4, 2) := by decide +kernel
theorem dX1_fewestRockets_9 : decode cX1_fewestRockets 9 = .ok (.iload 4, 2) := by decide +kernel
theorem dX1_fewestRockets_11 : decode cX1_fewestRockets 11 = .ok (.iconst 1, 1) := by decide +kernel
theorem dX1_fewestRockets_12 : decode cX1_fewestRockets 12 = .ok (.aload_n 0, 1) := by decide +kernel
theorem dX1_fewestRockets_13 : decode cX1_fewestRockets 13 = .ok (.getfield 10, 3) := by decide +kernel
theorem dX1_fewestRockets_16 : decode cX1_fewestRockets 16 = .ok (.getfield 129, 3) := by decide +kernel
theorem dX1_fewestRockets_19 : decode cX1_fewestRockets 19 = .ok (.ishl, 1) := by decide +kernel
theorem dX1_fewestRockets_20 : decode cX1_fewestRockets 20 = .ok (.if_icmp .ge 62, 3) := by decide +kernel
theorem dX1_fewestRockets_23 : decode cX1_fewestRockets 23 = .ok (.iload 4, 2) := by decide +kernel
theorem dX1_fewestRockets_25 : decode cX1_fewestRockets 25 = .ok (.invokestatic 135, 3) := by decide +kernel
theorem dX1_fewestRockets_28 : decode cX1_fewestRockets 28 = .ok (.iload_n 3, 1) := by decide +kernel
theorem dX1_fewestRockets_29 : decode cX1_fewestRockets 29 = .ok (.if_icmp .ge 7, 3) := by decide +kernel
theorem dX1_fewestRockets_32 : decode cX1_fewestRockets 32 = .ok (.iconst 1, 1) := by decide +kernel
theorem dX1_fewestRockets_33 : decode cX1_fewestRockets 33 = .ok (.goto 4, 3) := by decide +kernel
theorem dX1_fewestRockets_36 : decode cX1_fewestRockets 36 = .ok (.iconst 0, 1) := by decide +kernel
theorem dX1_fewestRockets_37 : decode cX1_fewestRockets 37 = .ok (.istore 5, 2) := by decide +kernel
theorem dX1_fewestRockets_39 : decode cX1_fewestRockets 39 = .ok (.iload 5, 2) := by decide +kernel
theorem dX1_fewestRockets_41 : decode cX1_fewestRockets 41 = .ok (.ifCond .eq 35, 3) := by decide +kernel
theorem dX1_fewestRockets_44 : decode cX1_fewestRockets 44 = .ok (.iload 4, 2) := by decide +kernel
theorem dX1_fewestRockets_46 : decode cX1_fewestRockets 46 = .ok (.aload_n 0, 1) := by decide +kernel
theorem dX1_fewestRockets_47 : decode cX1_fewestRockets 47 = .ok (.getfield 10, 3) := by decide +kernel
theorem dX1_fewestRockets_50 : decode cX1_fewestRockets 50 = .ok (.getfield 132, 3) := by decide +kernel
theorem dX1_fewestRockets_53 : decode cX1_fewestRockets 53 = .ok (.iand, 1) := by decide +kernel
theorem dX1_fewestRockets_54 : decode cX1_fewestRockets 54 = .ok (.ifCond .ne 22, 3) := by decide +kernel
theorem dX1_fewestRockets_57 : decode cX1_fewestRockets 57 = .ok (.aload_n 0, 1) := by decide +kernel
theorem dX1_fewestRockets_58 : decode cX1_fewestRockets 58 = .ok (.iload_n 1, 1) := by decide +kernel
theorem dX1_fewestRockets_59 : decode cX1_fewestRockets 59 = .ok (.iload 4, 2) := by decide +kernel
theorem dX1_fewestRockets_61 : decode cX1_fewestRockets 61 = .ok (.invokevirtual 297, 3) := by decide +kernel
theorem dX1_fewestRockets_64 : decode cX1_fewestRockets 64 = .ok (.ifCond .eq 12, 3) := by decide +kernel
theorem dX1_fewestRockets_67 : decode cX1_fewestRockets 67 = .ok (.iload 4, 2) := by decide +kernel
theorem dX1_fewestRockets_69 : decode cX1_fewestRockets 69 = .ok (.invokestatic 135, 3) := by decide +kernel
theorem dX1_fewestRockets_72 : decode cX1_fewestRockets 72 = .ok (.istore_n 3, 1) := by decide +kernel
theorem dX1_fewestRockets_73 : decode cX1_fewestRockets 73 = .ok (.iload 4, 2) := by decide +kernel
theorem dX1_fewestRockets_75 : decode cX1_fewestRockets 75 = .ok (.istore_n 2, 1) := by decide +kernel
theorem dX1_fewestRockets_76 : decode cX1_fewestRockets 76 = .ok (.iinc 4 1, 3) := by decide +kernel
theorem dX1_fewestRockets_79 : decode cX1_fewestRockets 79 = .ok (.goto (-70), 3) := by decide +kernel
theorem dX1_fewestRockets_82 : decode cX1_fewestRockets 82 = .ok (.iload_n 2, 1) := by decide +kernel
theorem dX1_fewestRockets_83 : decode cX1_fewestRockets 83 = .ok (.ireturn, 1) := by decide +kernel
theorem dX1_leastCost_0 : decode cX1_leastCost 0 = .ok (.bipush (-9), 2) := by decide +kernel
theorem dX1_leastCost_2 : decode cX1_leastCost 2 = .ok (.istore_n 2, 1) := by decide +kernel
theorem dX1_leastCost_3 : decode cX1_leastCost 3 = .ok (.iconst 0, 1) := by decide +kernel
theorem dX1_leastCost_4 : decode cX1_leastCost 4 = .ok (.istore_n 3, 1) := by decide +kernel
theorem dX1_leastCost_5 : decode cX1_leastCost 5 = .ok (.iload_n 3, 1) := by decide +kernel
theorem dX1_leastCost_6 : decode cX1_leastCost 6 = .ok (.iconst 1, 1) := by decide +kernel
theorem dX1_leastCost_7 : decode cX1_leastCost 7 = .ok (.aload_n 0, 1) := by decide +kernel
theorem dX1_leastCost_8 : decode cX1_leastCost 8 = .ok (.getfield 10, 3) := by decide +kernel
theorem dX1_leastCost_11 : decode cX1_leastCost 11 = .ok (.getfield 129, 3) := by decide +kernel
theorem dX1_leastCost_14 : decode cX1_leastCost 14 = .ok (.ishl, 1) := by decide +kernel
theorem dX1_leastCost_15 : decode cX1_leastCost 15 = .ok (.if_icmp .ge 52, 3) := by decide +kernel
theorem dX1_leastCost_18 : decode cX1_leastCost 18 = .ok (.iload_n 3, 1) := by decide +kernel
theorem dX1_leastCost_19 : decode cX1_leastCost 19 = .ok (.aload_n 0, 1) := by decide +kernel
theorem dX1_leastCost_20 : decode cX1_leastCost 20 = .ok (.getfield 10, 3) := by decide +kernel
theorem dX1_leastCost_23 : decode cX1_leastCost 23 = .ok (.getfield 132, 3) := by decide +kernel
theorem dX1_leastCost_26 : decode cX1_leastCost 26 = .ok (.iand, 1) := by decide +kernel
theorem dX1_leastCost_27 : decode cX1_leastCost 27 = .ok (.ifCond .ne 34, 3) := by decide +kernel
theorem dX1_leastCost_30 : decode cX1_leastCost 30 = .ok (.aload_n 0, 1) := by decide +kernel
theorem dX1_leastCost_31 : decode cX1_leastCost 31 = .ok (.iload_n 1, 1) := by decide +kernel
theorem dX1_leastCost_32 : decode cX1_leastCost 32 = .ok (.iload_n 3, 1) := by decide +kernel
theorem dX1_leastCost_33 : decode cX1_leastCost 33 = .ok (.invokevirtual 297, 3) := by decide +kernel
theorem dX1_leastCost_36 : decode cX1_leastCost 36 = .ok (.ifCond .eq 25, 3) := by decide +kernel
theorem dX1_leastCost_39 : decode cX1_leastCost 39 = .ok (.aload_n 0, 1) := by decide +kernel
theorem dX1_leastCost_40 : decode cX1_leastCost 40 = .ok (.iload_n 3, 1) := by decide +kernel
theorem dX1_leastCost_41 : decode cX1_leastCost 41 = .ok (.invokevirtual 300, 3) := by decide +kernel
theorem dX1_leastCost_44 : decode cX1_leastCost 44 = .ok (.istore 4, 2) := by decide +kernel
theorem dX1_leastCost_46 : decode cX1_leastCost 46 = .ok (.iload_n 2, 1) := by decide +kernel
theorem dX1_leastCost_47 : decode cX1_leastCost 47 = .ok (.bipush (-9), 2) := by decide +kernel
theorem dX1_leastCost_49 : decode cX1_leastCost 49 = .ok (.if_icmp .eq 9, 3) := by decide +kernel
theorem dX1_leastCost_52 : decode cX1_leastCost 52 = .ok (.iload 4, 2) := by decide +kernel
theorem dX1_leastCost_54 : decode cX1_leastCost 54 = .ok (.iload_n 2, 1) := by decide +kernel
theorem dX1_leastCost_55 : decode cX1_leastCost 55 = .ok (.if_icmp .ge 6, 3) := by decide +kernel
theorem dX1_leastCost_58 : decode cX1_leastCost 58 = .ok (.iload 4, 2) := by decide +kernel
theorem dX1_leastCost_60 : decode cX1_leastCost 60 = .ok (.istore_n 2, 1) := by decide +kernel
theorem dX1_leastCost_61 : decode cX1_leastCost 61 = .ok (.iinc 3 1, 3) := by decide +kernel
theorem dX1_leastCost_64 : decode cX1_leastCost 64 = .ok (.goto (-59), 3) := by decide +kernel
theorem dX1_leastCost_67 : decode cX1_leastCost 67 = .ok (.iload_n 2, 1) := by decide +kernel
theorem dX1_leastCost_68 : decode cX1_leastCost 68 = .ok (.ireturn, 1) := by decide +kernel
theorem dX1_bestToSpend_0 : decode cX1_bestToSpend 0 = .ok (.aload_n 0, 1) := by decide +kernel
theorem dX1_bestToSpend_1 : decode cX1_bestToSpend 1 = .ok (.iload_n 1, 1) := by decide +kernel
theorem dX1_bestToSpend_2 : decode cX1_bestToSpend 2 = .ok (.invokevirtual 153, 3) := by decide +kernel
theorem dX1_bestToSpend_5 : decode cX1_bestToSpend 5 = .ok (.aload_n 0, 1) := by decide +kernel
theorem dX1_bestToSpend_6 : decode cX1_bestToSpend 6 = .ok (.getfield 16, 3) := by decide +kernel
theorem dX1_bestToSpend_9 : decode cX1_bestToSpend 9 = .ok (.invokevirtual 245, 3) := by decide +kernel
theorem dX1_bestToSpend_12 : decode cX1_bestToSpend 12 = .ok (.istore_n 3, 1) := by decide +kernel
theorem dX1_bestToSpend_13 : decode cX1_bestToSpend 13 = .ok (.bipush (-9), 2) := by decide +kernel
theorem dX1_bestToSpend_15 : decode cX1_bestToSpend 15 = .ok (.istore 4, 2) := by decide +kernel
theorem dX1_bestToSpend_17 : decode cX1_bestToSpend 17 = .ok (.iconst 0, 1) := by decide +kernel
theorem dX1_bestToSpend_18 : decode cX1_bestToSpend 18 = .ok (.istore 5, 2) := by decide +kernel
theorem dX1_bestToSpend_20 : decode cX1_bestToSpend 20 = .ok (.iload 5, 2) := by decide +kernel
theorem dX1_bestToSpend_22 : decode cX1_bestToSpend 22 = .ok (.aload_n 0, 1) := by decide +kernel
theorem dX1_bestToSpend_23 : decode cX1_bestToSpend 23 = .ok (.getfield 10, 3) := by decide +kernel
theorem dX1_bestToSpend_26 : decode cX1_bestToSpend 26 = .ok (.getfield 129, 3) := by decide +kernel
theorem dX1_bestToSpend_29 : decode cX1_bestToSpend 29 = .ok (.if_icmp .ge 63, 3) := by decide +kernel
theorem dX1_bestToSpend_32 : decode cX1_bestToSpend 32 = .ok (.iload_n 2, 1) := by decide +kernel
theorem dX1_bestToSpend_33 : decode cX1_bestToSpend 33 = .ok (.ifCond .eq 18, 3) := by decide +kernel
theorem dX1_bestToSpend_36 : decode cX1_bestToSpend 36 = .ok (.aload_n 0, 1) := by decide +kernel
theorem dX1_bestToSpend_37 : decode cX1_bestToSpend 37 = .ok (.getfield 10, 3) := by decide +kernel
theorem dX1_bestToSpend_40 : decode cX1_bestToSpend 40 = .ok (.iload 5, 2) := by decide +kernel
theorem dX1_bestToSpend_42 : decode cX1_bestToSpend 42 = .ok (.invokevirtual 115, 3) := by decide +kernel
theorem dX1_bestToSpend_45 : decode cX1_bestToSpend 45 = .ok (.ifCond .eq 41, 3) := by decide +kernel
theorem dX1_bestToSpend_48 : decode cX1_bestToSpend 48 = .ok (.goto 15, 3) := by decide +kernel
theorem dX1_bestToSpend_51 : decode cX1_bestToSpend 51 = .ok (.aload_n 0, 1) := by decide +kernel
theorem dX1_bestToSpend_52 : decode cX1_bestToSpend 52 = .ok (.getfield 10, 3) := by decide +kernel
theorem dX1_bestToSpend_55 : decode cX1_bestToSpend 55 = .ok (.iload 5, 2) := by decide +kernel
theorem dX1_bestToSpend_57 : decode cX1_bestToSpend 57 = .ok (.invokevirtual 82, 3) := by decide +kernel
theorem dX1_bestToSpend_60 : decode cX1_bestToSpend 60 = .ok (.ifCond .ne 26, 3) := by decide +kernel
theorem dX1_bestToSpend_63 : decode cX1_bestToSpend 63 = .ok (.aload_n 0, 1) := by decide +kernel
theorem dX1_bestToSpend_64 : decode cX1_bestToSpend 64 = .ok (.iload 5, 2) := by decide +kernel
theorem dX1_bestToSpend_66 : decode cX1_bestToSpend 66 = .ok (.iload_n 1, 1) := by decide +kernel
theorem dX1_bestToSpend_67 : decode cX1_bestToSpend 67 = .ok (.iload_n 2, 1) := by decide +kernel
theorem dX1_bestToSpend_68 : decode cX1_bestToSpend 68 = .ok (.invokevirtual 303, 3) := by decide +kernel
theorem dX1_bestToSpend_71 : decode cX1_bestToSpend 71 = .ok (.istore 6, 2) := by decide +kernel
theorem dX1_bestToSpend_73 : decode cX1_bestToSpend 73 = .ok (.iload 6, 2) := by decide +kernel
theorem dX1_bestToSpend_75 : decode cX1_bestToSpend 75 = .ok (.iload_n 3, 1) := by decide +kernel
theorem dX1_bestToSpend_76 : decode cX1_bestToSpend 76 = .ok (.if_icmp .le 10, 3) := by decide +kernel
theorem dX1_bestToSpend_79 : decode cX1_bestToSpend 79 = .ok (.iload 6, 2) := by decide +kernel
theorem dX1_bestToSpend_81 : decode cX1_bestToSpend 81 = .ok (.istore_n 3, 1) := by decide +kernel
theorem dX1_bestToSpend_82 : decode cX1_bestToSpend 82 = .ok (.iload 5, 2) := by decide +kernel
theorem dX1_bestToSpend_84 : decode cX1_bestToSpend 84 = .ok (.istore 4, 2) := by decide +kernel
theorem dX1_bestToSpend_86 : decode cX1_bestToSpend 86 = .ok (.iinc 5 1, 3) := by decide +kernel
theorem dX1_bestToSpend_89 : decode cX1_bestToSpend 89 = .ok (.goto (-69), 3) := by decide +kernel
theorem dX1_bestToSpend_92 : decode cX1_bestToSpend 92 = .ok (.iload 4, 2) := by decide +kernel
theorem dX1_bestToSpend_94 : decode cX1_bestToSpend 94 = .ok (.ireturn, 1) := by decide +kernel
theorem dX1_wordsHadBySpending_0 : decode cX1_wordsHadBySpending 0 = .ok (.aload_n 0, 1) := by decide +kernel
theorem dX1_wordsHadBySpending_1 : decode cX1_wordsHadBySpending 1 = .ok (.getfield 16, 3) := by decide +kernel
theorem dX1_wordsHadBySpending_4 : decode cX1_wordsHadBySpending 4 = .ok (.aload_n 0, 1) := by decide +kernel
theorem dX1_wordsHadBySpending_5 : decode cX1_wordsHadBySpending 5 = .ok (.getfield 10, 3) := by decide +kernel
theorem dX1_wordsHadBySpending_8 : decode cX1_wordsHadBySpending 8 = .ok (.invokevirtual 59, 3) := by decide +kernel
theorem dX1_wordsHadBySpending_11 : decode cX1_wordsHadBySpending 11 = .ok (.iload_n 3, 1) := by decide +kernel
theorem dX1_wordsHadBySpending_12 : decode cX1_wordsHadBySpending 12 = .ok (.ifCond .eq 16, 3) := by decide +kernel
theorem dX1_wordsHadBySpending_15 : decode cX1_wordsHadBySpending 15 = .ok (.aload_n 0, 1) := by decide +kernel
theorem dX1_wordsHadBySpending_16 : decode cX1_wordsHadBySpending 16 = .ok (.getfield 16, 3) := by decide +kernel
theorem dX1_wordsHadBySpending_19 : decode cX1_wordsHadBySpending 19 = .ok (.iload_n 1, 1) := by decide +kernel
theorem dX1_wordsHadBySpending_20 : decode cX1_wordsHadBySpending 20 = .ok (.bipush 31, 2) := by decide +kernel
theorem dX1_wordsHadBySpending_22 : decode cX1_wordsHadBySpending 22 = .ok (.invokevirtual 118, 3) := by decide +kernel
theorem dX1_wordsHadBySpending_25 : decode cX1_wordsHadBySpending 25 = .ok (.goto 11, 3) := by decide +kernel
theorem dX1_wordsHadBySpending_28 : decode cX1_wordsHadBySpending 28 = .ok (.aload_n 0, 1) := by decide +kernel
theorem dX1_wordsHadBySpending_29 : decode cX1_wordsHadBySpending 29 = .ok (.getfield 16, 3) := by decide +kernel
theorem dX1_wordsHadBySpending_32 : decode cX1_wordsHadBySpending 32 = .ok (.iload_n 1, 1) := by decide +kernel
theorem dX1_wordsHadBySpending_33 : decode cX1_wordsHadBySpending 33 = .ok (.invokevirtual 307, 3) := by decide +kernel
theorem dX1_wordsHadBySpending_36 : decode cX1_wordsHadBySpending 36 = .ok (.aload_n 0, 1) := by decide +kernel
theorem dX1_wordsHadBySpending_37 : decode cX1_wordsHadBySpending 37 = .ok (.getfield 16, 3) := by decide +kernel
theorem dX1_wordsHadBySpending_40 : decode cX1_wordsHadBySpending 40 = .ok (.iload_n 2, 1) := by decide +kernel
theorem dX1_wordsHadBySpending_41 : decode cX1_wordsHadBySpending 41 = .ok (.bipush 31, 2) := by decide +kernel
theorem dX1_wordsHadBySpending_43 : decode cX1_wordsHadBySpending 43 = .ok (.invokevirtual 150, 3) := by decide +kernel
theorem dX1_wordsHadBySpending_46 : decode cX1_wordsHadBySpending 46 = .ok (.aload_n 0, 1) := by decide +kernel
theorem dX1_wordsHadBySpending_47 : decode cX1_wordsHadBySpending 47 = .ok (.getfield 16, 3) := by decide +kernel
theorem dX1_wordsHadBySpending_50 : decode cX1_wordsHadBySpending 50 = .ok (.invokevirtual 245, 3) := by decide +kernel
theorem dX1_wordsHadBySpending_53 : decode cX1_wordsHadBySpending 53 = .ok (.ireturn, 1) := by decide +kernel
theorem dX1_longestDark_0 : decode cX1_longestDark 0 = .ok (.bipush (-9), 2) := by decide +kernel
theorem dX1_longestDark_2 : decode cX1_longestDark 2 = .ok (.istore_n 1, 1) := by decide +kernel
theorem dX1_longestDark_3 : decode cX1_longestDark 3 = .ok (.iconst (-1), 1) := by decide +kernel
theorem dX1_longestDark_4 : decode cX1_longestDark 4 = .ok (.istore_n 2, 1) := by decide +kernel
theorem dX1_longestDark_5 : decode cX1_longestDark 5 = .ok (.iconst 0, 1) := by decide +kernel
theorem dX1_longestDark_6 : decode cX1_longestDark 6 = .ok (.istore_n 3, 1) := by decide +kernel
theorem dX1_longestDark_7 : decode cX1_longestDark 7 = .ok (.iload_n 3, 1) := by decide +kernel
theorem dX1_longestDark_8 : decode cX1_longestDark 8 = .ok (.aload_n 0, 1) := by decide +kernel
theorem dX1_longestDark_9 : decode cX1_longestDark 9 = .ok (.getfield 10, 3) := by decide +kernel
theorem dX1_longestDark_12 : decode cX1_longestDark 12 = .ok (.getfield 129, 3) := by decide +kernel
theorem dX1_longestDark_15 : decode cX1_longestDark 15 = .ok (.if_icmp .ge 30, 3) := by decide +kernel
theorem dX1_longestDark_18 : decode cX1_longestDark 18 = .ok (.aload_n 0, 1) := by decide +kernel
theorem dX1_longestDark_19 : decode cX1_longestDark 19 = .ok (.getfield 10, 3) := by decide +kernel
theorem dX1_longestDark_22 : decode cX1_longestDark 22 = .ok (.iload_n 3, 1) := by decide +kernel
theorem dX1_longestDark_23 : decode cX1_longestDark 23 = .ok (.invokevirtual 91, 3) := by decide +kernel
theorem dX1_longestDark_26 : decode cX1_longestDark 26 = .ok (.istore 4, 2) := by decide +kernel
theorem dX1_longestDark_28 : decode cX1_longestDark 28 = .ok (.iload 4, 2) := by decide +kernel
theorem dX1_longestDark_30 : decode cX1_longestDark 30 = .ok (.iload_n 2, 1) := by decide +kernel
theorem dX1_longestDark_31 : decode cX1_longestDark 31 = .ok (.if_icmp .le 8, 3) := by decide +kernel
theorem dX1_longestDark_34 : decode cX1_longestDark 34 = .ok (.iload 4, 2) := by decide +kernel
theorem dX1_longestDark_36 : decode cX1_longestDark 36 = .ok (.istore_n 2, 1) := by decide +kernel
theorem dX1_longestDark_37 : decode cX1_longestDark 37 = .ok (.iload_n 3, 1) := by decide +kernel
theorem dX1_longestDark_38 : decode cX1_longestDark 38 = .ok (.istore_n 1, 1) := by decide +kernel
theorem dX1_longestDark_39 : decode cX1_longestDark 39 = .ok (.iinc 3 1, 3) := by decide +kernel
theorem dX1_longestDark_42 : decode cX1_longestDark 42 = .ok (.goto (-35), 3) := by decide +kernel
theorem dX1_longestDark_45 : decode cX1_longestDark 45 = .ok (.iload_n 1, 1) := by decide +kernel
theorem dX1_longestDark_46 : decode cX1_longestDark 46 = .ok (.ireturn, 1) := by decide +kernel
theorem dX1_costOfTheBox_0 : decode cX1_costOfTheBox 0 = .ok (.aload_n 0, 1) := by decide +kernel
theorem dX1_costOfTheBox_1 : decode cX1_costOfTheBox 1 = .ok (.aload_n 0, 1) := by decide +kernel
theorem dX1_costOfTheBox_2 : decode cX1_costOfTheBox 2 = .ok (.getfield 10, 3) := by decide +kernel
theorem dX1_costOfTheBox_5 : decode cX1_costOfTheBox 5 = .ok (.getfield 132, 3) := by decide +kernel
theorem dX1_costOfTheBox_8 : decode cX1_costOfTheBox 8 = .ok (.iconst (-1), 1) := by decide +kernel
theorem dX1_costOfTheBox_9 : decode cX1_costOfTheBox 9 = .ok (.ixor, 1) := by decide +kernel
theorem dX1_costOfTheBox_10 : decode cX1_costOfTheBox 10 = .ok (.invokevirtual 300, 3) := by decide +kernel
theorem dX1_costOfTheBox_13 : decode cX1_costOfTheBox 13 = .ok (.ireturn, 1) := by decide +kernel
theorem dX1_lackingWords_0 : decode cX1_lackingWords 0 = .ok (.bipush 63, 2) := by decide +kernel
theorem dX1_lackingWords_2 : decode cX1_lackingWords 2 = .ok (.istore_n 1, 1) := by decide +kernel
theorem dX1_lackingWords_3 : decode cX1_lackingWords 3 = .ok (.iconst 0, 1) := by decide +kernel
theorem dX1_lackingWords_4 : decode cX1_lackingWords 4 = .ok (.istore_n 2, 1) := by decide +kernel
theorem dX1_lackingWords_5 : decode cX1_lackingWords 5 = .ok (.iload_n 2, 1) := by decide +kernel
theorem dX1_lackingWords_6 : decode cX1_lackingWords 6 = .ok (.aload_n 0, 1) := by decide +kernel
theorem dX1_lackingWords_7 : decode cX1_lackingWords 7 = .ok (.getfield 10, 3) := by decide +kernel
theorem dX1_lackingWords_10 : decode cX1_lackingWords 10 = .ok (.getfield 129, 3) := by decide +kernel
theorem dX1_lackingWords_13 : decode cX1_lackingWords 13 = .ok (.if_icmp .ge 25, 3) := by decide +kernel
theorem dX1_lackingWords_16 : decode cX1_lackingWords 16 = .ok (.iload_n 1, 1) := by decide +kernel
theorem dX1_lackingWords_17 : decode cX1_lackingWords 17 = .ok (.iconst 1, 1) := by decide +kernel
theorem dX1_lackingWords_18 : decode cX1_lackingWords 18 = .ok (.aload_n 0, 1) := by decide +kernel
theorem dX1_lackingWords_19 : decode cX1_lackingWords 19 = .ok (.getfield 10, 3) := by decide +kernel
theorem dX1_lackingWords_22 : decode cX1_lackingWords 22 = .ok (.getfield 79, 3) := by decide +kernel
theorem dX1_lackingWords_25 : decode cX1_lackingWords 25 = .ok (.iload_n 2, 1) := by decide +kernel
theorem dX1_lackingWords_26 : decode cX1_lackingWords 26 = .ok (.iaload, 1) := by decide +kernel
theorem dX1_lackingWords_27 : decode cX1_lackingWords 27 = .ok (.ishl, 1) := by decide +kernel
theorem dX1_lackingWords_28 : decode cX1_lackingWords 28 = .ok (.iconst (-1), 1) := by decide +kernel
theorem dX1_lackingWords_29 : decode cX1_lackingWords 29 = .ok (.ixor, 1) := by decide +kernel
theorem dX1_lackingWords_30 : decode cX1_lackingWords 30 = .ok (.iand, 1) := by decide +kernel
theorem dX1_lackingWords_31 : decode cX1_lackingWords 31 = .ok (.istore_n 1, 1) := by decide +kernel
theorem dX1_lackingWords_32 : decode cX1_lackingWords 32 = .ok (.iinc 2 1, 3) := by decide +kernel
theorem dX1_lackingWords_35 : decode cX1_lackingWords 35 = .ok (.goto (-30), 3) := by decide +kernel
theorem dX1_lackingWords_38 : decode cX1_lackingWords 38 = .ok (.iload_n 1, 1) := by decide +kernel
theorem dX1_lackingWords_39 : decode cX1_lackingWords 39 = .ok (.ireturn, 1) := by decide +kernel
theorem dX1_knownWords_0 : decode cX1_knownWords 0 = .ok (.bipush 63, 2) := by decide +kernel
theorem dX1_knownWords_2 : decode cX1_knownWords 2 = .ok (.istore_n 1, 1) := by decide +kernel
theorem dX1_knownWords_3 : decode cX1_knownWords 3 = .ok (.iconst 0, 1) := by decide +kernel
theorem dX1_knownWords_4 : decode cX1_knownWords 4 = .ok (.istore_n 2, 1) := by decide +kernel
theorem dX1_knownWords_5 : decode cX1_knownWords 5 = .ok (.iload_n 2, 1) := by decide +kernel
theorem dX1_knownWords_6 : decode cX1_knownWords 6 = .ok (.aload_n 0, 1) := by decide +kernel
theorem dX1_knownWords_7 : decode cX1_knownWords 7 = .ok (.getfield 10, 3) := by decide +kernel
theorem dX1_knownWords_10 : decode cX1_knownWords 10 = .ok (.getfield 203, 3) := by decide +kernel
theorem dX1_knownWords_13 : decode cX1_knownWords 13 = .ok (.if_icmp .ge 20, 3) := by decide +kernel
theorem dX1_knownWords_16 : decode cX1_knownWords 16 = .ok (.iload_n 1, 1) := by decide +kernel
theorem dX1_knownWords_17 : decode cX1_knownWords 17 = .ok (.aload_n 0, 1) := by decide +kernel
theorem dX1_knownWords_18 : decode cX1_knownWords 18 = .ok (.getfield 10, 3) := by decide +kernel
theorem dX1_knownWords_21 : decode cX1_knownWords 21 = .ok (.iload_n 2, 1) := by decide +kernel
theorem dX1_knownWords_22 : decode cX1_knownWords 22 = .ok (.invokevirtual 109, 3) := by decide +kernel
theorem dX1_knownWords_25 : decode cX1_knownWords 25 = .ok (.iand, 1) := by decide +kernel
theorem dX1_knownWords_26 : decode cX1_knownWords 26 = .ok (.istore_n 1, 1) := by decide +kernel
theorem dX1_knownWords_27 : decode cX1_knownWords 27 = .ok (.iinc 2 1, 3) := by decide +kernel
theorem dX1_knownWords_30 : decode cX1_knownWords 30 = .ok (.goto (-25), 3) := by decide +kernel
theorem dX1_knownWords_33 : decode cX1_knownWords 33 = .ok (.iload_n 1, 1) := by decide +kernel
theorem dX1_knownWords_34 : decode cX1_knownWords 34 = .ok (.ireturn, 1) := by decide +kernel
theorem dX1_rarestWord_0 : decode cX1_rarestWord 0 = .ok (.iconst 0, 1) := by decide +kernel
theorem dX1_rarestWord_1 : decode cX1_rarestWord 1 = .ok (.istore_n 1, 1) := by decide +kernel
theorem dX1_rarestWord_2 : decode cX1_rarestWord 2 = .ok (.bipush 6, 2) := by decide +kernel
theorem dX1_rarestWord_4 : decode cX1_rarestWord 4 = .ok (.istore_n 2, 1) := by decide +kernel
theorem dX1_rarestWord_5 : decode cX1_rarestWord 5 = .ok (.iconst 0, 1) := by decide +kernel
theorem dX1_rarestWord_6 : decode cX1_rarestWord 6 = .ok (.istore_n 3, 1) := by decide +kernel
theorem dX1_rarestWord_7 : decode cX1_rarestWord 7 = .ok (.iload_n 3, 1) := by decide +kernel
theorem dX1_rarestWord_8 : decode cX1_rarestWord 8 = .ok (.bipush 6, 2) := by decide +kernel
theorem dX1_rarestWord_10 : decode cX1_rarestWord 10 = .ok (.if_icmp .ge 62, 3) := by decide +kernel
theorem dX1_rarestWord_13 : decode cX1_rarestWord 13 = .ok (.iconst 0, 1) := by decide +kernel
theorem dX1_rarestWord_14 : decode cX1_rarestWord 14 = .ok (.istore 4, 2) := by decide +kernel
theorem dX1_rarestWord_16 : decode cX1_rarestWord 16 = .ok (.iconst 0, 1) := by decide +kernel
theorem dX1_rarestWord_17 : decode cX1_rarestWord 17 = .ok (.istore 5, 2) := by decide +kernel
theorem dX1_rarestWord_19 : decode cX1_rarestWord 19 = .ok (.iload 5, 2) := by decide +kernel
theorem dX1_rarestWord_21 : decode cX1_rarestWord 21 = .ok (.aload_n 0, 1) := by decide +kernel
theorem dX1_rarestWord_22 : decode cX1_rarestWord 22 = .ok (.getfield 10, 3) := by decide +kernel
theorem dX1_rarestWord_25 : decode cX1_rarestWord 25 = .ok (.getfield 203, 3) := by decide +kernel
theorem dX1_rarestWord_28 : decode cX1_rarestWord 28 = .ok (.if_icmp .ge 27, 3) := by decide +kernel
theorem dX1_rarestWord_31 : decode cX1_rarestWord 31 = .ok (.iload 4, 2) := by decide +kernel
theorem dX1_rarestWord_33 : decode cX1_rarestWord 33 = .ok (.aload_n 0, 1) := by decide +kernel
theorem dX1_rarestWord_34 : decode cX1_rarestWord 34 = .ok (.getfield 10, 3) := by decide +kernel
theorem dX1_rarestWord_37 : decode cX1_rarestWord 37 = .ok (.iload 5, 2) := by decide +kernel
theorem dX1_rarestWord_39 : decode cX1_rarestWord 39 = .ok (.invokevirtual 109, 3) := by decide +kernel
theorem dX1_rarestWord_42 : decode cX1_rarestWord 42 = .ok (.iload_n 3, 1) := by decide +kernel
theorem dX1_rarestWord_43 : decode cX1_rarestWord 43 = .ok (.ishr, 1) := by decide +kernel
theorem dX1_rarestWord_44 : decode cX1_rarestWord 44 = .ok (.iconst 1, 1) := by decide +kernel
theorem dX1_rarestWord_45 : decode cX1_rarestWord 45 = .ok (.iand, 1) := by decide +kernel
theorem dX1_rarestWord_46 : decode cX1_rarestWord 46 = .ok (.iadd, 1) := by decide +kernel
theorem dX1_rarestWord_47 : decode cX1_rarestWord 47 = .ok (.istore 4, 2) := by decide +kernel
theorem dX1_rarestWord_49 : decode cX1_rarestWord 49 = .ok (.iinc 5 1, 3) := by decide +kernel
theorem dX1_rarestWord_52 : decode cX1_rarestWord 52 = .ok (.goto (-33), 3) := by decide +kernel
theorem dX1_rarestWord_55 : decode cX1_rarestWord 55 = .ok (.iload 4, 2) := by decide +kernel
theorem dX1_rarestWord_57 : decode cX1_rarestWord 57 = .ok (.iload_n 2, 1) := by decide +kernel
theorem dX1_rarestWord_58 : decode cX1_rarestWord 58 = .ok (.if_icmp .ge 8, 3) := by decide +kernel
theorem dX1_rarestWord_61 : decode cX1_rarestWord 61 = .ok (.iload 4, 2) := by decide +kernel
theorem dX1_rarestWord_63 : decode cX1_rarestWord 63 = .ok (.istore_n 2, 1) := by decide +kernel
theorem dX1_rarestWord_64 : decode cX1_rarestWord 64 = .ok (.iload_n 3, 1) := by decide +kernel
theorem dX1_rarestWord_65 : decode cX1_rarestWord 65 = .ok (.istore_n 1, 1) := by decide +kernel
theorem dX1_rarestWord_66 : decode cX1_rarestWord 66 = .ok (.iinc 3 1, 3) := by decide +kernel
theorem dX1_rarestWord_69 : decode cX1_rarestWord 69 = .ok (.goto (-62), 3) := by decide +kernel
theorem dX1_rarestWord_72 : decode cX1_rarestWord 72 = .ok (.iload_n 1, 1) := by decide +kernel
theorem dX1_rarestWord_73 : decode cX1_rarestWord 73 = .ok (.ireturn, 1) := by decide +kernel
theorem dX1_noteWhatPairGets_0 : decode cX1_noteWhatPairGets 0 = .ok (.iload 4, 2) := by decide +kernel
theorem dX1_noteWhatPairGets_2 : decode cX1_noteWhatPairGets 2 = .ok (.iconst 1, 1) := by decide +kernel
theorem dX1_noteWhatPairGets_3 : decode cX1_noteWhatPairGets 3 = .ok (.ishr, 1) := by decide +kernel
theorem dX1_noteWhatPairGets_4 : decode cX1_noteWhatPairGets 4 = .ok (.istore 5, 2) := by decide +kernel
theorem dX1_noteWhatPairGets_6 : decode cX1_noteWhatPairGets 6 = .ok (.iload 4, 2) := by decide +kernel
theorem dX1_noteWhatPairGets_8 : decode cX1_noteWhatPairGets 8 = .ok (.iconst 1, 1) := by decide +kernel
theorem dX1_noteWhatPairGets_9 : decode cX1_noteWhatPairGets 9 = .ok (.iand, 1) := by decide +kernel
theorem dX1_noteWhatPairGets_10 : decode cX1_noteWhatPairGets 10 = .ok (.istore 6, 2) := by decide +kernel
theorem dX1_noteWhatPairGets_12 : decode cX1_noteWhatPairGets 12 = .ok (.iconst 1, 1) := by decide +kernel
theorem dX1_noteWhatPairGets_13 : decode cX1_noteWhatPairGets 13 = .ok (.iload 5, 2) := by decide +kernel
theorem dX1_noteWhatPairGets_15 : decode cX1_noteWhatPairGets 15 = .ok (.isub, 1) := by decide +kernel
theorem dX1_noteWhatPairGets_16 : decode cX1_noteWhatPairGets 16 = .ok (.iload_n 1, 1) := by decide +kernel
theorem dX1_noteWhatPairGets_17 : decode cX1_noteWhatPairGets 17 = .ok (.ishl, 1) := by decide +kernel
theorem dX1_noteWhatPairGets_18 : decode cX1_noteWhatPairGets 18 = .ok (.iconst 1, 1) := by decide +kernel
theorem dX1_noteWhatPairGets_19 : decode cX1_noteWhatPairGets 19 = .ok (.iload 6, 2) := by decide +kernel
theorem dX1_noteWhatPairGets_21 : decode cX1_noteWhatPairGets 21 = .ok (.isub, 1) := by decide +kernel
theorem dX1_noteWhatPairGets_22 : decode cX1_noteWhatPairGets 22 = .ok (.iload_n 2, 1) := by decide +kernel
theorem dX1_noteWhatPairGets_23 : decode cX1_noteWhatPairGets 23 = .ok (.ishl, 1) := by decide +kernel
theorem dX1_noteWhatPairGets_24 : decode cX1_noteWhatPairGets 24 = .ok (.ior, 1) := by decide +kernel
theorem dX1_noteWhatPairGets_25 : decode cX1_noteWhatPairGets 25 = .ok (.istore 7, 2) := by decide +kernel
theorem dX1_noteWhatPairGets_27 : decode cX1_noteWhatPairGets 27 = .ok (.aload_n 0, 1) := by decide +kernel
theorem dX1_noteWhatPairGets_28 : decode cX1_noteWhatPairGets 28 = .ok (.getfield 16, 3) := by decide +kernel
theorem dX1_noteWhatPairGets_31 : decode cX1_noteWhatPairGets 31 = .ok (.aload_n 0, 1) := by decide +kernel
theorem dX1_noteWhatPairGets_32 : decode cX1_noteWhatPairGets 32 = .ok (.getfield 10, 3) := by decide +kernel
theorem dX1_noteWhatPairGets_35 : decode cX1_noteWhatPairGets 35 = .ok (.invokevirtual 59, 3) := by decide +kernel
theorem dX1_noteWhatPairGets_38 : decode cX1_noteWhatPairGets 38 = .ok (.aload_n 0, 1) := by decide +kernel
theorem dX1_noteWhatPairGets_39 : decode cX1_noteWhatPairGets 39 = .ok (.getfield 16, 3) := by decide +kernel
theorem dX1_noteWhatPairGets_42 : decode cX1_noteWhatPairGets 42 = .ok (.iload_n 3, 1) := by decide +kernel
theorem dX1_noteWhatPairGets_43 : decode cX1_noteWhatPairGets 43 = .ok (.bipush 31, 2) := by decide +kernel
theorem dX1_noteWhatPairGets_45 : decode cX1_noteWhatPairGets 45 = .ok (.iload 7, 2) := by decide +kernel
theorem dX1_noteWhatPairGets_47 : decode cX1_noteWhatPairGets 47 = .ok (.iconst (-1), 1) := by decide +kernel
theorem dX1_noteWhatPairGets_48 : decode cX1_noteWhatPairGets 48 = .ok (.ixor, 1) := by decide +kernel
theorem dX1_noteWhatPairGets_49 : decode cX1_noteWhatPairGets 49 = .ok (.iand, 1) := by decide +kernel
theorem dX1_noteWhatPairGets_50 : decode cX1_noteWhatPairGets 50 = .ok (.invokevirtual 150, 3) := by decide +kernel
theorem dX1_noteWhatPairGets_53 : decode cX1_noteWhatPairGets 53 = .ok (.aload_n 0, 1) := by decide +kernel
theorem dX1_noteWhatPairGets_54 : decode cX1_noteWhatPairGets 54 = .ok (.getfield 46, 3) := by decide +kernel
theorem dX1_noteWhatPairGets_57 : decode cX1_noteWhatPairGets 57 = .ok (.iload 4, 2) := by decide +kernel
theorem dX1_noteWhatPairGets_59 : decode cX1_noteWhatPairGets 59 = .ok (.aload_n 0, 1) := by decide +kernel
theorem dX1_noteWhatPairGets_60 : decode cX1_noteWhatPairGets 60 = .ok (.iload_n 1, 1) := by decide +kernel
theorem dX1_noteWhatPairGets_61 : decode cX1_noteWhatPairGets 61 = .ok (.iload_n 2, 1) := by decide +kernel
theorem dX1_noteWhatPairGets_62 : decode cX1_noteWhatPairGets 62 = .ok (.invokevirtual 310, 3) := by decide +kernel
theorem dX1_noteWhatPairGets_65 : decode cX1_noteWhatPairGets 65 = .ok (.iload 5, 2) := by decide +kernel
theorem dX1_noteWhatPairGets_67 : decode cX1_noteWhatPairGets 67 = .ok (.isub, 1) := by decide +kernel
theorem dX1_noteWhatPairGets_68 : decode cX1_noteWhatPairGets 68 = .ok (.iastore, 1) := by decide +kernel
theorem dX1_noteWhatPairGets_69 : decode cX1_noteWhatPairGets 69 = .ok (.aload_n 0, 1) := by decide +kernel
theorem dX1_noteWhatPairGets_70 : decode cX1_noteWhatPairGets 70 = .ok (.getfield 49, 3) := by decide +kernel
theorem dX1_noteWhatPairGets_73 : decode cX1_noteWhatPairGets 73 = .ok (.iload 4, 2) := by decide +kernel
theorem dX1_noteWhatPairGets_75 : decode cX1_noteWhatPairGets 75 = .ok (.aload_n 0, 1) := by decide +kernel
theorem dX1_noteWhatPairGets_76 : decode cX1_noteWhatPairGets 76 = .ok (.iload_n 2, 1) := by decide +kernel
theorem dX1_noteWhatPairGets_77 : decode cX1_noteWhatPairGets 77 = .ok (.iload_n 1, 1) := by decide +kernel
theorem dX1_noteWhatPairGets_78 : decode cX1_noteWhatPairGets 78 = .ok (.invokevirtual 310, 3) := by decide +kernel
theorem dX1_noteWhatPairGets_81 : decode cX1_noteWhatPairGets 81 = .ok (.iload 6, 2) := by decide +kernel
theorem dX1_noteWhatPairGets_83 : decode cX1_noteWhatPairGets 83 = .ok (.isub, 1) := by decide +kernel
theorem dX1_noteWhatPairGets_84 : decode cX1_noteWhatPairGets 84 = .ok (.iastore, 1) := by decide +kernel
theorem dX1_noteWhatPairGets_85 : decode cX1_noteWhatPairGets 85 = .ok (.return_, 1) := by decide +kernel
theorem dX1_gain_0 : decode cX1_gain 0 = .ok (.aload_n 0, 1) := by decide +kernel
theorem dX1_gain_1 : decode cX1_gain 1 = .ok (.getfield 16, 3) := by decide +kernel
theorem dX1_gain_4 : decode cX1_gain 4 = .ok (.iload_n 1, 1) := by decide +kernel
theorem dX1_gain_5 : decode cX1_gain 5 = .ok (.invokevirtual 109, 3) := by decide +kernel
theorem dX1_gain_8 : decode cX1_gain 8 = .ok (.invokestatic 135, 3) := by decide +kernel
theorem dX1_gain_11 : decode cX1_gain 11 = .ok (.istore_n 3, 1) := by decide +kernel
theorem dX1_gain_12 : decode cX1_gain 12 = .ok (.aload_n 0, 1) := by decide +kernel
theorem dX1_gain_13 : decode cX1_gain 13 = .ok (.getfield 16, 3) := by decide +kernel
theorem dX1_gain_16 : decode cX1_gain 16 = .ok (.iload_n 1, 1) := by decide +kernel
theorem dX1_gain_17 : decode cX1_gain 17 = .ok (.invokevirtual 288, 3) := by decide +kernel
theorem dX1_gain_20 : decode cX1_gain 20 = .ok (.ifCond .eq 20, 3) := by decide +kernel
theorem dX1_gain_23 : decode cX1_gain 23 = .ok (.aload_n 0, 1) := by decide +kernel
theorem dX1_gain_24 : decode cX1_gain 24 = .ok (.getfield 16, 3) := by decide +kernel
theorem dX1_gain_27 : decode cX1_gain 27 = .ok (.iload_n 2, 1) := by decide +kernel
theorem dX1_gain_28 : decode cX1_gain 28 = .ok (.invokevirtual 288, 3) := by decide +kernel
theorem dX1_gain_31 : decode cX1_gain 31 = .ok (.ifCond .ne 9, 3) := by decide +kernel
theorem dX1_gain_34 : decode cX1_gain 34 = .ok (.iload_n 3, 1) := by decide +kernel
theorem dX1_gain_35 : decode cX1_gain 35 = .ok (.iconst 3, 1) := by decide +kernel
theorem dX1_gain_36 : decode cX1_gain 36 = .ok (.iadd, 1) := by decide +kernel
theorem dX1_gain_37 : decode cX1_gain 37 = .ok (.goto 4, 3) := by decide +kernel
theorem dX1_gain_40 : decode cX1_gain 40 = .ok (.iload_n 3, 1) := by decide +kernel
theorem dX1_gain_41 : decode cX1_gain 41 = .ok (.ireturn, 1) := by decide +kernel
theorem dX1_isWholeAfter_0 : decode cX1_isWholeAfter 0 = .ok (.aload_n 0, 1) := by decide +kernel
theorem dX1_isWholeAfter_1 : decode cX1_isWholeAfter 1 = .ok (.getfield 16, 3) := by decide +kernel
theorem dX1_isWholeAfter_4 : decode cX1_isWholeAfter 4 = .ok (.aload_n 0, 1) := by decide +kernel
theorem dX1_isWholeAfter_5 : decode cX1_isWholeAfter 5 = .ok (.getfield 10, 3) := by decide +kernel
theorem dX1_isWholeAfter_8 : decode cX1_isWholeAfter 8 = .ok (.invokevirtual 59, 3) := by decide +kernel
theorem dX1_isWholeAfter_11 : decode cX1_isWholeAfter 11 = .ok (.iconst 0, 1) := by decide +kernel
theorem dX1_isWholeAfter_12 : decode cX1_isWholeAfter 12 = .ok (.istore 4, 2) := by decide +kernel
theorem dX1_isWholeAfter_14 : decode cX1_isWholeAfter 14 = .ok (.iload 4, 2) := by decide +kernel
theorem dX1_isWholeAfter_16 : decode cX1_isWholeAfter 16 = .ok (.iload_n 2, 1) := by decide +kernel
theorem dX1_isWholeAfter_17 : decode cX1_isWholeAfter 17 = .ok (.if_icmp .ge 33, 3) := by decide +kernel
theorem dX1_isWholeAfter_20 : decode cX1_isWholeAfter 20 = .ok (.aload_n 0, 1) := by decide +kernel
theorem dX1_isWholeAfter_21 : decode cX1_isWholeAfter 21 = .ok (.getfield 16, 3) := by decide +kernel
theorem dX1_isWholeAfter_24 : decode cX1_isWholeAfter 24 = .ok (.iconst 1, 1) := by decide +kernel
theorem dX1_isWholeAfter_25 : decode cX1_isWholeAfter 25 = .ok (.iload_n 3, 1) := by decide +kernel
theorem dX1_isWholeAfter_26 : decode cX1_isWholeAfter 26 = .ok (.iload 4, 2) := by decide +kernel
theorem dX1_isWholeAfter_28 : decode cX1_isWholeAfter 28 = .ok (.ishr, 1) := by decide +kernel
theorem dX1_isWholeAfter_29 : decode cX1_isWholeAfter 29 = .ok (.iconst 1, 1) := by decide +kernel
theorem dX1_isWholeAfter_30 : decode cX1_isWholeAfter 30 = .ok (.iand, 1) := by decide +kernel
theorem dX1_isWholeAfter_31 : decode cX1_isWholeAfter 31 = .ok (.iconst 1, 1) := by decide +kernel
theorem dX1_isWholeAfter_32 : decode cX1_isWholeAfter 32 = .ok (.if_icmp .ne 8, 3) := by decide +kernel
theorem dX1_isWholeAfter_35 : decode cX1_isWholeAfter 35 = .ok (.bipush 31, 2) := by decide +kernel
theorem dX1_isWholeAfter_37 : decode cX1_isWholeAfter 37 = .ok (.goto 4, 3) := by decide +kernel
theorem dX1_isWholeAfter_40 : decode cX1_isWholeAfter 40 = .ok (.iconst 0, 1) := by decide +kernel
theorem dX1_isWholeAfter_41 : decode cX1_isWholeAfter 41 = .ok (.invokevirtual 150, 3) := by decide +kernel
theorem dX1_isWholeAfter_44 : decode cX1_isWholeAfter 44 = .ok (.iinc 4 1, 3) := by decide +kernel
theorem dX1_isWholeAfter_47 : decode cX1_isWholeAfter 47 = .ok (.goto (-33), 3) := by decide +kernel
theorem dX1_isWholeAfter_50 : decode cX1_isWholeAfter 50 = .ok (.aload_n 0, 1) := by decide +kernel
theorem dX1_isWholeAfter_51 : decode cX1_isWholeAfter 51 = .ok (.getfield 16, 3) := by decide +kernel
theorem dX1_isWholeAfter_54 : decode cX1_isWholeAfter 54 = .ok (.iload_n 1, 1) := by decide +kernel
theorem dX1_isWholeAfter_55 : decode cX1_isWholeAfter 55 = .ok (.invokevirtual 288, 3) := by decide +kernel
theorem dX1_isWholeAfter_58 : decode cX1_isWholeAfter 58 = .ok (.ireturn, 1) := by decide +kernel
theorem dX1_rowFitsMind_0 : decode cX1_rowFitsMind 0 = .ok (.aload_n 0, 1) := by decide +kernel
theorem dX1_rowFitsMind_1 : decode cX1_rowFitsMind 1 = .ok (.getfield 37, 3) := by decide +kernel
theorem dX1_rowFitsMind_4 : decode cX1_rowFitsMind 4 = .ok (.aload_n 0, 1) := by decide +kernel
theorem dX1_rowFitsMind_5 : decode cX1_rowFitsMind 5 = .ok (.getfield 16, 3) := by decide +kernel
theorem dX1_rowFitsMind_8 : decode cX1_rowFitsMind 8 = .ok (.getfield 203, 3) := by decide +kernel
theorem dX1_rowFitsMind_11 : decode cX1_rowFitsMind 11 = .ok (.if_icmp .le 5, 3) := by decide +kernel
theorem dX1_rowFitsMind_14 : decode cX1_rowFitsMind 14 = .ok (.iconst 0, 1) := by decide +kernel
theorem dX1_rowFitsMind_15 : decode cX1_rowFitsMind 15 = .ok (.ireturn, 1) := by decide +kernel
theorem dX1_rowFitsMind_16 : decode cX1_rowFitsMind 16 = .ok (.iconst 0, 1) := by decide +kernel
theorem dX1_rowFitsMind_17 : decode cX1_rowFitsMind 17 = .ok (.istore_n 1, 1) := by decide +kernel
theorem dX1_rowFitsMind_18 : decode cX1_rowFitsMind 18 = .ok (.iload_n 1, 1) := by decide +kernel
theorem dX1_rowFitsMind_19 : decode cX1_rowFitsMind 19 = .ok (.aload_n 0, 1) := by decide +kernel
theorem dX1_rowFitsMind_20 : decode cX1_rowFitsMind 20 = .ok (.getfield 37, 3) := by decide +kernel
theorem dX1_rowFitsMind_23 : decode cX1_rowFitsMind 23 = .ok (.if_icmp .ge 31, 3) := by decide +kernel
theorem dX1_rowFitsMind_26 : decode cX1_rowFitsMind 26 = .ok (.aload_n 0, 1) := by decide +kernel
theorem dX1_rowFitsMind_27 : decode cX1_rowFitsMind 27 = .ok (.getfield 16, 3) := by decide +kernel
theorem dX1_rowFitsMind_30 : decode cX1_rowFitsMind 30 = .ok (.iload_n 1, 1) := by decide +kernel
theorem dX1_rowFitsMind_31 : decode cX1_rowFitsMind 31 = .ok (.invokevirtual 109, 3) := by decide +kernel
theorem dX1_rowFitsMind_34 : decode cX1_rowFitsMind 34 = .ok (.invokestatic 135, 3) := by decide +kernel
theorem dX1_rowFitsMind_37 : decode cX1_rowFitsMind 37 = .ok (.aload_n 0, 1) := by decide +kernel
theorem dX1_rowFitsMind_38 : decode cX1_rowFitsMind 38 = .ok (.getfield 34, 3) := by decide +kernel
theorem dX1_rowFitsMind_41 : decode cX1_rowFitsMind 41 = .ok (.iload_n 1, 1) := by decide +kernel
theorem dX1_rowFitsMind_42 : decode cX1_rowFitsMind 42 = .ok (.iaload, 1) := by decide +kernel
theorem dX1_rowFitsMind_43 : decode cX1_rowFitsMind 43 = .ok (.if_icmp .eq 5, 3) := by decide +kernel
theorem dX1_rowFitsMind_46 : decode cX1_rowFitsMind 46 = .ok (.iconst 0, 1) := by decide +kernel
theorem dX1_rowFitsMind_47 : decode cX1_rowFitsMind 47 = .ok (.ireturn, 1) := by decide +kernel
theorem dX1_rowFitsMind_48 : decode cX1_rowFitsMind 48 = .ok (.iinc 1 1, 3) := by decide +kernel
theorem dX1_rowFitsMind_51 : decode cX1_rowFitsMind 51 = .ok (.goto (-33), 3) := by decide +kernel
theorem dX1_rowFitsMind_54 : decode cX1_rowFitsMind 54 = .ok (.iconst 1, 1) := by decide +kernel
theorem dX1_rowFitsMind_55 : decode cX1_rowFitsMind 55 = .ok (.ireturn, 1) := by decide +kernel
theorem dX1_power_0 : decode cX1_power 0 = .ok (.lconst 1, 1) := by decide +kernel
theorem dX1_power_1 : decode cX1_power 1 = .ok (.lstore_n 2, 1) := by decide +kernel
theorem dX1_power_2 : decode cX1_power 2 = .ok (.iconst 0, 1) := by decide +kernel
theorem dX1_power_3 : decode cX1_power 3 = .ok (.istore 4, 2) := by decide +kernel
theorem dX1_power_5 : decode cX1_power 5 = .ok (.iload 4, 2) := by decide +kernel
theorem dX1_power_7 : decode cX1_power 7 = .ok (.iload_n 1, 1) := by decide +kernel
theorem dX1_power_8 : decode cX1_power 8 = .ok (.if_icmp .ge 14, 3) := by decide +kernel
theorem dX1_power_11 : decode cX1_power 11 = .ok (.lload_n 2, 1) := by decide +kernel
theorem dX1_power_12 : decode cX1_power 12 = .ok (.iload_n 0, 1) := by decide +kernel
theorem dX1_power_13 : decode cX1_power 13 = .ok (.i2l, 1) := by decide +kernel
theorem dX1_power_14 : decode cX1_power 14 = .ok (.lmul, 1) := by decide +kernel
theorem dX1_power_15 : decode cX1_power 15 = .ok (.lstore_n 2, 1) := by decide +kernel
theorem dX1_power_16 : decode cX1_power 16 = .ok (.iinc 4 1, 3) := by decide +kernel
theorem dX1_power_19 : decode cX1_power 19 = .ok (.goto (-14), 3) := by decide +kernel
theorem dX1_power_22 : decode cX1_power 22 = .ok (.lload_n 2, 1) := by decide +kernel
theorem dX1_power_23 : decode cX1_power 23 = .ok (.lreturn, 1) := by decide +kernel
theorem dX1_partOf_0 : decode cX1_partOf 0 = .ok (.lload_n 0, 1) := by decide +kernel
theorem dX1_partOf_1 : decode cX1_partOf 1 = .ok (.lload_n 2, 1) := by decide +kernel
theorem dX1_partOf_2 : decode cX1_partOf 2 = .ok (.invokestatic 313, 3) := by decide +kernel
theorem dX1_partOf_5 : decode cX1_partOf 5 = .ok (.lstore 5, 2) := by decide +kernel
theorem dX1_partOf_7 : decode cX1_partOf 7 = .ok (.lload 5, 2) := by decide +kernel
theorem dX1_partOf_9 : decode cX1_partOf 9 = .ok (.lconst 0, 1) := by decide +kernel
theorem dX1_partOf_10 : decode cX1_partOf 10 = .ok (.lcmp, 1) := by decide +kernel
theorem dX1_partOf_11 : decode cX1_partOf 11 = .ok (.ifCond .ne 7, 3) := by decide +kernel
theorem dX1_partOf_14 : decode cX1_partOf 14 = .ok (.iload 4, 2) := by decide +kernel
theorem dX1_partOf_16 : decode cX1_partOf 16 = .ok (.i2l, 1) := by decide +kernel
theorem dX1_partOf_17 : decode cX1_partOf 17 = .ok (.lreturn, 1) := by decide +kernel
theorem dX1_partOf_18 : decode cX1_partOf 18 = .ok (.iload 4, 2) := by decide +kernel
theorem dX1_partOf_20 : decode cX1_partOf 20 = .ok (.ifCond .ne 7, 3) := by decide +kernel
theorem dX1_partOf_23 : decode cX1_partOf 23 = .ok (.lload_n 0, 1) := by decide +kernel
theorem dX1_partOf_24 : decode cX1_partOf 24 = .ok (.goto 4, 3) := by decide +kernel
theorem dX1_partOf_27 : decode cX1_partOf 27 = .ok (.lload_n 2, 1) := by decide +kernel
theorem dX1_partOf_28 : decode cX1_partOf 28 = .ok (.lload 5, 2) := by decide +kernel
theorem dX1_partOf_30 : decode cX1_partOf 30 = .ok (.ldiv, 1) := by decide +kernel
theorem dX1_partOf_31 : decode cX1_partOf 31 = .ok (.lreturn, 1) := by decide +kernel
theorem dX1_commonDivisor_0 : decode cX1_commonDivisor 0 = .ok (.lload_n 0, 1) := by decide +kernel
theorem dX1_commonDivisor_1 : decode cX1_commonDivisor 1 = .ok (.lstore 4, 2) := by decide +kernel
theorem dX1_commonDivisor_3 : decode cX1_commonDivisor 3 = .ok (.lload_n 2, 1) := by decide +kernel
theorem dX1_commonDivisor_4 : decode cX1_commonDivisor 4 = .ok (.lstore 6, 2) := by decide +kernel
theorem dX1_commonDivisor_6 : decode cX1_commonDivisor 6 = .ok (.iconst 0, 1) := by decide +kernel
theorem dX1_commonDivisor_7 : decode cX1_commonDivisor 7 = .ok (.istore 8, 2) := by decide +kernel
theorem dX1_commonDivisor_9 : decode cX1_commonDivisor 9 = .ok (.iload 8, 2) := by decide +kernel
theorem dX1_commonDivisor_11 : decode cX1_commonDivisor 11 = .ok (.sipush 1000, 3) := by decide +kernel
theorem dX1_commonDivisor_14 : decode cX1_commonDivisor 14 = .ok (.if_icmp .ge 31, 3) := by decide +kernel
theorem dX1_commonDivisor_17 : decode cX1_commonDivisor 17 = .ok (.lload 6, 2) := by decide +kernel
theorem dX1_commonDivisor_19 : decode cX1_commonDivisor 19 = .ok (.lconst 0, 1) := by decide +kernel
theorem dX1_commonDivisor_20 : decode cX1_commonDivisor 20 = .ok (.lcmp, 1) := by decide +kernel
theorem dX1_commonDivisor_21 : decode cX1_commonDivisor 21 = .ok (.ifCond .eq 24, 3) := by decide +kernel
theorem dX1_commonDivisor_24 : decode cX1_commonDivisor 24 = .ok (.lload 4, 2) := by decide +kernel
theorem dX1_commonDivisor_26 : decode cX1_commonDivisor 26 = .ok (.lload 6, 2) := by decide +kernel
theorem dX1_commonDivisor_28 : decode cX1_commonDivisor 28 = .ok (.lrem, 1) := by decide +kernel
theorem dX1_commonDivisor_29 : decode cX1_commonDivisor 29 = .ok (.lstore 9, 2) := by decide +kernel
theorem dX1_commonDivisor_31 : decode cX1_commonDivisor 31 = .ok (.lload 6, 2) := by decide +kernel
theorem dX1_commonDivisor_33 : decode cX1_commonDivisor 33 = .ok (.lstore 4, 2) := by decide +kernel
theorem dX1_commonDivisor_35 : decode cX1_commonDivisor 35 = .ok (.lload 9, 2) := by decide +kernel
theorem dX1_commonDivisor_37 : decode cX1_commonDivisor 37 = .ok (.lstore 6, 2) := by decide +kernel
theorem dX1_commonDivisor_39 : decode cX1_commonDivisor 39 = .ok (.iinc 8 1, 3) := by decide +kernel
theorem dX1_commonDivisor_42 : decode cX1_commonDivisor 42 = .ok (.goto (-33), 3) := by decide +kernel
theorem dX1_commonDivisor_45 : decode cX1_commonDivisor 45 = .ok (.lload 4, 2) := by decide +kernel
theorem dX1_commonDivisor_47 : decode cX1_commonDivisor 47 = .ok (.lreturn, 1) := by decide +kernel
theorem dX2_init_0 : decode cX2_init 0 = .ok (.aload_n 0, 1) := by decide +kernel
theorem dX2_init_1 : decode cX2_init 1 = .ok (.invokespecial 1, 3) := by decide +kernel
theorem dX2_init_4 : decode cX2_init 4 = .ok (.aload_n 0, 1) := by decide +kernel
theorem dX2_init_5 : decode cX2_init 5 = .ok (.bipush 81, 2) := by decide +kernel
theorem dX2_init_7 : decode cX2_init 7 = .ok (.newarray .int, 2) := by decide +kernel
theorem dX2_init_9 : decode cX2_init 9 = .ok (.putfield 9, 3) := by decide +kernel
theorem dX2_init_12 : decode cX2_init 12 = .ok (.aload_n 0, 1) := by decide +kernel
theorem dX2_init_13 : decode cX2_init 13 = .ok (.bipush 81, 2) := by decide +kernel
theorem dX2_init_15 : decode cX2_init 15 = .ok (.newarray .int, 2) := by decide +kernel
theorem dX2_init_17 : decode cX2_init 17 = .ok (.putfield 13, 3) := by decide +kernel
theorem dX2_init_20 : decode cX2_init 20 = .ok (.aload_n 0, 1) := by decide +kernel
theorem dX2_init_21 : decode cX2_init 21 = .ok (.bipush 81, 2) := by decide +kernel
theorem dX2_init_23 : decode cX2_init 23 = .ok (.newarray .int, 2) := by decide +kernel
theorem dX2_init_25 : decode cX2_init 25 = .ok (.putfield 16, 3) := by decide +kernel
theorem dX2_init_28 : decode cX2_init 28 = .ok (.aload_n 0, 1) := by decide +kernel
theorem dX2_init_29 : decode cX2_init 29 = .ok (.bipush 81, 2) := by decide +kernel
theorem dX2_init_31 : decode cX2_init 31 = .ok (.newarray .int, 2) := by decide +kernel
theorem dX2_init_33 : decode cX2_init 33 = .ok (.putfield 19, 3) := by decide +kernel
theorem dX2_init_36 : decode cX2_init 36 = .ok (.aload_n 0, 1) := by decide +kernel
theorem dX2_init_37 : decode cX2_init 37 = .ok (.bipush 96, 2) := by decide +kernel
theorem dX2_init_39 : decode cX2_init 39 = .ok (.newarray .int, 2) := by decide +kernel
theorem dX2_init_41 : decode cX2_init 41 = .ok (.putfield 22, 3) := by decide +kernel
theorem dX2_init_44 : decode cX2_init 44 = .ok (.aload_n 0, 1) := by decide +kernel
theorem dX2_init_45 : decode cX2_init 45 = .ok (.bipush 16, 2) := by decide +kernel
theorem dX2_init_47 : decode cX2_init 47 = .ok (.newarray .int, 2) := by decide +kernel
theorem dX2_init_49 : decode cX2_init 49 = .ok (.putfield 25, 3) := by decide +kernel
theorem dX2_init_52 : decode cX2_init 52 = .ok (.aload_n 0, 1) := by decide +kernel
theorem dX2_init_53 : decode cX2_init 53 = .ok (.bipush 7, 2) := by decide +kernel
theorem dX2_init_55 : decode cX2_init 55 = .ok (.newarray .int, 2) := by decide +kernel
theorem dX2_init_57 : decode cX2_init 57 = .ok (.putfield 28, 3) := by decide +kernel
theorem dX2_init_60 : decode cX2_init 60 = .ok (.aload_n 0, 1) := by decide +kernel
theorem dX2_init_61 : decode cX2_init 61 = .ok (.iconst 3, 1) := by decide +kernel
theorem dX2_init_62 : decode cX2_init 62 = .ok (.newarray .int, 2) := by decide +kernel
theorem dX2_init_64 : decode cX2_init 64 = .ok (.putfield 31, 3) := by decide +kernel
theorem dX2_init_67 : decode cX2_init 67 = .ok (.aload_n 0, 1) := by decide +kernel
theorem dX2_init_68 : decode cX2_init 68 = .ok (.getfield 9, 3) := by decide +kernel
theorem dX2_init_71 : decode cX2_init 71 = .ok (.iconst 3, 1) := by decide +kernel
theorem dX2_init_72 : decode cX2_init 72 = .ok (.bipush 100, 2) := by decide +kernel
theorem dX2_init_74 : decode cX2_init 74 = .ok (.iastore, 1) := by decide +kernel
theorem dX2_init_75 : decode cX2_init 75 = .ok (.aload_n 0, 1) := by decide +kernel
theorem dX2_init_76 : decode cX2_init 76 = .ok (.getfield 9, 3) := by decide +kernel
theorem dX2_init_79 : decode cX2_init 79 = .ok (.iconst 4, 1) := by decide +kernel
theorem dX2_init_80 : decode cX2_init 80 = .ok (.iconst 5, 1) := by decide +kernel
theorem dX2_init_81 : decode cX2_init 81 = .ok (.iastore, 1) := by decide +kernel
theorem dX2_init_82 : decode cX2_init 82 = .ok (.return_, 1) := by decide +kernel
theorem dX2_isIn_0 : decode cX2_isIn 0 = .ok (.iload_n 0, 1) := by decide +kernel
theorem dX2_isIn_1 : decode cX2_isIn 1 = .ok (.iload_n 1, 1) := by decide +kernel
theorem dX2_isIn_2 : decode cX2_isIn 2 = .ok (.if_icmp .lt 12, 3) := by decide +kernel
theorem dX2_isIn_5 : decode cX2_isIn 5 = .ok (.iload_n 0, 1) := by decide +kernel
theorem dX2_isIn_6 : decode cX2_isIn 6 = .ok (.iload_n 2, 1) := by decide +kernel
theorem dX2_isIn_7 : decode cX2_isIn 7 = .ok (.if_icmp .gt 7, 3) := by decide +kernel
theorem dX2_isIn_10 : decode cX2_isIn 10 = .ok (.iconst 1, 1) := by decide +kernel
theorem dX2_isIn_11 : decode cX2_isIn 11 = .ok (.goto 4, 3) := by decide +kernel
theorem dX2_isIn_14 : decode cX2_isIn 14 = .ok (.iconst 0, 1) := by decide +kernel
theorem dX2_isIn_15 : decode cX2_isIn 15 = .ok (.ireturn, 1) := by decide +kernel
theorem dX2_apart_0 : decode cX2_apart 0 = .ok (.iload_n 0, 1) := by decide +kernel
theorem dX2_apart_1 : decode cX2_apart 1 = .ok (.iload_n 1, 1) := by decide +kernel
theorem dX2_apart_2 : decode cX2_apart 2 = .ok (.if_icmp .ge 9, 3) := by decide +kernel
theorem dX2_apart_5 : decode cX2_apart 5 = .ok (.iload_n 1, 1) := by decide +kernel
theorem dX2_apart_6 : decode cX2_apart 6 = .ok (.iload_n 0, 1) := by decide +kernel
theorem dX2_apart_7 : decode cX2_apart 7 = .ok (.isub, 1) := by decide +kernel
theorem dX2_apart_8 : decode cX2_apart 8 = .ok (.goto 6, 3) := by decide +kernel
theorem dX2_apart_11 : decode cX2_apart 11 = .ok (.iload_n 0, 1) := by decide +kernel
theorem dX2_apart_12 : decode cX2_apart 12 = .ok (.iload_n 1, 1) := by decide +kernel
theorem dX2_apart_13 : decode cX2_apart 13 = .ok (.isub, 1) := by decide +kernel
theorem dX2_apart_14 : decode cX2_apart 14 = .ok (.ireturn, 1) := by decide +kernel
theorem dX2_copies_0 : decode cX2_copies 0 = .ok (.iconst 0, 1) := by decide +kernel
theorem dX2_copies_1 : decode cX2_copies 1 = .ok (.istore_n 2, 1) := by decide +kernel
theorem dX2_copies_2 : decode cX2_copies 2 = .ok (.iload_n 2, 1) := by decide +kernel
theorem dX2_copies_3 : decode cX2_copies 3 = .ok (.bipush 81, 2) := by decide +kernel
theorem dX2_copies_5 : decode cX2_copies 5 = .ok (.if_icmp .ge 15, 3) := by decide +kernel
theorem dX2_copies_8 : decode cX2_copies 8 = .ok (.aload_n 1, 1) := by decide +kernel
theorem dX2_copies_9 : decode cX2_copies 9 = .ok (.iload_n 2, 1) := by decide +kernel
theorem dX2_copies_10 : decode cX2_copies 10 = .ok (.aload_n 0, 1) := by decide +kernel
theorem dX2_copies_11 : decode cX2_copies 11 = .ok (.iload_n 2, 1) := by decide +kernel
theorem dX2_copies_12 : decode cX2_copies 12 = .ok (.iaload, 1) := by decide +kernel
theorem dX2_copies_13 : decode cX2_copies 13 = .ok (.iastore, 1) := by decide +kernel
theorem dX2_copies_14 : decode cX2_copies 14 = .ok (.iinc 2 1, 3) := by decide +kernel
theorem dX2_copies_17 : decode cX2_copies 17 = .ok (.goto (-15), 3) := by decide +kernel
theorem dX2_copies_20 : decode cX2_copies 20 = .ok (.return_, 1) := by decide +kernel
theorem dX2_no_0 : decode cX2_no 0 = .ok (.aload_n 0, 1) := by decide +kernel
theorem dX2_no_1 : decode cX2_no 1 = .ok (.getfield 28, 3) := by decide +kernel
theorem dX2_no_4 : decode cX2_no 4 = .ok (.iload_n 1, 1) := by decide +kernel
theorem dX2_no_5 : decode cX2_no 5 = .ok (.ineg, 1) := by decide +kernel
theorem dX2_no_6 : decode cX2_no 6 = .ok (.dup2, 1) := by decide +kernel
theorem dX2_no_7 : decode cX2_no 7 = .ok (.iaload, 1) := by decide +kernel
theorem dX2_no_8 : decode cX2_no 8 = .ok (.iconst 1, 1) := by decide +kernel
theorem dX2_no_9 : decode cX2_no 9 = .ok (.iadd, 1) := by decide +kernel
theorem dX2_no_10 : decode cX2_no 10 = .ok (.iastore, 1) := by decide +kernel
theorem dX2_no_11 : decode cX2_no 11 = .ok (.iload_n 1, 1) := by decide +kernel
theorem dX2_no_12 : decode cX2_no 12 = .ok (.ireturn, 1) := by decide +kernel
theorem dX2_noWide_0 : decode cX2_noWide 0 = .ok (.ldc2_w 34, 3) := by decide +kernel
theorem dX2_noWide_3 : decode cX2_noWide 3 = .ok (.aload_n 0, 1) := by decide +kernel
theorem dX2_noWide_4 : decode cX2_noWide 4 = .ok (.iload_n 1, 1) := by decide +kernel
theorem dX2_noWide_5 : decode cX2_noWide 5 = .ok (.invokevirtual 36, 3) := by decide +kernel
theorem dX2_noWide_8 : decode cX2_noWide 8 = .ok (.i2l, 1) := by decide +kernel
theorem dX2_noWide_9 : decode cX2_noWide 9 = .ok (.lsub, 1) := by decide +kernel
theorem dX2_noWide_10 : decode cX2_noWide 10 = .ok (.lreturn, 1) := by decide +kernel
theorem dX2_ofR_0 : decode cX2_ofR 0 = .ok (.iconst 5, 1) := by decide +kernel
theorem dX2_ofR_1 : decode cX2_ofR 1 = .ok (.iconst 4, 1) := by decide +kernel
theorem dX2_ofR_2 : decode cX2_ofR 2 = .ok (.iload_n 0, 1) := by decide +kernel
theorem dX2_ofR_3 : decode cX2_ofR 3 = .ok (.imul, 1) := by decide +kernel
theorem dX2_ofR_4 : decode cX2_ofR 4 = .ok (.iadd, 1) := by decide +kernel
theorem dX2_ofR_5 : decode cX2_ofR 5 = .ok (.iload_n 1, 1) := by decide +kernel
theorem dX2_ofR_6 : decode cX2_ofR 6 = .ok (.iadd, 1) := by decide +kernel
theorem dX2_ofR_7 : decode cX2_ofR 7 = .ok (.ireturn, 1) := by decide +kernel
theorem dX2_ofP_0 : decode cX2_ofP 0 = .ok (.bipush 41, 2) := by decide +kernel
theorem dX2_ofP_2 : decode cX2_ofP 2 = .ok (.bipush 8, 2) := by decide +kernel
theorem dX2_ofP_4 : decode cX2_ofP 4 = .ok (.iload_n 0, 1) := by decide +kernel
theorem dX2_ofP_5 : decode cX2_ofP 5 = .ok (.imul, 1) := by decide +kernel
theorem dX2_ofP_6 : decode cX2_ofP 6 = .ok (.iadd, 1) := by decide +kernel
theorem dX2_ofP_7 : decode cX2_ofP 7 = .ok (.iload_n 1, 1) := by decide +kernel
theorem dX2_ofP_8 : decode cX2_ofP 8 = .ok (.iadd, 1) := by decide +kernel
theorem dX2_ofP_9 : decode cX2_ofP 9 = .ok (.ireturn, 1) := by decide +kernel
theorem dX2_isRocket_0 : decode cX2_isRocket 0 = .ok (.iload_n 1, 1) := by decide +kernel
theorem dX2_isRocket_1 : decode cX2_isRocket 1 = .ok (.iconst 0, 1) := by decide +kernel
theorem dX2_isRocket_2 : decode cX2_isRocket 2 = .ok (.aload_n 0, 1) := by decide +kernel
theorem dX2_isRocket_3 : decode cX2_isRocket 3 = .ok (.getfield 9, 3) := by decide +kernel
theorem dX2_isRocket_6 : decode cX2_isRocket 6 = .ok (.iconst 0, 1) := by decide +kernel
theorem dX2_isRocket_7 : decode cX2_isRocket 7 = .ok (.iaload, 1) := by decide +kernel
theorem dX2_isRocket_8 : decode cX2_isRocket 8 = .ok (.iconst 1, 1) := by decide +kernel
theorem dX2_isRocket_9 : decode cX2_isRocket 9 = .ok (.isub, 1) := by decide +kernel
theorem dX2_isRocket_10 : decode cX2_isRocket 10 = .ok (.invokestatic 40, 3) := by decide +kernel
theorem dX2_isRocket_13 : decode cX2_isRocket 13 = .ok (.ireturn, 1) := by decide +kernel
theorem dX2_isReader_0 : decode cX2_isReader 0 = .ok (.iload_n 1, 1) := by decide +kernel
theorem dX2_isReader_1 : decode cX2_isReader 1 = .ok (.iconst 0, 1) := by decide +kernel
theorem dX2_isReader_2 : decode cX2_isReader 2 = .ok (.aload_n 0, 1) := by decide +kernel
theorem dX2_isReader_3 : decode cX2_isReader 3 = .ok (.getfield 9, 3) := by decide +kernel
theorem dX2_isReader_6 : decode cX2_isReader 6 = .ok (.iconst 1, 1) := by decide +kernel
theorem dX2_isReader_7 : decode cX2_isReader 7 = .ok (.iaload, 1) := by decide +kernel
theorem dX2_isReader_8 : decode cX2_isReader 8 = .ok (.iconst 1, 1) := by decide +kernel
theorem dX2_isReader_9 : decode cX2_isReader 9 = .ok (.isub, 1) := by decide +kernel
theorem dX2_isReader_10 : decode cX2_isReader 10 = .ok (.invokestatic 40, 3) := by decide +kernel
theorem dX2_isReader_13 : decode cX2_isReader 13 = .ok (.ireturn, 1) := by decide +kernel
theorem dX2_has_0 : decode cX2_has 0 = .ok (.iload_n 0, 1) := by decide +kernel
theorem dX2_has_1 : decode cX2_has 1 = .ok (.iload_n 1, 1) := by decide +kernel
theorem dX2_has_2 : decode cX2_has 2 = .ok (.ishr, 1) := by decide +kernel
theorem dX2_has_3 : decode cX2_has 3 = .ok (.iconst 1, 1) := by decide +kernel
theorem dX2_has_4 : decode cX2_has 4 = .ok (.iand, 1) := by decide +kernel
theorem dX2_has_5 : decode cX2_has 5 = .ok (.iconst 1, 1) := by decide +kernel
theorem dX2_has_6 : decode cX2_has 6 = .ok (.if_icmp .ne 7, 3) := by decide +kernel
theorem dX2_has_9 : decode cX2_has 9 = .ok (.iconst 1, 1) := by decide +kernel
theorem dX2_has_10 : decode cX2_has 10 = .ok (.goto 4, 3) := by decide +kernel
theorem dX2_has_13 : decode cX2_has 13 = .ok (.iconst 0, 1) := by decide +kernel
theorem dX2_has_14 : decode cX2_has 14 = .ok (.ireturn, 1) := by decide +kernel
theorem dX2_bits_0 : decode cX2_bits 0 = .ok (.iconst 0, 1) := by decide +kernel
theorem dX2_bits_1 : decode cX2_bits 1 = .ok (.istore_n 1, 1) := by decide +kernel
theorem dX2_bits_2 : decode cX2_bits 2 = .ok (.iconst 0, 1) := by decide +kernel
theorem dX2_bits_3 : decode cX2_bits 3 = .ok (.istore_n 2, 1) := by decide +kernel
theorem dX2_bits_4 : decode cX2_bits 4 = .ok (.iload_n 2, 1) := by decide +kernel
theorem dX2_bits_5 : decode cX2_bits 5 = .ok (.bipush 9, 2) := by decide +kernel
theorem dX2_bits_7 : decode cX2_bits 7 = .ok (.if_icmp .ge 17, 3) := by decide +kernel
theorem dX2_bits_10 : decode cX2_bits 10 = .ok (.iload_n 1, 1) := by decide +kernel
theorem dX2_bits_11 : decode cX2_bits 11 = .ok (.iload_n 0, 1) := by decide +kernel
theorem dX2_bits_12 : decode cX2_bits 12 = .ok (.iload_n 2, 1) := by decide +kernel
theorem dX2_bits_13 : decode cX2_bits 13 = .ok (.ishr, 1) := by decide +kernel
theorem dX2_bits_14 : decode cX2_bits 14 = .ok (.iconst 1, 1) := by decide +kernel
theorem dX2_bits_15 : decode cX2_bits 15 = .ok (.iand, 1) := by decide +kernel
theorem dX2_bits_16 : decode cX2_bits 16 = .ok (.iadd, 1) := by decide +kernel
theorem dX2_bits_17 : decode cX2_bits 17 = .ok (.istore_n 1, 1) := by decide +kernel
theorem dX2_bits_18 : decode cX2_bits 18 = .ok (.iinc 2 1, 3) := by decide +kernel
theorem dX2_bits_21 : decode cX2_bits 21 = .ok (.goto (-17), 3) := by decide +kernel
theorem dX2_bits_24 : decode cX2_bits 24 = .ok (.iload_n 1, 1) := by decide +kernel
theorem dX2_bits_25 : decode cX2_bits 25 = .ok (.ireturn, 1) := by decide +kernel
theorem dX2_costBy_0 : decode cX2_costBy 0 = .ok (.iload_n 0, 1) := by decide +kernel
theorem dX2_costBy_1 : decode cX2_costBy 1 = .ok (.tableswitch 48 1 5 #[35, 37, 40, 43, 45], 35) := by decide +kernel
theorem dX2_costBy_36 : decode cX2_costBy 36 = .ok (.iconst 1, 1) := by decide +kernel
theorem dX2_costBy_37 : decode cX2_costBy 37 = .ok (.ireturn, 1) := by decide +kernel
theorem dX2_costBy_38 : decode cX2_costBy 38 = .ok (.bipush 10, 2) := by decide +kernel
theorem dX2_costBy_40 : decode cX2_costBy 40 = .ok (.ireturn, 1) := by decide +kernel
theorem dX2_costBy_41 : decode cX2_costBy 41 = .ok (.bipush 11, 2) := by decide +kernel
theorem dX2_costBy_43 : decode cX2_costBy 43 = .ok (.ireturn, 1) := by decide +kernel
theorem dX2_costBy_44 : decode cX2_costBy 44 = .ok (.iconst 3, 1) := by decide +kernel
theorem dX2_costBy_45 : decode cX2_costBy 45 = .ok (.ireturn, 1) := by decide +kernel
theorem dX2_costBy_46 : decode cX2_costBy 46 = .ok (.bipush 21, 2) := by decide +kernel
theorem dX2_costBy_48 : decode cX2_costBy 48 = .ok (.ireturn, 1) := by decide +kernel
theorem dX2_costBy_49 : decode cX2_costBy 49 = .ok (.iconst 5, 1) := by decide +kernel
theorem dX2_costBy_50 : decode cX2_costBy 50 = .ok (.ireturn, 1) := by decide +kernel
theorem dX2_reachBy_0 : decode cX2_reachBy 0 = .ok (.iload_n 1, 1) := by decide +kernel
theorem dX2_reachBy_1 : decode cX2_reachBy 1 = .ok (.iconst 2, 1) := by decide +kernel
theorem dX2_reachBy_2 : decode cX2_reachBy 2 = .ok (.idiv, 1) := by decide +kernel
theorem dX2_reachBy_3 : decode cX2_reachBy 3 = .ok (.iconst 2, 1) := by decide +kernel
theorem dX2_reachBy_4 : decode cX2_reachBy 4 = .ok (.iadd, 1) := by decide +kernel
theorem dX2_reachBy_5 : decode cX2_reachBy 5 = .ok (.istore_n 2, 1) := by decide +kernel
theorem dX2_reachBy_6 : decode cX2_reachBy 6 = .ok (.iload_n 0, 1) := by decide +kernel
theorem dX2_reachBy_7 : decode cX2_reachBy 7 = .ok (.tableswitch 47 1 5 #[33, 37, 37, 33, 41], 33) := by decide +kernel
theorem dX2_reachBy_40 : decode cX2_reachBy 40 = .ok (.iload_n 2, 1) := by decide +kernel
theorem dX2_reachBy_41 : decode cX2_reachBy 41 = .ok (.iconst 2, 1) := by decide +kernel
theorem dX2_reachBy_42 : decode cX2_reachBy 42 = .ok (.idiv, 1) := by decide +kernel
theorem dX2_reachBy_43 : decode cX2_reachBy 43 = .ok (.ireturn, 1) := by decide +kernel
theorem dX2_reachBy_44 : decode cX2_reachBy 44 = .ok (.iload_n 2, 1) := by decide +kernel
theorem dX2_reachBy_45 : decode cX2_reachBy 45 = .ok (.iconst 3, 1) := by decide +kernel
theorem dX2_reachBy_46 : decode cX2_reachBy 46 = .ok (.iadd, 1) := by decide +kernel
theorem dX2_reachBy_47 : decode cX2_reachBy 47 = .ok (.ireturn, 1) := by decide +kernel
theorem dX2_reachBy_48 : decode cX2_reachBy 48 = .ok (.iconst 2, 1) := by decide +kernel
theorem dX2_reachBy_49 : decode cX2_reachBy 49 = .ok (.iload_n 2, 1) := by decide +kernel
theorem dX2_reachBy_50 : decode cX2_reachBy 50 = .ok (.iconst 3, 1) := by decide +kernel
theorem dX2_reachBy_51 : decode cX2_reachBy 51 = .ok (.iadd, 1) := by decide +kernel
theorem dX2_reachBy_52 : decode cX2_reachBy 52 = .ok (.imul, 1) := by decide +kernel
theorem dX2_reachBy_53 : decode cX2_reachBy 53 = .ok (.ireturn, 1) := by decide +kernel
theorem dX2_reachBy_54 : decode cX2_reachBy 54 = .ok (.iload_n 2, 1) := by decide +kernel
theorem dX2_reachBy_55 : decode cX2_reachBy 55 = .ok (.ireturn, 1) := by decide +kernel
theorem dX2_darkBy_0 : decode cX2_darkBy 0 = .ok (.iload_n 0, 1) := by decide +kernel
theorem dX2_darkBy_1 : decode cX2_darkBy 1 = .ok (.tableswitch 46 1 5 #[35, 40, 40, 37, 40], 35) := by decide +kernel
theorem dX2_darkBy_36 : decode cX2_darkBy 36 = .ok (.iconst 0, 1) := by decide +kernel
theorem dX2_darkBy_37 : decode cX2_darkBy 37 = .ok (.ireturn, 1) := by decide +kernel
theorem dX2_darkBy_38 : decode cX2_darkBy 38 = .ok (.bipush 9, 2) := by decide +kernel
theorem dX2_darkBy_40 : decode cX2_darkBy 40 = .ok (.ireturn, 1) := by decide +kernel
theorem dX2_darkBy_41 : decode cX2_darkBy 41 = .ok (.iconst 2, 1) := by decide +kernel
theorem dX2_darkBy_42 : decode cX2_darkBy 42 = .ok (.iload_n 1, 1) := by decide +kernel
theorem dX2_darkBy_43 : decode cX2_darkBy 43 = .ok (.iconst 1, 1) := by decide +kernel
theorem dX2_darkBy_44 : decode cX2_darkBy 44 = .ok (.iadd, 1) := by decide +kernel
theorem dX2_darkBy_45 : decode cX2_darkBy 45 = .ok (.imul, 1) := by decide +kernel
theorem dX2_darkBy_46 : decode cX2_darkBy 46 = .ok (.ireturn, 1) := by decide +kernel
theorem dX2_darkBy_47 : decode cX2_darkBy 47 = .ok (.iload_n 1, 1) := by decide +kernel
theorem dX2_darkBy_48 : decode cX2_darkBy 48 = .ok (.iconst 1, 1) := by decide +kernel
theorem dX2_darkBy_49 : decode cX2_darkBy 49 = .ok (.iadd, 1) := by decide +kernel
theorem dX2_darkBy_50 : decode cX2_darkBy 50 = .ok (.ireturn, 1) := by decide +kernel
theorem dX2_burstsAt_0 : decode cX2_burstsAt 0 = .ok (.aload_n 0, 1) := by decide +kernel
theorem dX2_burstsAt_1 : decode cX2_burstsAt 1 = .ok (.iload_n 1, 1) := by decide +kernel
theorem dX2_burstsAt_2 : decode cX2_burstsAt 2 = .ok (.iconst 0, 1) := by decide +kernel
theorem dX2_burstsAt_3 : decode cX2_burstsAt 3 = .ok (.invokestatic 44, 3) := by decide +kernel
theorem dX2_burstsAt_6 : decode cX2_burstsAt 6 = .ok (.iaload, 1) := by decide +kernel
theorem dX2_burstsAt_7 : decode cX2_burstsAt 7 = .ok (.istore_n 2, 1) := by decide +kernel
theorem dX2_burstsAt_8 : decode cX2_burstsAt 8 = .ok (.bipush 10, 2) := by decide +kernel
theorem dX2_burstsAt_10 : decode cX2_burstsAt 10 = .ok (.aload_n 0, 1) := by decide +kernel
theorem dX2_burstsAt_11 : decode cX2_burstsAt 11 = .ok (.iconst 4, 1) := by decide +kernel
theorem dX2_burstsAt_12 : decode cX2_burstsAt 12 = .ok (.iaload, 1) := by decide +kernel
theorem dX2_burstsAt_13 : decode cX2_burstsAt 13 = .ok (.iconst 5, 1) := by decide +kernel
theorem dX2_burstsAt_14 : decode cX2_burstsAt 14 = .ok (.isub, 1) := by decide +kernel
theorem dX2_burstsAt_15 : decode cX2_burstsAt 15 = .ok (.iload_n 2, 1) := by decide +kernel
theorem dX2_burstsAt_16 : decode cX2_burstsAt 16 = .ok (.iconst 3, 1) := by decide +kernel
theorem dX2_burstsAt_17 : decode cX2_burstsAt 17 = .ok (.if_icmp .eq 8, 3) := by decide +kernel
theorem dX2_burstsAt_20 : decode cX2_burstsAt 20 = .ok (.iload_n 2, 1) := by decide +kernel
theorem dX2_burstsAt_21 : decode cX2_burstsAt 21 = .ok (.iconst 5, 1) := by decide +kernel
theorem dX2_burstsAt_22 : decode cX2_burstsAt 22 = .ok (.if_icmp .ne 7, 3) := by decide +kernel
theorem dX2_burstsAt_25 : decode cX2_burstsAt 25 = .ok (.iconst 3, 1) := by decide +kernel
theorem dX2_burstsAt_26 : decode cX2_burstsAt 26 = .ok (.goto 4, 3) := by decide +kernel
theorem dX2_burstsAt_29 : decode cX2_burstsAt 29 = .ok (.iconst 1, 1) := by decide +kernel
theorem dX2_burstsAt_30 : decode cX2_burstsAt 30 = .ok (.imul, 1) := by decide +kernel
theorem dX2_burstsAt_31 : decode cX2_burstsAt 31 = .ok (.iadd, 1) := by decide +kernel
theorem dX2_burstsAt_32 : decode cX2_burstsAt 32 = .ok (.istore_n 3, 1) := by decide +kernel
theorem dX2_burstsAt_33 : decode cX2_burstsAt 33 = .ok (.iload_n 3, 1) := by decide +kernel
theorem dX2_burstsAt_34 : decode cX2_burstsAt 34 = .ok (.ifCond .ge 7, 3) := by decide +kernel
theorem dX2_burstsAt_37 : decode cX2_burstsAt 37 = .ok (.iconst 0, 1) := by decide +kernel
theorem dX2_burstsAt_38 : decode cX2_burstsAt 38 = .ok (.goto 15, 3) := by decide +kernel
theorem dX2_burstsAt_41 : decode cX2_burstsAt 41 = .ok (.iload_n 3, 1) := by decide +kernel
theorem dX2_burstsAt_42 : decode cX2_burstsAt 42 = .ok (.bipush 20, 2) := by decide +kernel
theorem dX2_burstsAt_44 : decode cX2_burstsAt 44 = .ok (.if_icmp .lt 8, 3) := by decide +kernel
theorem dX2_burstsAt_47 : decode cX2_burstsAt 47 = .ok (.bipush 19, 2) := by decide +kernel
theorem dX2_burstsAt_49 : decode cX2_burstsAt 49 = .ok (.goto 4, 3) := by decide +kernel
theorem dX2_burstsAt_52 : decode cX2_burstsAt 52 = .ok (.iload_n 3, 1) := by decide +kernel
theorem dX2_burstsAt_53 : decode cX2_burstsAt 53 = .ok (.ireturn, 1) := by decide +kernel
theorem dX2_isRead_0 : decode cX2_isRead 0 = .ok (.aload_n 0, 1) := by decide +kernel
theorem dX2_isRead_1 : decode cX2_isRead 1 = .ok (.iload_n 2, 1) := by decide +kernel
theorem dX2_isRead_2 : decode cX2_isRead 2 = .ok (.iconst 0, 1) := by decide +kernel
theorem dX2_isRead_3 : decode cX2_isRead 3 = .ok (.invokestatic 48, 3) := by decide +kernel
theorem dX2_isRead_6 : decode cX2_isRead 6 = .ok (.iaload, 1) := by decide +kernel
theorem dX2_isRead_7 : decode cX2_isRead 7 = .ok (.aload_n 0, 1) := by decide +kernel
theorem dX2_isRead_8 : decode cX2_isRead 8 = .ok (.iload_n 1, 1) := by decide +kernel
theorem dX2_isRead_9 : decode cX2_isRead 9 = .ok (.invokestatic 51, 3) := by decide +kernel
theorem dX2_isRead_12 : decode cX2_isRead 12 = .ok (.invokestatic 55, 3) := by decide +kernel
theorem dX2_isRead_15 : decode cX2_isRead 15 = .ok (.aload_n 0, 1) := by decide +kernel
theorem dX2_isRead_16 : decode cX2_isRead 16 = .ok (.iload_n 1, 1) := by decide +kernel
theorem dX2_isRead_17 : decode cX2_isRead 17 = .ok (.iconst 0, 1) := by decide +kernel
theorem dX2_isRead_18 : decode cX2_isRead 18 = .ok (.invokestatic 44, 3) := by decide +kernel
theorem dX2_isRead_21 : decode cX2_isRead 21 = .ok (.iaload, 1) := by decide +kernel
theorem dX2_isRead_22 : decode cX2_isRead 22 = .ok (.aload_n 0, 1) := by decide +kernel
theorem dX2_isRead_23 : decode cX2_isRead 23 = .ok (.iload_n 1, 1) := by decide +kernel
theorem dX2_isRead_24 : decode cX2_isRead 24 = .ok (.iconst 1, 1) := by decide +kernel
theorem dX2_isRead_25 : decode cX2_isRead 25 = .ok (.invokestatic 44, 3) := by decide +kernel
theorem dX2_isRead_28 : decode cX2_isRead 28 = .ok (.iaload, 1) := by decide +kernel
theorem dX2_isRead_29 : decode cX2_isRead 29 = .ok (.invokestatic 58, 3) := by decide +kernel
theorem dX2_isRead_32 : decode cX2_isRead 32 = .ok (.if_icmp .gt 7, 3) := by decide +kernel
theorem dX2_isRead_35 : decode cX2_isRead 35 = .ok (.iconst 1, 1) := by decide +kernel
theorem dX2_isRead_36 : decode cX2_isRead 36 = .ok (.goto 4, 3) := by decide +kernel
theorem dX2_isRead_39 : decode cX2_isRead 39 = .ok (.iconst 0, 1) := by decide +kernel
theorem dX2_isRead_40 : decode cX2_isRead 40 = .ok (.ireturn, 1) := by decide +kernel
theorem dX2_readers_0 : decode cX2_readers 0 = .ok (.iconst 0, 1) := by decide +kernel
theorem dX2_readers_1 : decode cX2_readers 1 = .ok (.istore_n 2, 1) := by decide +kernel
theorem dX2_readers_2 : decode cX2_readers 2 = .ok (.iconst 0, 1) := by decide +kernel
theorem dX2_readers_3 : decode cX2_readers 3 = .ok (.istore_n 3, 1) := by decide +kernel
theorem dX2_readers_4 : decode cX2_readers 4 = .ok (.iload_n 3, 1) := by decide +kernel
theorem dX2_readers_5 : decode cX2_readers 5 = .ok (.aload_n 0, 1) := by decide +kernel
theorem dX2_readers_6 : decode cX2_readers 6 = .ok (.iconst 1, 1) := by decide +kernel
theorem dX2_readers_7 : decode cX2_readers 7 = .ok (.iaload, 1) := by decide +kernel
theorem dX2_readers_8 : decode cX2_readers 8 = .ok (.if_icmp .ge 28, 3) := by decide +kernel
theorem dX2_readers_11 : decode cX2_readers 11 = .ok (.iload_n 2, 1) := by decide +kernel
theorem dX2_readers_12 : decode cX2_readers 12 = .ok (.aload_n 0, 1) := by decide +kernel
theorem dX2_readers_13 : decode cX2_readers 13 = .ok (.iload_n 1, 1) := by decide +kernel
theorem dX2_readers_14 : decode cX2_readers 14 = .ok (.iload_n 3, 1) := by decide +kernel
theorem dX2_readers_15 : decode cX2_readers 15 = .ok (.invokestatic 61, 3) := by decide +kernel
theorem dX2_readers_18 : decode cX2_readers 18 = .ok (.ifCond .eq 9, 3) := by decide +kernel
theorem dX2_readers_21 : decode cX2_readers 21 = .ok (.iconst 1, 1) := by decide +kernel
theorem dX2_readers_22 : decode cX2_readers 22 = .ok (.iload_n 3, 1) := by decide +kernel
theorem dX2_readers_23 : decode cX2_readers 23 = .ok (.ishl, 1) := by decide +kernel
theorem dX2_readers_24 : decode cX2_readers 24 = .ok (.goto 4, 3) := by decide +kernel
theorem dX2_readers_27 : decode cX2_readers 27 = .ok (.iconst 0, 1) := by decide +kernel
theorem dX2_readers_28 : decode cX2_readers 28 = .ok (.ior, 1) := by decide +kernel
theorem dX2_readers_29 : decode cX2_readers 29 = .ok (.istore_n 2, 1) := by decide +kernel
theorem dX2_readers_30 : decode cX2_readers 30 = .ok (.iinc 3 1, 3) := by decide +kernel
theorem dX2_readers_33 : decode cX2_readers 33 = .ok (.goto (-29), 3) := by decide +kernel
theorem dX2_readers_36 : decode cX2_readers 36 = .ok (.iload_n 2, 1) := by decide +kernel
theorem dX2_readers_37 : decode cX2_readers 37 = .ok (.ireturn, 1) := by decide +kernel
theorem dX2_bursts_0 : decode cX2_bursts 0 = .ok (.iconst 0, 1) := by decide +kernel
theorem dX2_bursts_1 : decode cX2_bursts 1 = .ok (.istore_n 3, 1) := by decide +kernel
theorem dX2_bursts_2 : decode cX2_bursts 2 = .ok (.iload_n 3, 1) := by decide +kernel
theorem dX2_bursts_3 : decode cX2_bursts 3 = .ok (.aload_n 0, 1) := by decide +kernel
theorem dX2_bursts_4 : decode cX2_bursts 4 = .ok (.iconst 1, 1) := by decide +kernel
theorem dX2_bursts_5 : decode cX2_bursts 5 = .ok (.iaload, 1) := by decide +kernel
theorem dX2_bursts_6 : decode cX2_bursts 6 = .ok (.if_icmp .ge 85, 3) := by decide +kernel
theorem dX2_bursts_9 : decode cX2_bursts 9 = .ok (.iload_n 2, 1) := by decide +kernel
theorem dX2_bursts_10 : decode cX2_bursts 10 = .ok (.iload_n 3, 1) := by decide +kernel
theorem dX2_bursts_11 : decode cX2_bursts 11 = .ok (.invokestatic 65, 3) := by decide +kernel
theorem dX2_bursts_14 : decode cX2_bursts 14 = .ok (.ifCond .eq 71, 3) := by decide +kernel
theorem dX2_bursts_17 : decode cX2_bursts 17 = .ok (.aload_n 0, 1) := by decide +kernel
theorem dX2_bursts_18 : decode cX2_bursts 18 = .ok (.iload_n 1, 1) := by decide +kernel
theorem dX2_bursts_19 : decode cX2_bursts 19 = .ok (.iload_n 3, 1) := by decide +kernel
theorem dX2_bursts_20 : decode cX2_bursts 20 = .ok (.invokestatic 61, 3) := by decide +kernel
theorem dX2_bursts_23 : decode cX2_bursts 23 = .ok (.ifCond .ne 6, 3) := by decide +kernel
theorem dX2_bursts_26 : decode cX2_bursts 26 = .ok (.goto 59, 3) := by decide +kernel
theorem dX2_bursts_29 : decode cX2_bursts 29 = .ok (.aload_n 0, 1) := by decide +kernel
theorem dX2_bursts_30 : decode cX2_bursts 30 = .ok (.iload_n 3, 1) := by decide +kernel
theorem dX2_bursts_31 : decode cX2_bursts 31 = .ok (.iconst 1, 1) := by decide +kernel
theorem dX2_bursts_32 : decode cX2_bursts 32 = .ok (.invokestatic 48, 3) := by decide +kernel
theorem dX2_bursts_35 : decode cX2_bursts 35 = .ok (.iaload, 1) := by decide +kernel
theorem dX2_bursts_36 : decode cX2_bursts 36 = .ok (.bipush 9, 2) := by decide +kernel
theorem dX2_bursts_38 : decode cX2_bursts 38 = .ok (.if_icmp .ne 8, 3) := by decide +kernel
theorem dX2_bursts_41 : decode cX2_bursts 41 = .ok (.bipush 99, 2) := by decide +kernel
theorem dX2_bursts_43 : decode cX2_bursts 43 = .ok (.goto 10, 3) := by decide +kernel
theorem dX2_bursts_46 : decode cX2_bursts 46 = .ok (.aload_n 0, 1) := by decide +kernel
theorem dX2_bursts_47 : decode cX2_bursts 47 = .ok (.iload_n 3, 1) := by decide +kernel
theorem dX2_bursts_48 : decode cX2_bursts 48 = .ok (.iconst 1, 1) := by decide +kernel
theorem dX2_bursts_49 : decode cX2_bursts 49 = .ok (.invokestatic 48, 3) := by decide +kernel
theorem dX2_bursts_52 : decode cX2_bursts 52 = .ok (.iaload, 1) := by decide +kernel
theorem dX2_bursts_53 : decode cX2_bursts 53 = .ok (.istore 4, 2) := by decide +kernel
theorem dX2_bursts_55 : decode cX2_bursts 55 = .ok (.iload_n 3, 1) := by decide +kernel
theorem dX2_bursts_56 : decode cX2_bursts 56 = .ok (.iconst 2, 1) := by decide +kernel
theorem dX2_bursts_57 : decode cX2_bursts 57 = .ok (.aload_n 0, 1) := by decide +kernel
theorem dX2_bursts_58 : decode cX2_bursts 58 = .ok (.iload_n 1, 1) := by decide +kernel
theorem dX2_bursts_59 : decode cX2_bursts 59 = .ok (.iconst 2, 1) := by decide +kernel
theorem dX2_bursts_60 : decode cX2_bursts 60 = .ok (.invokestatic 44, 3) := by decide +kernel
theorem dX2_bursts_63 : decode cX2_bursts 63 = .ok (.iaload, 1) := by decide +kernel
theorem dX2_bursts_64 : decode cX2_bursts 64 = .ok (.iadd, 1) := by decide +kernel
theorem dX2_bursts_65 : decode cX2_bursts 65 = .ok (.invokestatic 48, 3) := by decide +kernel
theorem dX2_bursts_68 : decode cX2_bursts 68 = .ok (.istore 5, 2) := by decide +kernel
theorem dX2_bursts_70 : decode cX2_bursts 70 = .ok (.iload 4, 2) := by decide +kernel
theorem dX2_bursts_72 : decode cX2_bursts 72 = .ok (.aload_n 0, 1) := by decide +kernel
theorem dX2_bursts_73 : decode cX2_bursts 73 = .ok (.iload 5, 2) := by decide +kernel
theorem dX2_bursts_75 : decode cX2_bursts 75 = .ok (.iaload, 1) := by decide +kernel
theorem dX2_bursts_76 : decode cX2_bursts 76 = .ok (.if_icmp .le 9, 3) := by decide +kernel
theorem dX2_bursts_79 : decode cX2_bursts 79 = .ok (.aload_n 0, 1) := by decide +kernel
theorem dX2_bursts_80 : decode cX2_bursts 80 = .ok (.iload 5, 2) := by decide +kernel
theorem dX2_bursts_82 : decode cX2_bursts 82 = .ok (.iload 4, 2) := by decide +kernel
theorem dX2_bursts_84 : decode cX2_bursts 84 = .ok (.iastore, 1) := by decide +kernel
theorem dX2_bursts_85 : decode cX2_bursts 85 = .ok (.iinc 3 1, 3) := by decide +kernel
theorem dX2_bursts_88 : decode cX2_bursts 88 = .ok (.goto (-86), 3) := by decide +kernel
theorem dX2_bursts_91 : decode cX2_bursts 91 = .ok (.return_, 1) := by decide +kernel
theorem dX2_canGo_0 : decode cX2_canGo 0 = .ok (.aload_n 0, 1) := by decide +kernel
theorem dX2_canGo_1 : decode cX2_canGo 1 = .ok (.iload_n 1, 1) := by decide +kernel
theorem dX2_canGo_2 : decode cX2_canGo 2 = .ok (.iconst 3, 1) := by decide +kernel
theorem dX2_canGo_3 : decode cX2_canGo 3 = .ok (.invokestatic 44, 3) := by decide +kernel
theorem dX2_canGo_6 : decode cX2_canGo 6 = .ok (.iaload, 1) := by decide +kernel
theorem dX2_canGo_7 : decode cX2_canGo 7 = .ok (.ifCond .ne 23, 3) := by decide +kernel
theorem dX2_canGo_10 : decode cX2_canGo 10 = .ok (.aload_n 0, 1) := by decide +kernel
theorem dX2_canGo_11 : decode cX2_canGo 11 = .ok (.iconst 3, 1) := by decide +kernel
theorem dX2_canGo_12 : decode cX2_canGo 12 = .ok (.iaload, 1) := by decide +kernel
theorem dX2_canGo_13 : decode cX2_canGo 13 = .ok (.aload_n 0, 1) := by decide +kernel
theorem dX2_canGo_14 : decode cX2_canGo 14 = .ok (.iload_n 1, 1) := by decide +kernel
theorem dX2_canGo_15 : decode cX2_canGo 15 = .ok (.iconst 0, 1) := by decide +kernel
theorem dX2_canGo_16 : decode cX2_canGo 16 = .ok (.invokestatic 44, 3) := by decide +kernel
theorem dX2_canGo_19 : decode cX2_canGo 19 = .ok (.iaload, 1) := by decide +kernel
theorem dX2_canGo_20 : decode cX2_canGo 20 = .ok (.invokestatic 69, 3) := by decide +kernel
theorem dX2_canGo_23 : decode cX2_canGo 23 = .ok (.if_icmp .lt 7, 3) := by decide +kernel
theorem dX2_canGo_26 : decode cX2_canGo 26 = .ok (.iconst 1, 1) := by decide +kernel
theorem dX2_canGo_27 : decode cX2_canGo 27 = .ok (.goto 4, 3) := by decide +kernel
theorem dX2_canGo_30 : decode cX2_canGo 30 = .ok (.iconst 0, 1) := by decide +kernel
theorem dX2_canGo_31 : decode cX2_canGo 31 = .ok (.ireturn, 1) := by decide +kernel
theorem dX2_sendsIn_0 : decode cX2_sendsIn 0 = .ok (.aload_n 0, 1) := by decide +kernel
theorem dX2_sendsIn_1 : decode cX2_sendsIn 1 = .ok (.iconst 3, 1) := by decide +kernel
theorem dX2_sendsIn_2 : decode cX2_sendsIn 2 = .ok (.dup2, 1) := by decide +kernel
theorem dX2_sendsIn_3 : decode cX2_sendsIn 3 = .ok (.iaload, 1) := by decide +kernel
theorem dX2_sendsIn_4 : decode cX2_sendsIn 4 = .ok (.aload_n 0, 1) := by decide +kernel
theorem dX2_sendsIn_5 : decode cX2_sendsIn 5 = .ok (.iload_n 1, 1) := by decide +kernel
theorem dX2_sendsIn_6 : decode cX2_sendsIn 6 = .ok (.iconst 0, 1) := by decide +kernel
theorem dX2_sendsIn_7 : decode cX2_sendsIn 7 = .ok (.invokestatic 44, 3) := by decide +kernel
theorem dX2_sendsIn_10 : decode cX2_sendsIn 10 = .ok (.iaload, 1) := by decide +kernel
theorem dX2_sendsIn_11 : decode cX2_sendsIn 11 = .ok (.invokestatic 69, 3) := by decide +kernel
theorem dX2_sendsIn_14 : decode cX2_sendsIn 14 = .ok (.isub, 1) := by decide +kernel
theorem dX2_sendsIn_15 : decode cX2_sendsIn 15 = .ok (.iastore, 1) := by decide +kernel
theorem dX2_sendsIn_16 : decode cX2_sendsIn 16 = .ok (.aload_n 0, 1) := by decide +kernel
theorem dX2_sendsIn_17 : decode cX2_sendsIn 17 = .ok (.iload_n 1, 1) := by decide +kernel
theorem dX2_sendsIn_18 : decode cX2_sendsIn 18 = .ok (.iconst 3, 1) := by decide +kernel
theorem dX2_sendsIn_19 : decode cX2_sendsIn 19 = .ok (.invokestatic 44, 3) := by decide +kernel
theorem dX2_sendsIn_22 : decode cX2_sendsIn 22 = .ok (.iconst 1, 1) := by decide +kernel
theorem dX2_sendsIn_23 : decode cX2_sendsIn 23 = .ok (.iastore, 1) := by decide +kernel
theorem dX2_sendsIn_24 : decode cX2_sendsIn 24 = .ok (.aload_n 0, 1) := by decide +kernel
theorem dX2_sendsIn_25 : decode cX2_sendsIn 25 = .ok (.iload_n 1, 1) := by decide +kernel
theorem dX2_sendsIn_26 : decode cX2_sendsIn 26 = .ok (.iload_n 2, 1) := by decide +kernel
theorem dX2_sendsIn_27 : decode cX2_sendsIn 27 = .ok (.invokestatic 72, 3) := by decide +kernel
theorem dX2_sendsIn_30 : decode cX2_sendsIn 30 = .ok (.return_, 1) := by decide +kernel
theorem dX2_nextOf_0 : decode cX2_nextOf 0 = .ok (.iconst 0, 1) := by decide +kernel
theorem dX2_nextOf_1 : decode cX2_nextOf 1 = .ok (.istore_n 1, 1) := by decide +kernel
theorem dX2_nextOf_2 : decode cX2_nextOf 2 = .ok (.iload_n 1, 1) := by decide +kernel
theorem dX2_nextOf_3 : decode cX2_nextOf 3 = .ok (.aload_n 0, 1) := by decide +kernel
theorem dX2_nextOf_4 : decode cX2_nextOf 4 = .ok (.iconst 0, 1) := by decide +kernel
theorem dX2_nextOf_5 : decode cX2_nextOf 5 = .ok (.iaload, 1) := by decide +kernel
theorem dX2_nextOf_6 : decode cX2_nextOf 6 = .ok (.if_icmp .ge 19, 3) := by decide +kernel
theorem dX2_nextOf_9 : decode cX2_nextOf 9 = .ok (.aload_n 0, 1) := by decide +kernel
theorem dX2_nextOf_10 : decode cX2_nextOf 10 = .ok (.iload_n 1, 1) := by decide +kernel
theorem dX2_nextOf_11 : decode cX2_nextOf 11 = .ok (.invokestatic 76, 3) := by decide +kernel
theorem dX2_nextOf_14 : decode cX2_nextOf 14 = .ok (.ifCond .eq 5, 3) := by decide +kernel
theorem dX2_nextOf_17 : decode cX2_nextOf 17 = .ok (.iload_n 1, 1) := by decide +kernel
theorem dX2_nextOf_18 : decode cX2_nextOf 18 = .ok (.ireturn, 1) := by decide +kernel
theorem dX2_nextOf_19 : decode cX2_nextOf 19 = .ok (.iinc 1 1, 3) := by decide +kernel
theorem dX2_nextOf_22 : decode cX2_nextOf 22 = .ok (.goto (-20), 3) := by decide +kernel
theorem dX2_nextOf_25 : decode cX2_nextOf 25 = .ok (.bipush (-9), 2) := by decide +kernel
theorem dX2_nextOf_27 : decode cX2_nextOf 27 = .ok (.ireturn, 1) := by decide +kernel
theorem dX2_night_0 : decode cX2_night 0 = .ok (.aload_n 0, 1) := by decide +kernel
theorem dX2_night_1 : decode cX2_night 1 = .ok (.iconst 2, 1) := by decide +kernel
theorem dX2_night_2 : decode cX2_night 2 = .ok (.dup2, 1) := by decide +kernel
theorem dX2_night_3 : decode cX2_night 3 = .ok (.iaload, 1) := by decide +kernel
theorem dX2_night_4 : decode cX2_night 4 = .ok (.iconst 1, 1) := by decide +kernel
theorem dX2_night_5 : decode cX2_night 5 = .ok (.iadd, 1) := by decide +kernel
theorem dX2_night_6 : decode cX2_night 6 = .ok (.iastore, 1) := by decide +kernel
theorem dX2_night_7 : decode cX2_night 7 = .ok (.iconst 0, 1) := by decide +kernel
theorem dX2_night_8 : decode cX2_night 8 = .ok (.istore_n 2, 1) := by decide +kernel
theorem dX2_night_9 : decode cX2_night 9 = .ok (.iload_n 2, 1) := by decide +kernel
theorem dX2_night_10 : decode cX2_night 10 = .ok (.aload_n 0, 1) := by decide +kernel
theorem dX2_night_11 : decode cX2_night 11 = .ok (.iconst 1, 1) := by decide +kernel
theorem dX2_night_12 : decode cX2_night 12 = .ok (.iaload, 1) := by decide +kernel
theorem dX2_night_13 : decode cX2_night 13 = .ok (.if_icmp .ge 56, 3) := by decide +kernel
theorem dX2_night_16 : decode cX2_night 16 = .ok (.iconst 0, 1) := by decide +kernel
theorem dX2_night_17 : decode cX2_night 17 = .ok (.istore_n 3, 1) := by decide +kernel
theorem dX2_night_18 : decode cX2_night 18 = .ok (.iload_n 3, 1) := by decide +kernel
theorem dX2_night_19 : decode cX2_night 19 = .ok (.bipush 6, 2) := by decide +kernel
theorem dX2_night_21 : decode cX2_night 21 = .ok (.if_icmp .ge 42, 3) := by decide +kernel
theorem dX2_night_24 : decode cX2_night 24 = .ok (.iload_n 2, 1) := by decide +kernel
theorem dX2_night_25 : decode cX2_night 25 = .ok (.iconst 2, 1) := by decide +kernel
theorem dX2_night_26 : decode cX2_night 26 = .ok (.iload_n 3, 1) := by decide +kernel
theorem dX2_night_27 : decode cX2_night 27 = .ok (.iadd, 1) := by decide +kernel
theorem dX2_night_28 : decode cX2_night 28 = .ok (.invokestatic 48, 3) := by decide +kernel
theorem dX2_night_31 : decode cX2_night 31 = .ok (.istore 4, 2) := by decide +kernel
theorem dX2_night_33 : decode cX2_night 33 = .ok (.aload_n 0, 1) := by decide +kernel
theorem dX2_night_34 : decode cX2_night 34 = .ok (.iload 4, 2) := by decide +kernel
theorem dX2_night_36 : decode cX2_night 36 = .ok (.iaload, 1) := by decide +kernel
theorem dX2_night_37 : decode cX2_night 37 = .ok (.ifCond .le 20, 3) := by decide +kernel
theorem dX2_night_40 : decode cX2_night 40 = .ok (.aload_n 0, 1) := by decide +kernel
theorem dX2_night_41 : decode cX2_night 41 = .ok (.iload 4, 2) := by decide +kernel
theorem dX2_night_43 : decode cX2_night 43 = .ok (.iaload, 1) := by decide +kernel
theorem dX2_night_44 : decode cX2_night 44 = .ok (.bipush 99, 2) := by decide +kernel
theorem dX2_night_46 : decode cX2_night 46 = .ok (.if_icmp .ge 11, 3) := by decide +kernel
theorem dX2_night_49 : decode cX2_night 49 = .ok (.aload_n 0, 1) := by decide +kernel
theorem dX2_night_50 : decode cX2_night 50 = .ok (.iload 4, 2) := by decide +kernel
theorem dX2_night_52 : decode cX2_night 52 = .ok (.dup2, 1) := by decide +kernel
theorem dX2_night_53 : decode cX2_night 53 = .ok (.iaload, 1) := by decide +kernel
theorem dX2_night_54 : decode cX2_night 54 = .ok (.iconst 1, 1) := by decide +kernel
theorem dX2_night_55 : decode cX2_night 55 = .ok (.isub, 1) := by decide +kernel
theorem dX2_night_56 : decode cX2_night 56 = .ok (.iastore, 1) := by decide +kernel
theorem dX2_night_57 : decode cX2_night 57 = .ok (.iinc 3 1, 3) := by decide +kernel
theorem dX2_night_60 : decode cX2_night 60 = .ok (.goto (-42), 3) := by decide +kernel
theorem dX2_night_63 : decode cX2_night 63 = .ok (.iinc 2 1, 3) := by decide +kernel
theorem dX2_night_66 : decode cX2_night 66 = .ok (.goto (-57), 3) := by decide +kernel
theorem dX2_night_69 : decode cX2_night 69 = .ok (.aload_n 0, 1) := by decide +kernel
theorem dX2_night_70 : decode cX2_night 70 = .ok (.invokestatic 80, 3) := by decide +kernel
theorem dX2_night_73 : decode cX2_night 73 = .ok (.istore_n 2, 1) := by decide +kernel
theorem dX2_night_74 : decode cX2_night 74 = .ok (.iload_n 2, 1) := by decide +kernel
theorem dX2_night_75 : decode cX2_night 75 = .ok (.ifCond .lt 9, 3) := by decide +kernel
theorem dX2_night_78 : decode cX2_night 78 = .ok (.aload_n 0, 1) := by decide +kernel
theorem dX2_night_79 : decode cX2_night 79 = .ok (.iload_n 2, 1) := by decide +kernel
theorem dX2_night_80 : decode cX2_night 80 = .ok (.iload_n 1, 1) := by decide +kernel
theorem dX2_night_81 : decode cX2_night 81 = .ok (.invokestatic 84, 3) := by decide +kernel
theorem dX2_night_84 : decode cX2_night 84 = .ok (.return_, 1) := by decide +kernel
theorem dX2_nightsOn_0 : decode cX2_nightsOn 0 = .ok (.iconst 0, 1) := by decide +kernel
theorem dX2_nightsOn_1 : decode cX2_nightsOn 1 = .ok (.istore_n 3, 1) := by decide +kernel
theorem dX2_nightsOn_2 : decode cX2_nightsOn 2 = .ok (.iload_n 3, 1) := by decide +kernel
theorem dX2_nightsOn_3 : decode cX2_nightsOn 3 = .ok (.iload_n 1, 1) := by decide +kernel
theorem dX2_nightsOn_4 : decode cX2_nightsOn 4 = .ok (.if_icmp .ge 14, 3) := by decide +kernel
theorem dX2_nightsOn_7 : decode cX2_nightsOn 7 = .ok (.aload_n 0, 1) := by decide +kernel
theorem dX2_nightsOn_8 : decode cX2_nightsOn 8 = .ok (.iload_n 2, 1) := by decide +kernel
theorem dX2_nightsOn_9 : decode cX2_nightsOn 9 = .ok (.invokestatic 87, 3) := by decide +kernel
theorem dX2_nightsOn_12 : decode cX2_nightsOn 12 = .ok (.iinc 3 1, 3) := by decide +kernel
theorem dX2_nightsOn_15 : decode cX2_nightsOn 15 = .ok (.goto (-13), 3) := by decide +kernel
theorem dX2_nightsOn_18 : decode cX2_nightsOn 18 = .ok (.return_, 1) := by decide +kernel
theorem dX2_wordsOf_0 : decode cX2_wordsOf 0 = .ok (.iconst 0, 1) := by decide +kernel
theorem dX2_wordsOf_1 : decode cX2_wordsOf 1 = .ok (.istore_n 2, 1) := by decide +kernel
theorem dX2_wordsOf_2 : decode cX2_wordsOf 2 = .ok (.iconst 0, 1) := by decide +kernel
theorem dX2_wordsOf_3 : decode cX2_wordsOf 3 = .ok (.istore_n 3, 1) := by decide +kernel
theorem dX2_wordsOf_4 : decode cX2_wordsOf 4 = .ok (.iload_n 3, 1) := by decide +kernel
theorem dX2_wordsOf_5 : decode cX2_wordsOf 5 = .ok (.bipush 6, 2) := by decide +kernel
theorem dX2_wordsOf_7 : decode cX2_wordsOf 7 = .ok (.if_icmp .ge 31, 3) := by decide +kernel
theorem dX2_wordsOf_10 : decode cX2_wordsOf 10 = .ok (.iload_n 2, 1) := by decide +kernel
theorem dX2_wordsOf_11 : decode cX2_wordsOf 11 = .ok (.aload_n 0, 1) := by decide +kernel
theorem dX2_wordsOf_12 : decode cX2_wordsOf 12 = .ok (.iload_n 1, 1) := by decide +kernel
theorem dX2_wordsOf_13 : decode cX2_wordsOf 13 = .ok (.iconst 2, 1) := by decide +kernel
theorem dX2_wordsOf_14 : decode cX2_wordsOf 14 = .ok (.iload_n 3, 1) := by decide +kernel
theorem dX2_wordsOf_15 : decode cX2_wordsOf 15 = .ok (.iadd, 1) := by decide +kernel
theorem dX2_wordsOf_16 : decode cX2_wordsOf 16 = .ok (.invokestatic 48, 3) := by decide +kernel
end
section
theorem dX2_wordsOf_19 : decode cX2_wordsOf 19 = .ok (.iaload, 1) := by decide +kernel
theorem dX2_wordsOf_20 : decode cX2_wordsOf 20 = .ok (.ifCond .le 9, 3) := by decide +kernel
theorem dX2_wordsOf_23 : decode cX2_wordsOf 23 = .ok (.iconst 1, 1) := by decide +kernel
theorem dX2_wordsOf_24 : decode cX2_wordsOf 24 = .ok (.iload_n 3, 1) := by decide +kernel
theorem dX2_wordsOf_25 : decode cX2_wordsOf 25 = .ok (.ishl, 1) := by decide +kernel
theorem dX2_wordsOf_26 : decode cX2_wordsOf 26 = .ok (.goto 4, 3) := by decide +kernel
theorem dX2_wordsOf_29 : decode cX2_wordsOf 29 = .ok (.iconst 0, 1) := by decide +kernel
theorem dX2_wordsOf_30 : decode cX2_wordsOf 30 = .ok (.ior, 1) := by decide +kernel
theorem dX2_wordsOf_31 : decode cX2_wordsOf 31 = .ok (.istore_n 2, 1) := by decide +kernel
theorem dX2_wordsOf_32 : decode cX2_wordsOf 32 = .ok (.iinc 3 1, 3) := by decide +kernel
theorem dX2_wordsOf_35 : decode cX2_wordsOf 35 = .ok (.goto (-31), 3) := by decide +kernel
theorem dX2_wordsOf_38 : decode cX2_wordsOf 38 = .ok (.iload_n 2, 1) := by decide +kernel
theorem dX2_wordsOf_39 : decode cX2_wordsOf 39 = .ok (.ireturn, 1) := by decide +kernel
theorem dX2_allWords_0 : decode cX2_allWords 0 = .ok (.iconst 0, 1) := by decide +kernel
theorem dX2_allWords_1 : decode cX2_allWords 1 = .ok (.istore_n 1, 1) := by decide +kernel
theorem dX2_allWords_2 : decode cX2_allWords 2 = .ok (.iconst 0, 1) := by decide +kernel
theorem dX2_allWords_3 : decode cX2_allWords 3 = .ok (.istore_n 2, 1) := by decide +kernel
theorem dX2_allWords_4 : decode cX2_allWords 4 = .ok (.iload_n 2, 1) := by decide +kernel
theorem dX2_allWords_5 : decode cX2_allWords 5 = .ok (.aload_n 0, 1) := by decide +kernel
theorem dX2_allWords_6 : decode cX2_allWords 6 = .ok (.iconst 1, 1) := by decide +kernel
theorem dX2_allWords_7 : decode cX2_allWords 7 = .ok (.iaload, 1) := by decide +kernel
theorem dX2_allWords_8 : decode cX2_allWords 8 = .ok (.if_icmp .ge 20, 3) := by decide +kernel
theorem dX2_allWords_11 : decode cX2_allWords 11 = .ok (.iload_n 1, 1) := by decide +kernel
theorem dX2_allWords_12 : decode cX2_allWords 12 = .ok (.aload_n 0, 1) := by decide +kernel
theorem dX2_allWords_13 : decode cX2_allWords 13 = .ok (.iload_n 2, 1) := by decide +kernel
theorem dX2_allWords_14 : decode cX2_allWords 14 = .ok (.invokestatic 91, 3) := by decide +kernel
theorem dX2_allWords_17 : decode cX2_allWords 17 = .ok (.invokestatic 94, 3) := by decide +kernel
theorem dX2_allWords_20 : decode cX2_allWords 20 = .ok (.iadd, 1) := by decide +kernel
theorem dX2_allWords_21 : decode cX2_allWords 21 = .ok (.istore_n 1, 1) := by decide +kernel
theorem dX2_allWords_22 : decode cX2_allWords 22 = .ok (.iinc 2 1, 3) := by decide +kernel
theorem dX2_allWords_25 : decode cX2_allWords 25 = .ok (.goto (-21), 3) := by decide +kernel
theorem dX2_allWords_28 : decode cX2_allWords 28 = .ok (.iload_n 1, 1) := by decide +kernel
theorem dX2_allWords_29 : decode cX2_allWords 29 = .ok (.ireturn, 1) := by decide +kernel
theorem dX2_wholeOnes_0 : decode cX2_wholeOnes 0 = .ok (.iconst 0, 1) := by decide +kernel
theorem dX2_wholeOnes_1 : decode cX2_wholeOnes 1 = .ok (.istore_n 1, 1) := by decide +kernel
theorem dX2_wholeOnes_2 : decode cX2_wholeOnes 2 = .ok (.iconst 0, 1) := by decide +kernel
theorem dX2_wholeOnes_3 : decode cX2_wholeOnes 3 = .ok (.istore_n 2, 1) := by decide +kernel
theorem dX2_wholeOnes_4 : decode cX2_wholeOnes 4 = .ok (.iload_n 2, 1) := by decide +kernel
theorem dX2_wholeOnes_5 : decode cX2_wholeOnes 5 = .ok (.aload_n 0, 1) := by decide +kernel
theorem dX2_wholeOnes_6 : decode cX2_wholeOnes 6 = .ok (.iconst 1, 1) := by decide +kernel
theorem dX2_wholeOnes_7 : decode cX2_wholeOnes 7 = .ok (.iaload, 1) := by decide +kernel
theorem dX2_wholeOnes_8 : decode cX2_wholeOnes 8 = .ok (.if_icmp .ge 27, 3) := by decide +kernel
theorem dX2_wholeOnes_11 : decode cX2_wholeOnes 11 = .ok (.iload_n 1, 1) := by decide +kernel
theorem dX2_wholeOnes_12 : decode cX2_wholeOnes 12 = .ok (.aload_n 0, 1) := by decide +kernel
theorem dX2_wholeOnes_13 : decode cX2_wholeOnes 13 = .ok (.iload_n 2, 1) := by decide +kernel
theorem dX2_wholeOnes_14 : decode cX2_wholeOnes 14 = .ok (.invokestatic 91, 3) := by decide +kernel
theorem dX2_wholeOnes_17 : decode cX2_wholeOnes 17 = .ok (.bipush 63, 2) := by decide +kernel
theorem dX2_wholeOnes_19 : decode cX2_wholeOnes 19 = .ok (.if_icmp .ne 7, 3) := by decide +kernel
theorem dX2_wholeOnes_22 : decode cX2_wholeOnes 22 = .ok (.iconst 1, 1) := by decide +kernel
theorem dX2_wholeOnes_23 : decode cX2_wholeOnes 23 = .ok (.goto 4, 3) := by decide +kernel
theorem dX2_wholeOnes_26 : decode cX2_wholeOnes 26 = .ok (.iconst 0, 1) := by decide +kernel
theorem dX2_wholeOnes_27 : decode cX2_wholeOnes 27 = .ok (.iadd, 1) := by decide +kernel
theorem dX2_wholeOnes_28 : decode cX2_wholeOnes 28 = .ok (.istore_n 1, 1) := by decide +kernel
theorem dX2_wholeOnes_29 : decode cX2_wholeOnes 29 = .ok (.iinc 2 1, 3) := by decide +kernel
theorem dX2_wholeOnes_32 : decode cX2_wholeOnes 32 = .ok (.goto (-28), 3) := by decide +kernel
theorem dX2_wholeOnes_35 : decode cX2_wholeOnes 35 = .ok (.iload_n 1, 1) := by decide +kernel
theorem dX2_wholeOnes_36 : decode cX2_wholeOnes 36 = .ok (.ireturn, 1) := by decide +kernel
theorem dX2_sentIn_0 : decode cX2_sentIn 0 = .ok (.iconst 0, 1) := by decide +kernel
theorem dX2_sentIn_1 : decode cX2_sentIn 1 = .ok (.istore_n 1, 1) := by decide +kernel
theorem dX2_sentIn_2 : decode cX2_sentIn 2 = .ok (.iconst 0, 1) := by decide +kernel
theorem dX2_sentIn_3 : decode cX2_sentIn 3 = .ok (.istore_n 2, 1) := by decide +kernel
theorem dX2_sentIn_4 : decode cX2_sentIn 4 = .ok (.iload_n 2, 1) := by decide +kernel
theorem dX2_sentIn_5 : decode cX2_sentIn 5 = .ok (.aload_n 0, 1) := by decide +kernel
theorem dX2_sentIn_6 : decode cX2_sentIn 6 = .ok (.iconst 0, 1) := by decide +kernel
theorem dX2_sentIn_7 : decode cX2_sentIn 7 = .ok (.iaload, 1) := by decide +kernel
theorem dX2_sentIn_8 : decode cX2_sentIn 8 = .ok (.if_icmp .ge 21, 3) := by decide +kernel
theorem dX2_sentIn_11 : decode cX2_sentIn 11 = .ok (.iload_n 1, 1) := by decide +kernel
theorem dX2_sentIn_12 : decode cX2_sentIn 12 = .ok (.aload_n 0, 1) := by decide +kernel
theorem dX2_sentIn_13 : decode cX2_sentIn 13 = .ok (.iload_n 2, 1) := by decide +kernel
theorem dX2_sentIn_14 : decode cX2_sentIn 14 = .ok (.iconst 3, 1) := by decide +kernel
theorem dX2_sentIn_15 : decode cX2_sentIn 15 = .ok (.invokestatic 44, 3) := by decide +kernel
theorem dX2_sentIn_18 : decode cX2_sentIn 18 = .ok (.iaload, 1) := by decide +kernel
theorem dX2_sentIn_19 : decode cX2_sentIn 19 = .ok (.iload_n 2, 1) := by decide +kernel
theorem dX2_sentIn_20 : decode cX2_sentIn 20 = .ok (.ishl, 1) := by decide +kernel
theorem dX2_sentIn_21 : decode cX2_sentIn 21 = .ok (.ior, 1) := by decide +kernel
theorem dX2_sentIn_22 : decode cX2_sentIn 22 = .ok (.istore_n 1, 1) := by decide +kernel
theorem dX2_sentIn_23 : decode cX2_sentIn 23 = .ok (.iinc 2 1, 3) := by decide +kernel
theorem dX2_sentIn_26 : decode cX2_sentIn 26 = .ok (.goto (-22), 3) := by decide +kernel
theorem dX2_sentIn_29 : decode cX2_sentIn 29 = .ok (.iload_n 1, 1) := by decide +kernel
theorem dX2_sentIn_30 : decode cX2_sentIn 30 = .ok (.ireturn, 1) := by decide +kernel
theorem dX2_letter_0 : decode cX2_letter 0 = .ok (.iload_n 1, 1) := by decide +kernel
theorem dX2_letter_1 : decode cX2_letter 1 = .ok (.ifCond .ge 10, 3) := by decide +kernel
theorem dX2_letter_4 : decode cX2_letter 4 = .ok (.aload_n 0, 1) := by decide +kernel
theorem dX2_letter_5 : decode cX2_letter 5 = .ok (.bipush (-4), 2) := by decide +kernel
theorem dX2_letter_7 : decode cX2_letter 7 = .ok (.invokevirtual 36, 3) := by decide +kernel
theorem dX2_letter_10 : decode cX2_letter 10 = .ok (.ireturn, 1) := by decide +kernel
theorem dX2_letter_11 : decode cX2_letter 11 = .ok (.iload_n 1, 1) := by decide +kernel
theorem dX2_letter_12 : decode cX2_letter 12 = .ok (.sipush 255, 3) := by decide +kernel
theorem dX2_letter_15 : decode cX2_letter 15 = .ok (.if_icmp .gt 12, 3) := by decide +kernel
theorem dX2_letter_18 : decode cX2_letter 18 = .ok (.aload_n 0, 1) := by decide +kernel
theorem dX2_letter_19 : decode cX2_letter 19 = .ok (.getfield 97, 3) := by decide +kernel
theorem dX2_letter_22 : decode cX2_letter 22 = .ok (.bipush 96, 2) := by decide +kernel
theorem dX2_letter_24 : decode cX2_letter 24 = .ok (.if_icmp .ne 10, 3) := by decide +kernel
theorem dX2_letter_27 : decode cX2_letter 27 = .ok (.aload_n 0, 1) := by decide +kernel
theorem dX2_letter_28 : decode cX2_letter 28 = .ok (.bipush (-6), 2) := by decide +kernel
theorem dX2_letter_30 : decode cX2_letter 30 = .ok (.invokevirtual 36, 3) := by decide +kernel
theorem dX2_letter_33 : decode cX2_letter 33 = .ok (.ireturn, 1) := by decide +kernel
theorem dX2_letter_34 : decode cX2_letter 34 = .ok (.aload_n 0, 1) := by decide +kernel
theorem dX2_letter_35 : decode cX2_letter 35 = .ok (.getfield 22, 3) := by decide +kernel
theorem dX2_letter_38 : decode cX2_letter 38 = .ok (.aload_n 0, 1) := by decide +kernel
theorem dX2_letter_39 : decode cX2_letter 39 = .ok (.getfield 97, 3) := by decide +kernel
theorem dX2_letter_42 : decode cX2_letter 42 = .ok (.iload_n 1, 1) := by decide +kernel
theorem dX2_letter_43 : decode cX2_letter 43 = .ok (.iastore, 1) := by decide +kernel
theorem dX2_letter_44 : decode cX2_letter 44 = .ok (.aload_n 0, 1) := by decide +kernel
theorem dX2_letter_45 : decode cX2_letter 45 = .ok (.dup, 1) := by decide +kernel
theorem dX2_letter_46 : decode cX2_letter 46 = .ok (.getfield 97, 3) := by decide +kernel
theorem dX2_letter_49 : decode cX2_letter 49 = .ok (.iconst 1, 1) := by decide +kernel
theorem dX2_letter_50 : decode cX2_letter 50 = .ok (.iadd, 1) := by decide +kernel
theorem dX2_letter_51 : decode cX2_letter 51 = .ok (.putfield 97, 3) := by decide +kernel
theorem dX2_letter_54 : decode cX2_letter 54 = .ok (.aload_n 0, 1) := by decide +kernel
theorem dX2_letter_55 : decode cX2_letter 55 = .ok (.getfield 97, 3) := by decide +kernel
theorem dX2_letter_58 : decode cX2_letter 58 = .ok (.ireturn, 1) := by decide +kernel
theorem dX2_here_0 : decode cX2_here 0 = .ok (.aload_n 0, 1) := by decide +kernel
theorem dX2_here_1 : decode cX2_here 1 = .ok (.getfield 101, 3) := by decide +kernel
theorem dX2_here_4 : decode cX2_here 4 = .ok (.aload_n 0, 1) := by decide +kernel
theorem dX2_here_5 : decode cX2_here 5 = .ok (.getfield 97, 3) := by decide +kernel
theorem dX2_here_8 : decode cX2_here 8 = .ok (.if_icmp .ge 15, 3) := by decide +kernel
theorem dX2_here_11 : decode cX2_here 11 = .ok (.aload_n 0, 1) := by decide +kernel
theorem dX2_here_12 : decode cX2_here 12 = .ok (.getfield 22, 3) := by decide +kernel
theorem dX2_here_15 : decode cX2_here 15 = .ok (.aload_n 0, 1) := by decide +kernel
theorem dX2_here_16 : decode cX2_here 16 = .ok (.getfield 101, 3) := by decide +kernel
theorem dX2_here_19 : decode cX2_here 19 = .ok (.iaload, 1) := by decide +kernel
theorem dX2_here_20 : decode cX2_here 20 = .ok (.goto 4, 3) := by decide +kernel
theorem dX2_here_23 : decode cX2_here 23 = .ok (.iconst (-1), 1) := by decide +kernel
theorem dX2_here_24 : decode cX2_here 24 = .ok (.ireturn, 1) := by decide +kernel
theorem dX2_readsNumber_0 : decode cX2_readsNumber 0 = .ok (.aload_n 0, 1) := by decide +kernel
theorem dX2_readsNumber_1 : decode cX2_readsNumber 1 = .ok (.getfield 31, 3) := by decide +kernel
theorem dX2_readsNumber_4 : decode cX2_readsNumber 4 = .ok (.iload_n 1, 1) := by decide +kernel
theorem dX2_readsNumber_5 : decode cX2_readsNumber 5 = .ok (.iconst 0, 1) := by decide +kernel
theorem dX2_readsNumber_6 : decode cX2_readsNumber 6 = .ok (.iastore, 1) := by decide +kernel
theorem dX2_readsNumber_7 : decode cX2_readsNumber 7 = .ok (.iconst 0, 1) := by decide +kernel
theorem dX2_readsNumber_8 : decode cX2_readsNumber 8 = .ok (.istore_n 3, 1) := by decide +kernel
theorem dX2_readsNumber_9 : decode cX2_readsNumber 9 = .ok (.iload_n 3, 1) := by decide +kernel
theorem dX2_readsNumber_10 : decode cX2_readsNumber 10 = .ok (.iload_n 2, 1) := by decide +kernel
theorem dX2_readsNumber_11 : decode cX2_readsNumber 11 = .ok (.if_icmp .ge 58, 3) := by decide +kernel
theorem dX2_readsNumber_14 : decode cX2_readsNumber 14 = .ok (.aload_n 0, 1) := by decide +kernel
theorem dX2_readsNumber_15 : decode cX2_readsNumber 15 = .ok (.invokevirtual 104, 3) := by decide +kernel
theorem dX2_readsNumber_18 : decode cX2_readsNumber 18 = .ok (.bipush 48, 2) := by decide +kernel
theorem dX2_readsNumber_20 : decode cX2_readsNumber 20 = .ok (.bipush 57, 2) := by decide +kernel
theorem dX2_readsNumber_22 : decode cX2_readsNumber 22 = .ok (.invokestatic 40, 3) := by decide +kernel
theorem dX2_readsNumber_25 : decode cX2_readsNumber 25 = .ok (.ifCond .ne 5, 3) := by decide +kernel
theorem dX2_readsNumber_28 : decode cX2_readsNumber 28 = .ok (.iconst 0, 1) := by decide +kernel
theorem dX2_readsNumber_29 : decode cX2_readsNumber 29 = .ok (.ireturn, 1) := by decide +kernel
theorem dX2_readsNumber_30 : decode cX2_readsNumber 30 = .ok (.aload_n 0, 1) := by decide +kernel
theorem dX2_readsNumber_31 : decode cX2_readsNumber 31 = .ok (.getfield 31, 3) := by decide +kernel
theorem dX2_readsNumber_34 : decode cX2_readsNumber 34 = .ok (.iload_n 1, 1) := by decide +kernel
theorem dX2_readsNumber_35 : decode cX2_readsNumber 35 = .ok (.bipush 10, 2) := by decide +kernel
theorem dX2_readsNumber_37 : decode cX2_readsNumber 37 = .ok (.aload_n 0, 1) := by decide +kernel
theorem dX2_readsNumber_38 : decode cX2_readsNumber 38 = .ok (.getfield 31, 3) := by decide +kernel
theorem dX2_readsNumber_41 : decode cX2_readsNumber 41 = .ok (.iload_n 1, 1) := by decide +kernel
theorem dX2_readsNumber_42 : decode cX2_readsNumber 42 = .ok (.iaload, 1) := by decide +kernel
theorem dX2_readsNumber_43 : decode cX2_readsNumber 43 = .ok (.imul, 1) := by decide +kernel
theorem dX2_readsNumber_44 : decode cX2_readsNumber 44 = .ok (.aload_n 0, 1) := by decide +kernel
theorem dX2_readsNumber_45 : decode cX2_readsNumber 45 = .ok (.invokevirtual 104, 3) := by decide +kernel
theorem dX2_readsNumber_48 : decode cX2_readsNumber 48 = .ok (.iadd, 1) := by decide +kernel
theorem dX2_readsNumber_49 : decode cX2_readsNumber 49 = .ok (.bipush 48, 2) := by decide +kernel
theorem dX2_readsNumber_51 : decode cX2_readsNumber 51 = .ok (.isub, 1) := by decide +kernel
theorem dX2_readsNumber_52 : decode cX2_readsNumber 52 = .ok (.iastore, 1) := by decide +kernel
theorem dX2_readsNumber_53 : decode cX2_readsNumber 53 = .ok (.aload_n 0, 1) := by decide +kernel
theorem dX2_readsNumber_54 : decode cX2_readsNumber 54 = .ok (.dup, 1) := by decide +kernel
theorem dX2_readsNumber_55 : decode cX2_readsNumber 55 = .ok (.getfield 101, 3) := by decide +kernel
theorem dX2_readsNumber_58 : decode cX2_readsNumber 58 = .ok (.iconst 1, 1) := by decide +kernel
theorem dX2_readsNumber_59 : decode cX2_readsNumber 59 = .ok (.iadd, 1) := by decide +kernel
theorem dX2_readsNumber_60 : decode cX2_readsNumber 60 = .ok (.putfield 101, 3) := by decide +kernel
theorem dX2_readsNumber_63 : decode cX2_readsNumber 63 = .ok (.iinc 3 1, 3) := by decide +kernel
theorem dX2_readsNumber_66 : decode cX2_readsNumber 66 = .ok (.goto (-57), 3) := by decide +kernel
theorem dX2_readsNumber_69 : decode cX2_readsNumber 69 = .ok (.iconst 1, 1) := by decide +kernel
theorem dX2_readsNumber_70 : decode cX2_readsNumber 70 = .ok (.ireturn, 1) := by decide +kernel
theorem dX2_kindBy_0 : decode cX2_kindBy 0 = .ok (.iload_n 0, 1) := by decide +kernel
theorem dX2_kindBy_1 : decode cX2_kindBy 1 = .ok (.tableswitch 91 100 115 #[85, 91, 91, 83, 91, 91, 91, 91, 89, 91, 91, 91, 91, 87, 79, 81], 79) := by decide +kernel
theorem dX2_kindBy_80 : decode cX2_kindBy 80 = .ok (.iconst 0, 1) := by decide +kernel
theorem dX2_kindBy_81 : decode cX2_kindBy 81 = .ok (.ireturn, 1) := by decide +kernel
theorem dX2_kindBy_82 : decode cX2_kindBy 82 = .ok (.iconst 1, 1) := by decide +kernel
theorem dX2_kindBy_83 : decode cX2_kindBy 83 = .ok (.ireturn, 1) := by decide +kernel
theorem dX2_kindBy_84 : decode cX2_kindBy 84 = .ok (.iconst 2, 1) := by decide +kernel
theorem dX2_kindBy_85 : decode cX2_kindBy 85 = .ok (.ireturn, 1) := by decide +kernel
theorem dX2_kindBy_86 : decode cX2_kindBy 86 = .ok (.iconst 3, 1) := by decide +kernel
theorem dX2_kindBy_87 : decode cX2_kindBy 87 = .ok (.ireturn, 1) := by decide +kernel
theorem dX2_kindBy_88 : decode cX2_kindBy 88 = .ok (.iconst 4, 1) := by decide +kernel
theorem dX2_kindBy_89 : decode cX2_kindBy 89 = .ok (.ireturn, 1) := by decide +kernel
theorem dX2_kindBy_90 : decode cX2_kindBy 90 = .ok (.iconst 5, 1) := by decide +kernel
theorem dX2_kindBy_91 : decode cX2_kindBy 91 = .ok (.ireturn, 1) := by decide +kernel
theorem dX2_kindBy_92 : decode cX2_kindBy 92 = .ok (.bipush (-9), 2) := by decide +kernel
theorem dX2_kindBy_94 : decode cX2_kindBy 94 = .ok (.ireturn, 1) := by decide +kernel
theorem dX2_readsKind_0 : decode cX2_readsKind 0 = .ok (.aload_n 0, 1) := by decide +kernel
theorem dX2_readsKind_1 : decode cX2_readsKind 1 = .ok (.getfield 31, 3) := by decide +kernel
theorem dX2_readsKind_4 : decode cX2_readsKind 4 = .ok (.iconst 0, 1) := by decide +kernel
theorem dX2_readsKind_5 : decode cX2_readsKind 5 = .ok (.aload_n 0, 1) := by decide +kernel
theorem dX2_readsKind_6 : decode cX2_readsKind 6 = .ok (.invokevirtual 104, 3) := by decide +kernel
theorem dX2_readsKind_9 : decode cX2_readsKind 9 = .ok (.invokestatic 108, 3) := by decide +kernel
theorem dX2_readsKind_12 : decode cX2_readsKind 12 = .ok (.iastore, 1) := by decide +kernel
theorem dX2_readsKind_13 : decode cX2_readsKind 13 = .ok (.aload_n 0, 1) := by decide +kernel
theorem dX2_readsKind_14 : decode cX2_readsKind 14 = .ok (.dup, 1) := by decide +kernel
theorem dX2_readsKind_15 : decode cX2_readsKind 15 = .ok (.getfield 101, 3) := by decide +kernel
theorem dX2_readsKind_18 : decode cX2_readsKind 18 = .ok (.aload_n 0, 1) := by decide +kernel
theorem dX2_readsKind_19 : decode cX2_readsKind 19 = .ok (.getfield 31, 3) := by decide +kernel
theorem dX2_readsKind_22 : decode cX2_readsKind 22 = .ok (.iconst 0, 1) := by decide +kernel
theorem dX2_readsKind_23 : decode cX2_readsKind 23 = .ok (.iaload, 1) := by decide +kernel
theorem dX2_readsKind_24 : decode cX2_readsKind 24 = .ok (.ifCond .ge 7, 3) := by decide +kernel
theorem dX2_readsKind_27 : decode cX2_readsKind 27 = .ok (.iconst 0, 1) := by decide +kernel
theorem dX2_readsKind_28 : decode cX2_readsKind 28 = .ok (.goto 4, 3) := by decide +kernel
theorem dX2_readsKind_31 : decode cX2_readsKind 31 = .ok (.iconst 1, 1) := by decide +kernel
theorem dX2_readsKind_32 : decode cX2_readsKind 32 = .ok (.iadd, 1) := by decide +kernel
theorem dX2_readsKind_33 : decode cX2_readsKind 33 = .ok (.putfield 101, 3) := by decide +kernel
theorem dX2_readsKind_36 : decode cX2_readsKind 36 = .ok (.aload_n 0, 1) := by decide +kernel
theorem dX2_readsKind_37 : decode cX2_readsKind 37 = .ok (.getfield 31, 3) := by decide +kernel
theorem dX2_readsKind_40 : decode cX2_readsKind 40 = .ok (.iconst 0, 1) := by decide +kernel
theorem dX2_readsKind_41 : decode cX2_readsKind 41 = .ok (.iaload, 1) := by decide +kernel
theorem dX2_readsKind_42 : decode cX2_readsKind 42 = .ok (.ifCond .lt 7, 3) := by decide +kernel
theorem dX2_readsKind_45 : decode cX2_readsKind 45 = .ok (.iconst 1, 1) := by decide +kernel
theorem dX2_readsKind_46 : decode cX2_readsKind 46 = .ok (.goto 4, 3) := by decide +kernel
theorem dX2_readsKind_49 : decode cX2_readsKind 49 = .ok (.iconst 0, 1) := by decide +kernel
theorem dX2_readsKind_50 : decode cX2_readsKind 50 = .ok (.ireturn, 1) := by decide +kernel
theorem dX2_readsStatement_0 : decode cX2_readsStatement 0 = .ok (.aload_n 0, 1) := by decide +kernel
theorem dX2_readsStatement_1 : decode cX2_readsStatement 1 = .ok (.invokevirtual 104, 3) := by decide +kernel
theorem dX2_readsStatement_4 : decode cX2_readsStatement 4 = .ok (.istore_n 1, 1) := by decide +kernel
theorem dX2_readsStatement_5 : decode cX2_readsStatement 5 = .ok (.aload_n 0, 1) := by decide +kernel
theorem dX2_readsStatement_6 : decode cX2_readsStatement 6 = .ok (.dup, 1) := by decide +kernel
theorem dX2_readsStatement_7 : decode cX2_readsStatement 7 = .ok (.getfield 101, 3) := by decide +kernel
theorem dX2_readsStatement_10 : decode cX2_readsStatement 10 = .ok (.iconst 1, 1) := by decide +kernel
theorem dX2_readsStatement_11 : decode cX2_readsStatement 11 = .ok (.iadd, 1) := by decide +kernel
theorem dX2_readsStatement_12 : decode cX2_readsStatement 12 = .ok (.putfield 101, 3) := by decide +kernel
theorem dX2_readsStatement_15 : decode cX2_readsStatement 15 = .ok (.iload_n 1, 1) := by decide +kernel
theorem dX2_readsStatement_16 : decode cX2_readsStatement 16 = .ok (.tableswitch 195 98 119 #[165, 195, 195, 195, 195, 175, 195, 195, 195, 195, 195, 195, 185, 195, 138, 195, 104, 165, 195, 195, 195, 165], 104) := by decide +kernel
theorem dX2_readsStatement_120 : decode cX2_readsStatement 120 = .ok (.aload_n 0, 1) := by decide +kernel
theorem dX2_readsStatement_121 : decode cX2_readsStatement 121 = .ok (.invokevirtual 111, 3) := by decide +kernel
theorem dX2_readsStatement_124 : decode cX2_readsStatement 124 = .ok (.ifCond .eq 25, 3) := by decide +kernel
theorem dX2_readsStatement_127 : decode cX2_readsStatement 127 = .ok (.aload_n 0, 1) := by decide +kernel
theorem dX2_readsStatement_128 : decode cX2_readsStatement 128 = .ok (.iconst 1, 1) := by decide +kernel
theorem dX2_readsStatement_129 : decode cX2_readsStatement 129 = .ok (.iconst 1, 1) := by decide +kernel
theorem dX2_readsStatement_130 : decode cX2_readsStatement 130 = .ok (.invokevirtual 115, 3) := by decide +kernel
theorem dX2_readsStatement_133 : decode cX2_readsStatement 133 = .ok (.ifCond .eq 16, 3) := by decide +kernel
theorem dX2_readsStatement_136 : decode cX2_readsStatement 136 = .ok (.aload_n 0, 1) := by decide +kernel
theorem dX2_readsStatement_137 : decode cX2_readsStatement 137 = .ok (.iconst 2, 1) := by decide +kernel
theorem dX2_readsStatement_138 : decode cX2_readsStatement 138 = .ok (.iconst 1, 1) := by decide +kernel
theorem dX2_readsStatement_139 : decode cX2_readsStatement 139 = .ok (.invokevirtual 115, 3) := by decide +kernel
theorem dX2_readsStatement_142 : decode cX2_readsStatement 142 = .ok (.ifCond .eq 7, 3) := by decide +kernel
theorem dX2_readsStatement_145 : decode cX2_readsStatement 145 = .ok (.iconst 1, 1) := by decide +kernel
theorem dX2_readsStatement_146 : decode cX2_readsStatement 146 = .ok (.goto 4, 3) := by decide +kernel
theorem dX2_readsStatement_149 : decode cX2_readsStatement 149 = .ok (.iconst 0, 1) := by decide +kernel
theorem dX2_readsStatement_150 : decode cX2_readsStatement 150 = .ok (.istore_n 2, 1) := by decide +kernel
theorem dX2_readsStatement_151 : decode cX2_readsStatement 151 = .ok (.goto 72, 3) := by decide +kernel
theorem dX2_readsStatement_154 : decode cX2_readsStatement 154 = .ok (.aload_n 0, 1) := by decide +kernel
theorem dX2_readsStatement_155 : decode cX2_readsStatement 155 = .ok (.iconst 0, 1) := by decide +kernel
theorem dX2_readsStatement_156 : decode cX2_readsStatement 156 = .ok (.iconst 2, 1) := by decide +kernel
theorem dX2_readsStatement_157 : decode cX2_readsStatement 157 = .ok (.invokevirtual 115, 3) := by decide +kernel
theorem dX2_readsStatement_160 : decode cX2_readsStatement 160 = .ok (.ifCond .eq 16, 3) := by decide +kernel
theorem dX2_readsStatement_163 : decode cX2_readsStatement 163 = .ok (.aload_n 0, 1) := by decide +kernel
theorem dX2_readsStatement_164 : decode cX2_readsStatement 164 = .ok (.iconst 1, 1) := by decide +kernel
theorem dX2_readsStatement_165 : decode cX2_readsStatement 165 = .ok (.iconst 1, 1) := by decide +kernel
theorem dX2_readsStatement_166 : decode cX2_readsStatement 166 = .ok (.invokevirtual 115, 3) := by decide +kernel
theorem dX2_readsStatement_169 : decode cX2_readsStatement 169 = .ok (.ifCond .eq 7, 3) := by decide +kernel
theorem dX2_readsStatement_172 : decode cX2_readsStatement 172 = .ok (.iconst 1, 1) := by decide +kernel
theorem dX2_readsStatement_173 : decode cX2_readsStatement 173 = .ok (.goto 4, 3) := by decide +kernel
theorem dX2_readsStatement_176 : decode cX2_readsStatement 176 = .ok (.iconst 0, 1) := by decide +kernel
theorem dX2_readsStatement_177 : decode cX2_readsStatement 177 = .ok (.istore_n 2, 1) := by decide +kernel
theorem dX2_readsStatement_178 : decode cX2_readsStatement 178 = .ok (.goto 45, 3) := by decide +kernel
theorem dX2_readsStatement_181 : decode cX2_readsStatement 181 = .ok (.aload_n 0, 1) := by decide +kernel
theorem dX2_readsStatement_182 : decode cX2_readsStatement 182 = .ok (.iconst 0, 1) := by decide +kernel
theorem dX2_readsStatement_183 : decode cX2_readsStatement 183 = .ok (.iconst 1, 1) := by decide +kernel
theorem dX2_readsStatement_184 : decode cX2_readsStatement 184 = .ok (.invokevirtual 115, 3) := by decide +kernel
theorem dX2_readsStatement_187 : decode cX2_readsStatement 187 = .ok (.istore_n 2, 1) := by decide +kernel
theorem dX2_readsStatement_188 : decode cX2_readsStatement 188 = .ok (.goto 35, 3) := by decide +kernel
theorem dX2_readsStatement_191 : decode cX2_readsStatement 191 = .ok (.aload_n 0, 1) := by decide +kernel
theorem dX2_readsStatement_192 : decode cX2_readsStatement 192 = .ok (.iconst 0, 1) := by decide +kernel
theorem dX2_readsStatement_193 : decode cX2_readsStatement 193 = .ok (.iconst 3, 1) := by decide +kernel
theorem dX2_readsStatement_194 : decode cX2_readsStatement 194 = .ok (.invokevirtual 115, 3) := by decide +kernel
theorem dX2_readsStatement_197 : decode cX2_readsStatement 197 = .ok (.istore_n 2, 1) := by decide +kernel
theorem dX2_readsStatement_198 : decode cX2_readsStatement 198 = .ok (.goto 25, 3) := by decide +kernel
theorem dX2_readsStatement_201 : decode cX2_readsStatement 201 = .ok (.aload_n 0, 1) := by decide +kernel
theorem dX2_readsStatement_202 : decode cX2_readsStatement 202 = .ok (.iconst 0, 1) := by decide +kernel
theorem dX2_readsStatement_203 : decode cX2_readsStatement 203 = .ok (.iconst 2, 1) := by decide +kernel
theorem dX2_readsStatement_204 : decode cX2_readsStatement 204 = .ok (.invokevirtual 115, 3) := by decide +kernel
theorem dX2_readsStatement_207 : decode cX2_readsStatement 207 = .ok (.istore_n 2, 1) := by decide +kernel
theorem dX2_readsStatement_208 : decode cX2_readsStatement 208 = .ok (.goto 15, 3) := by decide +kernel
theorem dX2_readsStatement_211 : decode cX2_readsStatement 211 = .ok (.aload_n 0, 1) := by decide +kernel
theorem dX2_readsStatement_212 : decode cX2_readsStatement 212 = .ok (.dup, 1) := by decide +kernel
theorem dX2_readsStatement_213 : decode cX2_readsStatement 213 = .ok (.getfield 101, 3) := by decide +kernel
theorem dX2_readsStatement_216 : decode cX2_readsStatement 216 = .ok (.iconst 1, 1) := by decide +kernel
theorem dX2_readsStatement_217 : decode cX2_readsStatement 217 = .ok (.isub, 1) := by decide +kernel
theorem dX2_readsStatement_218 : decode cX2_readsStatement 218 = .ok (.putfield 101, 3) := by decide +kernel
theorem dX2_readsStatement_221 : decode cX2_readsStatement 221 = .ok (.iconst 0, 1) := by decide +kernel
theorem dX2_readsStatement_222 : decode cX2_readsStatement 222 = .ok (.ireturn, 1) := by decide +kernel
theorem dX2_readsStatement_223 : decode cX2_readsStatement 223 = .ok (.iload_n 2, 1) := by decide +kernel
theorem dX2_readsStatement_224 : decode cX2_readsStatement 224 = .ok (.ifCond .eq 12, 3) := by decide +kernel
theorem dX2_readsStatement_227 : decode cX2_readsStatement 227 = .ok (.aload_n 0, 1) := by decide +kernel
theorem dX2_readsStatement_228 : decode cX2_readsStatement 228 = .ok (.invokevirtual 104, 3) := by decide +kernel
theorem dX2_readsStatement_231 : decode cX2_readsStatement 231 = .ok (.bipush 59, 2) := by decide +kernel
theorem dX2_readsStatement_233 : decode cX2_readsStatement 233 = .ok (.if_icmp .eq 5, 3) := by decide +kernel
theorem dX2_readsStatement_236 : decode cX2_readsStatement 236 = .ok (.iconst 0, 1) := by decide +kernel
theorem dX2_readsStatement_237 : decode cX2_readsStatement 237 = .ok (.ireturn, 1) := by decide +kernel
theorem dX2_readsStatement_238 : decode cX2_readsStatement 238 = .ok (.aload_n 0, 1) := by decide +kernel
theorem dX2_readsStatement_239 : decode cX2_readsStatement 239 = .ok (.dup, 1) := by decide +kernel
theorem dX2_readsStatement_240 : decode cX2_readsStatement 240 = .ok (.getfield 101, 3) := by decide +kernel
theorem dX2_readsStatement_243 : decode cX2_readsStatement 243 = .ok (.iconst 1, 1) := by decide +kernel
theorem dX2_readsStatement_244 : decode cX2_readsStatement 244 = .ok (.iadd, 1) := by decide +kernel
theorem dX2_readsStatement_245 : decode cX2_readsStatement 245 = .ok (.putfield 101, 3) := by decide +kernel
theorem dX2_readsStatement_248 : decode cX2_readsStatement 248 = .ok (.iconst 1, 1) := by decide +kernel
theorem dX2_readsStatement_249 : decode cX2_readsStatement 249 = .ok (.ireturn, 1) := by decide +kernel
theorem dX2_addsRocket_0 : decode cX2_addsRocket 0 = .ok (.aload_n 0, 1) := by decide +kernel
theorem dX2_addsRocket_1 : decode cX2_addsRocket 1 = .ok (.getfield 31, 3) := by decide +kernel
theorem dX2_addsRocket_4 : decode cX2_addsRocket 4 = .ok (.iconst 2, 1) := by decide +kernel
theorem dX2_addsRocket_5 : decode cX2_addsRocket 5 = .ok (.iaload, 1) := by decide +kernel
theorem dX2_addsRocket_6 : decode cX2_addsRocket 6 = .ok (.bipush 6, 2) := by decide +kernel
theorem dX2_addsRocket_8 : decode cX2_addsRocket 8 = .ok (.if_icmp .ge 14, 3) := by decide +kernel
theorem dX2_addsRocket_11 : decode cX2_addsRocket 11 = .ok (.aload_n 0, 1) := by decide +kernel
theorem dX2_addsRocket_12 : decode cX2_addsRocket 12 = .ok (.getfield 9, 3) := by decide +kernel
theorem dX2_addsRocket_15 : decode cX2_addsRocket 15 = .ok (.iconst 0, 1) := by decide +kernel
theorem dX2_addsRocket_16 : decode cX2_addsRocket 16 = .ok (.iaload, 1) := by decide +kernel
theorem dX2_addsRocket_17 : decode cX2_addsRocket 17 = .ok (.bipush 9, 2) := by decide +kernel
theorem dX2_addsRocket_19 : decode cX2_addsRocket 19 = .ok (.if_icmp .ne 5, 3) := by decide +kernel
theorem dX2_addsRocket_22 : decode cX2_addsRocket 22 = .ok (.iconst 0, 1) := by decide +kernel
theorem dX2_addsRocket_23 : decode cX2_addsRocket 23 = .ok (.ireturn, 1) := by decide +kernel
theorem dX2_addsRocket_24 : decode cX2_addsRocket 24 = .ok (.iconst 0, 1) := by decide +kernel
theorem dX2_addsRocket_25 : decode cX2_addsRocket 25 = .ok (.istore_n 1, 1) := by decide +kernel
theorem dX2_addsRocket_26 : decode cX2_addsRocket 26 = .ok (.iload_n 1, 1) := by decide +kernel
theorem dX2_addsRocket_27 : decode cX2_addsRocket 27 = .ok (.iconst 3, 1) := by decide +kernel
theorem dX2_addsRocket_28 : decode cX2_addsRocket 28 = .ok (.if_icmp .ge 30, 3) := by decide +kernel
theorem dX2_addsRocket_31 : decode cX2_addsRocket 31 = .ok (.aload_n 0, 1) := by decide +kernel
theorem dX2_addsRocket_32 : decode cX2_addsRocket 32 = .ok (.getfield 9, 3) := by decide +kernel
theorem dX2_addsRocket_35 : decode cX2_addsRocket 35 = .ok (.aload_n 0, 1) := by decide +kernel
theorem dX2_addsRocket_36 : decode cX2_addsRocket 36 = .ok (.getfield 9, 3) := by decide +kernel
theorem dX2_addsRocket_39 : decode cX2_addsRocket 39 = .ok (.iconst 0, 1) := by decide +kernel
theorem dX2_addsRocket_40 : decode cX2_addsRocket 40 = .ok (.iaload, 1) := by decide +kernel
theorem dX2_addsRocket_41 : decode cX2_addsRocket 41 = .ok (.iload_n 1, 1) := by decide +kernel
theorem dX2_addsRocket_42 : decode cX2_addsRocket 42 = .ok (.invokestatic 44, 3) := by decide +kernel
theorem dX2_addsRocket_45 : decode cX2_addsRocket 45 = .ok (.aload_n 0, 1) := by decide +kernel
theorem dX2_addsRocket_46 : decode cX2_addsRocket 46 = .ok (.getfield 31, 3) := by decide +kernel
theorem dX2_addsRocket_49 : decode cX2_addsRocket 49 = .ok (.iload_n 1, 1) := by decide +kernel
theorem dX2_addsRocket_50 : decode cX2_addsRocket 50 = .ok (.iaload, 1) := by decide +kernel
theorem dX2_addsRocket_51 : decode cX2_addsRocket 51 = .ok (.iastore, 1) := by decide +kernel
theorem dX2_addsRocket_52 : decode cX2_addsRocket 52 = .ok (.iinc 1 1, 3) := by decide +kernel
theorem dX2_addsRocket_55 : decode cX2_addsRocket 55 = .ok (.goto (-29), 3) := by decide +kernel
theorem dX2_addsRocket_58 : decode cX2_addsRocket 58 = .ok (.aload_n 0, 1) := by decide +kernel
theorem dX2_addsRocket_59 : decode cX2_addsRocket 59 = .ok (.getfield 9, 3) := by decide +kernel
theorem dX2_addsRocket_62 : decode cX2_addsRocket 62 = .ok (.aload_n 0, 1) := by decide +kernel
theorem dX2_addsRocket_63 : decode cX2_addsRocket 63 = .ok (.getfield 9, 3) := by decide +kernel
theorem dX2_addsRocket_66 : decode cX2_addsRocket 66 = .ok (.iconst 0, 1) := by decide +kernel
theorem dX2_addsRocket_67 : decode cX2_addsRocket 67 = .ok (.iaload, 1) := by decide +kernel
theorem dX2_addsRocket_68 : decode cX2_addsRocket 68 = .ok (.iconst 3, 1) := by decide +kernel
theorem dX2_addsRocket_69 : decode cX2_addsRocket 69 = .ok (.invokestatic 44, 3) := by decide +kernel
theorem dX2_addsRocket_72 : decode cX2_addsRocket 72 = .ok (.iconst 0, 1) := by decide +kernel
theorem dX2_addsRocket_73 : decode cX2_addsRocket 73 = .ok (.iastore, 1) := by decide +kernel
theorem dX2_addsRocket_74 : decode cX2_addsRocket 74 = .ok (.aload_n 0, 1) := by decide +kernel
theorem dX2_addsRocket_75 : decode cX2_addsRocket 75 = .ok (.getfield 9, 3) := by decide +kernel
theorem dX2_addsRocket_78 : decode cX2_addsRocket 78 = .ok (.iconst 0, 1) := by decide +kernel
theorem dX2_addsRocket_79 : decode cX2_addsRocket 79 = .ok (.dup2, 1) := by decide +kernel
theorem dX2_addsRocket_80 : decode cX2_addsRocket 80 = .ok (.iaload, 1) := by decide +kernel
theorem dX2_addsRocket_81 : decode cX2_addsRocket 81 = .ok (.iconst 1, 1) := by decide +kernel
theorem dX2_addsRocket_82 : decode cX2_addsRocket 82 = .ok (.iadd, 1) := by decide +kernel
theorem dX2_addsRocket_83 : decode cX2_addsRocket 83 = .ok (.iastore, 1) := by decide +kernel
theorem dX2_addsRocket_84 : decode cX2_addsRocket 84 = .ok (.iconst 1, 1) := by decide +kernel
theorem dX2_addsRocket_85 : decode cX2_addsRocket 85 = .ok (.ireturn, 1) := by decide +kernel
theorem dX2_addsReader_0 : decode cX2_addsReader 0 = .ok (.aload_n 0, 1) := by decide +kernel
theorem dX2_addsReader_1 : decode cX2_addsReader 1 = .ok (.getfield 31, 3) := by decide +kernel
theorem dX2_addsReader_4 : decode cX2_addsReader 4 = .ok (.iconst 0, 1) := by decide +kernel
theorem dX2_addsReader_5 : decode cX2_addsReader 5 = .ok (.iaload, 1) := by decide +kernel
theorem dX2_addsReader_6 : decode cX2_addsReader 6 = .ok (.bipush 20, 2) := by decide +kernel
theorem dX2_addsReader_8 : decode cX2_addsReader 8 = .ok (.if_icmp .ge 13, 3) := by decide +kernel
theorem dX2_addsReader_11 : decode cX2_addsReader 11 = .ok (.aload_n 0, 1) := by decide +kernel
theorem dX2_addsReader_12 : decode cX2_addsReader 12 = .ok (.getfield 9, 3) := by decide +kernel
theorem dX2_addsReader_15 : decode cX2_addsReader 15 = .ok (.iconst 1, 1) := by decide +kernel
theorem dX2_addsReader_16 : decode cX2_addsReader 16 = .ok (.iaload, 1) := by decide +kernel
theorem dX2_addsReader_17 : decode cX2_addsReader 17 = .ok (.iconst 5, 1) := by decide +kernel
theorem dX2_addsReader_18 : decode cX2_addsReader 18 = .ok (.if_icmp .ne 5, 3) := by decide +kernel
theorem dX2_addsReader_21 : decode cX2_addsReader 21 = .ok (.iconst 0, 1) := by decide +kernel
theorem dX2_addsReader_22 : decode cX2_addsReader 22 = .ok (.ireturn, 1) := by decide +kernel
theorem dX2_addsReader_23 : decode cX2_addsReader 23 = .ok (.aload_n 0, 1) := by decide +kernel
theorem dX2_addsReader_24 : decode cX2_addsReader 24 = .ok (.getfield 9, 3) := by decide +kernel
theorem dX2_addsReader_27 : decode cX2_addsReader 27 = .ok (.aload_n 0, 1) := by decide +kernel
theorem dX2_addsReader_28 : decode cX2_addsReader 28 = .ok (.getfield 9, 3) := by decide +kernel
theorem dX2_addsReader_31 : decode cX2_addsReader 31 = .ok (.iconst 1, 1) := by decide +kernel
theorem dX2_addsReader_32 : decode cX2_addsReader 32 = .ok (.iaload, 1) := by decide +kernel
theorem dX2_addsReader_33 : decode cX2_addsReader 33 = .ok (.iconst 0, 1) := by decide +kernel
theorem dX2_addsReader_34 : decode cX2_addsReader 34 = .ok (.invokestatic 48, 3) := by decide +kernel
theorem dX2_addsReader_37 : decode cX2_addsReader 37 = .ok (.aload_n 0, 1) := by decide +kernel
theorem dX2_addsReader_38 : decode cX2_addsReader 38 = .ok (.getfield 31, 3) := by decide +kernel
theorem dX2_addsReader_41 : decode cX2_addsReader 41 = .ok (.iconst 0, 1) := by decide +kernel
theorem dX2_addsReader_42 : decode cX2_addsReader 42 = .ok (.iaload, 1) := by decide +kernel
theorem dX2_addsReader_43 : decode cX2_addsReader 43 = .ok (.iastore, 1) := by decide +kernel
theorem dX2_addsReader_44 : decode cX2_addsReader 44 = .ok (.aload_n 0, 1) := by decide +kernel
theorem dX2_addsReader_45 : decode cX2_addsReader 45 = .ok (.getfield 9, 3) := by decide +kernel
theorem dX2_addsReader_48 : decode cX2_addsReader 48 = .ok (.aload_n 0, 1) := by decide +kernel
theorem dX2_addsReader_49 : decode cX2_addsReader 49 = .ok (.getfield 9, 3) := by decide +kernel
theorem dX2_addsReader_52 : decode cX2_addsReader 52 = .ok (.iconst 1, 1) := by decide +kernel
theorem dX2_addsReader_53 : decode cX2_addsReader 53 = .ok (.iaload, 1) := by decide +kernel
theorem dX2_addsReader_54 : decode cX2_addsReader 54 = .ok (.iconst 1, 1) := by decide +kernel
theorem dX2_addsReader_55 : decode cX2_addsReader 55 = .ok (.invokestatic 48, 3) := by decide +kernel
theorem dX2_addsReader_58 : decode cX2_addsReader 58 = .ok (.aload_n 0, 1) := by decide +kernel
theorem dX2_addsReader_59 : decode cX2_addsReader 59 = .ok (.getfield 31, 3) := by decide +kernel
theorem dX2_addsReader_62 : decode cX2_addsReader 62 = .ok (.iconst 1, 1) := by decide +kernel
theorem dX2_addsReader_63 : decode cX2_addsReader 63 = .ok (.iaload, 1) := by decide +kernel
theorem dX2_addsReader_64 : decode cX2_addsReader 64 = .ok (.iastore, 1) := by decide +kernel
theorem dX2_addsReader_65 : decode cX2_addsReader 65 = .ok (.iconst 0, 1) := by decide +kernel
theorem dX2_addsReader_66 : decode cX2_addsReader 66 = .ok (.istore_n 1, 1) := by decide +kernel
theorem dX2_addsReader_67 : decode cX2_addsReader 67 = .ok (.iload_n 1, 1) := by decide +kernel
theorem dX2_addsReader_68 : decode cX2_addsReader 68 = .ok (.bipush 6, 2) := by decide +kernel
theorem dX2_addsReader_70 : decode cX2_addsReader 70 = .ok (.if_icmp .ge 27, 3) := by decide +kernel
theorem dX2_addsReader_73 : decode cX2_addsReader 73 = .ok (.aload_n 0, 1) := by decide +kernel
theorem dX2_addsReader_74 : decode cX2_addsReader 74 = .ok (.getfield 9, 3) := by decide +kernel
theorem dX2_addsReader_77 : decode cX2_addsReader 77 = .ok (.aload_n 0, 1) := by decide +kernel
theorem dX2_addsReader_78 : decode cX2_addsReader 78 = .ok (.getfield 9, 3) := by decide +kernel
theorem dX2_addsReader_81 : decode cX2_addsReader 81 = .ok (.iconst 1, 1) := by decide +kernel
theorem dX2_addsReader_82 : decode cX2_addsReader 82 = .ok (.iaload, 1) := by decide +kernel
theorem dX2_addsReader_83 : decode cX2_addsReader 83 = .ok (.iconst 2, 1) := by decide +kernel
theorem dX2_addsReader_84 : decode cX2_addsReader 84 = .ok (.iload_n 1, 1) := by decide +kernel
theorem dX2_addsReader_85 : decode cX2_addsReader 85 = .ok (.iadd, 1) := by decide +kernel
theorem dX2_addsReader_86 : decode cX2_addsReader 86 = .ok (.invokestatic 48, 3) := by decide +kernel
theorem dX2_addsReader_89 : decode cX2_addsReader 89 = .ok (.iconst 0, 1) := by decide +kernel
theorem dX2_addsReader_90 : decode cX2_addsReader 90 = .ok (.iastore, 1) := by decide +kernel
theorem dX2_addsReader_91 : decode cX2_addsReader 91 = .ok (.iinc 1 1, 3) := by decide +kernel
theorem dX2_addsReader_94 : decode cX2_addsReader 94 = .ok (.goto (-27), 3) := by decide +kernel
theorem dX2_addsReader_97 : decode cX2_addsReader 97 = .ok (.aload_n 0, 1) := by decide +kernel
theorem dX2_addsReader_98 : decode cX2_addsReader 98 = .ok (.getfield 9, 3) := by decide +kernel
theorem dX2_addsReader_101 : decode cX2_addsReader 101 = .ok (.iconst 1, 1) := by decide +kernel
theorem dX2_addsReader_102 : decode cX2_addsReader 102 = .ok (.dup2, 1) := by decide +kernel
theorem dX2_addsReader_103 : decode cX2_addsReader 103 = .ok (.iaload, 1) := by decide +kernel
theorem dX2_addsReader_104 : decode cX2_addsReader 104 = .ok (.iconst 1, 1) := by decide +kernel
theorem dX2_addsReader_105 : decode cX2_addsReader 105 = .ok (.iadd, 1) := by decide +kernel
theorem dX2_addsReader_106 : decode cX2_addsReader 106 = .ok (.iastore, 1) := by decide +kernel
theorem dX2_addsReader_107 : decode cX2_addsReader 107 = .ok (.iconst 1, 1) := by decide +kernel
theorem dX2_addsReader_108 : decode cX2_addsReader 108 = .ok (.ireturn, 1) := by decide +kernel
theorem dX2_isDone_0 : decode cX2_isDone 0 = .ok (.aload_n 0, 1) := by decide +kernel
theorem dX2_isDone_1 : decode cX2_isDone 1 = .ok (.getfield 31, 3) := by decide +kernel
theorem dX2_isDone_4 : decode cX2_isDone 4 = .ok (.iconst 0, 1) := by decide +kernel
theorem dX2_isDone_5 : decode cX2_isDone 5 = .ok (.iaload, 1) := by decide +kernel
theorem dX2_isDone_6 : decode cX2_isDone 6 = .ok (.istore_n 2, 1) := by decide +kernel
theorem dX2_isDone_7 : decode cX2_isDone 7 = .ok (.iload_n 1, 1) := by decide +kernel
theorem dX2_isDone_8 : decode cX2_isDone 8 = .ok (.lookupswitch 156 #[(98, 120), (103, 111), (112, 65), (114, 60), (115, 70), (119, 102)], 60) := by decide +kernel
theorem dX2_isDone_68 : decode cX2_isDone 68 = .ok (.aload_n 0, 1) := by decide +kernel
theorem dX2_isDone_69 : decode cX2_isDone 69 = .ok (.invokevirtual 118, 3) := by decide +kernel
theorem dX2_isDone_72 : decode cX2_isDone 72 = .ok (.ireturn, 1) := by decide +kernel
theorem dX2_isDone_73 : decode cX2_isDone 73 = .ok (.aload_n 0, 1) := by decide +kernel
theorem dX2_isDone_74 : decode cX2_isDone 74 = .ok (.invokevirtual 121, 3) := by decide +kernel
theorem dX2_isDone_77 : decode cX2_isDone 77 = .ok (.ireturn, 1) := by decide +kernel
theorem dX2_isDone_78 : decode cX2_isDone 78 = .ok (.aload_n 0, 1) := by decide +kernel
theorem dX2_isDone_79 : decode cX2_isDone 79 = .ok (.iload_n 2, 1) := by decide +kernel
theorem dX2_isDone_80 : decode cX2_isDone 80 = .ok (.invokevirtual 124, 3) := by decide +kernel
theorem dX2_isDone_83 : decode cX2_isDone 83 = .ok (.ifCond .eq 14, 3) := by decide +kernel
theorem dX2_isDone_86 : decode cX2_isDone 86 = .ok (.aload_n 0, 1) := by decide +kernel
theorem dX2_isDone_87 : decode cX2_isDone 87 = .ok (.getfield 9, 3) := by decide +kernel
theorem dX2_isDone_90 : decode cX2_isDone 90 = .ok (.iload_n 2, 1) := by decide +kernel
theorem dX2_isDone_91 : decode cX2_isDone 91 = .ok (.invokestatic 76, 3) := by decide +kernel
theorem dX2_isDone_94 : decode cX2_isDone 94 = .ok (.ifCond .ne 5, 3) := by decide +kernel
theorem dX2_isDone_97 : decode cX2_isDone 97 = .ok (.iconst 0, 1) := by decide +kernel
theorem dX2_isDone_98 : decode cX2_isDone 98 = .ok (.ireturn, 1) := by decide +kernel
theorem dX2_isDone_99 : decode cX2_isDone 99 = .ok (.aload_n 0, 1) := by decide +kernel
theorem dX2_isDone_100 : decode cX2_isDone 100 = .ok (.getfield 9, 3) := by decide +kernel
theorem dX2_isDone_103 : decode cX2_isDone 103 = .ok (.iload_n 2, 1) := by decide +kernel
theorem dX2_isDone_104 : decode cX2_isDone 104 = .ok (.iconst (-1), 1) := by decide +kernel
theorem dX2_isDone_105 : decode cX2_isDone 105 = .ok (.invokestatic 84, 3) := by decide +kernel
theorem dX2_isDone_108 : decode cX2_isDone 108 = .ok (.iconst 1, 1) := by decide +kernel
theorem dX2_isDone_109 : decode cX2_isDone 109 = .ok (.ireturn, 1) := by decide +kernel
theorem dX2_isDone_110 : decode cX2_isDone 110 = .ok (.aload_n 0, 1) := by decide +kernel
theorem dX2_isDone_111 : decode cX2_isDone 111 = .ok (.getfield 9, 3) := by decide +kernel
theorem dX2_isDone_114 : decode cX2_isDone 114 = .ok (.iconst 4, 1) := by decide +kernel
theorem dX2_isDone_115 : decode cX2_isDone 115 = .ok (.iload_n 2, 1) := by decide +kernel
theorem dX2_isDone_116 : decode cX2_isDone 116 = .ok (.iastore, 1) := by decide +kernel
theorem dX2_isDone_117 : decode cX2_isDone 117 = .ok (.iconst 1, 1) := by decide +kernel
theorem dX2_isDone_118 : decode cX2_isDone 118 = .ok (.ireturn, 1) := by decide +kernel
theorem dX2_isDone_119 : decode cX2_isDone 119 = .ok (.aload_n 0, 1) := by decide +kernel
theorem dX2_isDone_120 : decode cX2_isDone 120 = .ok (.getfield 9, 3) := by decide +kernel
theorem dX2_isDone_123 : decode cX2_isDone 123 = .ok (.iconst 3, 1) := by decide +kernel
theorem dX2_isDone_124 : decode cX2_isDone 124 = .ok (.iload_n 2, 1) := by decide +kernel
theorem dX2_isDone_125 : decode cX2_isDone 125 = .ok (.iastore, 1) := by decide +kernel
theorem dX2_isDone_126 : decode cX2_isDone 126 = .ok (.iconst 1, 1) := by decide +kernel
theorem dX2_isDone_127 : decode cX2_isDone 127 = .ok (.ireturn, 1) := by decide +kernel
theorem dX2_isDone_128 : decode cX2_isDone 128 = .ok (.aload_n 0, 1) := by decide +kernel
theorem dX2_isDone_129 : decode cX2_isDone 129 = .ok (.iload_n 2, 1) := by decide +kernel
theorem dX2_isDone_130 : decode cX2_isDone 130 = .ok (.invokevirtual 124, 3) := by decide +kernel
theorem dX2_isDone_133 : decode cX2_isDone 133 = .ok (.ifCond .eq 16, 3) := by decide +kernel
theorem dX2_isDone_136 : decode cX2_isDone 136 = .ok (.aload_n 0, 1) := by decide +kernel
theorem dX2_isDone_137 : decode cX2_isDone 137 = .ok (.getfield 9, 3) := by decide +kernel
theorem dX2_isDone_140 : decode cX2_isDone 140 = .ok (.iload_n 2, 1) := by decide +kernel
theorem dX2_isDone_141 : decode cX2_isDone 141 = .ok (.iconst 3, 1) := by decide +kernel
theorem dX2_isDone_142 : decode cX2_isDone 142 = .ok (.invokestatic 44, 3) := by decide +kernel
theorem dX2_isDone_145 : decode cX2_isDone 145 = .ok (.iaload, 1) := by decide +kernel
theorem dX2_isDone_146 : decode cX2_isDone 146 = .ok (.ifCond .ne 5, 3) := by decide +kernel
theorem dX2_isDone_149 : decode cX2_isDone 149 = .ok (.iconst 0, 1) := by decide +kernel
theorem dX2_isDone_150 : decode cX2_isDone 150 = .ok (.ireturn, 1) := by decide +kernel
theorem dX2_isDone_151 : decode cX2_isDone 151 = .ok (.aload_n 0, 1) := by decide +kernel
theorem dX2_isDone_152 : decode cX2_isDone 152 = .ok (.getfield 9, 3) := by decide +kernel
theorem dX2_isDone_155 : decode cX2_isDone 155 = .ok (.iload_n 2, 1) := by decide +kernel
theorem dX2_isDone_156 : decode cX2_isDone 156 = .ok (.iconst 3, 1) := by decide +kernel
theorem dX2_isDone_157 : decode cX2_isDone 157 = .ok (.invokestatic 44, 3) := by decide +kernel
theorem dX2_isDone_160 : decode cX2_isDone 160 = .ok (.iconst 0, 1) := by decide +kernel
theorem dX2_isDone_161 : decode cX2_isDone 161 = .ok (.iastore, 1) := by decide +kernel
theorem dX2_isDone_162 : decode cX2_isDone 162 = .ok (.iconst 1, 1) := by decide +kernel
theorem dX2_isDone_163 : decode cX2_isDone 163 = .ok (.ireturn, 1) := by decide +kernel
theorem dX2_isDone_164 : decode cX2_isDone 164 = .ok (.iload_n 2, 1) := by decide +kernel
theorem dX2_isDone_165 : decode cX2_isDone 165 = .ok (.iconst 1, 1) := by decide +kernel
theorem dX2_isDone_166 : decode cX2_isDone 166 = .ok (.bipush 60, 2) := by decide +kernel
theorem dX2_isDone_168 : decode cX2_isDone 168 = .ok (.invokestatic 40, 3) := by decide +kernel
theorem dX2_isDone_171 : decode cX2_isDone 171 = .ok (.ifCond .eq 17, 3) := by decide +kernel
theorem dX2_isDone_174 : decode cX2_isDone 174 = .ok (.aload_n 0, 1) := by decide +kernel
theorem dX2_isDone_175 : decode cX2_isDone 175 = .ok (.getfield 9, 3) := by decide +kernel
theorem dX2_isDone_178 : decode cX2_isDone 178 = .ok (.iconst 2, 1) := by decide +kernel
theorem dX2_isDone_179 : decode cX2_isDone 179 = .ok (.iaload, 1) := by decide +kernel
theorem dX2_isDone_180 : decode cX2_isDone 180 = .ok (.iload_n 2, 1) := by decide +kernel
theorem dX2_isDone_181 : decode cX2_isDone 181 = .ok (.iadd, 1) := by decide +kernel
theorem dX2_isDone_182 : decode cX2_isDone 182 = .ok (.sipush 999, 3) := by decide +kernel
theorem dX2_isDone_185 : decode cX2_isDone 185 = .ok (.if_icmp .le 5, 3) := by decide +kernel
theorem dX2_isDone_188 : decode cX2_isDone 188 = .ok (.iconst 0, 1) := by decide +kernel
theorem dX2_isDone_189 : decode cX2_isDone 189 = .ok (.ireturn, 1) := by decide +kernel
theorem dX2_isDone_190 : decode cX2_isDone 190 = .ok (.aload_n 0, 1) := by decide +kernel
theorem dX2_isDone_191 : decode cX2_isDone 191 = .ok (.getfield 9, 3) := by decide +kernel
theorem dX2_isDone_194 : decode cX2_isDone 194 = .ok (.iload_n 2, 1) := by decide +kernel
theorem dX2_isDone_195 : decode cX2_isDone 195 = .ok (.iconst (-1), 1) := by decide +kernel
theorem dX2_isDone_196 : decode cX2_isDone 196 = .ok (.invokestatic 128, 3) := by decide +kernel
theorem dX2_isDone_199 : decode cX2_isDone 199 = .ok (.iconst 1, 1) := by decide +kernel
theorem dX2_isDone_200 : decode cX2_isDone 200 = .ok (.ireturn, 1) := by decide +kernel
theorem dX2_valley_0 : decode cX2_valley 0 = .ok (.aload_n 0, 1) := by decide +kernel
theorem dX2_valley_1 : decode cX2_valley 1 = .ok (.iconst 0, 1) := by decide +kernel
theorem dX2_valley_2 : decode cX2_valley 2 = .ok (.putfield 101, 3) := by decide +kernel
theorem dX2_valley_5 : decode cX2_valley 5 = .ok (.iconst 0, 1) := by decide +kernel
theorem dX2_valley_6 : decode cX2_valley 6 = .ok (.istore_n 1, 1) := by decide +kernel
theorem dX2_valley_7 : decode cX2_valley 7 = .ok (.bipush (-9), 2) := by decide +kernel
theorem dX2_valley_9 : decode cX2_valley 9 = .ok (.istore_n 2, 1) := by decide +kernel
theorem dX2_valley_10 : decode cX2_valley 10 = .ok (.aload_n 0, 1) := by decide +kernel
theorem dX2_valley_11 : decode cX2_valley 11 = .ok (.invokevirtual 131, 3) := by decide +kernel
theorem dX2_valley_14 : decode cX2_valley 14 = .ok (.ifCond .ne 12, 3) := by decide +kernel
theorem dX2_valley_17 : decode cX2_valley 17 = .ok (.sipush (-1000), 3) := by decide +kernel
theorem dX2_valley_20 : decode cX2_valley 20 = .ok (.aload_n 0, 1) := by decide +kernel
theorem dX2_valley_21 : decode cX2_valley 21 = .ok (.getfield 101, 3) := by decide +kernel
theorem dX2_valley_24 : decode cX2_valley 24 = .ok (.isub, 1) := by decide +kernel
theorem dX2_valley_25 : decode cX2_valley 25 = .ok (.istore_n 2, 1) := by decide +kernel
theorem dX2_valley_26 : decode cX2_valley 26 = .ok (.iinc 1 1, 3) := by decide +kernel
theorem dX2_valley_29 : decode cX2_valley 29 = .ok (.iload_n 2, 1) := by decide +kernel
theorem dX2_valley_30 : decode cX2_valley 30 = .ok (.bipush (-9), 2) := by decide +kernel
theorem dX2_valley_32 : decode cX2_valley 32 = .ok (.if_icmp .ne 14, 3) := by decide +kernel
theorem dX2_valley_35 : decode cX2_valley 35 = .ok (.aload_n 0, 1) := by decide +kernel
theorem dX2_valley_36 : decode cX2_valley 36 = .ok (.getfield 101, 3) := by decide +kernel
theorem dX2_valley_39 : decode cX2_valley 39 = .ok (.aload_n 0, 1) := by decide +kernel
theorem dX2_valley_40 : decode cX2_valley 40 = .ok (.getfield 97, 3) := by decide +kernel
theorem dX2_valley_43 : decode cX2_valley 43 = .ok (.if_icmp .lt (-33), 3) := by decide +kernel
theorem dX2_valley_46 : decode cX2_valley 46 = .ok (.aload_n 0, 1) := by decide +kernel
theorem dX2_valley_47 : decode cX2_valley 47 = .ok (.getfield 9, 3) := by decide +kernel
theorem dX2_valley_50 : decode cX2_valley 50 = .ok (.aload_n 0, 1) := by decide +kernel
theorem dX2_valley_51 : decode cX2_valley 51 = .ok (.getfield 19, 3) := by decide +kernel
theorem dX2_valley_54 : decode cX2_valley 54 = .ok (.invokestatic 134, 3) := by decide +kernel
theorem dX2_valley_57 : decode cX2_valley 57 = .ok (.aload_n 0, 1) := by decide +kernel
theorem dX2_valley_58 : decode cX2_valley 58 = .ok (.iconst 0, 1) := by decide +kernel
theorem dX2_valley_59 : decode cX2_valley 59 = .ok (.putfield 101, 3) := by decide +kernel
theorem dX2_valley_62 : decode cX2_valley 62 = .ok (.iload_n 2, 1) := by decide +kernel
theorem dX2_valley_63 : decode cX2_valley 63 = .ok (.bipush (-9), 2) := by decide +kernel
theorem dX2_valley_65 : decode cX2_valley 65 = .ok (.if_icmp .ne 63, 3) := by decide +kernel
theorem dX2_valley_68 : decode cX2_valley 68 = .ok (.aload_n 0, 1) := by decide +kernel
theorem dX2_valley_69 : decode cX2_valley 69 = .ok (.getfield 101, 3) := by decide +kernel
theorem dX2_valley_72 : decode cX2_valley 72 = .ok (.aload_n 0, 1) := by decide +kernel
theorem dX2_valley_73 : decode cX2_valley 73 = .ok (.getfield 97, 3) := by decide +kernel
theorem dX2_valley_76 : decode cX2_valley 76 = .ok (.if_icmp .ge 52, 3) := by decide +kernel
theorem dX2_valley_79 : decode cX2_valley 79 = .ok (.aload_n 0, 1) := by decide +kernel
theorem dX2_valley_80 : decode cX2_valley 80 = .ok (.getfield 101, 3) := by decide +kernel
theorem dX2_valley_83 : decode cX2_valley 83 = .ok (.istore_n 3, 1) := by decide +kernel
theorem dX2_valley_84 : decode cX2_valley 84 = .ok (.aload_n 0, 1) := by decide +kernel
theorem dX2_valley_85 : decode cX2_valley 85 = .ok (.invokevirtual 104, 3) := by decide +kernel
theorem dX2_valley_88 : decode cX2_valley 88 = .ok (.istore 4, 2) := by decide +kernel
theorem dX2_valley_90 : decode cX2_valley 90 = .ok (.aload_n 0, 1) := by decide +kernel
theorem dX2_valley_91 : decode cX2_valley 91 = .ok (.invokevirtual 131, 3) := by decide +kernel
theorem dX2_valley_94 : decode cX2_valley 94 = .ok (.istore 5, 2) := by decide +kernel
theorem dX2_valley_96 : decode cX2_valley 96 = .ok (.aload_n 0, 1) := by decide +kernel
theorem dX2_valley_97 : decode cX2_valley 97 = .ok (.iload 4, 2) := by decide +kernel
theorem dX2_valley_99 : decode cX2_valley 99 = .ok (.invokevirtual 138, 3) := by decide +kernel
theorem dX2_valley_102 : decode cX2_valley 102 = .ok (.ifCond .eq 6, 3) := by decide +kernel
theorem dX2_valley_105 : decode cX2_valley 105 = .ok (.goto (-43), 3) := by decide +kernel
theorem dX2_valley_108 : decode cX2_valley 108 = .ok (.sipush (-2000), 3) := by decide +kernel
theorem dX2_valley_111 : decode cX2_valley 111 = .ok (.iload_n 3, 1) := by decide +kernel
theorem dX2_valley_112 : decode cX2_valley 112 = .ok (.isub, 1) := by decide +kernel
theorem dX2_valley_113 : decode cX2_valley 113 = .ok (.istore_n 2, 1) := by decide +kernel
theorem dX2_valley_114 : decode cX2_valley 114 = .ok (.aload_n 0, 1) := by decide +kernel
theorem dX2_valley_115 : decode cX2_valley 115 = .ok (.getfield 19, 3) := by decide +kernel
theorem dX2_valley_118 : decode cX2_valley 118 = .ok (.aload_n 0, 1) := by decide +kernel
theorem dX2_valley_119 : decode cX2_valley 119 = .ok (.getfield 9, 3) := by decide +kernel
theorem dX2_valley_122 : decode cX2_valley 122 = .ok (.invokestatic 134, 3) := by decide +kernel
theorem dX2_valley_125 : decode cX2_valley 125 = .ok (.goto (-63), 3) := by decide +kernel
theorem dX2_valley_128 : decode cX2_valley 128 = .ok (.aload_n 0, 1) := by decide +kernel
theorem dX2_valley_129 : decode cX2_valley 129 = .ok (.iconst 0, 1) := by decide +kernel
theorem dX2_valley_130 : decode cX2_valley 130 = .ok (.putfield 97, 3) := by decide +kernel
theorem dX2_valley_133 : decode cX2_valley 133 = .ok (.iload_n 2, 1) := by decide +kernel
theorem dX2_valley_134 : decode cX2_valley 134 = .ok (.bipush (-9), 2) := by decide +kernel
theorem dX2_valley_136 : decode cX2_valley 136 = .ok (.if_icmp .ne 7, 3) := by decide +kernel
theorem dX2_valley_139 : decode cX2_valley 139 = .ok (.iload_n 1, 1) := by decide +kernel
theorem dX2_valley_140 : decode cX2_valley 140 = .ok (.goto 4, 3) := by decide +kernel
theorem dX2_valley_143 : decode cX2_valley 143 = .ok (.iload_n 2, 1) := by decide +kernel
theorem dX2_valley_144 : decode cX2_valley 144 = .ok (.ireturn, 1) := by decide +kernel
theorem dX2_rocket_0 : decode cX2_rocket 0 = .ok (.aload_n 0, 1) := by decide +kernel
theorem dX2_rocket_1 : decode cX2_rocket 1 = .ok (.iload_n 1, 1) := by decide +kernel
theorem dX2_rocket_2 : decode cX2_rocket 2 = .ok (.invokevirtual 124, 3) := by decide +kernel
theorem dX2_rocket_5 : decode cX2_rocket 5 = .ok (.ifCond .ne 9, 3) := by decide +kernel
theorem dX2_rocket_8 : decode cX2_rocket 8 = .ok (.aload_n 0, 1) := by decide +kernel
theorem dX2_rocket_9 : decode cX2_rocket 9 = .ok (.iconst (-1), 1) := by decide +kernel
theorem dX2_rocket_10 : decode cX2_rocket 10 = .ok (.invokevirtual 36, 3) := by decide +kernel
theorem dX2_rocket_13 : decode cX2_rocket 13 = .ok (.ireturn, 1) := by decide +kernel
theorem dX2_rocket_14 : decode cX2_rocket 14 = .ok (.aload_n 0, 1) := by decide +kernel
theorem dX2_rocket_15 : decode cX2_rocket 15 = .ok (.getfield 9, 3) := by decide +kernel
theorem dX2_rocket_18 : decode cX2_rocket 18 = .ok (.iload_n 1, 1) := by decide +kernel
theorem dX2_rocket_19 : decode cX2_rocket 19 = .ok (.iconst 0, 1) := by decide +kernel
theorem dX2_rocket_20 : decode cX2_rocket 20 = .ok (.invokestatic 44, 3) := by decide +kernel
theorem dX2_rocket_23 : decode cX2_rocket 23 = .ok (.iaload, 1) := by decide +kernel
theorem dX2_rocket_24 : decode cX2_rocket 24 = .ok (.istore_n 3, 1) := by decide +kernel
theorem dX2_rocket_25 : decode cX2_rocket 25 = .ok (.aload_n 0, 1) := by decide +kernel
theorem dX2_rocket_26 : decode cX2_rocket 26 = .ok (.getfield 9, 3) := by decide +kernel
theorem dX2_rocket_29 : decode cX2_rocket 29 = .ok (.iload_n 1, 1) := by decide +kernel
theorem dX2_rocket_30 : decode cX2_rocket 30 = .ok (.iconst 1, 1) := by decide +kernel
theorem dX2_rocket_31 : decode cX2_rocket 31 = .ok (.invokestatic 44, 3) := by decide +kernel
theorem dX2_rocket_34 : decode cX2_rocket 34 = .ok (.iaload, 1) := by decide +kernel
theorem dX2_rocket_35 : decode cX2_rocket 35 = .ok (.istore 4, 2) := by decide +kernel
theorem dX2_rocket_37 : decode cX2_rocket 37 = .ok (.iload_n 2, 1) := by decide +kernel
theorem dX2_rocket_38 : decode cX2_rocket 38 = .ok (.tableswitch 98 0 8 #[50, 50, 50, 50, 61, 66, 73, 80, 89], 50) := by decide +kernel
theorem dX2_rocket_88 : decode cX2_rocket 88 = .ok (.aload_n 0, 1) := by decide +kernel
theorem dX2_rocket_89 : decode cX2_rocket 89 = .ok (.getfield 9, 3) := by decide +kernel
theorem dX2_rocket_92 : decode cX2_rocket 92 = .ok (.iload_n 1, 1) := by decide +kernel
theorem dX2_rocket_93 : decode cX2_rocket 93 = .ok (.iload_n 2, 1) := by decide +kernel
theorem dX2_rocket_94 : decode cX2_rocket 94 = .ok (.invokestatic 44, 3) := by decide +kernel
theorem dX2_rocket_97 : decode cX2_rocket 97 = .ok (.iaload, 1) := by decide +kernel
theorem dX2_rocket_98 : decode cX2_rocket 98 = .ok (.ireturn, 1) := by decide +kernel
theorem dX2_rocket_99 : decode cX2_rocket 99 = .ok (.iload_n 3, 1) := by decide +kernel
theorem dX2_rocket_100 : decode cX2_rocket 100 = .ok (.invokestatic 69, 3) := by decide +kernel
theorem dX2_rocket_103 : decode cX2_rocket 103 = .ok (.ireturn, 1) := by decide +kernel
theorem dX2_rocket_104 : decode cX2_rocket 104 = .ok (.iload_n 3, 1) := by decide +kernel
theorem dX2_rocket_105 : decode cX2_rocket 105 = .ok (.iload 4, 2) := by decide +kernel
theorem dX2_rocket_107 : decode cX2_rocket 107 = .ok (.invokestatic 58, 3) := by decide +kernel
theorem dX2_rocket_110 : decode cX2_rocket 110 = .ok (.ireturn, 1) := by decide +kernel
theorem dX2_rocket_111 : decode cX2_rocket 111 = .ok (.iload_n 3, 1) := by decide +kernel
theorem dX2_rocket_112 : decode cX2_rocket 112 = .ok (.iload 4, 2) := by decide +kernel
theorem dX2_rocket_114 : decode cX2_rocket 114 = .ok (.invokestatic 141, 3) := by decide +kernel
theorem dX2_rocket_117 : decode cX2_rocket 117 = .ok (.ireturn, 1) := by decide +kernel
theorem dX2_rocket_118 : decode cX2_rocket 118 = .ok (.aload_n 0, 1) := by decide +kernel
theorem dX2_rocket_119 : decode cX2_rocket 119 = .ok (.getfield 9, 3) := by decide +kernel
theorem dX2_rocket_122 : decode cX2_rocket 122 = .ok (.iload_n 1, 1) := by decide +kernel
theorem dX2_rocket_123 : decode cX2_rocket 123 = .ok (.invokestatic 51, 3) := by decide +kernel
theorem dX2_rocket_126 : decode cX2_rocket 126 = .ok (.ireturn, 1) := by decide +kernel
theorem dX2_rocket_127 : decode cX2_rocket 127 = .ok (.aload_n 0, 1) := by decide +kernel
theorem dX2_rocket_128 : decode cX2_rocket 128 = .ok (.getfield 9, 3) := by decide +kernel
theorem dX2_rocket_131 : decode cX2_rocket 131 = .ok (.iload_n 1, 1) := by decide +kernel
theorem dX2_rocket_132 : decode cX2_rocket 132 = .ok (.invokestatic 144, 3) := by decide +kernel
theorem dX2_rocket_135 : decode cX2_rocket 135 = .ok (.ireturn, 1) := by decide +kernel
theorem dX2_rocket_136 : decode cX2_rocket 136 = .ok (.aload_n 0, 1) := by decide +kernel
theorem dX2_rocket_137 : decode cX2_rocket 137 = .ok (.bipush (-2), 2) := by decide +kernel
theorem dX2_rocket_139 : decode cX2_rocket 139 = .ok (.invokevirtual 36, 3) := by decide +kernel
theorem dX2_rocket_142 : decode cX2_rocket 142 = .ok (.ireturn, 1) := by decide +kernel
theorem dX2_reader_0 : decode cX2_reader 0 = .ok (.aload_n 0, 1) := by decide +kernel
theorem dX2_reader_1 : decode cX2_reader 1 = .ok (.iload_n 1, 1) := by decide +kernel
theorem dX2_reader_2 : decode cX2_reader 2 = .ok (.invokevirtual 147, 3) := by decide +kernel
theorem dX2_reader_5 : decode cX2_reader 5 = .ok (.ifCond .ne 9, 3) := by decide +kernel
theorem dX2_reader_8 : decode cX2_reader 8 = .ok (.aload_n 0, 1) := by decide +kernel
theorem dX2_reader_9 : decode cX2_reader 9 = .ok (.iconst (-1), 1) := by decide +kernel
theorem dX2_reader_10 : decode cX2_reader 10 = .ok (.invokevirtual 36, 3) := by decide +kernel
theorem dX2_reader_13 : decode cX2_reader 13 = .ok (.ireturn, 1) := by decide +kernel
theorem dX2_reader_14 : decode cX2_reader 14 = .ok (.iload_n 2, 1) := by decide +kernel
theorem dX2_reader_15 : decode cX2_reader 15 = .ok (.iconst 2, 1) := by decide +kernel
theorem dX2_reader_16 : decode cX2_reader 16 = .ok (.if_icmp .ne 14, 3) := by decide +kernel
theorem dX2_reader_19 : decode cX2_reader 19 = .ok (.aload_n 0, 1) := by decide +kernel
theorem dX2_reader_20 : decode cX2_reader 20 = .ok (.getfield 9, 3) := by decide +kernel
theorem dX2_reader_23 : decode cX2_reader 23 = .ok (.iload_n 1, 1) := by decide +kernel
theorem dX2_reader_24 : decode cX2_reader 24 = .ok (.invokestatic 91, 3) := by decide +kernel
theorem dX2_reader_27 : decode cX2_reader 27 = .ok (.goto 31, 3) := by decide +kernel
theorem dX2_reader_30 : decode cX2_reader 30 = .ok (.iload_n 2, 1) := by decide +kernel
theorem dX2_reader_31 : decode cX2_reader 31 = .ok (.iconst 0, 1) := by decide +kernel
theorem dX2_reader_32 : decode cX2_reader 32 = .ok (.iconst 1, 1) := by decide +kernel
theorem dX2_reader_33 : decode cX2_reader 33 = .ok (.invokestatic 40, 3) := by decide +kernel
theorem dX2_reader_36 : decode cX2_reader 36 = .ok (.ifCond .eq 16, 3) := by decide +kernel
theorem dX2_reader_39 : decode cX2_reader 39 = .ok (.aload_n 0, 1) := by decide +kernel
theorem dX2_reader_40 : decode cX2_reader 40 = .ok (.getfield 9, 3) := by decide +kernel
theorem dX2_reader_43 : decode cX2_reader 43 = .ok (.iload_n 1, 1) := by decide +kernel
theorem dX2_reader_44 : decode cX2_reader 44 = .ok (.iload_n 2, 1) := by decide +kernel
theorem dX2_reader_45 : decode cX2_reader 45 = .ok (.invokestatic 48, 3) := by decide +kernel
theorem dX2_reader_48 : decode cX2_reader 48 = .ok (.iaload, 1) := by decide +kernel
theorem dX2_reader_49 : decode cX2_reader 49 = .ok (.goto 9, 3) := by decide +kernel
theorem dX2_reader_52 : decode cX2_reader 52 = .ok (.aload_n 0, 1) := by decide +kernel
theorem dX2_reader_53 : decode cX2_reader 53 = .ok (.bipush (-2), 2) := by decide +kernel
theorem dX2_reader_55 : decode cX2_reader 55 = .ok (.invokevirtual 36, 3) := by decide +kernel
theorem dX2_reader_58 : decode cX2_reader 58 = .ok (.ireturn, 1) := by decide +kernel
theorem dX2_keeps_0 : decode cX2_keeps 0 = .ok (.aload_n 0, 1) := by decide +kernel
theorem dX2_keeps_1 : decode cX2_keeps 1 = .ok (.iload_n 1, 1) := by decide +kernel
theorem dX2_keeps_2 : decode cX2_keeps 2 = .ok (.invokevirtual 147, 3) := by decide +kernel
theorem dX2_keeps_5 : decode cX2_keeps 5 = .ok (.ifCond .eq 27, 3) := by decide +kernel
theorem dX2_keeps_8 : decode cX2_keeps 8 = .ok (.iload_n 2, 1) := by decide +kernel
theorem dX2_keeps_9 : decode cX2_keeps 9 = .ok (.iconst 0, 1) := by decide +kernel
theorem dX2_keeps_10 : decode cX2_keeps 10 = .ok (.iconst 5, 1) := by decide +kernel
theorem dX2_keeps_11 : decode cX2_keeps 11 = .ok (.invokestatic 40, 3) := by decide +kernel
theorem dX2_keeps_14 : decode cX2_keeps 14 = .ok (.ifCond .eq 18, 3) := by decide +kernel
theorem dX2_keeps_17 : decode cX2_keeps 17 = .ok (.aload_n 0, 1) := by decide +kernel
theorem dX2_keeps_18 : decode cX2_keeps 18 = .ok (.getfield 9, 3) := by decide +kernel
theorem dX2_keeps_21 : decode cX2_keeps 21 = .ok (.iload_n 1, 1) := by decide +kernel
theorem dX2_keeps_22 : decode cX2_keeps 22 = .ok (.iconst 2, 1) := by decide +kernel
theorem dX2_keeps_23 : decode cX2_keeps 23 = .ok (.iload_n 2, 1) := by decide +kernel
theorem dX2_keeps_24 : decode cX2_keeps 24 = .ok (.iadd, 1) := by decide +kernel
theorem dX2_keeps_25 : decode cX2_keeps 25 = .ok (.invokestatic 48, 3) := by decide +kernel
theorem dX2_keeps_28 : decode cX2_keeps 28 = .ok (.iaload, 1) := by decide +kernel
theorem dX2_keeps_29 : decode cX2_keeps 29 = .ok (.goto 8, 3) := by decide +kernel
theorem dX2_keeps_32 : decode cX2_keeps 32 = .ok (.aload_n 0, 1) := by decide +kernel
theorem dX2_keeps_33 : decode cX2_keeps 33 = .ok (.iconst (-1), 1) := by decide +kernel
theorem dX2_keeps_34 : decode cX2_keeps 34 = .ok (.invokevirtual 36, 3) := by decide +kernel
theorem dX2_keeps_37 : decode cX2_keeps 37 = .ok (.ireturn, 1) := by decide +kernel
theorem dX2_sends_0 : decode cX2_sends 0 = .ok (.aload_n 0, 1) := by decide +kernel
theorem dX2_sends_1 : decode cX2_sends 1 = .ok (.iload_n 1, 1) := by decide +kernel
theorem dX2_sends_2 : decode cX2_sends 2 = .ok (.invokevirtual 124, 3) := by decide +kernel
theorem dX2_sends_5 : decode cX2_sends 5 = .ok (.ifCond .ne 9, 3) := by decide +kernel
theorem dX2_sends_8 : decode cX2_sends 8 = .ok (.aload_n 0, 1) := by decide +kernel
theorem dX2_sends_9 : decode cX2_sends 9 = .ok (.iconst (-1), 1) := by decide +kernel
theorem dX2_sends_10 : decode cX2_sends 10 = .ok (.invokevirtual 36, 3) := by decide +kernel
theorem dX2_sends_13 : decode cX2_sends 13 = .ok (.ireturn, 1) := by decide +kernel
theorem dX2_sends_14 : decode cX2_sends 14 = .ok (.aload_n 0, 1) := by decide +kernel
theorem dX2_sends_15 : decode cX2_sends 15 = .ok (.getfield 9, 3) := by decide +kernel
theorem dX2_sends_18 : decode cX2_sends 18 = .ok (.iload_n 1, 1) := by decide +kernel
theorem dX2_sends_19 : decode cX2_sends 19 = .ok (.invokestatic 76, 3) := by decide +kernel
theorem dX2_sends_22 : decode cX2_sends 22 = .ok (.ifCond .ne 10, 3) := by decide +kernel
theorem dX2_sends_25 : decode cX2_sends 25 = .ok (.aload_n 0, 1) := by decide +kernel
theorem dX2_sends_26 : decode cX2_sends 26 = .ok (.bipush (-3), 2) := by decide +kernel
theorem dX2_sends_28 : decode cX2_sends 28 = .ok (.invokevirtual 36, 3) := by decide +kernel
theorem dX2_sends_31 : decode cX2_sends 31 = .ok (.ireturn, 1) := by decide +kernel
theorem dX2_sends_32 : decode cX2_sends 32 = .ok (.aload_n 0, 1) := by decide +kernel
theorem dX2_sends_33 : decode cX2_sends 33 = .ok (.getfield 9, 3) := by decide +kernel
theorem dX2_sends_36 : decode cX2_sends 36 = .ok (.iload_n 1, 1) := by decide +kernel
theorem dX2_sends_37 : decode cX2_sends 37 = .ok (.iconst (-1), 1) := by decide +kernel
theorem dX2_sends_38 : decode cX2_sends 38 = .ok (.invokestatic 84, 3) := by decide +kernel
theorem dX2_sends_41 : decode cX2_sends 41 = .ok (.aload_n 0, 1) := by decide +kernel
theorem dX2_sends_42 : decode cX2_sends 42 = .ok (.getfield 9, 3) := by decide +kernel
theorem dX2_sends_45 : decode cX2_sends 45 = .ok (.iconst 3, 1) := by decide +kernel
theorem dX2_sends_46 : decode cX2_sends 46 = .ok (.iaload, 1) := by decide +kernel
theorem dX2_sends_47 : decode cX2_sends 47 = .ok (.ireturn, 1) := by decide +kernel
theorem dX2_boxes_0 : decode cX2_boxes 0 = .ok (.aload_n 0, 1) := by decide +kernel
theorem dX2_boxes_1 : decode cX2_boxes 1 = .ok (.iload_n 1, 1) := by decide +kernel
theorem dX2_boxes_2 : decode cX2_boxes 2 = .ok (.invokevirtual 124, 3) := by decide +kernel
theorem dX2_boxes_5 : decode cX2_boxes 5 = .ok (.ifCond .ne 9, 3) := by decide +kernel
theorem dX2_boxes_8 : decode cX2_boxes 8 = .ok (.aload_n 0, 1) := by decide +kernel
theorem dX2_boxes_9 : decode cX2_boxes 9 = .ok (.iconst (-1), 1) := by decide +kernel
theorem dX2_boxes_10 : decode cX2_boxes 10 = .ok (.invokevirtual 36, 3) := by decide +kernel
theorem dX2_boxes_13 : decode cX2_boxes 13 = .ok (.ireturn, 1) := by decide +kernel
theorem dX2_boxes_14 : decode cX2_boxes 14 = .ok (.aload_n 0, 1) := by decide +kernel
theorem dX2_boxes_15 : decode cX2_boxes 15 = .ok (.getfield 9, 3) := by decide +kernel
theorem dX2_boxes_18 : decode cX2_boxes 18 = .ok (.iload_n 1, 1) := by decide +kernel
theorem dX2_boxes_19 : decode cX2_boxes 19 = .ok (.iconst 3, 1) := by decide +kernel
theorem dX2_boxes_20 : decode cX2_boxes 20 = .ok (.invokestatic 44, 3) := by decide +kernel
theorem dX2_boxes_23 : decode cX2_boxes 23 = .ok (.iaload, 1) := by decide +kernel
theorem dX2_boxes_24 : decode cX2_boxes 24 = .ok (.ifCond .ne 10, 3) := by decide +kernel
theorem dX2_boxes_27 : decode cX2_boxes 27 = .ok (.aload_n 0, 1) := by decide +kernel
theorem dX2_boxes_28 : decode cX2_boxes 28 = .ok (.bipush (-3), 2) := by decide +kernel
theorem dX2_boxes_30 : decode cX2_boxes 30 = .ok (.invokevirtual 36, 3) := by decide +kernel
theorem dX2_boxes_33 : decode cX2_boxes 33 = .ok (.ireturn, 1) := by decide +kernel
theorem dX2_boxes_34 : decode cX2_boxes 34 = .ok (.aload_n 0, 1) := by decide +kernel
theorem dX2_boxes_35 : decode cX2_boxes 35 = .ok (.getfield 9, 3) := by decide +kernel
theorem dX2_boxes_38 : decode cX2_boxes 38 = .ok (.iload_n 1, 1) := by decide +kernel
theorem dX2_boxes_39 : decode cX2_boxes 39 = .ok (.iconst 3, 1) := by decide +kernel
theorem dX2_boxes_40 : decode cX2_boxes 40 = .ok (.invokestatic 44, 3) := by decide +kernel
theorem dX2_boxes_43 : decode cX2_boxes 43 = .ok (.iconst 0, 1) := by decide +kernel
theorem dX2_boxes_44 : decode cX2_boxes 44 = .ok (.iastore, 1) := by decide +kernel
theorem dX2_boxes_45 : decode cX2_boxes 45 = .ok (.aload_n 0, 1) := by decide +kernel
theorem dX2_boxes_46 : decode cX2_boxes 46 = .ok (.getfield 9, 3) := by decide +kernel
theorem dX2_boxes_49 : decode cX2_boxes 49 = .ok (.iconst 0, 1) := by decide +kernel
theorem dX2_boxes_50 : decode cX2_boxes 50 = .ok (.iaload, 1) := by decide +kernel
theorem dX2_boxes_51 : decode cX2_boxes 51 = .ok (.aload_n 0, 1) := by decide +kernel
theorem dX2_boxes_52 : decode cX2_boxes 52 = .ok (.getfield 9, 3) := by decide +kernel
theorem dX2_boxes_55 : decode cX2_boxes 55 = .ok (.invokestatic 150, 3) := by decide +kernel
theorem dX2_boxes_58 : decode cX2_boxes 58 = .ok (.invokestatic 94, 3) := by decide +kernel
theorem dX2_boxes_61 : decode cX2_boxes 61 = .ok (.isub, 1) := by decide +kernel
theorem dX2_boxes_62 : decode cX2_boxes 62 = .ok (.ireturn, 1) := by decide +kernel
theorem dX2_wrongBy_0 : decode cX2_wrongBy 0 = .ok (.iload_n 0, 1) := by decide +kernel
theorem dX2_wrongBy_1 : decode cX2_wrongBy 1 = .ok (.iload_n 1, 1) := by decide +kernel
theorem dX2_wrongBy_2 : decode cX2_wrongBy 2 = .ok (.if_icmp .ge 8, 3) := by decide +kernel
theorem dX2_wrongBy_5 : decode cX2_wrongBy 5 = .ok (.bipush (-4), 2) := by decide +kernel
theorem dX2_wrongBy_7 : decode cX2_wrongBy 7 = .ok (.goto 14, 3) := by decide +kernel
theorem dX2_wrongBy_10 : decode cX2_wrongBy 10 = .ok (.iload_n 0, 1) := by decide +kernel
theorem dX2_wrongBy_11 : decode cX2_wrongBy 11 = .ok (.iload_n 2, 1) := by decide +kernel
theorem dX2_wrongBy_12 : decode cX2_wrongBy 12 = .ok (.if_icmp .le 8, 3) := by decide +kernel
theorem dX2_wrongBy_15 : decode cX2_wrongBy 15 = .ok (.bipush (-6), 2) := by decide +kernel
theorem dX2_wrongBy_17 : decode cX2_wrongBy 17 = .ok (.goto 4, 3) := by decide +kernel
theorem dX2_wrongBy_20 : decode cX2_wrongBy 20 = .ok (.iconst 0, 1) := by decide +kernel
theorem dX2_wrongBy_21 : decode cX2_wrongBy 21 = .ok (.ireturn, 1) := by decide +kernel
theorem dX2_sets_0 : decode cX2_sets 0 = .ok (.iload_n 2, 1) := by decide +kernel
theorem dX2_sets_1 : decode cX2_sets 1 = .ok (.iconst 0, 1) := by decide +kernel
theorem dX2_sets_2 : decode cX2_sets 2 = .ok (.iload_n 3, 1) := by decide +kernel
theorem dX2_sets_3 : decode cX2_sets 3 = .ok (.invokestatic 153, 3) := by decide +kernel
theorem dX2_sets_6 : decode cX2_sets 6 = .ok (.istore 4, 2) := by decide +kernel
theorem dX2_sets_8 : decode cX2_sets 8 = .ok (.iload 4, 2) := by decide +kernel
theorem dX2_sets_10 : decode cX2_sets 10 = .ok (.ifCond .eq 10, 3) := by decide +kernel
theorem dX2_sets_13 : decode cX2_sets 13 = .ok (.aload_n 0, 1) := by decide +kernel
theorem dX2_sets_14 : decode cX2_sets 14 = .ok (.iload 4, 2) := by decide +kernel
theorem dX2_sets_16 : decode cX2_sets 16 = .ok (.invokevirtual 36, 3) := by decide +kernel
theorem dX2_sets_19 : decode cX2_sets 19 = .ok (.ireturn, 1) := by decide +kernel
theorem dX2_sets_20 : decode cX2_sets 20 = .ok (.aload_n 0, 1) := by decide +kernel
theorem dX2_sets_21 : decode cX2_sets 21 = .ok (.getfield 9, 3) := by decide +kernel
theorem dX2_sets_24 : decode cX2_sets 24 = .ok (.iload_n 1, 1) := by decide +kernel
theorem dX2_sets_25 : decode cX2_sets 25 = .ok (.iaload, 1) := by decide +kernel
theorem dX2_sets_26 : decode cX2_sets 26 = .ok (.istore 5, 2) := by decide +kernel
theorem dX2_sets_28 : decode cX2_sets 28 = .ok (.aload_n 0, 1) := by decide +kernel
theorem dX2_sets_29 : decode cX2_sets 29 = .ok (.getfield 9, 3) := by decide +kernel
theorem dX2_sets_32 : decode cX2_sets 32 = .ok (.iload_n 1, 1) := by decide +kernel
theorem dX2_sets_33 : decode cX2_sets 33 = .ok (.iload_n 2, 1) := by decide +kernel
theorem dX2_sets_34 : decode cX2_sets 34 = .ok (.iastore, 1) := by decide +kernel
theorem dX2_sets_35 : decode cX2_sets 35 = .ok (.iload 5, 2) := by decide +kernel
theorem dX2_sets_37 : decode cX2_sets 37 = .ok (.ireturn, 1) := by decide +kernel
theorem dX2_wind_0 : decode cX2_wind 0 = .ok (.aload_n 0, 1) := by decide +kernel
theorem dX2_wind_1 : decode cX2_wind 1 = .ok (.iconst 4, 1) := by decide +kernel
theorem dX2_wind_2 : decode cX2_wind 2 = .ok (.iload_n 1, 1) := by decide +kernel
theorem dX2_wind_3 : decode cX2_wind 3 = .ok (.bipush 9, 2) := by decide +kernel
theorem dX2_wind_5 : decode cX2_wind 5 = .ok (.invokevirtual 157, 3) := by decide +kernel
theorem dX2_wind_8 : decode cX2_wind 8 = .ok (.ireturn, 1) := by decide +kernel
theorem dX2_grant_0 : decode cX2_grant 0 = .ok (.aload_n 0, 1) := by decide +kernel
theorem dX2_grant_1 : decode cX2_grant 1 = .ok (.iconst 3, 1) := by decide +kernel
theorem dX2_grant_2 : decode cX2_grant 2 = .ok (.iload_n 1, 1) := by decide +kernel
theorem dX2_grant_3 : decode cX2_grant 3 = .ok (.sipush 999, 3) := by decide +kernel
theorem dX2_grant_6 : decode cX2_grant 6 = .ok (.invokevirtual 157, 3) := by decide +kernel
theorem dX2_grant_9 : decode cX2_grant 9 = .ok (.ireturn, 1) := by decide +kernel
theorem dX2_stands_0 : decode cX2_stands 0 = .ok (.aload_n 0, 1) := by decide +kernel
theorem dX2_stands_1 : decode cX2_stands 1 = .ok (.iload_n 1, 1) := by decide +kernel
theorem dX2_stands_2 : decode cX2_stands 2 = .ok (.invokevirtual 147, 3) := by decide +kernel
theorem dX2_stands_5 : decode cX2_stands 5 = .ok (.ifCond .eq 28, 3) := by decide +kernel
theorem dX2_stands_8 : decode cX2_stands 8 = .ok (.iload_n 2, 1) := by decide +kernel
theorem dX2_stands_9 : decode cX2_stands 9 = .ok (.iconst 0, 1) := by decide +kernel
theorem dX2_stands_10 : decode cX2_stands 10 = .ok (.bipush 19, 2) := by decide +kernel
theorem dX2_stands_12 : decode cX2_stands 12 = .ok (.invokestatic 40, 3) := by decide +kernel
theorem dX2_stands_15 : decode cX2_stands 15 = .ok (.ifCond .eq 18, 3) := by decide +kernel
theorem dX2_stands_18 : decode cX2_stands 18 = .ok (.aload_n 0, 1) := by decide +kernel
theorem dX2_stands_19 : decode cX2_stands 19 = .ok (.iload_n 1, 1) := by decide +kernel
theorem dX2_stands_20 : decode cX2_stands 20 = .ok (.iconst 0, 1) := by decide +kernel
theorem dX2_stands_21 : decode cX2_stands 21 = .ok (.invokestatic 48, 3) := by decide +kernel
theorem dX2_stands_24 : decode cX2_stands 24 = .ok (.iload_n 2, 1) := by decide +kernel
theorem dX2_stands_25 : decode cX2_stands 25 = .ok (.bipush 20, 2) := by decide +kernel
theorem dX2_stands_27 : decode cX2_stands 27 = .ok (.invokevirtual 157, 3) := by decide +kernel
theorem dX2_stands_30 : decode cX2_stands 30 = .ok (.goto 8, 3) := by decide +kernel
theorem dX2_stands_33 : decode cX2_stands 33 = .ok (.aload_n 0, 1) := by decide +kernel
theorem dX2_stands_34 : decode cX2_stands 34 = .ok (.iconst (-1), 1) := by decide +kernel
theorem dX2_stands_35 : decode cX2_stands 35 = .ok (.invokevirtual 36, 3) := by decide +kernel
theorem dX2_stands_38 : decode cX2_stands 38 = .ok (.ireturn, 1) := by decide +kernel
theorem dX2_turn_0 : decode cX2_turn 0 = .ok (.aload_n 0, 1) := by decide +kernel
theorem dX2_turn_1 : decode cX2_turn 1 = .ok (.iload_n 1, 1) := by decide +kernel
theorem dX2_turn_2 : decode cX2_turn 2 = .ok (.invokevirtual 124, 3) := by decide +kernel
theorem dX2_turn_5 : decode cX2_turn 5 = .ok (.ifCond .ne 7, 3) := by decide +kernel
theorem dX2_turn_8 : decode cX2_turn 8 = .ok (.iconst (-1), 1) := by decide +kernel
theorem dX2_turn_9 : decode cX2_turn 9 = .ok (.goto 24, 3) := by decide +kernel
theorem dX2_turn_12 : decode cX2_turn 12 = .ok (.iload_n 2, 1) := by decide +kernel
theorem dX2_turn_13 : decode cX2_turn 13 = .ok (.iconst 0, 1) := by decide +kernel
theorem dX2_turn_14 : decode cX2_turn 14 = .ok (.iconst 5, 1) := by decide +kernel
theorem dX2_turn_15 : decode cX2_turn 15 = .ok (.invokestatic 40, 3) := by decide +kernel
theorem dX2_turn_18 : decode cX2_turn 18 = .ok (.ifCond .ne 8, 3) := by decide +kernel
theorem dX2_turn_21 : decode cX2_turn 21 = .ok (.bipush (-2), 2) := by decide +kernel
theorem dX2_turn_23 : decode cX2_turn 23 = .ok (.goto 10, 3) := by decide +kernel
theorem dX2_turn_26 : decode cX2_turn 26 = .ok (.iload_n 3, 1) := by decide +kernel
theorem dX2_turn_27 : decode cX2_turn 27 = .ok (.iconst 0, 1) := by decide +kernel
theorem dX2_turn_28 : decode cX2_turn 28 = .ok (.bipush 9, 2) := by decide +kernel
theorem dX2_turn_30 : decode cX2_turn 30 = .ok (.invokestatic 153, 3) := by decide +kernel
theorem dX2_turn_33 : decode cX2_turn 33 = .ok (.istore 4, 2) := by decide +kernel
theorem dX2_turn_35 : decode cX2_turn 35 = .ok (.iload 4, 2) := by decide +kernel
theorem dX2_turn_37 : decode cX2_turn 37 = .ok (.ifCond .eq 10, 3) := by decide +kernel
theorem dX2_turn_40 : decode cX2_turn 40 = .ok (.aload_n 0, 1) := by decide +kernel
theorem dX2_turn_41 : decode cX2_turn 41 = .ok (.iload 4, 2) := by decide +kernel
theorem dX2_turn_43 : decode cX2_turn 43 = .ok (.invokevirtual 36, 3) := by decide +kernel
theorem dX2_turn_46 : decode cX2_turn 46 = .ok (.ireturn, 1) := by decide +kernel
theorem dX2_turn_47 : decode cX2_turn 47 = .ok (.bipush 10, 2) := by decide +kernel
theorem dX2_turn_49 : decode cX2_turn 49 = .ok (.aload_n 0, 1) := by decide +kernel
theorem dX2_turn_50 : decode cX2_turn 50 = .ok (.getfield 9, 3) := by decide +kernel
theorem dX2_turn_53 : decode cX2_turn 53 = .ok (.iload_n 1, 1) := by decide +kernel
theorem dX2_turn_54 : decode cX2_turn 54 = .ok (.iconst 0, 1) := by decide +kernel
theorem dX2_turn_55 : decode cX2_turn 55 = .ok (.invokestatic 44, 3) := by decide +kernel
theorem dX2_turn_58 : decode cX2_turn 58 = .ok (.iaload, 1) := by decide +kernel
theorem dX2_turn_59 : decode cX2_turn 59 = .ok (.imul, 1) := by decide +kernel
theorem dX2_turn_60 : decode cX2_turn 60 = .ok (.aload_n 0, 1) := by decide +kernel
theorem dX2_turn_61 : decode cX2_turn 61 = .ok (.getfield 9, 3) := by decide +kernel
theorem dX2_turn_64 : decode cX2_turn 64 = .ok (.iload_n 1, 1) := by decide +kernel
theorem dX2_turn_65 : decode cX2_turn 65 = .ok (.iconst 1, 1) := by decide +kernel
theorem dX2_turn_66 : decode cX2_turn 66 = .ok (.invokestatic 44, 3) := by decide +kernel
theorem dX2_turn_69 : decode cX2_turn 69 = .ok (.iaload, 1) := by decide +kernel
theorem dX2_turn_70 : decode cX2_turn 70 = .ok (.iadd, 1) := by decide +kernel
theorem dX2_turn_71 : decode cX2_turn 71 = .ok (.istore 5, 2) := by decide +kernel
theorem dX2_turn_73 : decode cX2_turn 73 = .ok (.aload_n 0, 1) := by decide +kernel
theorem dX2_turn_74 : decode cX2_turn 74 = .ok (.getfield 9, 3) := by decide +kernel
theorem dX2_turn_77 : decode cX2_turn 77 = .ok (.iload_n 1, 1) := by decide +kernel
theorem dX2_turn_78 : decode cX2_turn 78 = .ok (.iconst 0, 1) := by decide +kernel
theorem dX2_turn_79 : decode cX2_turn 79 = .ok (.invokestatic 44, 3) := by decide +kernel
theorem dX2_turn_82 : decode cX2_turn 82 = .ok (.iload_n 2, 1) := by decide +kernel
theorem dX2_turn_83 : decode cX2_turn 83 = .ok (.iastore, 1) := by decide +kernel
theorem dX2_turn_84 : decode cX2_turn 84 = .ok (.aload_n 0, 1) := by decide +kernel
theorem dX2_turn_85 : decode cX2_turn 85 = .ok (.getfield 9, 3) := by decide +kernel
theorem dX2_turn_88 : decode cX2_turn 88 = .ok (.iload_n 1, 1) := by decide +kernel
theorem dX2_turn_89 : decode cX2_turn 89 = .ok (.iconst 1, 1) := by decide +kernel
theorem dX2_turn_90 : decode cX2_turn 90 = .ok (.invokestatic 44, 3) := by decide +kernel
theorem dX2_turn_93 : decode cX2_turn 93 = .ok (.iload_n 3, 1) := by decide +kernel
theorem dX2_turn_94 : decode cX2_turn 94 = .ok (.iastore, 1) := by decide +kernel
theorem dX2_turn_95 : decode cX2_turn 95 = .ok (.iload 5, 2) := by decide +kernel
theorem dX2_turn_97 : decode cX2_turn 97 = .ok (.ireturn, 1) := by decide +kernel
theorem dX2_nights_0 : decode cX2_nights 0 = .ok (.iload_n 1, 1) := by decide +kernel
theorem dX2_nights_1 : decode cX2_nights 1 = .ok (.iconst 1, 1) := by decide +kernel
theorem dX2_nights_2 : decode cX2_nights 2 = .ok (.if_icmp .ge 10, 3) := by decide +kernel
theorem dX2_nights_5 : decode cX2_nights 5 = .ok (.aload_n 0, 1) := by decide +kernel
theorem dX2_nights_6 : decode cX2_nights 6 = .ok (.bipush (-4), 2) := by decide +kernel
theorem dX2_nights_8 : decode cX2_nights 8 = .ok (.invokevirtual 36, 3) := by decide +kernel
theorem dX2_nights_11 : decode cX2_nights 11 = .ok (.ireturn, 1) := by decide +kernel
theorem dX2_nights_12 : decode cX2_nights 12 = .ok (.iload_n 1, 1) := by decide +kernel
theorem dX2_nights_13 : decode cX2_nights 13 = .ok (.bipush 60, 2) := by decide +kernel
theorem dX2_nights_15 : decode cX2_nights 15 = .ok (.if_icmp .gt 17, 3) := by decide +kernel
theorem dX2_nights_18 : decode cX2_nights 18 = .ok (.aload_n 0, 1) := by decide +kernel
theorem dX2_nights_19 : decode cX2_nights 19 = .ok (.getfield 9, 3) := by decide +kernel
theorem dX2_nights_22 : decode cX2_nights 22 = .ok (.iconst 2, 1) := by decide +kernel
theorem dX2_nights_23 : decode cX2_nights 23 = .ok (.iaload, 1) := by decide +kernel
theorem dX2_nights_24 : decode cX2_nights 24 = .ok (.iload_n 1, 1) := by decide +kernel
theorem dX2_nights_25 : decode cX2_nights 25 = .ok (.iadd, 1) := by decide +kernel
theorem dX2_nights_26 : decode cX2_nights 26 = .ok (.sipush 999, 3) := by decide +kernel
theorem dX2_nights_29 : decode cX2_nights 29 = .ok (.if_icmp .le 10, 3) := by decide +kernel
theorem dX2_nights_32 : decode cX2_nights 32 = .ok (.aload_n 0, 1) := by decide +kernel
theorem dX2_nights_33 : decode cX2_nights 33 = .ok (.bipush (-6), 2) := by decide +kernel
theorem dX2_nights_35 : decode cX2_nights 35 = .ok (.invokevirtual 36, 3) := by decide +kernel
theorem dX2_nights_38 : decode cX2_nights 38 = .ok (.ireturn, 1) := by decide +kernel
theorem dX2_nights_39 : decode cX2_nights 39 = .ok (.aload_n 0, 1) := by decide +kernel
theorem dX2_nights_40 : decode cX2_nights 40 = .ok (.getfield 9, 3) := by decide +kernel
theorem dX2_nights_43 : decode cX2_nights 43 = .ok (.iload_n 1, 1) := by decide +kernel
theorem dX2_nights_44 : decode cX2_nights 44 = .ok (.iconst (-1), 1) := by decide +kernel
theorem dX2_nights_45 : decode cX2_nights 45 = .ok (.invokestatic 128, 3) := by decide +kernel
theorem dX2_nights_48 : decode cX2_nights 48 = .ok (.aload_n 0, 1) := by decide +kernel
theorem dX2_nights_49 : decode cX2_nights 49 = .ok (.getfield 9, 3) := by decide +kernel
theorem dX2_nights_52 : decode cX2_nights 52 = .ok (.iconst 3, 1) := by decide +kernel
theorem dX2_nights_53 : decode cX2_nights 53 = .ok (.iaload, 1) := by decide +kernel
theorem dX2_nights_54 : decode cX2_nights 54 = .ok (.ireturn, 1) := by decide +kernel
theorem dX2_takes_0 : decode cX2_takes 0 = .ok (.aload_n 0, 1) := by decide +kernel
theorem dX2_takes_1 : decode cX2_takes 1 = .ok (.getfield 9, 3) := by decide +kernel
theorem dX2_takes_4 : decode cX2_takes 4 = .ok (.aload_n 0, 1) := by decide +kernel
theorem dX2_takes_5 : decode cX2_takes 5 = .ok (.getfield 13, 3) := by decide +kernel
theorem dX2_takes_8 : decode cX2_takes 8 = .ok (.invokestatic 134, 3) := by decide +kernel
theorem dX2_takes_11 : decode cX2_takes 11 = .ok (.aload_n 0, 1) := by decide +kernel
theorem dX2_takes_12 : decode cX2_takes 12 = .ok (.getfield 13, 3) := by decide +kernel
theorem dX2_takes_15 : decode cX2_takes 15 = .ok (.iload_n 1, 1) := by decide +kernel
theorem dX2_takes_16 : decode cX2_takes 16 = .ok (.iconst (-1), 1) := by decide +kernel
theorem dX2_takes_17 : decode cX2_takes 17 = .ok (.invokestatic 128, 3) := by decide +kernel
theorem dX2_takes_20 : decode cX2_takes 20 = .ok (.return_, 1) := by decide +kernel
theorem dX2_wordsThen_0 : decode cX2_wordsThen 0 = .ok (.aload_n 0, 1) := by decide +kernel
theorem dX2_wordsThen_1 : decode cX2_wordsThen 1 = .ok (.iload_n 1, 1) := by decide +kernel
theorem dX2_wordsThen_2 : decode cX2_wordsThen 2 = .ok (.invokevirtual 147, 3) := by decide +kernel
theorem dX2_wordsThen_5 : decode cX2_wordsThen 5 = .ok (.ifCond .eq 13, 3) := by decide +kernel
theorem dX2_wordsThen_8 : decode cX2_wordsThen 8 = .ok (.iload_n 2, 1) := by decide +kernel
theorem dX2_wordsThen_9 : decode cX2_wordsThen 9 = .ok (.iconst 0, 1) := by decide +kernel
theorem dX2_wordsThen_10 : decode cX2_wordsThen 10 = .ok (.bipush 60, 2) := by decide +kernel
theorem dX2_wordsThen_12 : decode cX2_wordsThen 12 = .ok (.invokestatic 153, 3) := by decide +kernel
theorem dX2_wordsThen_15 : decode cX2_wordsThen 15 = .ok (.goto 4, 3) := by decide +kernel
theorem dX2_wordsThen_18 : decode cX2_wordsThen 18 = .ok (.iconst (-1), 1) := by decide +kernel
theorem dX2_wordsThen_19 : decode cX2_wordsThen 19 = .ok (.istore_n 3, 1) := by decide +kernel
theorem dX2_wordsThen_20 : decode cX2_wordsThen 20 = .ok (.iload_n 3, 1) := by decide +kernel
theorem dX2_wordsThen_21 : decode cX2_wordsThen 21 = .ok (.ifCond .eq 9, 3) := by decide +kernel
theorem dX2_wordsThen_24 : decode cX2_wordsThen 24 = .ok (.aload_n 0, 1) := by decide +kernel
theorem dX2_wordsThen_25 : decode cX2_wordsThen 25 = .ok (.iload_n 3, 1) := by decide +kernel
theorem dX2_wordsThen_26 : decode cX2_wordsThen 26 = .ok (.invokevirtual 36, 3) := by decide +kernel
theorem dX2_wordsThen_29 : decode cX2_wordsThen 29 = .ok (.ireturn, 1) := by decide +kernel
theorem dX2_wordsThen_30 : decode cX2_wordsThen 30 = .ok (.aload_n 0, 1) := by decide +kernel
theorem dX2_wordsThen_31 : decode cX2_wordsThen 31 = .ok (.iload_n 2, 1) := by decide +kernel
theorem dX2_wordsThen_32 : decode cX2_wordsThen 32 = .ok (.invokevirtual 160, 3) := by decide +kernel
theorem dX2_wordsThen_35 : decode cX2_wordsThen 35 = .ok (.aload_n 0, 1) := by decide +kernel
theorem dX2_wordsThen_36 : decode cX2_wordsThen 36 = .ok (.getfield 13, 3) := by decide +kernel
theorem dX2_wordsThen_39 : decode cX2_wordsThen 39 = .ok (.iload_n 1, 1) := by decide +kernel
theorem dX2_wordsThen_40 : decode cX2_wordsThen 40 = .ok (.invokestatic 91, 3) := by decide +kernel
theorem dX2_wordsThen_43 : decode cX2_wordsThen 43 = .ok (.ireturn, 1) := by decide +kernel
theorem dX2_then_0 : decode cX2_then 0 = .ok (.iload_n 1, 1) := by decide +kernel
theorem dX2_then_1 : decode cX2_then 1 = .ok (.iconst 0, 1) := by decide +kernel
theorem dX2_then_2 : decode cX2_then 2 = .ok (.bipush 60, 2) := by decide +kernel
theorem dX2_then_4 : decode cX2_then 4 = .ok (.invokestatic 153, 3) := by decide +kernel
theorem dX2_then_7 : decode cX2_then 7 = .ok (.istore_n 3, 1) := by decide +kernel
theorem dX2_then_8 : decode cX2_then 8 = .ok (.iload_n 3, 1) := by decide +kernel
theorem dX2_then_9 : decode cX2_then 9 = .ok (.ifCond .ne 15, 3) := by decide +kernel
theorem dX2_then_12 : decode cX2_then 12 = .ok (.iload_n 2, 1) := by decide +kernel
theorem dX2_then_13 : decode cX2_then 13 = .ok (.iconst 0, 1) := by decide +kernel
theorem dX2_then_14 : decode cX2_then 14 = .ok (.iconst 1, 1) := by decide +kernel
theorem dX2_then_15 : decode cX2_then 15 = .ok (.invokestatic 40, 3) := by decide +kernel
theorem dX2_then_18 : decode cX2_then 18 = .ok (.ifCond .ne 6, 3) := by decide +kernel
theorem dX2_then_21 : decode cX2_then 21 = .ok (.bipush (-2), 2) := by decide +kernel
theorem dX2_then_23 : decode cX2_then 23 = .ok (.istore_n 3, 1) := by decide +kernel
theorem dX2_then_24 : decode cX2_then 24 = .ok (.iload_n 3, 1) := by decide +kernel
theorem dX2_then_25 : decode cX2_then 25 = .ok (.ifCond .eq 9, 3) := by decide +kernel
theorem dX2_then_28 : decode cX2_then 28 = .ok (.aload_n 0, 1) := by decide +kernel
theorem dX2_then_29 : decode cX2_then 29 = .ok (.iload_n 3, 1) := by decide +kernel
theorem dX2_then_30 : decode cX2_then 30 = .ok (.invokevirtual 36, 3) := by decide +kernel
theorem dX2_then_33 : decode cX2_then 33 = .ok (.ireturn, 1) := by decide +kernel
theorem dX2_then_34 : decode cX2_then 34 = .ok (.aload_n 0, 1) := by decide +kernel
theorem dX2_then_35 : decode cX2_then 35 = .ok (.iload_n 1, 1) := by decide +kernel
theorem dX2_then_36 : decode cX2_then 36 = .ok (.invokevirtual 160, 3) := by decide +kernel
theorem dX2_then_39 : decode cX2_then 39 = .ok (.iload_n 2, 1) := by decide +kernel
theorem dX2_then_40 : decode cX2_then 40 = .ok (.ifCond .ne 12, 3) := by decide +kernel
theorem dX2_then_43 : decode cX2_then 43 = .ok (.aload_n 0, 1) := by decide +kernel
theorem dX2_then_44 : decode cX2_then 44 = .ok (.getfield 13, 3) := by decide +kernel
theorem dX2_then_47 : decode cX2_then 47 = .ok (.iconst 3, 1) := by decide +kernel
theorem dX2_then_48 : decode cX2_then 48 = .ok (.iaload, 1) := by decide +kernel
theorem dX2_then_49 : decode cX2_then 49 = .ok (.goto 10, 3) := by decide +kernel
theorem dX2_then_52 : decode cX2_then 52 = .ok (.aload_n 0, 1) := by decide +kernel
theorem dX2_then_53 : decode cX2_then 53 = .ok (.getfield 13, 3) := by decide +kernel
theorem dX2_then_56 : decode cX2_then 56 = .ok (.invokestatic 150, 3) := by decide +kernel
theorem dX2_then_59 : decode cX2_then 59 = .ok (.ireturn, 1) := by decide +kernel
theorem dX2_wholeOf_0 : decode cX2_wholeOf 0 = .ok (.aload_n 0, 1) := by decide +kernel
theorem dX2_wholeOf_1 : decode cX2_wholeOf 1 = .ok (.getfield 9, 3) := by decide +kernel
theorem dX2_wholeOf_4 : decode cX2_wholeOf 4 = .ok (.aload_n 0, 1) := by decide +kernel
theorem dX2_wholeOf_5 : decode cX2_wholeOf 5 = .ok (.getfield 13, 3) := by decide +kernel
theorem dX2_wholeOf_8 : decode cX2_wholeOf 8 = .ok (.invokestatic 134, 3) := by decide +kernel
theorem dX2_wholeOf_11 : decode cX2_wholeOf 11 = .ok (.iconst 0, 1) := by decide +kernel
theorem dX2_wholeOf_12 : decode cX2_wholeOf 12 = .ok (.istore_n 2, 1) := by decide +kernel
theorem dX2_wholeOf_13 : decode cX2_wholeOf 13 = .ok (.iload_n 2, 1) := by decide +kernel
theorem dX2_wholeOf_14 : decode cX2_wholeOf 14 = .ok (.bipush 60, 2) := by decide +kernel
theorem dX2_wholeOf_16 : decode cX2_wholeOf 16 = .ok (.if_icmp .gt 32, 3) := by decide +kernel
theorem dX2_wholeOf_19 : decode cX2_wholeOf 19 = .ok (.aload_n 0, 1) := by decide +kernel
theorem dX2_wholeOf_20 : decode cX2_wholeOf 20 = .ok (.getfield 13, 3) := by decide +kernel
theorem dX2_wholeOf_23 : decode cX2_wholeOf 23 = .ok (.iload_n 1, 1) := by decide +kernel
theorem dX2_wholeOf_24 : decode cX2_wholeOf 24 = .ok (.invokestatic 91, 3) := by decide +kernel
theorem dX2_wholeOf_27 : decode cX2_wholeOf 27 = .ok (.bipush 63, 2) := by decide +kernel
theorem dX2_wholeOf_29 : decode cX2_wholeOf 29 = .ok (.if_icmp .ne 5, 3) := by decide +kernel
theorem dX2_wholeOf_32 : decode cX2_wholeOf 32 = .ok (.iload_n 2, 1) := by decide +kernel
theorem dX2_wholeOf_33 : decode cX2_wholeOf 33 = .ok (.ireturn, 1) := by decide +kernel
theorem dX2_wholeOf_34 : decode cX2_wholeOf 34 = .ok (.aload_n 0, 1) := by decide +kernel
theorem dX2_wholeOf_35 : decode cX2_wholeOf 35 = .ok (.getfield 13, 3) := by decide +kernel
theorem dX2_wholeOf_38 : decode cX2_wholeOf 38 = .ok (.iconst (-1), 1) := by decide +kernel
theorem dX2_wholeOf_39 : decode cX2_wholeOf 39 = .ok (.invokestatic 87, 3) := by decide +kernel
theorem dX2_wholeOf_42 : decode cX2_wholeOf 42 = .ok (.iinc 2 1, 3) := by decide +kernel
theorem dX2_wholeOf_45 : decode cX2_wholeOf 45 = .ok (.goto (-32), 3) := by decide +kernel
theorem dX2_wholeOf_48 : decode cX2_wholeOf 48 = .ok (.bipush (-9), 2) := by decide +kernel
theorem dX2_wholeOf_50 : decode cX2_wholeOf 50 = .ok (.ireturn, 1) := by decide +kernel
theorem dX2_firstWhole_0 : decode cX2_firstWhole 0 = .ok (.bipush (-9), 2) := by decide +kernel
theorem dX2_firstWhole_2 : decode cX2_firstWhole 2 = .ok (.istore_n 1, 1) := by decide +kernel
theorem dX2_firstWhole_3 : decode cX2_firstWhole 3 = .ok (.ldc 164, 2) := by decide +kernel
theorem dX2_firstWhole_5 : decode cX2_firstWhole 5 = .ok (.istore_n 2, 1) := by decide +kernel
theorem dX2_firstWhole_6 : decode cX2_firstWhole 6 = .ok (.iconst 0, 1) := by decide +kernel
theorem dX2_firstWhole_7 : decode cX2_firstWhole 7 = .ok (.istore_n 3, 1) := by decide +kernel
theorem dX2_firstWhole_8 : decode cX2_firstWhole 8 = .ok (.iload_n 3, 1) := by decide +kernel
theorem dX2_firstWhole_9 : decode cX2_firstWhole 9 = .ok (.aload_n 0, 1) := by decide +kernel
theorem dX2_firstWhole_10 : decode cX2_firstWhole 10 = .ok (.getfield 9, 3) := by decide +kernel
theorem dX2_firstWhole_13 : decode cX2_firstWhole 13 = .ok (.iconst 1, 1) := by decide +kernel
theorem dX2_firstWhole_14 : decode cX2_firstWhole 14 = .ok (.iaload, 1) := by decide +kernel
theorem dX2_firstWhole_15 : decode cX2_firstWhole 15 = .ok (.if_icmp .ge 35, 3) := by decide +kernel
theorem dX2_firstWhole_18 : decode cX2_firstWhole 18 = .ok (.aload_n 0, 1) := by decide +kernel
theorem dX2_firstWhole_19 : decode cX2_firstWhole 19 = .ok (.iload_n 3, 1) := by decide +kernel
theorem dX2_firstWhole_20 : decode cX2_firstWhole 20 = .ok (.invokevirtual 165, 3) := by decide +kernel
theorem dX2_firstWhole_23 : decode cX2_firstWhole 23 = .ok (.istore 4, 2) := by decide +kernel
theorem dX2_firstWhole_25 : decode cX2_firstWhole 25 = .ok (.iload 4, 2) := by decide +kernel
theorem dX2_firstWhole_27 : decode cX2_firstWhole 27 = .ok (.ifCond .lt 17, 3) := by decide +kernel
theorem dX2_firstWhole_30 : decode cX2_firstWhole 30 = .ok (.iload 4, 2) := by decide +kernel
theorem dX2_firstWhole_32 : decode cX2_firstWhole 32 = .ok (.iload_n 2, 1) := by decide +kernel
theorem dX2_firstWhole_33 : decode cX2_firstWhole 33 = .ok (.if_icmp .lt 6, 3) := by decide +kernel
theorem dX2_firstWhole_36 : decode cX2_firstWhole 36 = .ok (.goto 8, 3) := by decide +kernel
theorem dX2_firstWhole_39 : decode cX2_firstWhole 39 = .ok (.iload_n 3, 1) := by decide +kernel
theorem dX2_firstWhole_40 : decode cX2_firstWhole 40 = .ok (.istore_n 1, 1) := by decide +kernel
theorem dX2_firstWhole_41 : decode cX2_firstWhole 41 = .ok (.iload 4, 2) := by decide +kernel
theorem dX2_firstWhole_43 : decode cX2_firstWhole 43 = .ok (.istore_n 2, 1) := by decide +kernel
theorem dX2_firstWhole_44 : decode cX2_firstWhole 44 = .ok (.iinc 3 1, 3) := by decide +kernel
theorem dX2_firstWhole_47 : decode cX2_firstWhole 47 = .ok (.goto (-39), 3) := by decide +kernel
theorem dX2_firstWhole_50 : decode cX2_firstWhole 50 = .ok (.iload_n 1, 1) := by decide +kernel
theorem dX2_firstWhole_51 : decode cX2_firstWhole 51 = .ok (.ireturn, 1) := by decide +kernel
theorem dX2_whole_0 : decode cX2_whole 0 = .ok (.iload_n 1, 1) := by decide +kernel
theorem dX2_whole_1 : decode cX2_whole 1 = .ok (.iconst (-1), 1) := by decide +kernel
theorem dX2_whole_2 : decode cX2_whole 2 = .ok (.if_icmp .ne 10, 3) := by decide +kernel
theorem dX2_whole_5 : decode cX2_whole 5 = .ok (.aload_n 0, 1) := by decide +kernel
theorem dX2_whole_6 : decode cX2_whole 6 = .ok (.invokevirtual 168, 3) := by decide +kernel
theorem dX2_whole_9 : decode cX2_whole 9 = .ok (.goto 24, 3) := by decide +kernel
theorem dX2_whole_12 : decode cX2_whole 12 = .ok (.aload_n 0, 1) := by decide +kernel
theorem dX2_whole_13 : decode cX2_whole 13 = .ok (.iload_n 1, 1) := by decide +kernel
theorem dX2_whole_14 : decode cX2_whole 14 = .ok (.invokevirtual 147, 3) := by decide +kernel
theorem dX2_whole_17 : decode cX2_whole 17 = .ok (.ifCond .eq 11, 3) := by decide +kernel
theorem dX2_whole_20 : decode cX2_whole 20 = .ok (.aload_n 0, 1) := by decide +kernel
theorem dX2_whole_21 : decode cX2_whole 21 = .ok (.iload_n 1, 1) := by decide +kernel
theorem dX2_whole_22 : decode cX2_whole 22 = .ok (.invokevirtual 165, 3) := by decide +kernel
theorem dX2_whole_25 : decode cX2_whole 25 = .ok (.goto 8, 3) := by decide +kernel
theorem dX2_whole_28 : decode cX2_whole 28 = .ok (.aload_n 0, 1) := by decide +kernel
theorem dX2_whole_29 : decode cX2_whole 29 = .ok (.iconst (-1), 1) := by decide +kernel
theorem dX2_whole_30 : decode cX2_whole 30 = .ok (.invokevirtual 36, 3) := by decide +kernel
theorem dX2_whole_33 : decode cX2_whole 33 = .ok (.ireturn, 1) := by decide +kernel
theorem dX2_next_0 : decode cX2_next 0 = .ok (.iload_n 1, 1) := by decide +kernel
theorem dX2_next_1 : decode cX2_next 1 = .ok (.iconst 0, 1) := by decide +kernel
theorem dX2_next_2 : decode cX2_next 2 = .ok (.iconst 1, 1) := by decide +kernel
theorem dX2_next_3 : decode cX2_next 3 = .ok (.invokestatic 40, 3) := by decide +kernel
theorem dX2_next_6 : decode cX2_next 6 = .ok (.ifCond .ne 10, 3) := by decide +kernel
theorem dX2_next_9 : decode cX2_next 9 = .ok (.aload_n 0, 1) := by decide +kernel
theorem dX2_next_10 : decode cX2_next 10 = .ok (.bipush (-2), 2) := by decide +kernel
theorem dX2_next_12 : decode cX2_next 12 = .ok (.invokevirtual 36, 3) := by decide +kernel
theorem dX2_next_15 : decode cX2_next 15 = .ok (.ireturn, 1) := by decide +kernel
theorem dX2_next_16 : decode cX2_next 16 = .ok (.iload_n 1, 1) := by decide +kernel
theorem dX2_next_17 : decode cX2_next 17 = .ok (.ifCond .ne 11, 3) := by decide +kernel
theorem dX2_next_20 : decode cX2_next 20 = .ok (.aload_n 0, 1) := by decide +kernel
theorem dX2_next_21 : decode cX2_next 21 = .ok (.getfield 9, 3) := by decide +kernel
theorem dX2_next_24 : decode cX2_next 24 = .ok (.invokestatic 80, 3) := by decide +kernel
theorem dX2_next_27 : decode cX2_next 27 = .ok (.ireturn, 1) := by decide +kernel
theorem dX2_next_28 : decode cX2_next 28 = .ok (.aload_n 0, 1) := by decide +kernel
theorem dX2_next_29 : decode cX2_next 29 = .ok (.getfield 9, 3) := by decide +kernel
theorem dX2_next_32 : decode cX2_next 32 = .ok (.aload_n 0, 1) := by decide +kernel
theorem dX2_next_33 : decode cX2_next 33 = .ok (.getfield 13, 3) := by decide +kernel
theorem dX2_next_36 : decode cX2_next 36 = .ok (.invokestatic 134, 3) := by decide +kernel
theorem dX2_next_39 : decode cX2_next 39 = .ok (.iconst 0, 1) := by decide +kernel
theorem dX2_next_40 : decode cX2_next 40 = .ok (.istore_n 2, 1) := by decide +kernel
theorem dX2_next_41 : decode cX2_next 41 = .ok (.iload_n 2, 1) := by decide +kernel
theorem dX2_next_42 : decode cX2_next 42 = .ok (.bipush 60, 2) := by decide +kernel
theorem dX2_next_44 : decode cX2_next 44 = .ok (.if_icmp .gt 29, 3) := by decide +kernel
theorem dX2_next_47 : decode cX2_next 47 = .ok (.aload_n 0, 1) := by decide +kernel
theorem dX2_next_48 : decode cX2_next 48 = .ok (.getfield 13, 3) := by decide +kernel
theorem dX2_next_51 : decode cX2_next 51 = .ok (.invokestatic 80, 3) := by decide +kernel
theorem dX2_next_54 : decode cX2_next 54 = .ok (.ifCond .ge 5, 3) := by decide +kernel
theorem dX2_next_57 : decode cX2_next 57 = .ok (.iload_n 2, 1) := by decide +kernel
theorem dX2_next_58 : decode cX2_next 58 = .ok (.ireturn, 1) := by decide +kernel
theorem dX2_next_59 : decode cX2_next 59 = .ok (.aload_n 0, 1) := by decide +kernel
theorem dX2_next_60 : decode cX2_next 60 = .ok (.getfield 13, 3) := by decide +kernel
theorem dX2_next_63 : decode cX2_next 63 = .ok (.iconst (-1), 1) := by decide +kernel
theorem dX2_next_64 : decode cX2_next 64 = .ok (.invokestatic 87, 3) := by decide +kernel
theorem dX2_next_67 : decode cX2_next 67 = .ok (.iinc 2 1, 3) := by decide +kernel
theorem dX2_next_70 : decode cX2_next 70 = .ok (.goto (-29), 3) := by decide +kernel
theorem dX2_next_73 : decode cX2_next 73 = .ok (.bipush (-9), 2) := by decide +kernel
theorem dX2_next_75 : decode cX2_next 75 = .ok (.ireturn, 1) := by decide +kernel
theorem dX2_isWholeBy_0 : decode cX2_isWholeBy 0 = .ok (.aload_n 0, 1) := by decide +kernel
theorem dX2_isWholeBy_1 : decode cX2_isWholeBy 1 = .ok (.getfield 9, 3) := by decide +kernel
theorem dX2_isWholeBy_4 : decode cX2_isWholeBy 4 = .ok (.aload_n 0, 1) := by decide +kernel
theorem dX2_isWholeBy_5 : decode cX2_isWholeBy 5 = .ok (.getfield 13, 3) := by decide +kernel
theorem dX2_isWholeBy_8 : decode cX2_isWholeBy 8 = .ok (.invokestatic 134, 3) := by decide +kernel
theorem dX2_isWholeBy_11 : decode cX2_isWholeBy 11 = .ok (.iconst 0, 1) := by decide +kernel
theorem dX2_isWholeBy_12 : decode cX2_isWholeBy 12 = .ok (.istore_n 3, 1) := by decide +kernel
theorem dX2_isWholeBy_13 : decode cX2_isWholeBy 13 = .ok (.iload_n 3, 1) := by decide +kernel
theorem dX2_isWholeBy_14 : decode cX2_isWholeBy 14 = .ok (.aload_n 0, 1) := by decide +kernel
theorem dX2_isWholeBy_15 : decode cX2_isWholeBy 15 = .ok (.getfield 9, 3) := by decide +kernel
theorem dX2_isWholeBy_18 : decode cX2_isWholeBy 18 = .ok (.iconst 0, 1) := by decide +kernel
theorem dX2_isWholeBy_19 : decode cX2_isWholeBy 19 = .ok (.iaload, 1) := by decide +kernel
theorem dX2_isWholeBy_20 : decode cX2_isWholeBy 20 = .ok (.if_icmp .ge 26, 3) := by decide +kernel
theorem dX2_isWholeBy_23 : decode cX2_isWholeBy 23 = .ok (.iload_n 1, 1) := by decide +kernel
theorem dX2_isWholeBy_24 : decode cX2_isWholeBy 24 = .ok (.iload_n 3, 1) := by decide +kernel
theorem dX2_isWholeBy_25 : decode cX2_isWholeBy 25 = .ok (.invokestatic 65, 3) := by decide +kernel
theorem dX2_isWholeBy_28 : decode cX2_isWholeBy 28 = .ok (.ifCond .eq 12, 3) := by decide +kernel
theorem dX2_isWholeBy_31 : decode cX2_isWholeBy 31 = .ok (.aload_n 0, 1) := by decide +kernel
theorem dX2_isWholeBy_32 : decode cX2_isWholeBy 32 = .ok (.getfield 13, 3) := by decide +kernel
theorem dX2_isWholeBy_35 : decode cX2_isWholeBy 35 = .ok (.iload_n 3, 1) := by decide +kernel
theorem dX2_isWholeBy_36 : decode cX2_isWholeBy 36 = .ok (.iconst (-1), 1) := by decide +kernel
theorem dX2_isWholeBy_37 : decode cX2_isWholeBy 37 = .ok (.invokestatic 72, 3) := by decide +kernel
theorem dX2_isWholeBy_40 : decode cX2_isWholeBy 40 = .ok (.iinc 3 1, 3) := by decide +kernel
theorem dX2_isWholeBy_43 : decode cX2_isWholeBy 43 = .ok (.goto (-30), 3) := by decide +kernel
theorem dX2_isWholeBy_46 : decode cX2_isWholeBy 46 = .ok (.aload_n 0, 1) := by decide +kernel
theorem dX2_isWholeBy_47 : decode cX2_isWholeBy 47 = .ok (.getfield 13, 3) := by decide +kernel
theorem dX2_isWholeBy_50 : decode cX2_isWholeBy 50 = .ok (.iload_n 2, 1) := by decide +kernel
theorem dX2_isWholeBy_51 : decode cX2_isWholeBy 51 = .ok (.invokestatic 91, 3) := by decide +kernel
theorem dX2_isWholeBy_54 : decode cX2_isWholeBy 54 = .ok (.bipush 63, 2) := by decide +kernel
theorem dX2_isWholeBy_56 : decode cX2_isWholeBy 56 = .ok (.if_icmp .ne 7, 3) := by decide +kernel
theorem dX2_isWholeBy_59 : decode cX2_isWholeBy 59 = .ok (.iconst 1, 1) := by decide +kernel
theorem dX2_isWholeBy_60 : decode cX2_isWholeBy 60 = .ok (.goto 4, 3) := by decide +kernel
theorem dX2_isWholeBy_63 : decode cX2_isWholeBy 63 = .ok (.iconst 0, 1) := by decide +kernel
theorem dX2_isWholeBy_64 : decode cX2_isWholeBy 64 = .ok (.ireturn, 1) := by decide +kernel
theorem dX2_costOf_0 : decode cX2_costOf 0 = .ok (.iconst 0, 1) := by decide +kernel
theorem dX2_costOf_1 : decode cX2_costOf 1 = .ok (.istore_n 2, 1) := by decide +kernel
theorem dX2_costOf_2 : decode cX2_costOf 2 = .ok (.iconst 0, 1) := by decide +kernel
theorem dX2_costOf_3 : decode cX2_costOf 3 = .ok (.istore_n 3, 1) := by decide +kernel
theorem dX2_costOf_4 : decode cX2_costOf 4 = .ok (.iload_n 3, 1) := by decide +kernel
theorem dX2_costOf_5 : decode cX2_costOf 5 = .ok (.aload_n 0, 1) := by decide +kernel
theorem dX2_costOf_6 : decode cX2_costOf 6 = .ok (.getfield 9, 3) := by decide +kernel
theorem dX2_costOf_9 : decode cX2_costOf 9 = .ok (.iconst 0, 1) := by decide +kernel
theorem dX2_costOf_10 : decode cX2_costOf 10 = .ok (.iaload, 1) := by decide +kernel
theorem dX2_costOf_11 : decode cX2_costOf 11 = .ok (.if_icmp .ge 37, 3) := by decide +kernel
theorem dX2_costOf_14 : decode cX2_costOf 14 = .ok (.iload_n 2, 1) := by decide +kernel
theorem dX2_costOf_15 : decode cX2_costOf 15 = .ok (.iload_n 1, 1) := by decide +kernel
theorem dX2_costOf_16 : decode cX2_costOf 16 = .ok (.iload_n 3, 1) := by decide +kernel
theorem dX2_costOf_17 : decode cX2_costOf 17 = .ok (.invokestatic 65, 3) := by decide +kernel
theorem dX2_costOf_20 : decode cX2_costOf 20 = .ok (.ifCond .eq 19, 3) := by decide +kernel
theorem dX2_costOf_23 : decode cX2_costOf 23 = .ok (.aload_n 0, 1) := by decide +kernel
theorem dX2_costOf_24 : decode cX2_costOf 24 = .ok (.getfield 9, 3) := by decide +kernel
theorem dX2_costOf_27 : decode cX2_costOf 27 = .ok (.iload_n 3, 1) := by decide +kernel
theorem dX2_costOf_28 : decode cX2_costOf 28 = .ok (.iconst 0, 1) := by decide +kernel
theorem dX2_costOf_29 : decode cX2_costOf 29 = .ok (.invokestatic 44, 3) := by decide +kernel
theorem dX2_costOf_32 : decode cX2_costOf 32 = .ok (.iaload, 1) := by decide +kernel
theorem dX2_costOf_33 : decode cX2_costOf 33 = .ok (.invokestatic 69, 3) := by decide +kernel
theorem dX2_costOf_36 : decode cX2_costOf 36 = .ok (.goto 4, 3) := by decide +kernel
theorem dX2_costOf_39 : decode cX2_costOf 39 = .ok (.iconst 0, 1) := by decide +kernel
theorem dX2_costOf_40 : decode cX2_costOf 40 = .ok (.iadd, 1) := by decide +kernel
theorem dX2_costOf_41 : decode cX2_costOf 41 = .ok (.istore_n 2, 1) := by decide +kernel
theorem dX2_costOf_42 : decode cX2_costOf 42 = .ok (.iinc 3 1, 3) := by decide +kernel
theorem dX2_costOf_45 : decode cX2_costOf 45 = .ok (.goto (-41), 3) := by decide +kernel
theorem dX2_costOf_48 : decode cX2_costOf 48 = .ok (.iload_n 2, 1) := by decide +kernel
theorem dX2_costOf_49 : decode cX2_costOf 49 = .ok (.ireturn, 1) := by decide +kernel
theorem dX2_boxed_0 : decode cX2_boxed 0 = .ok (.iconst 1, 1) := by decide +kernel
theorem dX2_boxed_1 : decode cX2_boxed 1 = .ok (.aload_n 0, 1) := by decide +kernel
theorem dX2_boxed_2 : decode cX2_boxed 2 = .ok (.getfield 9, 3) := by decide +kernel
theorem dX2_boxed_5 : decode cX2_boxed 5 = .ok (.iconst 0, 1) := by decide +kernel
theorem dX2_boxed_6 : decode cX2_boxed 6 = .ok (.iaload, 1) := by decide +kernel
theorem dX2_boxed_7 : decode cX2_boxed 7 = .ok (.ishl, 1) := by decide +kernel
theorem dX2_boxed_8 : decode cX2_boxed 8 = .ok (.iconst 1, 1) := by decide +kernel
theorem dX2_boxed_9 : decode cX2_boxed 9 = .ok (.isub, 1) := by decide +kernel
theorem dX2_boxed_10 : decode cX2_boxed 10 = .ok (.aload_n 0, 1) := by decide +kernel
theorem dX2_boxed_11 : decode cX2_boxed 11 = .ok (.getfield 9, 3) := by decide +kernel
theorem dX2_boxed_14 : decode cX2_boxed 14 = .ok (.invokestatic 150, 3) := by decide +kernel
theorem dX2_boxed_17 : decode cX2_boxed 17 = .ok (.iconst (-1), 1) := by decide +kernel
theorem dX2_boxed_18 : decode cX2_boxed 18 = .ok (.ixor, 1) := by decide +kernel
theorem dX2_boxed_19 : decode cX2_boxed 19 = .ok (.iand, 1) := by decide +kernel
theorem dX2_boxed_20 : decode cX2_boxed 20 = .ok (.ireturn, 1) := by decide +kernel
theorem dX2_fewest_0 : decode cX2_fewest 0 = .ok (.aload_n 0, 1) := by decide +kernel
theorem dX2_fewest_1 : decode cX2_fewest 1 = .ok (.iload_n 1, 1) := by decide +kernel
theorem dX2_fewest_2 : decode cX2_fewest 2 = .ok (.invokevirtual 147, 3) := by decide +kernel
theorem dX2_fewest_5 : decode cX2_fewest 5 = .ok (.ifCond .ne 9, 3) := by decide +kernel
theorem dX2_fewest_8 : decode cX2_fewest 8 = .ok (.aload_n 0, 1) := by decide +kernel
theorem dX2_fewest_9 : decode cX2_fewest 9 = .ok (.iconst (-1), 1) := by decide +kernel
theorem dX2_fewest_10 : decode cX2_fewest 10 = .ok (.invokevirtual 36, 3) := by decide +kernel
theorem dX2_fewest_13 : decode cX2_fewest 13 = .ok (.ireturn, 1) := by decide +kernel
theorem dX2_fewest_14 : decode cX2_fewest 14 = .ok (.iload_n 2, 1) := by decide +kernel
theorem dX2_fewest_15 : decode cX2_fewest 15 = .ok (.iconst 0, 1) := by decide +kernel
theorem dX2_fewest_16 : decode cX2_fewest 16 = .ok (.iconst 1, 1) := by decide +kernel
theorem dX2_fewest_17 : decode cX2_fewest 17 = .ok (.invokestatic 40, 3) := by decide +kernel
theorem dX2_fewest_20 : decode cX2_fewest 20 = .ok (.ifCond .ne 10, 3) := by decide +kernel
theorem dX2_fewest_23 : decode cX2_fewest 23 = .ok (.aload_n 0, 1) := by decide +kernel
theorem dX2_fewest_24 : decode cX2_fewest 24 = .ok (.bipush (-2), 2) := by decide +kernel
theorem dX2_fewest_26 : decode cX2_fewest 26 = .ok (.invokevirtual 36, 3) := by decide +kernel
theorem dX2_fewest_29 : decode cX2_fewest 29 = .ok (.ireturn, 1) := by decide +kernel
theorem dX2_fewest_30 : decode cX2_fewest 30 = .ok (.bipush (-9), 2) := by decide +kernel
theorem dX2_fewest_32 : decode cX2_fewest 32 = .ok (.istore_n 3, 1) := by decide +kernel
theorem dX2_fewest_33 : decode cX2_fewest 33 = .ok (.ldc 164, 2) := by decide +kernel
theorem dX2_fewest_35 : decode cX2_fewest 35 = .ok (.istore 4, 2) := by decide +kernel
theorem dX2_fewest_37 : decode cX2_fewest 37 = .ok (.iconst 0, 1) := by decide +kernel
theorem dX2_fewest_38 : decode cX2_fewest 38 = .ok (.istore 5, 2) := by decide +kernel
theorem dX2_fewest_40 : decode cX2_fewest 40 = .ok (.iload 5, 2) := by decide +kernel
theorem dX2_fewest_42 : decode cX2_fewest 42 = .ok (.iconst 1, 1) := by decide +kernel
theorem dX2_fewest_43 : decode cX2_fewest 43 = .ok (.aload_n 0, 1) := by decide +kernel
theorem dX2_fewest_44 : decode cX2_fewest 44 = .ok (.getfield 9, 3) := by decide +kernel
theorem dX2_fewest_47 : decode cX2_fewest 47 = .ok (.iconst 0, 1) := by decide +kernel
theorem dX2_fewest_48 : decode cX2_fewest 48 = .ok (.iaload, 1) := by decide +kernel
theorem dX2_fewest_49 : decode cX2_fewest 49 = .ok (.ishl, 1) := by decide +kernel
theorem dX2_fewest_50 : decode cX2_fewest 50 = .ok (.if_icmp .ge 77, 3) := by decide +kernel
theorem dX2_fewest_53 : decode cX2_fewest 53 = .ok (.iload 5, 2) := by decide +kernel
theorem dX2_fewest_55 : decode cX2_fewest 55 = .ok (.aload_n 0, 1) := by decide +kernel
theorem dX2_fewest_56 : decode cX2_fewest 56 = .ok (.invokevirtual 171, 3) := by decide +kernel
theorem dX2_fewest_59 : decode cX2_fewest 59 = .ok (.iconst (-1), 1) := by decide +kernel
theorem dX2_fewest_60 : decode cX2_fewest 60 = .ok (.ixor, 1) := by decide +kernel
theorem dX2_fewest_61 : decode cX2_fewest 61 = .ok (.iand, 1) := by decide +kernel
theorem dX2_fewest_62 : decode cX2_fewest 62 = .ok (.ifCond .ne 59, 3) := by decide +kernel
theorem dX2_fewest_65 : decode cX2_fewest 65 = .ok (.aload_n 0, 1) := by decide +kernel
theorem dX2_fewest_66 : decode cX2_fewest 66 = .ok (.iload 5, 2) := by decide +kernel
theorem dX2_fewest_68 : decode cX2_fewest 68 = .ok (.iload_n 1, 1) := by decide +kernel
theorem dX2_fewest_69 : decode cX2_fewest 69 = .ok (.invokevirtual 174, 3) := by decide +kernel
theorem dX2_fewest_72 : decode cX2_fewest 72 = .ok (.ifCond .ne 6, 3) := by decide +kernel
theorem dX2_fewest_75 : decode cX2_fewest 75 = .ok (.goto 46, 3) := by decide +kernel
theorem dX2_fewest_78 : decode cX2_fewest 78 = .ok (.iload_n 3, 1) := by decide +kernel
theorem dX2_fewest_79 : decode cX2_fewest 79 = .ok (.ifCond .lt 15, 3) := by decide +kernel
theorem dX2_fewest_82 : decode cX2_fewest 82 = .ok (.iload 5, 2) := by decide +kernel
theorem dX2_fewest_84 : decode cX2_fewest 84 = .ok (.invokestatic 94, 3) := by decide +kernel
theorem dX2_fewest_87 : decode cX2_fewest 87 = .ok (.iload_n 3, 1) := by decide +kernel
theorem dX2_fewest_88 : decode cX2_fewest 88 = .ok (.invokestatic 94, 3) := by decide +kernel
theorem dX2_fewest_91 : decode cX2_fewest 91 = .ok (.if_icmp .ge 6, 3) := by decide +kernel
theorem dX2_fewest_94 : decode cX2_fewest 94 = .ok (.iload 5, 2) := by decide +kernel
theorem dX2_fewest_96 : decode cX2_fewest 96 = .ok (.istore_n 3, 1) := by decide +kernel
theorem dX2_fewest_97 : decode cX2_fewest 97 = .ok (.aload_n 0, 1) := by decide +kernel
theorem dX2_fewest_98 : decode cX2_fewest 98 = .ok (.iload 5, 2) := by decide +kernel
theorem dX2_fewest_100 : decode cX2_fewest 100 = .ok (.invokevirtual 177, 3) := by decide +kernel
theorem dX2_fewest_103 : decode cX2_fewest 103 = .ok (.iload 4, 2) := by decide +kernel
theorem dX2_fewest_105 : decode cX2_fewest 105 = .ok (.if_icmp .ge 12, 3) := by decide +kernel
theorem dX2_fewest_108 : decode cX2_fewest 108 = .ok (.aload_n 0, 1) := by decide +kernel
theorem dX2_fewest_109 : decode cX2_fewest 109 = .ok (.iload 5, 2) := by decide +kernel
theorem dX2_fewest_111 : decode cX2_fewest 111 = .ok (.invokevirtual 177, 3) := by decide +kernel
theorem dX2_fewest_114 : decode cX2_fewest 114 = .ok (.goto 5, 3) := by decide +kernel
theorem dX2_fewest_117 : decode cX2_fewest 117 = .ok (.iload 4, 2) := by decide +kernel
theorem dX2_fewest_119 : decode cX2_fewest 119 = .ok (.istore 4, 2) := by decide +kernel
theorem dX2_fewest_121 : decode cX2_fewest 121 = .ok (.iinc 5 1, 3) := by decide +kernel
theorem dX2_fewest_124 : decode cX2_fewest 124 = .ok (.goto (-84), 3) := by decide +kernel
theorem dX2_fewest_127 : decode cX2_fewest 127 = .ok (.iload_n 3, 1) := by decide +kernel
theorem dX2_fewest_128 : decode cX2_fewest 128 = .ok (.ifCond .lt 7, 3) := by decide +kernel
theorem dX2_fewest_131 : decode cX2_fewest 131 = .ok (.iload_n 2, 1) := by decide +kernel
theorem dX2_fewest_132 : decode cX2_fewest 132 = .ok (.ifCond .ne 7, 3) := by decide +kernel
theorem dX2_fewest_135 : decode cX2_fewest 135 = .ok (.iload_n 3, 1) := by decide +kernel
theorem dX2_fewest_136 : decode cX2_fewest 136 = .ok (.goto 5, 3) := by decide +kernel
theorem dX2_fewest_139 : decode cX2_fewest 139 = .ok (.iload 4, 2) := by decide +kernel
theorem dX2_fewest_141 : decode cX2_fewest 141 = .ok (.ireturn, 1) := by decide +kernel
theorem dX2_windBest_0 : decode cX2_windBest 0 = .ok (.iload_n 1, 1) := by decide +kernel
theorem dX2_windBest_1 : decode cX2_windBest 1 = .ok (.iconst 0, 1) := by decide +kernel
theorem dX2_windBest_2 : decode cX2_windBest 2 = .ok (.bipush 30, 2) := by decide +kernel
theorem dX2_windBest_4 : decode cX2_windBest 4 = .ok (.invokestatic 153, 3) := by decide +kernel
theorem dX2_windBest_7 : decode cX2_windBest 7 = .ok (.istore_n 3, 1) := by decide +kernel
theorem dX2_windBest_8 : decode cX2_windBest 8 = .ok (.iload_n 3, 1) := by decide +kernel
theorem dX2_windBest_9 : decode cX2_windBest 9 = .ok (.ifCond .ne 15, 3) := by decide +kernel
theorem dX2_windBest_12 : decode cX2_windBest 12 = .ok (.iload_n 2, 1) := by decide +kernel
theorem dX2_windBest_13 : decode cX2_windBest 13 = .ok (.iconst 0, 1) := by decide +kernel
theorem dX2_windBest_14 : decode cX2_windBest 14 = .ok (.iconst 1, 1) := by decide +kernel
theorem dX2_windBest_15 : decode cX2_windBest 15 = .ok (.invokestatic 40, 3) := by decide +kernel
theorem dX2_windBest_18 : decode cX2_windBest 18 = .ok (.ifCond .ne 6, 3) := by decide +kernel
theorem dX2_windBest_21 : decode cX2_windBest 21 = .ok (.bipush (-2), 2) := by decide +kernel
theorem dX2_windBest_23 : decode cX2_windBest 23 = .ok (.istore_n 3, 1) := by decide +kernel
theorem dX2_windBest_24 : decode cX2_windBest 24 = .ok (.iload_n 3, 1) := by decide +kernel
theorem dX2_windBest_25 : decode cX2_windBest 25 = .ok (.ifCond .eq 9, 3) := by decide +kernel
theorem dX2_windBest_28 : decode cX2_windBest 28 = .ok (.aload_n 0, 1) := by decide +kernel
theorem dX2_windBest_29 : decode cX2_windBest 29 = .ok (.iload_n 3, 1) := by decide +kernel
theorem dX2_windBest_30 : decode cX2_windBest 30 = .ok (.invokevirtual 36, 3) := by decide +kernel
theorem dX2_windBest_33 : decode cX2_windBest 33 = .ok (.ireturn, 1) := by decide +kernel
theorem dX2_windBest_34 : decode cX2_windBest 34 = .ok (.iconst 0, 1) := by decide +kernel
theorem dX2_windBest_35 : decode cX2_windBest 35 = .ok (.istore 4, 2) := by decide +kernel
theorem dX2_windBest_37 : decode cX2_windBest 37 = .ok (.iconst (-1), 1) := by decide +kernel
theorem dX2_windBest_38 : decode cX2_windBest 38 = .ok (.istore 5, 2) := by decide +kernel
theorem dX2_windBest_40 : decode cX2_windBest 40 = .ok (.iconst 0, 1) := by decide +kernel
theorem dX2_windBest_41 : decode cX2_windBest 41 = .ok (.istore 6, 2) := by decide +kernel
theorem dX2_windBest_43 : decode cX2_windBest 43 = .ok (.iload 6, 2) := by decide +kernel
theorem dX2_windBest_45 : decode cX2_windBest 45 = .ok (.bipush 10, 2) := by decide +kernel
theorem dX2_windBest_47 : decode cX2_windBest 47 = .ok (.if_icmp .ge 65, 3) := by decide +kernel
theorem dX2_windBest_50 : decode cX2_windBest 50 = .ok (.aload_n 0, 1) := by decide +kernel
theorem dX2_windBest_51 : decode cX2_windBest 51 = .ok (.getfield 9, 3) := by decide +kernel
theorem dX2_windBest_54 : decode cX2_windBest 54 = .ok (.aload_n 0, 1) := by decide +kernel
theorem dX2_windBest_55 : decode cX2_windBest 55 = .ok (.getfield 13, 3) := by decide +kernel
theorem dX2_windBest_58 : decode cX2_windBest 58 = .ok (.invokestatic 134, 3) := by decide +kernel
theorem dX2_windBest_61 : decode cX2_windBest 61 = .ok (.aload_n 0, 1) := by decide +kernel
theorem dX2_windBest_62 : decode cX2_windBest 62 = .ok (.getfield 13, 3) := by decide +kernel
theorem dX2_windBest_65 : decode cX2_windBest 65 = .ok (.iconst 4, 1) := by decide +kernel
theorem dX2_windBest_66 : decode cX2_windBest 66 = .ok (.iload 6, 2) := by decide +kernel
theorem dX2_windBest_68 : decode cX2_windBest 68 = .ok (.iastore, 1) := by decide +kernel
theorem dX2_windBest_69 : decode cX2_windBest 69 = .ok (.aload_n 0, 1) := by decide +kernel
theorem dX2_windBest_70 : decode cX2_windBest 70 = .ok (.getfield 13, 3) := by decide +kernel
theorem dX2_windBest_73 : decode cX2_windBest 73 = .ok (.iload_n 1, 1) := by decide +kernel
theorem dX2_windBest_74 : decode cX2_windBest 74 = .ok (.iconst (-1), 1) := by decide +kernel
theorem dX2_windBest_75 : decode cX2_windBest 75 = .ok (.invokestatic 128, 3) := by decide +kernel
theorem dX2_windBest_78 : decode cX2_windBest 78 = .ok (.aload_n 0, 1) := by decide +kernel
theorem dX2_windBest_79 : decode cX2_windBest 79 = .ok (.getfield 13, 3) := by decide +kernel
theorem dX2_windBest_82 : decode cX2_windBest 82 = .ok (.invokestatic 180, 3) := by decide +kernel
theorem dX2_windBest_85 : decode cX2_windBest 85 = .ok (.iload 5, 2) := by decide +kernel
theorem dX2_windBest_87 : decode cX2_windBest 87 = .ok (.if_icmp .gt 6, 3) := by decide +kernel
theorem dX2_windBest_90 : decode cX2_windBest 90 = .ok (.goto 16, 3) := by decide +kernel
theorem dX2_windBest_93 : decode cX2_windBest 93 = .ok (.iload 6, 2) := by decide +kernel
theorem dX2_windBest_95 : decode cX2_windBest 95 = .ok (.istore 4, 2) := by decide +kernel
theorem dX2_windBest_97 : decode cX2_windBest 97 = .ok (.aload_n 0, 1) := by decide +kernel
theorem dX2_windBest_98 : decode cX2_windBest 98 = .ok (.getfield 13, 3) := by decide +kernel
theorem dX2_windBest_101 : decode cX2_windBest 101 = .ok (.invokestatic 180, 3) := by decide +kernel
theorem dX2_windBest_104 : decode cX2_windBest 104 = .ok (.istore 5, 2) := by decide +kernel
theorem dX2_windBest_106 : decode cX2_windBest 106 = .ok (.iinc 6 1, 3) := by decide +kernel
theorem dX2_windBest_109 : decode cX2_windBest 109 = .ok (.goto (-66), 3) := by decide +kernel
theorem dX2_windBest_112 : decode cX2_windBest 112 = .ok (.iload_n 2, 1) := by decide +kernel
theorem dX2_windBest_113 : decode cX2_windBest 113 = .ok (.ifCond .ne 8, 3) := by decide +kernel
theorem dX2_windBest_116 : decode cX2_windBest 116 = .ok (.iload 4, 2) := by decide +kernel
theorem dX2_windBest_118 : decode cX2_windBest 118 = .ok (.goto 5, 3) := by decide +kernel
theorem dX2_windBest_121 : decode cX2_windBest 121 = .ok (.iload 5, 2) := by decide +kernel
theorem dX2_windBest_123 : decode cX2_windBest 123 = .ok (.ireturn, 1) := by decide +kernel
theorem dX2_move_0 : decode cX2_move 0 = .ok (.aload_n 0, 1) := by decide +kernel
theorem dX2_move_1 : decode cX2_move 1 = .ok (.iload_n 1, 1) := by decide +kernel
theorem dX2_move_2 : decode cX2_move 2 = .ok (.invokevirtual 147, 3) := by decide +kernel
theorem dX2_move_5 : decode cX2_move 5 = .ok (.ifCond .eq 13, 3) := by decide +kernel
theorem dX2_move_8 : decode cX2_move 8 = .ok (.iload_n 2, 1) := by decide +kernel
theorem dX2_move_9 : decode cX2_move 9 = .ok (.iconst 0, 1) := by decide +kernel
theorem dX2_move_10 : decode cX2_move 10 = .ok (.bipush 30, 2) := by decide +kernel
theorem dX2_move_12 : decode cX2_move 12 = .ok (.invokestatic 153, 3) := by decide +kernel
theorem dX2_move_15 : decode cX2_move 15 = .ok (.goto 4, 3) := by decide +kernel
theorem dX2_move_18 : decode cX2_move 18 = .ok (.iconst (-1), 1) := by decide +kernel
theorem dX2_move_19 : decode cX2_move 19 = .ok (.istore 4, 2) := by decide +kernel
theorem dX2_move_21 : decode cX2_move 21 = .ok (.iload 4, 2) := by decide +kernel
theorem dX2_move_23 : decode cX2_move 23 = .ok (.ifCond .ne 16, 3) := by decide +kernel
theorem dX2_move_26 : decode cX2_move 26 = .ok (.iload_n 3, 1) := by decide +kernel
theorem dX2_move_27 : decode cX2_move 27 = .ok (.iconst 0, 1) := by decide +kernel
theorem dX2_move_28 : decode cX2_move 28 = .ok (.iconst 1, 1) := by decide +kernel
theorem dX2_move_29 : decode cX2_move 29 = .ok (.invokestatic 40, 3) := by decide +kernel
theorem dX2_move_32 : decode cX2_move 32 = .ok (.ifCond .ne 7, 3) := by decide +kernel
theorem dX2_move_35 : decode cX2_move 35 = .ok (.bipush (-2), 2) := by decide +kernel
theorem dX2_move_37 : decode cX2_move 37 = .ok (.istore 4, 2) := by decide +kernel
theorem dX2_move_39 : decode cX2_move 39 = .ok (.iload 4, 2) := by decide +kernel
theorem dX2_move_41 : decode cX2_move 41 = .ok (.ifCond .eq 10, 3) := by decide +kernel
theorem dX2_move_44 : decode cX2_move 44 = .ok (.aload_n 0, 1) := by decide +kernel
theorem dX2_move_45 : decode cX2_move 45 = .ok (.iload 4, 2) := by decide +kernel
theorem dX2_move_47 : decode cX2_move 47 = .ok (.invokevirtual 36, 3) := by decide +kernel
theorem dX2_move_50 : decode cX2_move 50 = .ok (.ireturn, 1) := by decide +kernel
theorem dX2_move_51 : decode cX2_move 51 = .ok (.iconst 0, 1) := by decide +kernel
theorem dX2_move_52 : decode cX2_move 52 = .ok (.istore 5, 2) := by decide +kernel
theorem dX2_move_54 : decode cX2_move 54 = .ok (.iconst (-1), 1) := by decide +kernel
theorem dX2_move_55 : decode cX2_move 55 = .ok (.istore 6, 2) := by decide +kernel
theorem dX2_move_57 : decode cX2_move 57 = .ok (.iconst 0, 1) := by decide +kernel
theorem dX2_move_58 : decode cX2_move 58 = .ok (.istore 7, 2) := by decide +kernel
theorem dX2_move_60 : decode cX2_move 60 = .ok (.iload 7, 2) := by decide +kernel
theorem dX2_move_62 : decode cX2_move 62 = .ok (.bipush 20, 2) := by decide +kernel
theorem dX2_move_64 : decode cX2_move 64 = .ok (.if_icmp .ge 77, 3) := by decide +kernel
theorem dX2_move_67 : decode cX2_move 67 = .ok (.aload_n 0, 1) := by decide +kernel
theorem dX2_move_68 : decode cX2_move 68 = .ok (.getfield 9, 3) := by decide +kernel
theorem dX2_move_71 : decode cX2_move 71 = .ok (.aload_n 0, 1) := by decide +kernel
theorem dX2_move_72 : decode cX2_move 72 = .ok (.getfield 13, 3) := by decide +kernel
theorem dX2_move_75 : decode cX2_move 75 = .ok (.invokestatic 134, 3) := by decide +kernel
theorem dX2_move_78 : decode cX2_move 78 = .ok (.aload_n 0, 1) := by decide +kernel
theorem dX2_move_79 : decode cX2_move 79 = .ok (.getfield 13, 3) := by decide +kernel
theorem dX2_move_82 : decode cX2_move 82 = .ok (.iload_n 1, 1) := by decide +kernel
theorem dX2_move_83 : decode cX2_move 83 = .ok (.iconst 0, 1) := by decide +kernel
theorem dX2_move_84 : decode cX2_move 84 = .ok (.invokestatic 48, 3) := by decide +kernel
theorem dX2_move_87 : decode cX2_move 87 = .ok (.iload 7, 2) := by decide +kernel
theorem dX2_move_89 : decode cX2_move 89 = .ok (.iastore, 1) := by decide +kernel
theorem dX2_move_90 : decode cX2_move 90 = .ok (.aload_n 0, 1) := by decide +kernel
theorem dX2_move_91 : decode cX2_move 91 = .ok (.getfield 13, 3) := by decide +kernel
theorem dX2_move_94 : decode cX2_move 94 = .ok (.iload_n 2, 1) := by decide +kernel
theorem dX2_move_95 : decode cX2_move 95 = .ok (.iconst (-1), 1) := by decide +kernel
theorem dX2_move_96 : decode cX2_move 96 = .ok (.invokestatic 128, 3) := by decide +kernel
theorem dX2_move_99 : decode cX2_move 99 = .ok (.aload_n 0, 1) := by decide +kernel
theorem dX2_move_100 : decode cX2_move 100 = .ok (.getfield 13, 3) := by decide +kernel
theorem dX2_move_103 : decode cX2_move 103 = .ok (.iload_n 1, 1) := by decide +kernel
theorem dX2_move_104 : decode cX2_move 104 = .ok (.invokestatic 91, 3) := by decide +kernel
theorem dX2_move_107 : decode cX2_move 107 = .ok (.invokestatic 94, 3) := by decide +kernel
theorem dX2_move_110 : decode cX2_move 110 = .ok (.iload 6, 2) := by decide +kernel
theorem dX2_move_112 : decode cX2_move 112 = .ok (.if_icmp .gt 6, 3) := by decide +kernel
theorem dX2_move_115 : decode cX2_move 115 = .ok (.goto 20, 3) := by decide +kernel
theorem dX2_move_118 : decode cX2_move 118 = .ok (.iload 7, 2) := by decide +kernel
theorem dX2_move_120 : decode cX2_move 120 = .ok (.istore 5, 2) := by decide +kernel
theorem dX2_move_122 : decode cX2_move 122 = .ok (.aload_n 0, 1) := by decide +kernel
theorem dX2_move_123 : decode cX2_move 123 = .ok (.getfield 13, 3) := by decide +kernel
theorem dX2_move_126 : decode cX2_move 126 = .ok (.iload_n 1, 1) := by decide +kernel
theorem dX2_move_127 : decode cX2_move 127 = .ok (.invokestatic 91, 3) := by decide +kernel
theorem dX2_move_130 : decode cX2_move 130 = .ok (.invokestatic 94, 3) := by decide +kernel
theorem dX2_move_133 : decode cX2_move 133 = .ok (.istore 6, 2) := by decide +kernel
theorem dX2_move_135 : decode cX2_move 135 = .ok (.iinc 7 1, 3) := by decide +kernel
theorem dX2_move_138 : decode cX2_move 138 = .ok (.goto (-78), 3) := by decide +kernel
theorem dX2_move_141 : decode cX2_move 141 = .ok (.iload_n 3, 1) := by decide +kernel
theorem dX2_move_142 : decode cX2_move 142 = .ok (.ifCond .ne 8, 3) := by decide +kernel
theorem dX2_move_145 : decode cX2_move 145 = .ok (.iload 5, 2) := by decide +kernel
theorem dX2_move_147 : decode cX2_move 147 = .ok (.goto 5, 3) := by decide +kernel
theorem dX2_move_150 : decode cX2_move 150 = .ok (.iload 6, 2) := by decide +kernel
theorem dX2_move_152 : decode cX2_move 152 = .ok (.ireturn, 1) := by decide +kernel
theorem dX2_bestNow_0 : decode cX2_bestNow 0 = .ok (.aload_n 0, 1) := by decide +kernel
theorem dX2_bestNow_1 : decode cX2_bestNow 1 = .ok (.iload_n 1, 1) := by decide +kernel
theorem dX2_bestNow_2 : decode cX2_bestNow 2 = .ok (.invokevirtual 160, 3) := by decide +kernel
theorem dX2_bestNow_5 : decode cX2_bestNow 5 = .ok (.aload_n 0, 1) := by decide +kernel
theorem dX2_bestNow_6 : decode cX2_bestNow 6 = .ok (.getfield 13, 3) := by decide +kernel
theorem dX2_bestNow_9 : decode cX2_bestNow 9 = .ok (.invokestatic 183, 3) := by decide +kernel
theorem dX2_bestNow_12 : decode cX2_bestNow 12 = .ok (.istore_n 3, 1) := by decide +kernel
theorem dX2_bestNow_13 : decode cX2_bestNow 13 = .ok (.bipush (-9), 2) := by decide +kernel
theorem dX2_bestNow_15 : decode cX2_bestNow 15 = .ok (.istore 4, 2) := by decide +kernel
theorem dX2_bestNow_17 : decode cX2_bestNow 17 = .ok (.iconst 0, 1) := by decide +kernel
theorem dX2_bestNow_18 : decode cX2_bestNow 18 = .ok (.istore 5, 2) := by decide +kernel
theorem dX2_bestNow_20 : decode cX2_bestNow 20 = .ok (.iload 5, 2) := by decide +kernel
theorem dX2_bestNow_22 : decode cX2_bestNow 22 = .ok (.aload_n 0, 1) := by decide +kernel
theorem dX2_bestNow_23 : decode cX2_bestNow 23 = .ok (.getfield 9, 3) := by decide +kernel
theorem dX2_bestNow_26 : decode cX2_bestNow 26 = .ok (.iconst 0, 1) := by decide +kernel
theorem dX2_bestNow_27 : decode cX2_bestNow 27 = .ok (.iaload, 1) := by decide +kernel
theorem dX2_bestNow_28 : decode cX2_bestNow 28 = .ok (.if_icmp .ge 118, 3) := by decide +kernel
theorem dX2_bestNow_31 : decode cX2_bestNow 31 = .ok (.aload_n 0, 1) := by decide +kernel
theorem dX2_bestNow_32 : decode cX2_bestNow 32 = .ok (.getfield 9, 3) := by decide +kernel
theorem dX2_bestNow_35 : decode cX2_bestNow 35 = .ok (.iload 5, 2) := by decide +kernel
theorem dX2_bestNow_37 : decode cX2_bestNow 37 = .ok (.iconst 3, 1) := by decide +kernel
theorem dX2_bestNow_38 : decode cX2_bestNow 38 = .ok (.invokestatic 44, 3) := by decide +kernel
theorem dX2_bestNow_41 : decode cX2_bestNow 41 = .ok (.iaload, 1) := by decide +kernel
theorem dX2_bestNow_42 : decode cX2_bestNow 42 = .ok (.iconst 1, 1) := by decide +kernel
theorem dX2_bestNow_43 : decode cX2_bestNow 43 = .ok (.if_icmp .eq 97, 3) := by decide +kernel
theorem dX2_bestNow_46 : decode cX2_bestNow 46 = .ok (.iload_n 2, 1) := by decide +kernel
theorem dX2_bestNow_47 : decode cX2_bestNow 47 = .ok (.ifCond .ne 18, 3) := by decide +kernel
theorem dX2_bestNow_50 : decode cX2_bestNow 50 = .ok (.aload_n 0, 1) := by decide +kernel
theorem dX2_bestNow_51 : decode cX2_bestNow 51 = .ok (.getfield 9, 3) := by decide +kernel
theorem dX2_bestNow_54 : decode cX2_bestNow 54 = .ok (.iload 5, 2) := by decide +kernel
theorem dX2_bestNow_56 : decode cX2_bestNow 56 = .ok (.invokestatic 76, 3) := by decide +kernel
theorem dX2_bestNow_59 : decode cX2_bestNow 59 = .ok (.ifCond .ne 6, 3) := by decide +kernel
theorem dX2_bestNow_62 : decode cX2_bestNow 62 = .ok (.goto 78, 3) := by decide +kernel
theorem dX2_bestNow_65 : decode cX2_bestNow 65 = .ok (.aload_n 0, 1) := by decide +kernel
theorem dX2_bestNow_66 : decode cX2_bestNow 66 = .ok (.getfield 9, 3) := by decide +kernel
theorem dX2_bestNow_69 : decode cX2_bestNow 69 = .ok (.aload_n 0, 1) := by decide +kernel
theorem dX2_bestNow_70 : decode cX2_bestNow 70 = .ok (.getfield 13, 3) := by decide +kernel
theorem dX2_bestNow_73 : decode cX2_bestNow 73 = .ok (.invokestatic 134, 3) := by decide +kernel
theorem dX2_bestNow_76 : decode cX2_bestNow 76 = .ok (.iload_n 2, 1) := by decide +kernel
theorem dX2_bestNow_77 : decode cX2_bestNow 77 = .ok (.ifCond .eq 18, 3) := by decide +kernel
theorem dX2_bestNow_80 : decode cX2_bestNow 80 = .ok (.aload_n 0, 1) := by decide +kernel
theorem dX2_bestNow_81 : decode cX2_bestNow 81 = .ok (.getfield 13, 3) := by decide +kernel
theorem dX2_bestNow_84 : decode cX2_bestNow 84 = .ok (.iload 5, 2) := by decide +kernel
theorem dX2_bestNow_86 : decode cX2_bestNow 86 = .ok (.iconst 3, 1) := by decide +kernel
theorem dX2_bestNow_87 : decode cX2_bestNow 87 = .ok (.invokestatic 44, 3) := by decide +kernel
theorem dX2_bestNow_90 : decode cX2_bestNow 90 = .ok (.iconst 1, 1) := by decide +kernel
theorem dX2_bestNow_91 : decode cX2_bestNow 91 = .ok (.iastore, 1) := by decide +kernel
theorem dX2_bestNow_92 : decode cX2_bestNow 92 = .ok (.goto 13, 3) := by decide +kernel
theorem dX2_bestNow_95 : decode cX2_bestNow 95 = .ok (.aload_n 0, 1) := by decide +kernel
theorem dX2_bestNow_96 : decode cX2_bestNow 96 = .ok (.getfield 13, 3) := by decide +kernel
theorem dX2_bestNow_99 : decode cX2_bestNow 99 = .ok (.iload 5, 2) := by decide +kernel
theorem dX2_bestNow_101 : decode cX2_bestNow 101 = .ok (.iconst (-1), 1) := by decide +kernel
theorem dX2_bestNow_102 : decode cX2_bestNow 102 = .ok (.invokestatic 84, 3) := by decide +kernel
theorem dX2_bestNow_105 : decode cX2_bestNow 105 = .ok (.aload_n 0, 1) := by decide +kernel
theorem dX2_bestNow_106 : decode cX2_bestNow 106 = .ok (.getfield 13, 3) := by decide +kernel
theorem dX2_bestNow_109 : decode cX2_bestNow 109 = .ok (.iload_n 1, 1) := by decide +kernel
theorem dX2_bestNow_110 : decode cX2_bestNow 110 = .ok (.iconst (-1), 1) := by decide +kernel
theorem dX2_bestNow_111 : decode cX2_bestNow 111 = .ok (.invokestatic 128, 3) := by decide +kernel
theorem dX2_bestNow_114 : decode cX2_bestNow 114 = .ok (.aload_n 0, 1) := by decide +kernel
theorem dX2_bestNow_115 : decode cX2_bestNow 115 = .ok (.getfield 13, 3) := by decide +kernel
theorem dX2_bestNow_118 : decode cX2_bestNow 118 = .ok (.invokestatic 183, 3) := by decide +kernel
theorem dX2_bestNow_121 : decode cX2_bestNow 121 = .ok (.iload_n 3, 1) := by decide +kernel
theorem dX2_bestNow_122 : decode cX2_bestNow 122 = .ok (.if_icmp .gt 6, 3) := by decide +kernel
theorem dX2_bestNow_125 : decode cX2_bestNow 125 = .ok (.goto 15, 3) := by decide +kernel
theorem dX2_bestNow_128 : decode cX2_bestNow 128 = .ok (.iload 5, 2) := by decide +kernel
theorem dX2_bestNow_130 : decode cX2_bestNow 130 = .ok (.istore 4, 2) := by decide +kernel
theorem dX2_bestNow_132 : decode cX2_bestNow 132 = .ok (.aload_n 0, 1) := by decide +kernel
theorem dX2_bestNow_133 : decode cX2_bestNow 133 = .ok (.getfield 13, 3) := by decide +kernel
theorem dX2_bestNow_136 : decode cX2_bestNow 136 = .ok (.invokestatic 183, 3) := by decide +kernel
theorem dX2_bestNow_139 : decode cX2_bestNow 139 = .ok (.istore_n 3, 1) := by decide +kernel
theorem dX2_bestNow_140 : decode cX2_bestNow 140 = .ok (.iinc 5 1, 3) := by decide +kernel
theorem dX2_bestNow_143 : decode cX2_bestNow 143 = .ok (.goto (-123), 3) := by decide +kernel
theorem dX2_bestNow_146 : decode cX2_bestNow 146 = .ok (.iload 4, 2) := by decide +kernel
theorem dX2_bestNow_148 : decode cX2_bestNow 148 = .ok (.ireturn, 1) := by decide +kernel
theorem dX2_forgo_0 : decode cX2_forgo 0 = .ok (.iload_n 1, 1) := by decide +kernel
theorem dX2_forgo_1 : decode cX2_forgo 1 = .ok (.iconst 1, 1) := by decide +kernel
theorem dX2_forgo_2 : decode cX2_forgo 2 = .ok (.bipush 30, 2) := by decide +kernel
theorem dX2_forgo_4 : decode cX2_forgo 4 = .ok (.invokestatic 153, 3) := by decide +kernel
theorem dX2_forgo_7 : decode cX2_forgo 7 = .ok (.istore_n 2, 1) := by decide +kernel
theorem dX2_forgo_8 : decode cX2_forgo 8 = .ok (.iload_n 2, 1) := by decide +kernel
theorem dX2_forgo_9 : decode cX2_forgo 9 = .ok (.ifCond .eq 11, 3) := by decide +kernel
theorem dX2_forgo_12 : decode cX2_forgo 12 = .ok (.aload_n 0, 1) := by decide +kernel
theorem dX2_forgo_13 : decode cX2_forgo 13 = .ok (.iload_n 2, 1) := by decide +kernel
theorem dX2_forgo_14 : decode cX2_forgo 14 = .ok (.invokevirtual 36, 3) := by decide +kernel
theorem dX2_forgo_17 : decode cX2_forgo 17 = .ok (.goto 9, 3) := by decide +kernel
theorem dX2_forgo_20 : decode cX2_forgo 20 = .ok (.aload_n 0, 1) := by decide +kernel
theorem dX2_forgo_21 : decode cX2_forgo 21 = .ok (.iload_n 1, 1) := by decide +kernel
theorem dX2_forgo_22 : decode cX2_forgo 22 = .ok (.iconst 1, 1) := by decide +kernel
theorem dX2_forgo_23 : decode cX2_forgo 23 = .ok (.invokevirtual 186, 3) := by decide +kernel
theorem dX2_forgo_26 : decode cX2_forgo 26 = .ok (.ireturn, 1) := by decide +kernel
theorem dX2_firstUp_0 : decode cX2_firstUp 0 = .ok (.iload_n 1, 1) := by decide +kernel
theorem dX2_firstUp_1 : decode cX2_firstUp 1 = .ok (.iconst 1, 1) := by decide +kernel
theorem dX2_firstUp_2 : decode cX2_firstUp 2 = .ok (.bipush 30, 2) := by decide +kernel
theorem dX2_firstUp_4 : decode cX2_firstUp 4 = .ok (.invokestatic 153, 3) := by decide +kernel
theorem dX2_firstUp_7 : decode cX2_firstUp 7 = .ok (.istore_n 2, 1) := by decide +kernel
theorem dX2_firstUp_8 : decode cX2_firstUp 8 = .ok (.iload_n 2, 1) := by decide +kernel
theorem dX2_firstUp_9 : decode cX2_firstUp 9 = .ok (.ifCond .eq 11, 3) := by decide +kernel
theorem dX2_firstUp_12 : decode cX2_firstUp 12 = .ok (.aload_n 0, 1) := by decide +kernel
theorem dX2_firstUp_13 : decode cX2_firstUp 13 = .ok (.iload_n 2, 1) := by decide +kernel
theorem dX2_firstUp_14 : decode cX2_firstUp 14 = .ok (.invokevirtual 36, 3) := by decide +kernel
theorem dX2_firstUp_17 : decode cX2_firstUp 17 = .ok (.goto 9, 3) := by decide +kernel
theorem dX2_firstUp_20 : decode cX2_firstUp 20 = .ok (.aload_n 0, 1) := by decide +kernel
theorem dX2_firstUp_21 : decode cX2_firstUp 21 = .ok (.iload_n 1, 1) := by decide +kernel
theorem dX2_firstUp_22 : decode cX2_firstUp 22 = .ok (.iconst 0, 1) := by decide +kernel
theorem dX2_firstUp_23 : decode cX2_firstUp 23 = .ok (.invokevirtual 186, 3) := by decide +kernel
theorem dX2_firstUp_26 : decode cX2_firstUp 26 = .ok (.ireturn, 1) := by decide +kernel
theorem dX2_darkOf_0 : decode cX2_darkOf 0 = .ok (.aload_n 0, 1) := by decide +kernel
theorem dX2_darkOf_1 : decode cX2_darkOf 1 = .ok (.getfield 9, 3) := by decide +kernel
theorem dX2_darkOf_4 : decode cX2_darkOf 4 = .ok (.iload_n 1, 1) := by decide +kernel
theorem dX2_darkOf_5 : decode cX2_darkOf 5 = .ok (.iconst 0, 1) := by decide +kernel
theorem dX2_darkOf_6 : decode cX2_darkOf 6 = .ok (.invokestatic 44, 3) := by decide +kernel
theorem dX2_darkOf_9 : decode cX2_darkOf 9 = .ok (.iaload, 1) := by decide +kernel
theorem dX2_darkOf_10 : decode cX2_darkOf 10 = .ok (.aload_n 0, 1) := by decide +kernel
theorem dX2_darkOf_11 : decode cX2_darkOf 11 = .ok (.getfield 9, 3) := by decide +kernel
theorem dX2_darkOf_14 : decode cX2_darkOf 14 = .ok (.iload_n 1, 1) := by decide +kernel
theorem dX2_darkOf_15 : decode cX2_darkOf 15 = .ok (.iconst 1, 1) := by decide +kernel
theorem dX2_darkOf_16 : decode cX2_darkOf 16 = .ok (.invokestatic 44, 3) := by decide +kernel
theorem dX2_darkOf_19 : decode cX2_darkOf 19 = .ok (.iaload, 1) := by decide +kernel
theorem dX2_darkOf_20 : decode cX2_darkOf 20 = .ok (.invokestatic 141, 3) := by decide +kernel
theorem dX2_darkOf_23 : decode cX2_darkOf 23 = .ok (.ireturn, 1) := by decide +kernel
theorem dX2_longest_0 : decode cX2_longest 0 = .ok (.iload_n 1, 1) := by decide +kernel
theorem dX2_longest_1 : decode cX2_longest 1 = .ok (.iconst 0, 1) := by decide +kernel
theorem dX2_longest_2 : decode cX2_longest 2 = .ok (.iconst 1, 1) := by decide +kernel
theorem dX2_longest_3 : decode cX2_longest 3 = .ok (.invokestatic 40, 3) := by decide +kernel
theorem dX2_longest_6 : decode cX2_longest 6 = .ok (.ifCond .ne 10, 3) := by decide +kernel
theorem dX2_longest_9 : decode cX2_longest 9 = .ok (.aload_n 0, 1) := by decide +kernel
theorem dX2_longest_10 : decode cX2_longest 10 = .ok (.bipush (-2), 2) := by decide +kernel
theorem dX2_longest_12 : decode cX2_longest 12 = .ok (.invokevirtual 36, 3) := by decide +kernel
theorem dX2_longest_15 : decode cX2_longest 15 = .ok (.ireturn, 1) := by decide +kernel
theorem dX2_longest_16 : decode cX2_longest 16 = .ok (.iload_n 1, 1) := by decide +kernel
theorem dX2_longest_17 : decode cX2_longest 17 = .ok (.iconst 1, 1) := by decide +kernel
theorem dX2_longest_18 : decode cX2_longest 18 = .ok (.if_icmp .ne 12, 3) := by decide +kernel
theorem dX2_longest_21 : decode cX2_longest 21 = .ok (.aload_n 0, 1) := by decide +kernel
theorem dX2_longest_22 : decode cX2_longest 22 = .ok (.aload_n 0, 1) := by decide +kernel
theorem dX2_longest_23 : decode cX2_longest 23 = .ok (.invokevirtual 171, 3) := by decide +kernel
theorem dX2_longest_26 : decode cX2_longest 26 = .ok (.invokevirtual 177, 3) := by decide +kernel
theorem dX2_longest_29 : decode cX2_longest 29 = .ok (.ireturn, 1) := by decide +kernel
theorem dX2_longest_30 : decode cX2_longest 30 = .ok (.bipush (-9), 2) := by decide +kernel
theorem dX2_longest_32 : decode cX2_longest 32 = .ok (.istore_n 2, 1) := by decide +kernel
theorem dX2_longest_33 : decode cX2_longest 33 = .ok (.iconst 0, 1) := by decide +kernel
theorem dX2_longest_34 : decode cX2_longest 34 = .ok (.istore_n 3, 1) := by decide +kernel
theorem dX2_longest_35 : decode cX2_longest 35 = .ok (.iload_n 3, 1) := by decide +kernel
theorem dX2_longest_36 : decode cX2_longest 36 = .ok (.aload_n 0, 1) := by decide +kernel
theorem dX2_longest_37 : decode cX2_longest 37 = .ok (.getfield 9, 3) := by decide +kernel
theorem dX2_longest_40 : decode cX2_longest 40 = .ok (.iconst 0, 1) := by decide +kernel
theorem dX2_longest_41 : decode cX2_longest 41 = .ok (.iaload, 1) := by decide +kernel
theorem dX2_longest_42 : decode cX2_longest 42 = .ok (.if_icmp .ge 28, 3) := by decide +kernel
theorem dX2_longest_45 : decode cX2_longest 45 = .ok (.iload_n 2, 1) := by decide +kernel
theorem dX2_longest_46 : decode cX2_longest 46 = .ok (.ifCond .lt 16, 3) := by decide +kernel
theorem dX2_longest_49 : decode cX2_longest 49 = .ok (.aload_n 0, 1) := by decide +kernel
theorem dX2_longest_50 : decode cX2_longest 50 = .ok (.iload_n 3, 1) := by decide +kernel
theorem dX2_longest_51 : decode cX2_longest 51 = .ok (.invokevirtual 190, 3) := by decide +kernel
theorem dX2_longest_54 : decode cX2_longest 54 = .ok (.aload_n 0, 1) := by decide +kernel
theorem dX2_longest_55 : decode cX2_longest 55 = .ok (.iload_n 2, 1) := by decide +kernel
theorem dX2_longest_56 : decode cX2_longest 56 = .ok (.invokevirtual 190, 3) := by decide +kernel
theorem dX2_longest_59 : decode cX2_longest 59 = .ok (.if_icmp .le 5, 3) := by decide +kernel
theorem dX2_longest_62 : decode cX2_longest 62 = .ok (.iload_n 3, 1) := by decide +kernel
theorem dX2_longest_63 : decode cX2_longest 63 = .ok (.istore_n 2, 1) := by decide +kernel
theorem dX2_longest_64 : decode cX2_longest 64 = .ok (.iinc 3 1, 3) := by decide +kernel
theorem dX2_longest_67 : decode cX2_longest 67 = .ok (.goto (-32), 3) := by decide +kernel
theorem dX2_longest_70 : decode cX2_longest 70 = .ok (.iload_n 2, 1) := by decide +kernel
theorem dX2_longest_71 : decode cX2_longest 71 = .ok (.ireturn, 1) := by decide +kernel
theorem dX2_seen_0 : decode cX2_seen 0 = .ok (.iload_n 1, 1) := by decide +kernel
theorem dX2_seen_1 : decode cX2_seen 1 = .ok (.iconst 0, 1) := by decide +kernel
theorem dX2_seen_2 : decode cX2_seen 2 = .ok (.iconst 1, 1) := by decide +kernel
theorem dX2_seen_3 : decode cX2_seen 3 = .ok (.invokestatic 40, 3) := by decide +kernel
theorem dX2_seen_6 : decode cX2_seen 6 = .ok (.ifCond .ne 10, 3) := by decide +kernel
theorem dX2_seen_9 : decode cX2_seen 9 = .ok (.aload_n 0, 1) := by decide +kernel
theorem dX2_seen_10 : decode cX2_seen 10 = .ok (.bipush (-2), 2) := by decide +kernel
theorem dX2_seen_12 : decode cX2_seen 12 = .ok (.invokevirtual 36, 3) := by decide +kernel
theorem dX2_seen_15 : decode cX2_seen 15 = .ok (.ireturn, 1) := by decide +kernel
theorem dX2_seen_16 : decode cX2_seen 16 = .ok (.bipush (-9), 2) := by decide +kernel
theorem dX2_seen_18 : decode cX2_seen 18 = .ok (.istore_n 2, 1) := by decide +kernel
theorem dX2_seen_19 : decode cX2_seen 19 = .ok (.iconst 0, 1) := by decide +kernel
theorem dX2_seen_20 : decode cX2_seen 20 = .ok (.istore_n 3, 1) := by decide +kernel
theorem dX2_seen_21 : decode cX2_seen 21 = .ok (.iload_n 3, 1) := by decide +kernel
theorem dX2_seen_22 : decode cX2_seen 22 = .ok (.aload_n 0, 1) := by decide +kernel
theorem dX2_seen_23 : decode cX2_seen 23 = .ok (.getfield 9, 3) := by decide +kernel
theorem dX2_seen_26 : decode cX2_seen 26 = .ok (.iconst 0, 1) := by decide +kernel
theorem dX2_seen_27 : decode cX2_seen 27 = .ok (.iaload, 1) := by decide +kernel
theorem dX2_seen_28 : decode cX2_seen 28 = .ok (.if_icmp .ge 40, 3) := by decide +kernel
theorem dX2_seen_31 : decode cX2_seen 31 = .ok (.iload_n 2, 1) := by decide +kernel
theorem dX2_seen_32 : decode cX2_seen 32 = .ok (.ifCond .lt 28, 3) := by decide +kernel
theorem dX2_seen_35 : decode cX2_seen 35 = .ok (.aload_n 0, 1) := by decide +kernel
theorem dX2_seen_36 : decode cX2_seen 36 = .ok (.getfield 9, 3) := by decide +kernel
theorem dX2_seen_39 : decode cX2_seen 39 = .ok (.iload_n 3, 1) := by decide +kernel
theorem dX2_seen_40 : decode cX2_seen 40 = .ok (.invokestatic 144, 3) := by decide +kernel
theorem dX2_seen_43 : decode cX2_seen 43 = .ok (.invokestatic 94, 3) := by decide +kernel
theorem dX2_seen_46 : decode cX2_seen 46 = .ok (.aload_n 0, 1) := by decide +kernel
theorem dX2_seen_47 : decode cX2_seen 47 = .ok (.getfield 9, 3) := by decide +kernel
theorem dX2_seen_50 : decode cX2_seen 50 = .ok (.iload_n 2, 1) := by decide +kernel
theorem dX2_seen_51 : decode cX2_seen 51 = .ok (.invokestatic 144, 3) := by decide +kernel
theorem dX2_seen_54 : decode cX2_seen 54 = .ok (.invokestatic 94, 3) := by decide +kernel
theorem dX2_seen_57 : decode cX2_seen 57 = .ok (.if_icmp .le 5, 3) := by decide +kernel
theorem dX2_seen_60 : decode cX2_seen 60 = .ok (.iload_n 3, 1) := by decide +kernel
theorem dX2_seen_61 : decode cX2_seen 61 = .ok (.istore_n 2, 1) := by decide +kernel
theorem dX2_seen_62 : decode cX2_seen 62 = .ok (.iinc 3 1, 3) := by decide +kernel
theorem dX2_seen_65 : decode cX2_seen 65 = .ok (.goto (-44), 3) := by decide +kernel
theorem dX2_seen_68 : decode cX2_seen 68 = .ok (.iload_n 1, 1) := by decide +kernel
theorem dX2_seen_69 : decode cX2_seen 69 = .ok (.iconst 1, 1) := by decide +kernel
theorem dX2_seen_70 : decode cX2_seen 70 = .ok (.if_icmp .ne 7, 3) := by decide +kernel
theorem dX2_seen_73 : decode cX2_seen 73 = .ok (.iload_n 2, 1) := by decide +kernel
theorem dX2_seen_74 : decode cX2_seen 74 = .ok (.goto 22, 3) := by decide +kernel
theorem dX2_seen_77 : decode cX2_seen 77 = .ok (.iload_n 2, 1) := by decide +kernel
theorem dX2_seen_78 : decode cX2_seen 78 = .ok (.ifCond .ge 7, 3) := by decide +kernel
theorem dX2_seen_81 : decode cX2_seen 81 = .ok (.iconst 0, 1) := by decide +kernel
theorem dX2_seen_82 : decode cX2_seen 82 = .ok (.goto 14, 3) := by decide +kernel
theorem dX2_seen_85 : decode cX2_seen 85 = .ok (.aload_n 0, 1) := by decide +kernel
theorem dX2_seen_86 : decode cX2_seen 86 = .ok (.getfield 9, 3) := by decide +kernel
theorem dX2_seen_89 : decode cX2_seen 89 = .ok (.iload_n 2, 1) := by decide +kernel
theorem dX2_seen_90 : decode cX2_seen 90 = .ok (.invokestatic 144, 3) := by decide +kernel
theorem dX2_seen_93 : decode cX2_seen 93 = .ok (.invokestatic 94, 3) := by decide +kernel
theorem dX2_seen_96 : decode cX2_seen 96 = .ok (.ireturn, 1) := by decide +kernel
theorem dX2_manyWith_0 : decode cX2_manyWith 0 = .ok (.iconst 0, 1) := by decide +kernel
theorem dX2_manyWith_1 : decode cX2_manyWith 1 = .ok (.istore_n 2, 1) := by decide +kernel
theorem dX2_manyWith_2 : decode cX2_manyWith 2 = .ok (.iconst 0, 1) := by decide +kernel
theorem dX2_manyWith_3 : decode cX2_manyWith 3 = .ok (.istore_n 3, 1) := by decide +kernel
theorem dX2_manyWith_4 : decode cX2_manyWith 4 = .ok (.iload_n 3, 1) := by decide +kernel
theorem dX2_manyWith_5 : decode cX2_manyWith 5 = .ok (.aload_n 0, 1) := by decide +kernel
theorem dX2_manyWith_6 : decode cX2_manyWith 6 = .ok (.getfield 9, 3) := by decide +kernel
theorem dX2_manyWith_9 : decode cX2_manyWith 9 = .ok (.iconst 1, 1) := by decide +kernel
theorem dX2_manyWith_10 : decode cX2_manyWith 10 = .ok (.iaload, 1) := by decide +kernel
theorem dX2_manyWith_11 : decode cX2_manyWith 11 = .ok (.if_icmp .ge 32, 3) := by decide +kernel
theorem dX2_manyWith_14 : decode cX2_manyWith 14 = .ok (.iload_n 2, 1) := by decide +kernel
theorem dX2_manyWith_15 : decode cX2_manyWith 15 = .ok (.aload_n 0, 1) := by decide +kernel
theorem dX2_manyWith_16 : decode cX2_manyWith 16 = .ok (.getfield 9, 3) := by decide +kernel
theorem dX2_manyWith_19 : decode cX2_manyWith 19 = .ok (.iload_n 3, 1) := by decide +kernel
theorem dX2_manyWith_20 : decode cX2_manyWith 20 = .ok (.invokestatic 91, 3) := by decide +kernel
theorem dX2_manyWith_23 : decode cX2_manyWith 23 = .ok (.iload_n 1, 1) := by decide +kernel
theorem dX2_manyWith_24 : decode cX2_manyWith 24 = .ok (.invokestatic 65, 3) := by decide +kernel
theorem dX2_manyWith_27 : decode cX2_manyWith 27 = .ok (.ifCond .eq 7, 3) := by decide +kernel
theorem dX2_manyWith_30 : decode cX2_manyWith 30 = .ok (.iconst 1, 1) := by decide +kernel
theorem dX2_manyWith_31 : decode cX2_manyWith 31 = .ok (.goto 4, 3) := by decide +kernel
theorem dX2_manyWith_34 : decode cX2_manyWith 34 = .ok (.iconst 0, 1) := by decide +kernel
theorem dX2_manyWith_35 : decode cX2_manyWith 35 = .ok (.iadd, 1) := by decide +kernel
theorem dX2_manyWith_36 : decode cX2_manyWith 36 = .ok (.istore_n 2, 1) := by decide +kernel
theorem dX2_manyWith_37 : decode cX2_manyWith 37 = .ok (.iinc 3 1, 3) := by decide +kernel
theorem dX2_manyWith_40 : decode cX2_manyWith 40 = .ok (.goto (-36), 3) := by decide +kernel
theorem dX2_manyWith_43 : decode cX2_manyWith 43 = .ok (.iload_n 2, 1) := by decide +kernel
theorem dX2_manyWith_44 : decode cX2_manyWith 44 = .ok (.ireturn, 1) := by decide +kernel
theorem dX2_words_0 : decode cX2_words 0 = .ok (.iload_n 1, 1) := by decide +kernel
theorem dX2_words_1 : decode cX2_words 1 = .ok (.iconst 0, 1) := by decide +kernel
theorem dX2_words_2 : decode cX2_words 2 = .ok (.iconst 2, 1) := by decide +kernel
theorem dX2_words_3 : decode cX2_words 3 = .ok (.invokestatic 40, 3) := by decide +kernel
theorem dX2_words_6 : decode cX2_words 6 = .ok (.ifCond .ne 10, 3) := by decide +kernel
theorem dX2_words_9 : decode cX2_words 9 = .ok (.aload_n 0, 1) := by decide +kernel
theorem dX2_words_10 : decode cX2_words 10 = .ok (.bipush (-2), 2) := by decide +kernel
theorem dX2_words_12 : decode cX2_words 12 = .ok (.invokevirtual 36, 3) := by decide +kernel
theorem dX2_words_15 : decode cX2_words 15 = .ok (.ireturn, 1) := by decide +kernel
theorem dX2_words_16 : decode cX2_words 16 = .ok (.bipush 63, 2) := by decide +kernel
theorem dX2_words_18 : decode cX2_words 18 = .ok (.istore_n 2, 1) := by decide +kernel
theorem dX2_words_19 : decode cX2_words 19 = .ok (.bipush 63, 2) := by decide +kernel
theorem dX2_words_21 : decode cX2_words 21 = .ok (.istore_n 3, 1) := by decide +kernel
theorem dX2_words_22 : decode cX2_words 22 = .ok (.iconst 0, 1) := by decide +kernel
theorem dX2_words_23 : decode cX2_words 23 = .ok (.istore 4, 2) := by decide +kernel
theorem dX2_words_25 : decode cX2_words 25 = .ok (.iconst 0, 1) := by decide +kernel
theorem dX2_words_26 : decode cX2_words 26 = .ok (.istore 5, 2) := by decide +kernel
theorem dX2_words_28 : decode cX2_words 28 = .ok (.iload 5, 2) := by decide +kernel
theorem dX2_words_30 : decode cX2_words 30 = .ok (.aload_n 0, 1) := by decide +kernel
theorem dX2_words_31 : decode cX2_words 31 = .ok (.getfield 9, 3) := by decide +kernel
theorem dX2_words_34 : decode cX2_words 34 = .ok (.iconst 0, 1) := by decide +kernel
theorem dX2_words_35 : decode cX2_words 35 = .ok (.iaload, 1) := by decide +kernel
theorem dX2_words_36 : decode cX2_words 36 = .ok (.if_icmp .ge 27, 3) := by decide +kernel
theorem dX2_words_39 : decode cX2_words 39 = .ok (.iload_n 2, 1) := by decide +kernel
theorem dX2_words_40 : decode cX2_words 40 = .ok (.iconst 1, 1) := by decide +kernel
theorem dX2_words_41 : decode cX2_words 41 = .ok (.aload_n 0, 1) := by decide +kernel
theorem dX2_words_42 : decode cX2_words 42 = .ok (.getfield 9, 3) := by decide +kernel
theorem dX2_words_45 : decode cX2_words 45 = .ok (.iload 5, 2) := by decide +kernel
theorem dX2_words_47 : decode cX2_words 47 = .ok (.iconst 2, 1) := by decide +kernel
theorem dX2_words_48 : decode cX2_words 48 = .ok (.invokestatic 44, 3) := by decide +kernel
theorem dX2_words_51 : decode cX2_words 51 = .ok (.iaload, 1) := by decide +kernel
theorem dX2_words_52 : decode cX2_words 52 = .ok (.ishl, 1) := by decide +kernel
theorem dX2_words_53 : decode cX2_words 53 = .ok (.iconst (-1), 1) := by decide +kernel
theorem dX2_words_54 : decode cX2_words 54 = .ok (.ixor, 1) := by decide +kernel
theorem dX2_words_55 : decode cX2_words 55 = .ok (.iand, 1) := by decide +kernel
theorem dX2_words_56 : decode cX2_words 56 = .ok (.istore_n 2, 1) := by decide +kernel
theorem dX2_words_57 : decode cX2_words 57 = .ok (.iinc 5 1, 3) := by decide +kernel
theorem dX2_words_60 : decode cX2_words 60 = .ok (.goto (-32), 3) := by decide +kernel
theorem dX2_words_63 : decode cX2_words 63 = .ok (.iconst 0, 1) := by decide +kernel
theorem dX2_words_64 : decode cX2_words 64 = .ok (.istore 5, 2) := by decide +kernel
theorem dX2_words_66 : decode cX2_words 66 = .ok (.iload 5, 2) := by decide +kernel
theorem dX2_words_68 : decode cX2_words 68 = .ok (.aload_n 0, 1) := by decide +kernel
theorem dX2_words_69 : decode cX2_words 69 = .ok (.getfield 9, 3) := by decide +kernel
theorem dX2_words_72 : decode cX2_words 72 = .ok (.iconst 1, 1) := by decide +kernel
theorem dX2_words_73 : decode cX2_words 73 = .ok (.iaload, 1) := by decide +kernel
theorem dX2_words_74 : decode cX2_words 74 = .ok (.if_icmp .ge 21, 3) := by decide +kernel
theorem dX2_words_77 : decode cX2_words 77 = .ok (.iload_n 3, 1) := by decide +kernel
theorem dX2_words_78 : decode cX2_words 78 = .ok (.aload_n 0, 1) := by decide +kernel
theorem dX2_words_79 : decode cX2_words 79 = .ok (.getfield 9, 3) := by decide +kernel
theorem dX2_words_82 : decode cX2_words 82 = .ok (.iload 5, 2) := by decide +kernel
theorem dX2_words_84 : decode cX2_words 84 = .ok (.invokestatic 91, 3) := by decide +kernel
theorem dX2_words_87 : decode cX2_words 87 = .ok (.iand, 1) := by decide +kernel
theorem dX2_words_88 : decode cX2_words 88 = .ok (.istore_n 3, 1) := by decide +kernel
theorem dX2_words_89 : decode cX2_words 89 = .ok (.iinc 5 1, 3) := by decide +kernel
theorem dX2_words_92 : decode cX2_words 92 = .ok (.goto (-26), 3) := by decide +kernel
theorem dX2_words_95 : decode cX2_words 95 = .ok (.iconst 0, 1) := by decide +kernel
theorem dX2_words_96 : decode cX2_words 96 = .ok (.istore 5, 2) := by decide +kernel
theorem dX2_words_98 : decode cX2_words 98 = .ok (.iload 5, 2) := by decide +kernel
theorem dX2_words_100 : decode cX2_words 100 = .ok (.bipush 6, 2) := by decide +kernel
theorem dX2_words_102 : decode cX2_words 102 = .ok (.if_icmp .ge 28, 3) := by decide +kernel
theorem dX2_words_105 : decode cX2_words 105 = .ok (.aload_n 0, 1) := by decide +kernel
theorem dX2_words_106 : decode cX2_words 106 = .ok (.iload 5, 2) := by decide +kernel
theorem dX2_words_108 : decode cX2_words 108 = .ok (.invokevirtual 193, 3) := by decide +kernel
theorem dX2_words_111 : decode cX2_words 111 = .ok (.aload_n 0, 1) := by decide +kernel
theorem dX2_words_112 : decode cX2_words 112 = .ok (.iload 4, 2) := by decide +kernel
theorem dX2_words_114 : decode cX2_words 114 = .ok (.invokevirtual 193, 3) := by decide +kernel
theorem dX2_words_117 : decode cX2_words 117 = .ok (.if_icmp .ge 7, 3) := by decide +kernel
theorem dX2_words_120 : decode cX2_words 120 = .ok (.iload 5, 2) := by decide +kernel
theorem dX2_words_122 : decode cX2_words 122 = .ok (.istore 4, 2) := by decide +kernel
theorem dX2_words_124 : decode cX2_words 124 = .ok (.iinc 5 1, 3) := by decide +kernel
theorem dX2_words_127 : decode cX2_words 127 = .ok (.goto (-29), 3) := by decide +kernel
theorem dX2_words_130 : decode cX2_words 130 = .ok (.iload_n 1, 1) := by decide +kernel
theorem dX2_words_131 : decode cX2_words 131 = .ok (.ifCond .ne 7, 3) := by decide +kernel
theorem dX2_words_134 : decode cX2_words 134 = .ok (.iload_n 2, 1) := by decide +kernel
theorem dX2_words_135 : decode cX2_words 135 = .ok (.goto 14, 3) := by decide +kernel
theorem dX2_words_138 : decode cX2_words 138 = .ok (.iload_n 1, 1) := by decide +kernel
theorem dX2_words_139 : decode cX2_words 139 = .ok (.iconst 1, 1) := by decide +kernel
theorem dX2_words_140 : decode cX2_words 140 = .ok (.if_icmp .ne 7, 3) := by decide +kernel
theorem dX2_words_143 : decode cX2_words 143 = .ok (.iload_n 3, 1) := by decide +kernel
theorem dX2_words_144 : decode cX2_words 144 = .ok (.goto 5, 3) := by decide +kernel
theorem dX2_words_147 : decode cX2_words 147 = .ok (.iload 4, 2) := by decide +kernel
theorem dX2_words_149 : decode cX2_words 149 = .ok (.ireturn, 1) := by decide +kernel
theorem dX2_near_0 : decode cX2_near 0 = .ok (.bipush (-9), 2) := by decide +kernel
theorem dX2_near_2 : decode cX2_near 2 = .ok (.istore_n 1, 1) := by decide +kernel
theorem dX2_near_3 : decode cX2_near 3 = .ok (.iconst 0, 1) := by decide +kernel
theorem dX2_near_4 : decode cX2_near 4 = .ok (.istore_n 2, 1) := by decide +kernel
theorem dX2_near_5 : decode cX2_near 5 = .ok (.iload_n 2, 1) := by decide +kernel
theorem dX2_near_6 : decode cX2_near 6 = .ok (.aload_n 0, 1) := by decide +kernel
theorem dX2_near_7 : decode cX2_near 7 = .ok (.getfield 9, 3) := by decide +kernel
theorem dX2_near_10 : decode cX2_near 10 = .ok (.iconst 1, 1) := by decide +kernel
theorem dX2_near_11 : decode cX2_near 11 = .ok (.iaload, 1) := by decide +kernel
theorem dX2_near_12 : decode cX2_near 12 = .ok (.if_icmp .ge 48, 3) := by decide +kernel
theorem dX2_near_15 : decode cX2_near 15 = .ok (.iload_n 1, 1) := by decide +kernel
theorem dX2_near_16 : decode cX2_near 16 = .ok (.ifCond .lt 36, 3) := by decide +kernel
theorem dX2_near_19 : decode cX2_near 19 = .ok (.aload_n 0, 1) := by decide +kernel
theorem dX2_near_20 : decode cX2_near 20 = .ok (.getfield 9, 3) := by decide +kernel
theorem dX2_near_23 : decode cX2_near 23 = .ok (.iload_n 2, 1) := by decide +kernel
theorem dX2_near_24 : decode cX2_near 24 = .ok (.iconst 0, 1) := by decide +kernel
theorem dX2_near_25 : decode cX2_near 25 = .ok (.invokestatic 48, 3) := by decide +kernel
theorem dX2_near_28 : decode cX2_near 28 = .ok (.iaload, 1) := by decide +kernel
theorem dX2_near_29 : decode cX2_near 29 = .ok (.bipush 10, 2) := by decide +kernel
theorem dX2_near_31 : decode cX2_near 31 = .ok (.invokestatic 55, 3) := by decide +kernel
theorem dX2_near_34 : decode cX2_near 34 = .ok (.aload_n 0, 1) := by decide +kernel
theorem dX2_near_35 : decode cX2_near 35 = .ok (.getfield 9, 3) := by decide +kernel
theorem dX2_near_38 : decode cX2_near 38 = .ok (.iload_n 1, 1) := by decide +kernel
theorem dX2_near_39 : decode cX2_near 39 = .ok (.iconst 0, 1) := by decide +kernel
theorem dX2_near_40 : decode cX2_near 40 = .ok (.invokestatic 48, 3) := by decide +kernel
theorem dX2_near_43 : decode cX2_near 43 = .ok (.iaload, 1) := by decide +kernel
theorem dX2_near_44 : decode cX2_near 44 = .ok (.bipush 10, 2) := by decide +kernel
theorem dX2_near_46 : decode cX2_near 46 = .ok (.invokestatic 55, 3) := by decide +kernel
theorem dX2_near_49 : decode cX2_near 49 = .ok (.if_icmp .ge 5, 3) := by decide +kernel
theorem dX2_near_52 : decode cX2_near 52 = .ok (.iload_n 2, 1) := by decide +kernel
theorem dX2_near_53 : decode cX2_near 53 = .ok (.istore_n 1, 1) := by decide +kernel
theorem dX2_near_54 : decode cX2_near 54 = .ok (.iinc 2 1, 3) := by decide +kernel
theorem dX2_near_57 : decode cX2_near 57 = .ok (.goto (-52), 3) := by decide +kernel
theorem dX2_near_60 : decode cX2_near 60 = .ok (.iload_n 1, 1) := by decide +kernel
theorem dX2_near_61 : decode cX2_near 61 = .ok (.ireturn, 1) := by decide +kernel
theorem dX2_alone_0 : decode cX2_alone 0 = .ok (.iconst 0, 1) := by decide +kernel
theorem dX2_alone_1 : decode cX2_alone 1 = .ok (.istore_n 1, 1) := by decide +kernel
theorem dX2_alone_2 : decode cX2_alone 2 = .ok (.iconst 0, 1) := by decide +kernel
theorem dX2_alone_3 : decode cX2_alone 3 = .ok (.istore_n 2, 1) := by decide +kernel
theorem dX2_alone_4 : decode cX2_alone 4 = .ok (.iload_n 2, 1) := by decide +kernel
theorem dX2_alone_5 : decode cX2_alone 5 = .ok (.aload_n 0, 1) := by decide +kernel
theorem dX2_alone_6 : decode cX2_alone 6 = .ok (.getfield 9, 3) := by decide +kernel
theorem dX2_alone_9 : decode cX2_alone 9 = .ok (.iconst 1, 1) := by decide +kernel
theorem dX2_alone_10 : decode cX2_alone 10 = .ok (.iaload, 1) := by decide +kernel
theorem dX2_alone_11 : decode cX2_alone 11 = .ok (.if_icmp .ge 57, 3) := by decide +kernel
theorem dX2_alone_14 : decode cX2_alone 14 = .ok (.iconst 0, 1) := by decide +kernel
theorem dX2_alone_15 : decode cX2_alone 15 = .ok (.istore_n 3, 1) := by decide +kernel
theorem dX2_alone_16 : decode cX2_alone 16 = .ok (.iload_n 3, 1) := by decide +kernel
theorem dX2_alone_17 : decode cX2_alone 17 = .ok (.bipush 6, 2) := by decide +kernel
theorem dX2_alone_19 : decode cX2_alone 19 = .ok (.if_icmp .ge 43, 3) := by decide +kernel
theorem dX2_alone_22 : decode cX2_alone 22 = .ok (.iload_n 1, 1) := by decide +kernel
theorem dX2_alone_23 : decode cX2_alone 23 = .ok (.aload_n 0, 1) := by decide +kernel
theorem dX2_alone_24 : decode cX2_alone 24 = .ok (.getfield 9, 3) := by decide +kernel
theorem dX2_alone_27 : decode cX2_alone 27 = .ok (.iload_n 2, 1) := by decide +kernel
theorem dX2_alone_28 : decode cX2_alone 28 = .ok (.invokestatic 91, 3) := by decide +kernel
theorem dX2_alone_31 : decode cX2_alone 31 = .ok (.iload_n 3, 1) := by decide +kernel
theorem dX2_alone_32 : decode cX2_alone 32 = .ok (.invokestatic 65, 3) := by decide +kernel
theorem dX2_alone_35 : decode cX2_alone 35 = .ok (.ifCond .eq 18, 3) := by decide +kernel
theorem dX2_alone_38 : decode cX2_alone 38 = .ok (.aload_n 0, 1) := by decide +kernel
theorem dX2_alone_39 : decode cX2_alone 39 = .ok (.iload_n 3, 1) := by decide +kernel
theorem dX2_alone_40 : decode cX2_alone 40 = .ok (.invokevirtual 193, 3) := by decide +kernel
theorem dX2_alone_43 : decode cX2_alone 43 = .ok (.iconst 1, 1) := by decide +kernel
theorem dX2_alone_44 : decode cX2_alone 44 = .ok (.if_icmp .ne 9, 3) := by decide +kernel
theorem dX2_alone_47 : decode cX2_alone 47 = .ok (.iconst 1, 1) := by decide +kernel
theorem dX2_alone_48 : decode cX2_alone 48 = .ok (.iload_n 2, 1) := by decide +kernel
theorem dX2_alone_49 : decode cX2_alone 49 = .ok (.ishl, 1) := by decide +kernel
theorem dX2_alone_50 : decode cX2_alone 50 = .ok (.goto 4, 3) := by decide +kernel
theorem dX2_alone_53 : decode cX2_alone 53 = .ok (.iconst 0, 1) := by decide +kernel
theorem dX2_alone_54 : decode cX2_alone 54 = .ok (.ior, 1) := by decide +kernel
theorem dX2_alone_55 : decode cX2_alone 55 = .ok (.istore_n 1, 1) := by decide +kernel
theorem dX2_alone_56 : decode cX2_alone 56 = .ok (.iinc 3 1, 3) := by decide +kernel
theorem dX2_alone_59 : decode cX2_alone 59 = .ok (.goto (-43), 3) := by decide +kernel
theorem dX2_alone_62 : decode cX2_alone 62 = .ok (.iinc 2 1, 3) := by decide +kernel
theorem dX2_alone_65 : decode cX2_alone 65 = .ok (.goto (-61), 3) := by decide +kernel
theorem dX2_alone_68 : decode cX2_alone 68 = .ok (.iload_n 1, 1) := by decide +kernel
theorem dX2_alone_69 : decode cX2_alone 69 = .ok (.ireturn, 1) := by decide +kernel
theorem dX2_tell_0 : decode cX2_tell 0 = .ok (.aload_n 0, 1) := by decide +kernel
theorem dX2_tell_1 : decode cX2_tell 1 = .ok (.getfield 9, 3) := by decide +kernel
theorem dX2_tell_4 : decode cX2_tell 4 = .ok (.invokestatic 180, 3) := by decide +kernel
theorem dX2_tell_7 : decode cX2_tell 7 = .ok (.istore_n 1, 1) := by decide +kernel
theorem dX2_tell_8 : decode cX2_tell 8 = .ok (.bipush (-9), 2) := by decide +kernel
theorem dX2_tell_10 : decode cX2_tell 10 = .ok (.istore_n 2, 1) := by decide +kernel
theorem dX2_tell_11 : decode cX2_tell 11 = .ok (.iconst 0, 1) := by decide +kernel
theorem dX2_tell_12 : decode cX2_tell 12 = .ok (.istore_n 3, 1) := by decide +kernel
theorem dX2_tell_13 : decode cX2_tell 13 = .ok (.iload_n 3, 1) := by decide +kernel
theorem dX2_tell_14 : decode cX2_tell 14 = .ok (.aload_n 0, 1) := by decide +kernel
theorem dX2_tell_15 : decode cX2_tell 15 = .ok (.getfield 9, 3) := by decide +kernel
theorem dX2_tell_18 : decode cX2_tell 18 = .ok (.iconst 1, 1) := by decide +kernel
end
section
theorem dX2_tell_19 : decode cX2_tell 19 = .ok (.iaload, 1) := by decide +kernel
theorem dX2_tell_20 : decode cX2_tell 20 = .ok (.if_icmp .ge 152, 3) := by decide +kernel
theorem dX2_tell_23 : decode cX2_tell 23 = .ok (.iconst 0, 1) := by decide +kernel
theorem dX2_tell_24 : decode cX2_tell 24 = .ok (.istore 4, 2) := by decide +kernel
theorem dX2_tell_26 : decode cX2_tell 26 = .ok (.iload 4, 2) := by decide +kernel
theorem dX2_tell_28 : decode cX2_tell 28 = .ok (.aload_n 0, 1) := by decide +kernel
theorem dX2_tell_29 : decode cX2_tell 29 = .ok (.getfield 9, 3) := by decide +kernel
theorem dX2_tell_32 : decode cX2_tell 32 = .ok (.iconst 1, 1) := by decide +kernel
theorem dX2_tell_33 : decode cX2_tell 33 = .ok (.iaload, 1) := by decide +kernel
theorem dX2_tell_34 : decode cX2_tell 34 = .ok (.if_icmp .ge 132, 3) := by decide +kernel
theorem dX2_tell_37 : decode cX2_tell 37 = .ok (.iload_n 3, 1) := by decide +kernel
theorem dX2_tell_38 : decode cX2_tell 38 = .ok (.iload 4, 2) := by decide +kernel
theorem dX2_tell_40 : decode cX2_tell 40 = .ok (.if_icmp .ne 6, 3) := by decide +kernel
theorem dX2_tell_43 : decode cX2_tell 43 = .ok (.goto 117, 3) := by decide +kernel
theorem dX2_tell_46 : decode cX2_tell 46 = .ok (.aload_n 0, 1) := by decide +kernel
theorem dX2_tell_47 : decode cX2_tell 47 = .ok (.getfield 9, 3) := by decide +kernel
theorem dX2_tell_50 : decode cX2_tell 50 = .ok (.aload_n 0, 1) := by decide +kernel
theorem dX2_tell_51 : decode cX2_tell 51 = .ok (.getfield 13, 3) := by decide +kernel
theorem dX2_tell_54 : decode cX2_tell 54 = .ok (.invokestatic 134, 3) := by decide +kernel
theorem dX2_tell_57 : decode cX2_tell 57 = .ok (.iconst 0, 1) := by decide +kernel
theorem dX2_tell_58 : decode cX2_tell 58 = .ok (.istore 5, 2) := by decide +kernel
theorem dX2_tell_60 : decode cX2_tell 60 = .ok (.iload 5, 2) := by decide +kernel
theorem dX2_tell_62 : decode cX2_tell 62 = .ok (.bipush 6, 2) := by decide +kernel
theorem dX2_tell_64 : decode cX2_tell 64 = .ok (.if_icmp .ge 66, 3) := by decide +kernel
theorem dX2_tell_67 : decode cX2_tell 67 = .ok (.aload_n 0, 1) := by decide +kernel
theorem dX2_tell_68 : decode cX2_tell 68 = .ok (.getfield 13, 3) := by decide +kernel
theorem dX2_tell_71 : decode cX2_tell 71 = .ok (.iload_n 3, 1) := by decide +kernel
theorem dX2_tell_72 : decode cX2_tell 72 = .ok (.iconst 2, 1) := by decide +kernel
theorem dX2_tell_73 : decode cX2_tell 73 = .ok (.iload 5, 2) := by decide +kernel
theorem dX2_tell_75 : decode cX2_tell 75 = .ok (.iadd, 1) := by decide +kernel
theorem dX2_tell_76 : decode cX2_tell 76 = .ok (.invokestatic 48, 3) := by decide +kernel
theorem dX2_tell_79 : decode cX2_tell 79 = .ok (.iaload, 1) := by decide +kernel
theorem dX2_tell_80 : decode cX2_tell 80 = .ok (.aload_n 0, 1) := by decide +kernel
theorem dX2_tell_81 : decode cX2_tell 81 = .ok (.getfield 13, 3) := by decide +kernel
theorem dX2_tell_84 : decode cX2_tell 84 = .ok (.iload 4, 2) := by decide +kernel
theorem dX2_tell_86 : decode cX2_tell 86 = .ok (.iconst 2, 1) := by decide +kernel
theorem dX2_tell_87 : decode cX2_tell 87 = .ok (.iload 5, 2) := by decide +kernel
theorem dX2_tell_89 : decode cX2_tell 89 = .ok (.iadd, 1) := by decide +kernel
theorem dX2_tell_90 : decode cX2_tell 90 = .ok (.invokestatic 48, 3) := by decide +kernel
theorem dX2_tell_93 : decode cX2_tell 93 = .ok (.iaload, 1) := by decide +kernel
theorem dX2_tell_94 : decode cX2_tell 94 = .ok (.if_icmp .le 30, 3) := by decide +kernel
theorem dX2_tell_97 : decode cX2_tell 97 = .ok (.aload_n 0, 1) := by decide +kernel
theorem dX2_tell_98 : decode cX2_tell 98 = .ok (.getfield 13, 3) := by decide +kernel
theorem dX2_tell_101 : decode cX2_tell 101 = .ok (.iload 4, 2) := by decide +kernel
theorem dX2_tell_103 : decode cX2_tell 103 = .ok (.iconst 2, 1) := by decide +kernel
theorem dX2_tell_104 : decode cX2_tell 104 = .ok (.iload 5, 2) := by decide +kernel
theorem dX2_tell_106 : decode cX2_tell 106 = .ok (.iadd, 1) := by decide +kernel
theorem dX2_tell_107 : decode cX2_tell 107 = .ok (.invokestatic 48, 3) := by decide +kernel
theorem dX2_tell_110 : decode cX2_tell 110 = .ok (.aload_n 0, 1) := by decide +kernel
theorem dX2_tell_111 : decode cX2_tell 111 = .ok (.getfield 13, 3) := by decide +kernel
theorem dX2_tell_114 : decode cX2_tell 114 = .ok (.iload_n 3, 1) := by decide +kernel
theorem dX2_tell_115 : decode cX2_tell 115 = .ok (.iconst 2, 1) := by decide +kernel
theorem dX2_tell_116 : decode cX2_tell 116 = .ok (.iload 5, 2) := by decide +kernel
theorem dX2_tell_118 : decode cX2_tell 118 = .ok (.iadd, 1) := by decide +kernel
theorem dX2_tell_119 : decode cX2_tell 119 = .ok (.invokestatic 48, 3) := by decide +kernel
theorem dX2_tell_122 : decode cX2_tell 122 = .ok (.iaload, 1) := by decide +kernel
theorem dX2_tell_123 : decode cX2_tell 123 = .ok (.iastore, 1) := by decide +kernel
theorem dX2_tell_124 : decode cX2_tell 124 = .ok (.iinc 5 1, 3) := by decide +kernel
theorem dX2_tell_127 : decode cX2_tell 127 = .ok (.goto (-67), 3) := by decide +kernel
theorem dX2_tell_130 : decode cX2_tell 130 = .ok (.aload_n 0, 1) := by decide +kernel
theorem dX2_tell_131 : decode cX2_tell 131 = .ok (.getfield 13, 3) := by decide +kernel
theorem dX2_tell_134 : decode cX2_tell 134 = .ok (.invokestatic 180, 3) := by decide +kernel
theorem dX2_tell_137 : decode cX2_tell 137 = .ok (.iload_n 1, 1) := by decide +kernel
theorem dX2_tell_138 : decode cX2_tell 138 = .ok (.if_icmp .gt 6, 3) := by decide +kernel
theorem dX2_tell_141 : decode cX2_tell 141 = .ok (.goto 19, 3) := by decide +kernel
theorem dX2_tell_144 : decode cX2_tell 144 = .ok (.bipush 10, 2) := by decide +kernel
theorem dX2_tell_146 : decode cX2_tell 146 = .ok (.iload_n 3, 1) := by decide +kernel
theorem dX2_tell_147 : decode cX2_tell 147 = .ok (.imul, 1) := by decide +kernel
theorem dX2_tell_148 : decode cX2_tell 148 = .ok (.iload 4, 2) := by decide +kernel
theorem dX2_tell_150 : decode cX2_tell 150 = .ok (.iadd, 1) := by decide +kernel
theorem dX2_tell_151 : decode cX2_tell 151 = .ok (.istore_n 2, 1) := by decide +kernel
theorem dX2_tell_152 : decode cX2_tell 152 = .ok (.aload_n 0, 1) := by decide +kernel
theorem dX2_tell_153 : decode cX2_tell 153 = .ok (.getfield 13, 3) := by decide +kernel
theorem dX2_tell_156 : decode cX2_tell 156 = .ok (.invokestatic 180, 3) := by decide +kernel
theorem dX2_tell_159 : decode cX2_tell 159 = .ok (.istore_n 1, 1) := by decide +kernel
theorem dX2_tell_160 : decode cX2_tell 160 = .ok (.iinc 4 1, 3) := by decide +kernel
theorem dX2_tell_163 : decode cX2_tell 163 = .ok (.goto (-137), 3) := by decide +kernel
theorem dX2_tell_166 : decode cX2_tell 166 = .ok (.iinc 3 1, 3) := by decide +kernel
theorem dX2_tell_169 : decode cX2_tell 169 = .ok (.goto (-156), 3) := by decide +kernel
theorem dX2_tell_172 : decode cX2_tell 172 = .ok (.iload_n 2, 1) := by decide +kernel
theorem dX2_tell_173 : decode cX2_tell 173 = .ok (.ireturn, 1) := by decide +kernel
theorem dX2_hasBy_0 : decode cX2_hasBy 0 = .ok (.aload_n 0, 1) := by decide +kernel
theorem dX2_hasBy_1 : decode cX2_hasBy 1 = .ok (.getfield 9, 3) := by decide +kernel
theorem dX2_hasBy_4 : decode cX2_hasBy 4 = .ok (.aload_n 0, 1) := by decide +kernel
theorem dX2_hasBy_5 : decode cX2_hasBy 5 = .ok (.getfield 13, 3) := by decide +kernel
theorem dX2_hasBy_8 : decode cX2_hasBy 8 = .ok (.invokestatic 134, 3) := by decide +kernel
theorem dX2_hasBy_11 : decode cX2_hasBy 11 = .ok (.aload_n 0, 1) := by decide +kernel
theorem dX2_hasBy_12 : decode cX2_hasBy 12 = .ok (.getfield 13, 3) := by decide +kernel
theorem dX2_hasBy_15 : decode cX2_hasBy 15 = .ok (.iload 5, 2) := by decide +kernel
theorem dX2_hasBy_17 : decode cX2_hasBy 17 = .ok (.iload_n 3, 1) := by decide +kernel
theorem dX2_hasBy_18 : decode cX2_hasBy 18 = .ok (.invokestatic 128, 3) := by decide +kernel
theorem dX2_hasBy_21 : decode cX2_hasBy 21 = .ok (.aload_n 0, 1) := by decide +kernel
theorem dX2_hasBy_22 : decode cX2_hasBy 22 = .ok (.getfield 13, 3) := by decide +kernel
theorem dX2_hasBy_25 : decode cX2_hasBy 25 = .ok (.iload_n 1, 1) := by decide +kernel
theorem dX2_hasBy_26 : decode cX2_hasBy 26 = .ok (.invokestatic 91, 3) := by decide +kernel
theorem dX2_hasBy_29 : decode cX2_hasBy 29 = .ok (.bipush 63, 2) := by decide +kernel
theorem dX2_hasBy_31 : decode cX2_hasBy 31 = .ok (.if_icmp .ne 20, 3) := by decide +kernel
theorem dX2_hasBy_34 : decode cX2_hasBy 34 = .ok (.aload_n 0, 1) := by decide +kernel
theorem dX2_hasBy_35 : decode cX2_hasBy 35 = .ok (.getfield 13, 3) := by decide +kernel
theorem dX2_hasBy_38 : decode cX2_hasBy 38 = .ok (.iload_n 2, 1) := by decide +kernel
theorem dX2_hasBy_39 : decode cX2_hasBy 39 = .ok (.invokestatic 91, 3) := by decide +kernel
theorem dX2_hasBy_42 : decode cX2_hasBy 42 = .ok (.bipush 63, 2) := by decide +kernel
theorem dX2_hasBy_44 : decode cX2_hasBy 44 = .ok (.if_icmp .eq 7, 3) := by decide +kernel
theorem dX2_hasBy_47 : decode cX2_hasBy 47 = .ok (.iconst 3, 1) := by decide +kernel
theorem dX2_hasBy_48 : decode cX2_hasBy 48 = .ok (.goto 4, 3) := by decide +kernel
theorem dX2_hasBy_51 : decode cX2_hasBy 51 = .ok (.iconst 0, 1) := by decide +kernel
theorem dX2_hasBy_52 : decode cX2_hasBy 52 = .ok (.istore 6, 2) := by decide +kernel
theorem dX2_hasBy_54 : decode cX2_hasBy 54 = .ok (.aload_n 0, 1) := by decide +kernel
theorem dX2_hasBy_55 : decode cX2_hasBy 55 = .ok (.getfield 13, 3) := by decide +kernel
theorem dX2_hasBy_58 : decode cX2_hasBy 58 = .ok (.iload_n 1, 1) := by decide +kernel
theorem dX2_hasBy_59 : decode cX2_hasBy 59 = .ok (.invokestatic 91, 3) := by decide +kernel
theorem dX2_hasBy_62 : decode cX2_hasBy 62 = .ok (.invokestatic 94, 3) := by decide +kernel
theorem dX2_hasBy_65 : decode cX2_hasBy 65 = .ok (.iload 4, 2) := by decide +kernel
theorem dX2_hasBy_67 : decode cX2_hasBy 67 = .ok (.isub, 1) := by decide +kernel
theorem dX2_hasBy_68 : decode cX2_hasBy 68 = .ok (.iload 6, 2) := by decide +kernel
theorem dX2_hasBy_70 : decode cX2_hasBy 70 = .ok (.iadd, 1) := by decide +kernel
theorem dX2_hasBy_71 : decode cX2_hasBy 71 = .ok (.ireturn, 1) := by decide +kernel
theorem dX2_lookingBy_0 : decode cX2_lookingBy 0 = .ok (.iconst 1, 1) := by decide +kernel
theorem dX2_lookingBy_1 : decode cX2_lookingBy 1 = .ok (.iload_n 1, 1) := by decide +kernel
theorem dX2_lookingBy_2 : decode cX2_lookingBy 2 = .ok (.isub, 1) := by decide +kernel
theorem dX2_lookingBy_3 : decode cX2_lookingBy 3 = .ok (.iload_n 0, 1) := by decide +kernel
theorem dX2_lookingBy_4 : decode cX2_lookingBy 4 = .ok (.ishl, 1) := by decide +kernel
theorem dX2_lookingBy_5 : decode cX2_lookingBy 5 = .ok (.iconst 1, 1) := by decide +kernel
theorem dX2_lookingBy_6 : decode cX2_lookingBy 6 = .ok (.iload_n 3, 1) := by decide +kernel
theorem dX2_lookingBy_7 : decode cX2_lookingBy 7 = .ok (.isub, 1) := by decide +kernel
theorem dX2_lookingBy_8 : decode cX2_lookingBy 8 = .ok (.iload_n 2, 1) := by decide +kernel
theorem dX2_lookingBy_9 : decode cX2_lookingBy 9 = .ok (.ishl, 1) := by decide +kernel
theorem dX2_lookingBy_10 : decode cX2_lookingBy 10 = .ok (.ior, 1) := by decide +kernel
theorem dX2_lookingBy_11 : decode cX2_lookingBy 11 = .ok (.iconst (-1), 1) := by decide +kernel
theorem dX2_lookingBy_12 : decode cX2_lookingBy 12 = .ok (.ixor, 1) := by decide +kernel
theorem dX2_lookingBy_13 : decode cX2_lookingBy 13 = .ok (.ireturn, 1) := by decide +kernel
theorem dX2_two_0 : decode cX2_two 0 = .ok (.aload_n 0, 1) := by decide +kernel
theorem dX2_two_1 : decode cX2_two 1 = .ok (.iload_n 1, 1) := by decide +kernel
theorem dX2_two_2 : decode cX2_two 2 = .ok (.invokevirtual 147, 3) := by decide +kernel
theorem dX2_two_5 : decode cX2_two 5 = .ok (.ifCond .eq 26, 3) := by decide +kernel
theorem dX2_two_8 : decode cX2_two 8 = .ok (.aload_n 0, 1) := by decide +kernel
theorem dX2_two_9 : decode cX2_two 9 = .ok (.iload_n 2, 1) := by decide +kernel
theorem dX2_two_10 : decode cX2_two 10 = .ok (.invokevirtual 147, 3) := by decide +kernel
theorem dX2_two_13 : decode cX2_two 13 = .ok (.ifCond .eq 18, 3) := by decide +kernel
theorem dX2_two_16 : decode cX2_two 16 = .ok (.iload_n 1, 1) := by decide +kernel
theorem dX2_two_17 : decode cX2_two 17 = .ok (.iload_n 2, 1) := by decide +kernel
theorem dX2_two_18 : decode cX2_two 18 = .ok (.if_icmp .eq 13, 3) := by decide +kernel
theorem dX2_two_21 : decode cX2_two 21 = .ok (.iload_n 3, 1) := by decide +kernel
theorem dX2_two_22 : decode cX2_two 22 = .ok (.iconst 0, 1) := by decide +kernel
theorem dX2_two_23 : decode cX2_two 23 = .ok (.bipush 30, 2) := by decide +kernel
theorem dX2_two_25 : decode cX2_two 25 = .ok (.invokestatic 153, 3) := by decide +kernel
theorem dX2_two_28 : decode cX2_two 28 = .ok (.goto 4, 3) := by decide +kernel
theorem dX2_two_31 : decode cX2_two 31 = .ok (.iconst (-1), 1) := by decide +kernel
theorem dX2_two_32 : decode cX2_two 32 = .ok (.istore 4, 2) := by decide +kernel
theorem dX2_two_34 : decode cX2_two 34 = .ok (.iload 4, 2) := by decide +kernel
theorem dX2_two_36 : decode cX2_two 36 = .ok (.ifCond .eq 10, 3) := by decide +kernel
theorem dX2_two_39 : decode cX2_two 39 = .ok (.aload_n 0, 1) := by decide +kernel
theorem dX2_two_40 : decode cX2_two 40 = .ok (.iload 4, 2) := by decide +kernel
theorem dX2_two_42 : decode cX2_two 42 = .ok (.invokevirtual 36, 3) := by decide +kernel
theorem dX2_two_45 : decode cX2_two 45 = .ok (.ireturn, 1) := by decide +kernel
theorem dX2_two_46 : decode cX2_two 46 = .ok (.iconst 0, 1) := by decide +kernel
theorem dX2_two_47 : decode cX2_two 47 = .ok (.istore 5, 2) := by decide +kernel
theorem dX2_two_49 : decode cX2_two 49 = .ok (.iload 5, 2) := by decide +kernel
theorem dX2_two_51 : decode cX2_two 51 = .ok (.iconst 4, 1) := by decide +kernel
theorem dX2_two_52 : decode cX2_two 52 = .ok (.if_icmp .ge 113, 3) := by decide +kernel
theorem dX2_two_55 : decode cX2_two 55 = .ok (.iload 5, 2) := by decide +kernel
theorem dX2_two_57 : decode cX2_two 57 = .ok (.iconst 2, 1) := by decide +kernel
theorem dX2_two_58 : decode cX2_two 58 = .ok (.idiv, 1) := by decide +kernel
theorem dX2_two_59 : decode cX2_two 59 = .ok (.istore 6, 2) := by decide +kernel
theorem dX2_two_61 : decode cX2_two 61 = .ok (.iload 5, 2) := by decide +kernel
theorem dX2_two_63 : decode cX2_two 63 = .ok (.iconst 2, 1) := by decide +kernel
theorem dX2_two_64 : decode cX2_two 64 = .ok (.irem, 1) := by decide +kernel
theorem dX2_two_65 : decode cX2_two 65 = .ok (.istore 7, 2) := by decide +kernel
theorem dX2_two_67 : decode cX2_two 67 = .ok (.iload_n 1, 1) := by decide +kernel
theorem dX2_two_68 : decode cX2_two 68 = .ok (.iload 6, 2) := by decide +kernel
theorem dX2_two_70 : decode cX2_two 70 = .ok (.iload_n 2, 1) := by decide +kernel
theorem dX2_two_71 : decode cX2_two 71 = .ok (.iload 7, 2) := by decide +kernel
theorem dX2_two_73 : decode cX2_two 73 = .ok (.invokestatic 196, 3) := by decide +kernel
theorem dX2_two_76 : decode cX2_two 76 = .ok (.istore 8, 2) := by decide +kernel
theorem dX2_two_78 : decode cX2_two 78 = .ok (.aload_n 0, 1) := by decide +kernel
theorem dX2_two_79 : decode cX2_two 79 = .ok (.iload_n 1, 1) := by decide +kernel
theorem dX2_two_80 : decode cX2_two 80 = .ok (.iload_n 2, 1) := by decide +kernel
theorem dX2_two_81 : decode cX2_two 81 = .ok (.iload_n 1, 1) := by decide +kernel
theorem dX2_two_82 : decode cX2_two 82 = .ok (.iconst 1, 1) := by decide +kernel
theorem dX2_two_83 : decode cX2_two 83 = .ok (.iload 6, 2) := by decide +kernel
theorem dX2_two_85 : decode cX2_two 85 = .ok (.isub, 1) := by decide +kernel
theorem dX2_two_86 : decode cX2_two 86 = .ok (.iload_n 2, 1) := by decide +kernel
theorem dX2_two_87 : decode cX2_two 87 = .ok (.iload 7, 2) := by decide +kernel
theorem dX2_two_89 : decode cX2_two 89 = .ok (.invokestatic 196, 3) := by decide +kernel
theorem dX2_two_92 : decode cX2_two 92 = .ok (.iconst 1, 1) := by decide +kernel
theorem dX2_two_93 : decode cX2_two 93 = .ok (.iload 6, 2) := by decide +kernel
theorem dX2_two_95 : decode cX2_two 95 = .ok (.isub, 1) := by decide +kernel
theorem dX2_two_96 : decode cX2_two 96 = .ok (.iload_n 3, 1) := by decide +kernel
theorem dX2_two_97 : decode cX2_two 97 = .ok (.invokevirtual 200, 3) := by decide +kernel
theorem dX2_two_100 : decode cX2_two 100 = .ok (.aload_n 0, 1) := by decide +kernel
theorem dX2_two_101 : decode cX2_two 101 = .ok (.iload_n 1, 1) := by decide +kernel
theorem dX2_two_102 : decode cX2_two 102 = .ok (.iload_n 2, 1) := by decide +kernel
theorem dX2_two_103 : decode cX2_two 103 = .ok (.iload 8, 2) := by decide +kernel
theorem dX2_two_105 : decode cX2_two 105 = .ok (.iload 6, 2) := by decide +kernel
theorem dX2_two_107 : decode cX2_two 107 = .ok (.iload_n 3, 1) := by decide +kernel
theorem dX2_two_108 : decode cX2_two 108 = .ok (.invokevirtual 200, 3) := by decide +kernel
theorem dX2_two_111 : decode cX2_two 111 = .ok (.if_icmp .gt 48, 3) := by decide +kernel
theorem dX2_two_114 : decode cX2_two 114 = .ok (.aload_n 0, 1) := by decide +kernel
theorem dX2_two_115 : decode cX2_two 115 = .ok (.iload_n 2, 1) := by decide +kernel
theorem dX2_two_116 : decode cX2_two 116 = .ok (.iload_n 1, 1) := by decide +kernel
theorem dX2_two_117 : decode cX2_two 117 = .ok (.iload_n 1, 1) := by decide +kernel
theorem dX2_two_118 : decode cX2_two 118 = .ok (.iload 6, 2) := by decide +kernel
theorem dX2_two_120 : decode cX2_two 120 = .ok (.iload_n 2, 1) := by decide +kernel
theorem dX2_two_121 : decode cX2_two 121 = .ok (.iconst 1, 1) := by decide +kernel
theorem dX2_two_122 : decode cX2_two 122 = .ok (.iload 7, 2) := by decide +kernel
theorem dX2_two_124 : decode cX2_two 124 = .ok (.isub, 1) := by decide +kernel
theorem dX2_two_125 : decode cX2_two 125 = .ok (.invokestatic 196, 3) := by decide +kernel
theorem dX2_two_128 : decode cX2_two 128 = .ok (.iconst 1, 1) := by decide +kernel
theorem dX2_two_129 : decode cX2_two 129 = .ok (.iload 7, 2) := by decide +kernel
theorem dX2_two_131 : decode cX2_two 131 = .ok (.isub, 1) := by decide +kernel
theorem dX2_two_132 : decode cX2_two 132 = .ok (.iload_n 3, 1) := by decide +kernel
theorem dX2_two_133 : decode cX2_two 133 = .ok (.invokevirtual 200, 3) := by decide +kernel
theorem dX2_two_136 : decode cX2_two 136 = .ok (.aload_n 0, 1) := by decide +kernel
theorem dX2_two_137 : decode cX2_two 137 = .ok (.iload_n 2, 1) := by decide +kernel
theorem dX2_two_138 : decode cX2_two 138 = .ok (.iload_n 1, 1) := by decide +kernel
theorem dX2_two_139 : decode cX2_two 139 = .ok (.iload 8, 2) := by decide +kernel
theorem dX2_two_141 : decode cX2_two 141 = .ok (.iload 7, 2) := by decide +kernel
theorem dX2_two_143 : decode cX2_two 143 = .ok (.iload_n 3, 1) := by decide +kernel
theorem dX2_two_144 : decode cX2_two 144 = .ok (.invokevirtual 200, 3) := by decide +kernel
theorem dX2_two_147 : decode cX2_two 147 = .ok (.if_icmp .gt 12, 3) := by decide +kernel
theorem dX2_two_150 : decode cX2_two 150 = .ok (.bipush 10, 2) := by decide +kernel
theorem dX2_two_152 : decode cX2_two 152 = .ok (.iload 6, 2) := by decide +kernel
theorem dX2_two_154 : decode cX2_two 154 = .ok (.imul, 1) := by decide +kernel
theorem dX2_two_155 : decode cX2_two 155 = .ok (.iload 7, 2) := by decide +kernel
theorem dX2_two_157 : decode cX2_two 157 = .ok (.iadd, 1) := by decide +kernel
theorem dX2_two_158 : decode cX2_two 158 = .ok (.ireturn, 1) := by decide +kernel
theorem dX2_two_159 : decode cX2_two 159 = .ok (.iinc 5 1, 3) := by decide +kernel
theorem dX2_two_162 : decode cX2_two 162 = .ok (.goto (-113), 3) := by decide +kernel
theorem dX2_two_165 : decode cX2_two 165 = .ok (.bipush (-9), 2) := by decide +kernel
theorem dX2_two_167 : decode cX2_two 167 = .ok (.ireturn, 1) := by decide +kernel
theorem dX2_gcd_0 : decode cX2_gcd 0 = .ok (.lload_n 0, 1) := by decide +kernel
theorem dX2_gcd_1 : decode cX2_gcd 1 = .ok (.lstore 4, 2) := by decide +kernel
theorem dX2_gcd_3 : decode cX2_gcd 3 = .ok (.lload_n 2, 1) := by decide +kernel
theorem dX2_gcd_4 : decode cX2_gcd 4 = .ok (.lstore 6, 2) := by decide +kernel
theorem dX2_gcd_6 : decode cX2_gcd 6 = .ok (.lload 6, 2) := by decide +kernel
theorem dX2_gcd_8 : decode cX2_gcd 8 = .ok (.lconst 0, 1) := by decide +kernel
theorem dX2_gcd_9 : decode cX2_gcd 9 = .ok (.lcmp, 1) := by decide +kernel
theorem dX2_gcd_10 : decode cX2_gcd 10 = .ok (.ifCond .eq 21, 3) := by decide +kernel
theorem dX2_gcd_13 : decode cX2_gcd 13 = .ok (.lload 4, 2) := by decide +kernel
theorem dX2_gcd_15 : decode cX2_gcd 15 = .ok (.lload 6, 2) := by decide +kernel
theorem dX2_gcd_17 : decode cX2_gcd 17 = .ok (.lrem, 1) := by decide +kernel
theorem dX2_gcd_18 : decode cX2_gcd 18 = .ok (.lstore 8, 2) := by decide +kernel
theorem dX2_gcd_20 : decode cX2_gcd 20 = .ok (.lload 6, 2) := by decide +kernel
theorem dX2_gcd_22 : decode cX2_gcd 22 = .ok (.lstore 4, 2) := by decide +kernel
theorem dX2_gcd_24 : decode cX2_gcd 24 = .ok (.lload 8, 2) := by decide +kernel
theorem dX2_gcd_26 : decode cX2_gcd 26 = .ok (.lstore 6, 2) := by decide +kernel
theorem dX2_gcd_28 : decode cX2_gcd 28 = .ok (.goto (-22), 3) := by decide +kernel
theorem dX2_gcd_31 : decode cX2_gcd 31 = .ok (.lload 4, 2) := by decide +kernel
theorem dX2_gcd_33 : decode cX2_gcd 33 = .ok (.lreturn, 1) := by decide +kernel
theorem dX2_partOf_0 : decode cX2_partOf 0 = .ok (.lload_n 0, 1) := by decide +kernel
theorem dX2_partOf_1 : decode cX2_partOf 1 = .ok (.lconst 0, 1) := by decide +kernel
theorem dX2_partOf_2 : decode cX2_partOf 2 = .ok (.lcmp, 1) := by decide +kernel
theorem dX2_partOf_3 : decode cX2_partOf 3 = .ok (.ifCond .ne 7, 3) := by decide +kernel
theorem dX2_partOf_6 : decode cX2_partOf 6 = .ok (.iload 4, 2) := by decide +kernel
theorem dX2_partOf_8 : decode cX2_partOf 8 = .ok (.i2l, 1) := by decide +kernel
theorem dX2_partOf_9 : decode cX2_partOf 9 = .ok (.lreturn, 1) := by decide +kernel
theorem dX2_partOf_10 : decode cX2_partOf 10 = .ok (.iload 4, 2) := by decide +kernel
theorem dX2_partOf_12 : decode cX2_partOf 12 = .ok (.ifCond .ne 7, 3) := by decide +kernel
theorem dX2_partOf_15 : decode cX2_partOf 15 = .ok (.lload_n 0, 1) := by decide +kernel
theorem dX2_partOf_16 : decode cX2_partOf 16 = .ok (.goto 4, 3) := by decide +kernel
theorem dX2_partOf_19 : decode cX2_partOf 19 = .ok (.lload_n 2, 1) := by decide +kernel
theorem dX2_partOf_20 : decode cX2_partOf 20 = .ok (.lload_n 0, 1) := by decide +kernel
theorem dX2_partOf_21 : decode cX2_partOf 21 = .ok (.lload_n 2, 1) := by decide +kernel
theorem dX2_partOf_22 : decode cX2_partOf 22 = .ok (.invokestatic 204, 3) := by decide +kernel
theorem dX2_partOf_25 : decode cX2_partOf 25 = .ok (.ldiv, 1) := by decide +kernel
theorem dX2_partOf_26 : decode cX2_partOf 26 = .ok (.lreturn, 1) := by decide +kernel
theorem dX2_rain_0 : decode cX2_rain 0 = .ok (.aload_n 0, 1) := by decide +kernel
theorem dX2_rain_1 : decode cX2_rain 1 = .ok (.iload_n 1, 1) := by decide +kernel
theorem dX2_rain_2 : decode cX2_rain 2 = .ok (.invokevirtual 147, 3) := by decide +kernel
theorem dX2_rain_5 : decode cX2_rain 5 = .ok (.ifCond .ne 9, 3) := by decide +kernel
theorem dX2_rain_8 : decode cX2_rain 8 = .ok (.aload_n 0, 1) := by decide +kernel
theorem dX2_rain_9 : decode cX2_rain 9 = .ok (.iconst (-1), 1) := by decide +kernel
theorem dX2_rain_10 : decode cX2_rain 10 = .ok (.invokevirtual 208, 3) := by decide +kernel
theorem dX2_rain_13 : decode cX2_rain 13 = .ok (.lreturn, 1) := by decide +kernel
theorem dX2_rain_14 : decode cX2_rain 14 = .ok (.iload_n 2, 1) := by decide +kernel
theorem dX2_rain_15 : decode cX2_rain 15 = .ok (.ifCond .lt 8, 3) := by decide +kernel
theorem dX2_rain_18 : decode cX2_rain 18 = .ok (.iload_n 3, 1) := by decide +kernel
theorem dX2_rain_19 : decode cX2_rain 19 = .ok (.iconst 2, 1) := by decide +kernel
theorem dX2_rain_20 : decode cX2_rain 20 = .ok (.if_icmp .ge 10, 3) := by decide +kernel
theorem dX2_rain_23 : decode cX2_rain 23 = .ok (.aload_n 0, 1) := by decide +kernel
theorem dX2_rain_24 : decode cX2_rain 24 = .ok (.bipush (-4), 2) := by decide +kernel
theorem dX2_rain_26 : decode cX2_rain 26 = .ok (.invokevirtual 208, 3) := by decide +kernel
theorem dX2_rain_29 : decode cX2_rain 29 = .ok (.lreturn, 1) := by decide +kernel
theorem dX2_rain_30 : decode cX2_rain 30 = .ok (.iload_n 2, 1) := by decide +kernel
theorem dX2_rain_31 : decode cX2_rain 31 = .ok (.bipush 7, 2) := by decide +kernel
theorem dX2_rain_33 : decode cX2_rain 33 = .ok (.if_icmp .gt 9, 3) := by decide +kernel
theorem dX2_rain_36 : decode cX2_rain 36 = .ok (.iload_n 3, 1) := by decide +kernel
theorem dX2_rain_37 : decode cX2_rain 37 = .ok (.bipush 20, 2) := by decide +kernel
theorem dX2_rain_39 : decode cX2_rain 39 = .ok (.if_icmp .le 10, 3) := by decide +kernel
theorem dX2_rain_42 : decode cX2_rain 42 = .ok (.aload_n 0, 1) := by decide +kernel
theorem dX2_rain_43 : decode cX2_rain 43 = .ok (.bipush (-6), 2) := by decide +kernel
theorem dX2_rain_45 : decode cX2_rain 45 = .ok (.invokevirtual 208, 3) := by decide +kernel
theorem dX2_rain_48 : decode cX2_rain 48 = .ok (.lreturn, 1) := by decide +kernel
theorem dX2_rain_49 : decode cX2_rain 49 = .ok (.iload 4, 2) := by decide +kernel
theorem dX2_rain_51 : decode cX2_rain 51 = .ok (.iconst 0, 1) := by decide +kernel
theorem dX2_rain_52 : decode cX2_rain 52 = .ok (.iconst 1, 1) := by decide +kernel
theorem dX2_rain_53 : decode cX2_rain 53 = .ok (.invokestatic 40, 3) := by decide +kernel
theorem dX2_rain_56 : decode cX2_rain 56 = .ok (.ifCond .ne 10, 3) := by decide +kernel
theorem dX2_rain_59 : decode cX2_rain 59 = .ok (.aload_n 0, 1) := by decide +kernel
theorem dX2_rain_60 : decode cX2_rain 60 = .ok (.bipush (-2), 2) := by decide +kernel
theorem dX2_rain_62 : decode cX2_rain 62 = .ok (.invokevirtual 208, 3) := by decide +kernel
theorem dX2_rain_65 : decode cX2_rain 65 = .ok (.lreturn, 1) := by decide +kernel
theorem dX2_rain_66 : decode cX2_rain 66 = .ok (.lconst 0, 1) := by decide +kernel
theorem dX2_rain_67 : decode cX2_rain 67 = .ok (.lstore 5, 2) := by decide +kernel
theorem dX2_rain_69 : decode cX2_rain 69 = .ok (.lconst 1, 1) := by decide +kernel
theorem dX2_rain_70 : decode cX2_rain 70 = .ok (.lstore 7, 2) := by decide +kernel
theorem dX2_rain_72 : decode cX2_rain 72 = .ok (.iconst 0, 1) := by decide +kernel
theorem dX2_rain_73 : decode cX2_rain 73 = .ok (.istore 9, 2) := by decide +kernel
theorem dX2_rain_75 : decode cX2_rain 75 = .ok (.iload 9, 2) := by decide +kernel
theorem dX2_rain_77 : decode cX2_rain 77 = .ok (.iload_n 2, 1) := by decide +kernel
theorem dX2_rain_78 : decode cX2_rain 78 = .ok (.if_icmp .ge 16, 3) := by decide +kernel
theorem dX2_rain_81 : decode cX2_rain 81 = .ok (.lload 7, 2) := by decide +kernel
theorem dX2_rain_83 : decode cX2_rain 83 = .ok (.iload_n 3, 1) := by decide +kernel
theorem dX2_rain_84 : decode cX2_rain 84 = .ok (.i2l, 1) := by decide +kernel
theorem dX2_rain_85 : decode cX2_rain 85 = .ok (.lmul, 1) := by decide +kernel
theorem dX2_rain_86 : decode cX2_rain 86 = .ok (.lstore 7, 2) := by decide +kernel
theorem dX2_rain_88 : decode cX2_rain 88 = .ok (.iinc 9 1, 3) := by decide +kernel
theorem dX2_rain_91 : decode cX2_rain 91 = .ok (.goto (-16), 3) := by decide +kernel
theorem dX2_rain_94 : decode cX2_rain 94 = .ok (.iconst 0, 1) := by decide +kernel
theorem dX2_rain_95 : decode cX2_rain 95 = .ok (.istore 9, 2) := by decide +kernel
theorem dX2_rain_97 : decode cX2_rain 97 = .ok (.iload 9, 2) := by decide +kernel
theorem dX2_rain_99 : decode cX2_rain 99 = .ok (.iconst 1, 1) := by decide +kernel
theorem dX2_rain_100 : decode cX2_rain 100 = .ok (.iload_n 2, 1) := by decide +kernel
theorem dX2_rain_101 : decode cX2_rain 101 = .ok (.ishl, 1) := by decide +kernel
theorem dX2_rain_102 : decode cX2_rain 102 = .ok (.if_icmp .ge 107, 3) := by decide +kernel
theorem dX2_rain_105 : decode cX2_rain 105 = .ok (.lconst 1, 1) := by decide +kernel
theorem dX2_rain_106 : decode cX2_rain 106 = .ok (.lstore 10, 2) := by decide +kernel
theorem dX2_rain_108 : decode cX2_rain 108 = .ok (.aload_n 0, 1) := by decide +kernel
theorem dX2_rain_109 : decode cX2_rain 109 = .ok (.getfield 9, 3) := by decide +kernel
theorem dX2_rain_112 : decode cX2_rain 112 = .ok (.aload_n 0, 1) := by decide +kernel
theorem dX2_rain_113 : decode cX2_rain 113 = .ok (.getfield 13, 3) := by decide +kernel
theorem dX2_rain_116 : decode cX2_rain 116 = .ok (.invokestatic 134, 3) := by decide +kernel
theorem dX2_rain_119 : decode cX2_rain 119 = .ok (.iconst 0, 1) := by decide +kernel
theorem dX2_rain_120 : decode cX2_rain 120 = .ok (.istore 12, 2) := by decide +kernel
theorem dX2_rain_122 : decode cX2_rain 122 = .ok (.iload 12, 2) := by decide +kernel
theorem dX2_rain_124 : decode cX2_rain 124 = .ok (.iload_n 2, 1) := by decide +kernel
theorem dX2_rain_125 : decode cX2_rain 125 = .ok (.if_icmp .ge 54, 3) := by decide +kernel
theorem dX2_rain_128 : decode cX2_rain 128 = .ok (.lload 10, 2) := by decide +kernel
theorem dX2_rain_130 : decode cX2_rain 130 = .ok (.iload 9, 2) := by decide +kernel
theorem dX2_rain_132 : decode cX2_rain 132 = .ok (.iload 12, 2) := by decide +kernel
theorem dX2_rain_134 : decode cX2_rain 134 = .ok (.invokestatic 65, 3) := by decide +kernel
theorem dX2_rain_137 : decode cX2_rain 137 = .ok (.ifCond .eq 7, 3) := by decide +kernel
theorem dX2_rain_140 : decode cX2_rain 140 = .ok (.lconst 1, 1) := by decide +kernel
theorem dX2_rain_141 : decode cX2_rain 141 = .ok (.goto 7, 3) := by decide +kernel
theorem dX2_rain_144 : decode cX2_rain 144 = .ok (.iload_n 3, 1) := by decide +kernel
theorem dX2_rain_145 : decode cX2_rain 145 = .ok (.iconst 1, 1) := by decide +kernel
theorem dX2_rain_146 : decode cX2_rain 146 = .ok (.isub, 1) := by decide +kernel
theorem dX2_rain_147 : decode cX2_rain 147 = .ok (.i2l, 1) := by decide +kernel
theorem dX2_rain_148 : decode cX2_rain 148 = .ok (.lmul, 1) := by decide +kernel
theorem dX2_rain_149 : decode cX2_rain 149 = .ok (.lstore 10, 2) := by decide +kernel
theorem dX2_rain_151 : decode cX2_rain 151 = .ok (.aload_n 0, 1) := by decide +kernel
theorem dX2_rain_152 : decode cX2_rain 152 = .ok (.getfield 13, 3) := by decide +kernel
theorem dX2_rain_155 : decode cX2_rain 155 = .ok (.iload 9, 2) := by decide +kernel
theorem dX2_rain_157 : decode cX2_rain 157 = .ok (.iload 12, 2) := by decide +kernel
theorem dX2_rain_159 : decode cX2_rain 159 = .ok (.invokestatic 65, 3) := by decide +kernel
theorem dX2_rain_162 : decode cX2_rain 162 = .ok (.ifCond .eq 7, 3) := by decide +kernel
theorem dX2_rain_165 : decode cX2_rain 165 = .ok (.iconst 0, 1) := by decide +kernel
theorem dX2_rain_166 : decode cX2_rain 166 = .ok (.goto 4, 3) := by decide +kernel
theorem dX2_rain_169 : decode cX2_rain 169 = .ok (.iconst (-1), 1) := by decide +kernel
theorem dX2_rain_170 : decode cX2_rain 170 = .ok (.invokestatic 87, 3) := by decide +kernel
theorem dX2_rain_173 : decode cX2_rain 173 = .ok (.iinc 12 1, 3) := by decide +kernel
theorem dX2_rain_176 : decode cX2_rain 176 = .ok (.goto (-54), 3) := by decide +kernel
theorem dX2_rain_179 : decode cX2_rain 179 = .ok (.lload 5, 2) := by decide +kernel
theorem dX2_rain_181 : decode cX2_rain 181 = .ok (.aload_n 0, 1) := by decide +kernel
theorem dX2_rain_182 : decode cX2_rain 182 = .ok (.getfield 13, 3) := by decide +kernel
theorem dX2_rain_185 : decode cX2_rain 185 = .ok (.iload_n 1, 1) := by decide +kernel
theorem dX2_rain_186 : decode cX2_rain 186 = .ok (.invokestatic 91, 3) := by decide +kernel
theorem dX2_rain_189 : decode cX2_rain 189 = .ok (.bipush 63, 2) := by decide +kernel
theorem dX2_rain_191 : decode cX2_rain 191 = .ok (.if_icmp .ne 8, 3) := by decide +kernel
theorem dX2_rain_194 : decode cX2_rain 194 = .ok (.lload 10, 2) := by decide +kernel
theorem dX2_rain_196 : decode cX2_rain 196 = .ok (.goto 4, 3) := by decide +kernel
theorem dX2_rain_199 : decode cX2_rain 199 = .ok (.lconst 0, 1) := by decide +kernel
theorem dX2_rain_200 : decode cX2_rain 200 = .ok (.ladd, 1) := by decide +kernel
theorem dX2_rain_201 : decode cX2_rain 201 = .ok (.lstore 5, 2) := by decide +kernel
theorem dX2_rain_203 : decode cX2_rain 203 = .ok (.iinc 9 1, 3) := by decide +kernel
theorem dX2_rain_206 : decode cX2_rain 206 = .ok (.goto (-109), 3) := by decide +kernel
theorem dX2_rain_209 : decode cX2_rain 209 = .ok (.lload 5, 2) := by decide +kernel
theorem dX2_rain_211 : decode cX2_rain 211 = .ok (.lload 7, 2) := by decide +kernel
theorem dX2_rain_213 : decode cX2_rain 213 = .ok (.iload 4, 2) := by decide +kernel
theorem dX2_rain_215 : decode cX2_rain 215 = .ok (.invokestatic 212, 3) := by decide +kernel
theorem dX2_rain_218 : decode cX2_rain 218 = .ok (.lreturn, 1) := by decide +kernel
theorem dX2_mean_0 : decode cX2_mean 0 = .ok (.iload_n 1, 1) := by decide +kernel
theorem dX2_mean_1 : decode cX2_mean 1 = .ok (.iconst 0, 1) := by decide +kernel
theorem dX2_mean_2 : decode cX2_mean 2 = .ok (.iconst 1, 1) := by decide +kernel
theorem dX2_mean_3 : decode cX2_mean 3 = .ok (.invokestatic 40, 3) := by decide +kernel
theorem dX2_mean_6 : decode cX2_mean 6 = .ok (.ifCond .eq 32, 3) := by decide +kernel
theorem dX2_mean_9 : decode cX2_mean 9 = .ok (.aload_n 0, 1) := by decide +kernel
theorem dX2_mean_10 : decode cX2_mean 10 = .ok (.iconst 1, 1) := by decide +kernel
theorem dX2_mean_11 : decode cX2_mean 11 = .ok (.aload_n 0, 1) := by decide +kernel
theorem dX2_mean_12 : decode cX2_mean 12 = .ok (.getfield 9, 3) := by decide +kernel
theorem dX2_mean_15 : decode cX2_mean 15 = .ok (.iconst 0, 1) := by decide +kernel
theorem dX2_mean_16 : decode cX2_mean 16 = .ok (.iaload, 1) := by decide +kernel
theorem dX2_mean_17 : decode cX2_mean 17 = .ok (.ishl, 1) := by decide +kernel
theorem dX2_mean_18 : decode cX2_mean 18 = .ok (.iconst 1, 1) := by decide +kernel
theorem dX2_mean_19 : decode cX2_mean 19 = .ok (.isub, 1) := by decide +kernel
theorem dX2_mean_20 : decode cX2_mean 20 = .ok (.invokevirtual 177, 3) := by decide +kernel
theorem dX2_mean_23 : decode cX2_mean 23 = .ok (.i2l, 1) := by decide +kernel
theorem dX2_mean_24 : decode cX2_mean 24 = .ok (.aload_n 0, 1) := by decide +kernel
theorem dX2_mean_25 : decode cX2_mean 25 = .ok (.getfield 9, 3) := by decide +kernel
theorem dX2_mean_28 : decode cX2_mean 28 = .ok (.iconst 0, 1) := by decide +kernel
theorem dX2_mean_29 : decode cX2_mean 29 = .ok (.iaload, 1) := by decide +kernel
theorem dX2_mean_30 : decode cX2_mean 30 = .ok (.i2l, 1) := by decide +kernel
theorem dX2_mean_31 : decode cX2_mean 31 = .ok (.iload_n 1, 1) := by decide +kernel
theorem dX2_mean_32 : decode cX2_mean 32 = .ok (.invokestatic 212, 3) := by decide +kernel
theorem dX2_mean_35 : decode cX2_mean 35 = .ok (.goto 9, 3) := by decide +kernel
theorem dX2_mean_38 : decode cX2_mean 38 = .ok (.aload_n 0, 1) := by decide +kernel
theorem dX2_mean_39 : decode cX2_mean 39 = .ok (.bipush (-2), 2) := by decide +kernel
theorem dX2_mean_41 : decode cX2_mean 41 = .ok (.invokevirtual 208, 3) := by decide +kernel
theorem dX2_mean_44 : decode cX2_mean 44 = .ok (.lreturn, 1) := by decide +kernel
theorem dX2_isSaidSo_0 : decode cX2_isSaidSo 0 = .ok (.iconst 1, 1) := by decide +kernel
theorem dX2_isSaidSo_1 : decode cX2_isSaidSo 1 = .ok (.istore_n 1, 1) := by decide +kernel
theorem dX2_isSaidSo_2 : decode cX2_isSaidSo 2 = .ok (.iconst 0, 1) := by decide +kernel
theorem dX2_isSaidSo_3 : decode cX2_isSaidSo 3 = .ok (.istore_n 2, 1) := by decide +kernel
theorem dX2_isSaidSo_4 : decode cX2_isSaidSo 4 = .ok (.iload_n 2, 1) := by decide +kernel
theorem dX2_isSaidSo_5 : decode cX2_isSaidSo 5 = .ok (.aload_n 0, 1) := by decide +kernel
theorem dX2_isSaidSo_6 : decode cX2_isSaidSo 6 = .ok (.getfield 216, 3) := by decide +kernel
theorem dX2_isSaidSo_9 : decode cX2_isSaidSo 9 = .ok (.if_icmp .ge 45, 3) := by decide +kernel
theorem dX2_isSaidSo_12 : decode cX2_isSaidSo 12 = .ok (.iload_n 1, 1) := by decide +kernel
theorem dX2_isSaidSo_13 : decode cX2_isSaidSo 13 = .ok (.aload_n 0, 1) := by decide +kernel
theorem dX2_isSaidSo_14 : decode cX2_isSaidSo 14 = .ok (.iload_n 2, 1) := by decide +kernel
theorem dX2_isSaidSo_15 : decode cX2_isSaidSo 15 = .ok (.invokevirtual 147, 3) := by decide +kernel
theorem dX2_isSaidSo_18 : decode cX2_isSaidSo 18 = .ok (.ifCond .eq 27, 3) := by decide +kernel
theorem dX2_isSaidSo_21 : decode cX2_isSaidSo 21 = .ok (.aload_n 0, 1) := by decide +kernel
theorem dX2_isSaidSo_22 : decode cX2_isSaidSo 22 = .ok (.getfield 13, 3) := by decide +kernel
theorem dX2_isSaidSo_25 : decode cX2_isSaidSo 25 = .ok (.iload_n 2, 1) := by decide +kernel
theorem dX2_isSaidSo_26 : decode cX2_isSaidSo 26 = .ok (.invokestatic 91, 3) := by decide +kernel
theorem dX2_isSaidSo_29 : decode cX2_isSaidSo 29 = .ok (.invokestatic 94, 3) := by decide +kernel
theorem dX2_isSaidSo_32 : decode cX2_isSaidSo 32 = .ok (.aload_n 0, 1) := by decide +kernel
theorem dX2_isSaidSo_33 : decode cX2_isSaidSo 33 = .ok (.getfield 25, 3) := by decide +kernel
theorem dX2_isSaidSo_36 : decode cX2_isSaidSo 36 = .ok (.iload_n 2, 1) := by decide +kernel
theorem dX2_isSaidSo_37 : decode cX2_isSaidSo 37 = .ok (.iaload, 1) := by decide +kernel
theorem dX2_isSaidSo_38 : decode cX2_isSaidSo 38 = .ok (.if_icmp .ne 7, 3) := by decide +kernel
theorem dX2_isSaidSo_41 : decode cX2_isSaidSo 41 = .ok (.iconst 1, 1) := by decide +kernel
theorem dX2_isSaidSo_42 : decode cX2_isSaidSo 42 = .ok (.goto 4, 3) := by decide +kernel
theorem dX2_isSaidSo_45 : decode cX2_isSaidSo 45 = .ok (.iconst 0, 1) := by decide +kernel
theorem dX2_isSaidSo_46 : decode cX2_isSaidSo 46 = .ok (.iand, 1) := by decide +kernel
theorem dX2_isSaidSo_47 : decode cX2_isSaidSo 47 = .ok (.istore_n 1, 1) := by decide +kernel
theorem dX2_isSaidSo_48 : decode cX2_isSaidSo 48 = .ok (.iinc 2 1, 3) := by decide +kernel
theorem dX2_isSaidSo_51 : decode cX2_isSaidSo 51 = .ok (.goto (-47), 3) := by decide +kernel
theorem dX2_isSaidSo_54 : decode cX2_isSaidSo 54 = .ok (.iload_n 1, 1) := by decide +kernel
theorem dX2_isSaidSo_55 : decode cX2_isSaidSo 55 = .ok (.ireturn, 1) := by decide +kernel
theorem dX2_whatSaid_0 : decode cX2_whatSaid 0 = .ok (.aload_n 0, 1) := by decide +kernel
theorem dX2_whatSaid_1 : decode cX2_whatSaid 1 = .ok (.iload_n 1, 1) := by decide +kernel
theorem dX2_whatSaid_2 : decode cX2_whatSaid 2 = .ok (.invokevirtual 124, 3) := by decide +kernel
theorem dX2_whatSaid_5 : decode cX2_whatSaid 5 = .ok (.ifCond .ne 9, 3) := by decide +kernel
theorem dX2_whatSaid_8 : decode cX2_whatSaid 8 = .ok (.aload_n 0, 1) := by decide +kernel
theorem dX2_whatSaid_9 : decode cX2_whatSaid 9 = .ok (.iconst (-1), 1) := by decide +kernel
theorem dX2_whatSaid_10 : decode cX2_whatSaid 10 = .ok (.invokevirtual 36, 3) := by decide +kernel
theorem dX2_whatSaid_13 : decode cX2_whatSaid 13 = .ok (.ireturn, 1) := by decide +kernel
theorem dX2_whatSaid_14 : decode cX2_whatSaid 14 = .ok (.iload_n 2, 1) := by decide +kernel
theorem dX2_whatSaid_15 : decode cX2_whatSaid 15 = .ok (.iconst 0, 1) := by decide +kernel
theorem dX2_whatSaid_16 : decode cX2_whatSaid 16 = .ok (.iconst 1, 1) := by decide +kernel
theorem dX2_whatSaid_17 : decode cX2_whatSaid 17 = .ok (.invokestatic 40, 3) := by decide +kernel
theorem dX2_whatSaid_20 : decode cX2_whatSaid 20 = .ok (.ifCond .ne 10, 3) := by decide +kernel
theorem dX2_whatSaid_23 : decode cX2_whatSaid 23 = .ok (.aload_n 0, 1) := by decide +kernel
theorem dX2_whatSaid_24 : decode cX2_whatSaid 24 = .ok (.bipush (-2), 2) := by decide +kernel
theorem dX2_whatSaid_26 : decode cX2_whatSaid 26 = .ok (.invokevirtual 36, 3) := by decide +kernel
theorem dX2_whatSaid_29 : decode cX2_whatSaid 29 = .ok (.ireturn, 1) := by decide +kernel
theorem dX2_whatSaid_30 : decode cX2_whatSaid 30 = .ok (.iconst 0, 1) := by decide +kernel
theorem dX2_whatSaid_31 : decode cX2_whatSaid 31 = .ok (.istore_n 3, 1) := by decide +kernel
theorem dX2_whatSaid_32 : decode cX2_whatSaid 32 = .ok (.iconst 0, 1) := by decide +kernel
theorem dX2_whatSaid_33 : decode cX2_whatSaid 33 = .ok (.istore 4, 2) := by decide +kernel
theorem dX2_whatSaid_35 : decode cX2_whatSaid 35 = .ok (.iload 4, 2) := by decide +kernel
theorem dX2_whatSaid_37 : decode cX2_whatSaid 37 = .ok (.iload_n 2, 1) := by decide +kernel
theorem dX2_whatSaid_38 : decode cX2_whatSaid 38 = .ok (.ifCond .ne 8, 3) := by decide +kernel
theorem dX2_whatSaid_41 : decode cX2_whatSaid 41 = .ok (.bipush 6, 2) := by decide +kernel
theorem dX2_whatSaid_43 : decode cX2_whatSaid 43 = .ok (.goto 5, 3) := by decide +kernel
theorem dX2_whatSaid_46 : decode cX2_whatSaid 46 = .ok (.bipush 6, 2) := by decide +kernel
theorem dX2_whatSaid_48 : decode cX2_whatSaid 48 = .ok (.if_icmp .ge 67, 3) := by decide +kernel
theorem dX2_whatSaid_51 : decode cX2_whatSaid 51 = .ok (.aload_n 0, 1) := by decide +kernel
theorem dX2_whatSaid_52 : decode cX2_whatSaid 52 = .ok (.getfield 9, 3) := by decide +kernel
theorem dX2_whatSaid_55 : decode cX2_whatSaid 55 = .ok (.aload_n 0, 1) := by decide +kernel
theorem dX2_whatSaid_56 : decode cX2_whatSaid 56 = .ok (.getfield 13, 3) := by decide +kernel
theorem dX2_whatSaid_59 : decode cX2_whatSaid 59 = .ok (.invokestatic 134, 3) := by decide +kernel
theorem dX2_whatSaid_62 : decode cX2_whatSaid 62 = .ok (.aload_n 0, 1) := by decide +kernel
theorem dX2_whatSaid_63 : decode cX2_whatSaid 63 = .ok (.getfield 13, 3) := by decide +kernel
theorem dX2_whatSaid_66 : decode cX2_whatSaid 66 = .ok (.iload_n 1, 1) := by decide +kernel
theorem dX2_whatSaid_67 : decode cX2_whatSaid 67 = .ok (.iload_n 2, 1) := by decide +kernel
theorem dX2_whatSaid_68 : decode cX2_whatSaid 68 = .ok (.ifCond .ne 7, 3) := by decide +kernel
theorem dX2_whatSaid_71 : decode cX2_whatSaid 71 = .ok (.iconst 2, 1) := by decide +kernel
theorem dX2_whatSaid_72 : decode cX2_whatSaid 72 = .ok (.goto 4, 3) := by decide +kernel
theorem dX2_whatSaid_75 : decode cX2_whatSaid 75 = .ok (.iconst 0, 1) := by decide +kernel
theorem dX2_whatSaid_76 : decode cX2_whatSaid 76 = .ok (.invokestatic 44, 3) := by decide +kernel
theorem dX2_whatSaid_79 : decode cX2_whatSaid 79 = .ok (.iload 4, 2) := by decide +kernel
theorem dX2_whatSaid_81 : decode cX2_whatSaid 81 = .ok (.iastore, 1) := by decide +kernel
theorem dX2_whatSaid_82 : decode cX2_whatSaid 82 = .ok (.aload_n 0, 1) := by decide +kernel
theorem dX2_whatSaid_83 : decode cX2_whatSaid 83 = .ok (.getfield 13, 3) := by decide +kernel
theorem dX2_whatSaid_86 : decode cX2_whatSaid 86 = .ok (.iload_n 1, 1) := by decide +kernel
theorem dX2_whatSaid_87 : decode cX2_whatSaid 87 = .ok (.iconst (-1), 1) := by decide +kernel
theorem dX2_whatSaid_88 : decode cX2_whatSaid 88 = .ok (.invokestatic 72, 3) := by decide +kernel
theorem dX2_whatSaid_91 : decode cX2_whatSaid 91 = .ok (.iload_n 3, 1) := by decide +kernel
theorem dX2_whatSaid_92 : decode cX2_whatSaid 92 = .ok (.aload_n 0, 1) := by decide +kernel
theorem dX2_whatSaid_93 : decode cX2_whatSaid 93 = .ok (.invokevirtual 219, 3) := by decide +kernel
theorem dX2_whatSaid_96 : decode cX2_whatSaid 96 = .ok (.ifCond .eq 10, 3) := by decide +kernel
theorem dX2_whatSaid_99 : decode cX2_whatSaid 99 = .ok (.iconst 1, 1) := by decide +kernel
theorem dX2_whatSaid_100 : decode cX2_whatSaid 100 = .ok (.iload 4, 2) := by decide +kernel
theorem dX2_whatSaid_102 : decode cX2_whatSaid 102 = .ok (.ishl, 1) := by decide +kernel
theorem dX2_whatSaid_103 : decode cX2_whatSaid 103 = .ok (.goto 4, 3) := by decide +kernel
theorem dX2_whatSaid_106 : decode cX2_whatSaid 106 = .ok (.iconst 0, 1) := by decide +kernel
theorem dX2_whatSaid_107 : decode cX2_whatSaid 107 = .ok (.ior, 1) := by decide +kernel
theorem dX2_whatSaid_108 : decode cX2_whatSaid 108 = .ok (.istore_n 3, 1) := by decide +kernel
theorem dX2_whatSaid_109 : decode cX2_whatSaid 109 = .ok (.iinc 4 1, 3) := by decide +kernel
theorem dX2_whatSaid_112 : decode cX2_whatSaid 112 = .ok (.goto (-77), 3) := by decide +kernel
theorem dX2_whatSaid_115 : decode cX2_whatSaid 115 = .ok (.iload_n 3, 1) := by decide +kernel
theorem dX2_whatSaid_116 : decode cX2_whatSaid 116 = .ok (.ireturn, 1) := by decide +kernel
theorem dX2_row_0 : decode cX2_row 0 = .ok (.iload_n 1, 1) := by decide +kernel
theorem dX2_row_1 : decode cX2_row 1 = .ok (.iconst 0, 1) := by decide +kernel
theorem dX2_row_2 : decode cX2_row 2 = .ok (.bipush 99, 2) := by decide +kernel
theorem dX2_row_4 : decode cX2_row 4 = .ok (.invokestatic 153, 3) := by decide +kernel
theorem dX2_row_7 : decode cX2_row 7 = .ok (.istore_n 2, 1) := by decide +kernel
theorem dX2_row_8 : decode cX2_row 8 = .ok (.iload_n 2, 1) := by decide +kernel
theorem dX2_row_9 : decode cX2_row 9 = .ok (.ifCond .ne 15, 3) := by decide +kernel
theorem dX2_row_12 : decode cX2_row 12 = .ok (.aload_n 0, 1) := by decide +kernel
theorem dX2_row_13 : decode cX2_row 13 = .ok (.getfield 216, 3) := by decide +kernel
theorem dX2_row_16 : decode cX2_row 16 = .ok (.bipush 16, 2) := by decide +kernel
theorem dX2_row_18 : decode cX2_row 18 = .ok (.if_icmp .ne 6, 3) := by decide +kernel
theorem dX2_row_21 : decode cX2_row 21 = .ok (.bipush (-6), 2) := by decide +kernel
theorem dX2_row_23 : decode cX2_row 23 = .ok (.istore_n 2, 1) := by decide +kernel
theorem dX2_row_24 : decode cX2_row 24 = .ok (.iload_n 2, 1) := by decide +kernel
theorem dX2_row_25 : decode cX2_row 25 = .ok (.ifCond .eq 9, 3) := by decide +kernel
theorem dX2_row_28 : decode cX2_row 28 = .ok (.aload_n 0, 1) := by decide +kernel
theorem dX2_row_29 : decode cX2_row 29 = .ok (.iload_n 2, 1) := by decide +kernel
theorem dX2_row_30 : decode cX2_row 30 = .ok (.invokevirtual 36, 3) := by decide +kernel
theorem dX2_row_33 : decode cX2_row 33 = .ok (.ireturn, 1) := by decide +kernel
theorem dX2_row_34 : decode cX2_row 34 = .ok (.aload_n 0, 1) := by decide +kernel
theorem dX2_row_35 : decode cX2_row 35 = .ok (.getfield 25, 3) := by decide +kernel
theorem dX2_row_38 : decode cX2_row 38 = .ok (.aload_n 0, 1) := by decide +kernel
theorem dX2_row_39 : decode cX2_row 39 = .ok (.getfield 216, 3) := by decide +kernel
theorem dX2_row_42 : decode cX2_row 42 = .ok (.iload_n 1, 1) := by decide +kernel
theorem dX2_row_43 : decode cX2_row 43 = .ok (.iastore, 1) := by decide +kernel
theorem dX2_row_44 : decode cX2_row 44 = .ok (.aload_n 0, 1) := by decide +kernel
theorem dX2_row_45 : decode cX2_row 45 = .ok (.dup, 1) := by decide +kernel
theorem dX2_row_46 : decode cX2_row 46 = .ok (.getfield 216, 3) := by decide +kernel
theorem dX2_row_49 : decode cX2_row 49 = .ok (.iconst 1, 1) := by decide +kernel
theorem dX2_row_50 : decode cX2_row 50 = .ok (.iadd, 1) := by decide +kernel
theorem dX2_row_51 : decode cX2_row 51 = .ok (.putfield 216, 3) := by decide +kernel
theorem dX2_row_54 : decode cX2_row 54 = .ok (.aload_n 0, 1) := by decide +kernel
theorem dX2_row_55 : decode cX2_row 55 = .ok (.getfield 216, 3) := by decide +kernel
theorem dX2_row_58 : decode cX2_row 58 = .ok (.ireturn, 1) := by decide +kernel
theorem dX2_judge_0 : decode cX2_judge 0 = .ok (.aload_n 0, 1) := by decide +kernel
theorem dX2_judge_1 : decode cX2_judge 1 = .ok (.getfield 216, 3) := by decide +kernel
theorem dX2_judge_4 : decode cX2_judge 4 = .ok (.istore_n 1, 1) := by decide +kernel
theorem dX2_judge_5 : decode cX2_judge 5 = .ok (.aload_n 0, 1) := by decide +kernel
theorem dX2_judge_6 : decode cX2_judge 6 = .ok (.iconst 0, 1) := by decide +kernel
theorem dX2_judge_7 : decode cX2_judge 7 = .ok (.putfield 216, 3) := by decide +kernel
theorem dX2_judge_10 : decode cX2_judge 10 = .ok (.aload_n 0, 1) := by decide +kernel
theorem dX2_judge_11 : decode cX2_judge 11 = .ok (.getfield 9, 3) := by decide +kernel
theorem dX2_judge_14 : decode cX2_judge 14 = .ok (.aload_n 0, 1) := by decide +kernel
theorem dX2_judge_15 : decode cX2_judge 15 = .ok (.getfield 13, 3) := by decide +kernel
theorem dX2_judge_18 : decode cX2_judge 18 = .ok (.invokestatic 134, 3) := by decide +kernel
theorem dX2_judge_21 : decode cX2_judge 21 = .ok (.iconst 0, 1) := by decide +kernel
theorem dX2_judge_22 : decode cX2_judge 22 = .ok (.istore_n 2, 1) := by decide +kernel
theorem dX2_judge_23 : decode cX2_judge 23 = .ok (.iload_n 2, 1) := by decide +kernel
theorem dX2_judge_24 : decode cX2_judge 24 = .ok (.iload_n 1, 1) := by decide +kernel
theorem dX2_judge_25 : decode cX2_judge 25 = .ok (.if_icmp .ge 50, 3) := by decide +kernel
theorem dX2_judge_28 : decode cX2_judge 28 = .ok (.aload_n 0, 1) := by decide +kernel
theorem dX2_judge_29 : decode cX2_judge 29 = .ok (.getfield 13, 3) := by decide +kernel
theorem dX2_judge_32 : decode cX2_judge 32 = .ok (.iconst 3, 1) := by decide +kernel
theorem dX2_judge_33 : decode cX2_judge 33 = .ok (.iaload, 1) := by decide +kernel
theorem dX2_judge_34 : decode cX2_judge 34 = .ok (.bipush 99, 2) := by decide +kernel
theorem dX2_judge_36 : decode cX2_judge 36 = .ok (.if_icmp .le 8, 3) := by decide +kernel
theorem dX2_judge_39 : decode cX2_judge 39 = .ok (.bipush 99, 2) := by decide +kernel
theorem dX2_judge_41 : decode cX2_judge 41 = .ok (.goto 9, 3) := by decide +kernel
theorem dX2_judge_44 : decode cX2_judge 44 = .ok (.aload_n 0, 1) := by decide +kernel
theorem dX2_judge_45 : decode cX2_judge 45 = .ok (.getfield 13, 3) := by decide +kernel
theorem dX2_judge_48 : decode cX2_judge 48 = .ok (.iconst 3, 1) := by decide +kernel
theorem dX2_judge_49 : decode cX2_judge 49 = .ok (.iaload, 1) := by decide +kernel
theorem dX2_judge_50 : decode cX2_judge 50 = .ok (.aload_n 0, 1) := by decide +kernel
theorem dX2_judge_51 : decode cX2_judge 51 = .ok (.getfield 25, 3) := by decide +kernel
theorem dX2_judge_54 : decode cX2_judge 54 = .ok (.iload_n 2, 1) := by decide +kernel
theorem dX2_judge_55 : decode cX2_judge 55 = .ok (.iaload, 1) := by decide +kernel
theorem dX2_judge_56 : decode cX2_judge 56 = .ok (.if_icmp .eq 5, 3) := by decide +kernel
theorem dX2_judge_59 : decode cX2_judge 59 = .ok (.iload_n 2, 1) := by decide +kernel
theorem dX2_judge_60 : decode cX2_judge 60 = .ok (.ireturn, 1) := by decide +kernel
theorem dX2_judge_61 : decode cX2_judge 61 = .ok (.aload_n 0, 1) := by decide +kernel
theorem dX2_judge_62 : decode cX2_judge 62 = .ok (.getfield 13, 3) := by decide +kernel
theorem dX2_judge_65 : decode cX2_judge 65 = .ok (.iconst (-1), 1) := by decide +kernel
theorem dX2_judge_66 : decode cX2_judge 66 = .ok (.invokestatic 87, 3) := by decide +kernel
theorem dX2_judge_69 : decode cX2_judge 69 = .ok (.iinc 2 1, 3) := by decide +kernel
theorem dX2_judge_72 : decode cX2_judge 72 = .ok (.goto (-49), 3) := by decide +kernel
theorem dX2_judge_75 : decode cX2_judge 75 = .ok (.bipush (-9), 2) := by decide +kernel
theorem dX2_judge_77 : decode cX2_judge 77 = .ok (.ireturn, 1) := by decide +kernel
theorem dX2_clear_0 : decode cX2_clear 0 = .ok (.aload_n 0, 1) := by decide +kernel
theorem dX2_clear_1 : decode cX2_clear 1 = .ok (.getfield 216, 3) := by decide +kernel
theorem dX2_clear_4 : decode cX2_clear 4 = .ok (.istore_n 1, 1) := by decide +kernel
theorem dX2_clear_5 : decode cX2_clear 5 = .ok (.aload_n 0, 1) := by decide +kernel
theorem dX2_clear_6 : decode cX2_clear 6 = .ok (.iconst 0, 1) := by decide +kernel
theorem dX2_clear_7 : decode cX2_clear 7 = .ok (.putfield 216, 3) := by decide +kernel
theorem dX2_clear_10 : decode cX2_clear 10 = .ok (.iload_n 1, 1) := by decide +kernel
theorem dX2_clear_11 : decode cX2_clear 11 = .ok (.ireturn, 1) := by decide +kernel
theorem dX2_drawn_0 : decode cX2_drawn 0 = .ok (.aload_n 0, 1) := by decide +kernel
theorem dX2_drawn_1 : decode cX2_drawn 1 = .ok (.aload_n 0, 1) := by decide +kernel
theorem dX2_drawn_2 : decode cX2_drawn 2 = .ok (.getfield 222, 3) := by decide +kernel
theorem dX2_drawn_5 : decode cX2_drawn 5 = .ok (.ldc 225, 2) := by decide +kernel
theorem dX2_drawn_7 : decode cX2_drawn 7 = .ok (.imul, 1) := by decide +kernel
theorem dX2_drawn_8 : decode cX2_drawn 8 = .ok (.ldc 226, 2) := by decide +kernel
theorem dX2_drawn_10 : decode cX2_drawn 10 = .ok (.iadd, 1) := by decide +kernel
theorem dX2_drawn_11 : decode cX2_drawn 11 = .ok (.putfield 222, 3) := by decide +kernel
theorem dX2_drawn_14 : decode cX2_drawn 14 = .ok (.aload_n 0, 1) := by decide +kernel
theorem dX2_drawn_15 : decode cX2_drawn 15 = .ok (.getfield 222, 3) := by decide +kernel
theorem dX2_drawn_18 : decode cX2_drawn 18 = .ok (.ldc 227, 2) := by decide +kernel
theorem dX2_drawn_20 : decode cX2_drawn 20 = .ok (.iand, 1) := by decide +kernel
theorem dX2_drawn_21 : decode cX2_drawn 21 = .ok (.sipush 256, 3) := by decide +kernel
theorem dX2_drawn_24 : decode cX2_drawn 24 = .ok (.idiv, 1) := by decide +kernel
theorem dX2_drawn_25 : decode cX2_drawn 25 = .ok (.iload_n 1, 1) := by decide +kernel
theorem dX2_drawn_26 : decode cX2_drawn 26 = .ok (.irem, 1) := by decide +kernel
theorem dX2_drawn_27 : decode cX2_drawn 27 = .ok (.ireturn, 1) := by decide +kernel
theorem dX2_lots_0 : decode cX2_lots 0 = .ok (.iload_n 1, 1) := by decide +kernel
theorem dX2_lots_1 : decode cX2_lots 1 = .ok (.iconst 1, 1) := by decide +kernel
theorem dX2_lots_2 : decode cX2_lots 2 = .ok (.if_icmp .ge 10, 3) := by decide +kernel
theorem dX2_lots_5 : decode cX2_lots 5 = .ok (.aload_n 0, 1) := by decide +kernel
theorem dX2_lots_6 : decode cX2_lots 6 = .ok (.bipush (-4), 2) := by decide +kernel
theorem dX2_lots_8 : decode cX2_lots 8 = .ok (.invokevirtual 36, 3) := by decide +kernel
theorem dX2_lots_11 : decode cX2_lots 11 = .ok (.ireturn, 1) := by decide +kernel
theorem dX2_lots_12 : decode cX2_lots 12 = .ok (.iload_n 1, 1) := by decide +kernel
theorem dX2_lots_13 : decode cX2_lots 13 = .ok (.bipush 20, 2) := by decide +kernel
theorem dX2_lots_15 : decode cX2_lots 15 = .ok (.if_icmp .le 10, 3) := by decide +kernel
theorem dX2_lots_18 : decode cX2_lots 18 = .ok (.aload_n 0, 1) := by decide +kernel
theorem dX2_lots_19 : decode cX2_lots 19 = .ok (.bipush (-6), 2) := by decide +kernel
theorem dX2_lots_21 : decode cX2_lots 21 = .ok (.invokevirtual 36, 3) := by decide +kernel
theorem dX2_lots_24 : decode cX2_lots 24 = .ok (.ireturn, 1) := by decide +kernel
theorem dX2_lots_25 : decode cX2_lots 25 = .ok (.iload_n 3, 1) := by decide +kernel
theorem dX2_lots_26 : decode cX2_lots 26 = .ok (.iconst 0, 1) := by decide +kernel
theorem dX2_lots_27 : decode cX2_lots 27 = .ok (.iconst 1, 1) := by decide +kernel
theorem dX2_lots_28 : decode cX2_lots 28 = .ok (.invokestatic 40, 3) := by decide +kernel
theorem dX2_lots_31 : decode cX2_lots 31 = .ok (.ifCond .ne 10, 3) := by decide +kernel
theorem dX2_lots_34 : decode cX2_lots 34 = .ok (.aload_n 0, 1) := by decide +kernel
theorem dX2_lots_35 : decode cX2_lots 35 = .ok (.bipush (-2), 2) := by decide +kernel
theorem dX2_lots_37 : decode cX2_lots 37 = .ok (.invokevirtual 36, 3) := by decide +kernel
theorem dX2_lots_40 : decode cX2_lots 40 = .ok (.ireturn, 1) := by decide +kernel
theorem dX2_lots_41 : decode cX2_lots 41 = .ok (.aload_n 0, 1) := by decide +kernel
theorem dX2_lots_42 : decode cX2_lots 42 = .ok (.iload_n 2, 1) := by decide +kernel
theorem dX2_lots_43 : decode cX2_lots 43 = .ok (.putfield 222, 3) := by decide +kernel
theorem dX2_lots_46 : decode cX2_lots 46 = .ok (.iconst 0, 1) := by decide +kernel
theorem dX2_lots_47 : decode cX2_lots 47 = .ok (.istore 4, 2) := by decide +kernel
theorem dX2_lots_49 : decode cX2_lots 49 = .ok (.iconst 0, 1) := by decide +kernel
theorem dX2_lots_50 : decode cX2_lots 50 = .ok (.istore 5, 2) := by decide +kernel
theorem dX2_lots_52 : decode cX2_lots 52 = .ok (.iload 5, 2) := by decide +kernel
theorem dX2_lots_54 : decode cX2_lots 54 = .ok (.iload_n 1, 1) := by decide +kernel
theorem dX2_lots_55 : decode cX2_lots 55 = .ok (.if_icmp .ge 82, 3) := by decide +kernel
theorem dX2_lots_58 : decode cX2_lots 58 = .ok (.aload_n 0, 1) := by decide +kernel
theorem dX2_lots_59 : decode cX2_lots 59 = .ok (.getfield 9, 3) := by decide +kernel
theorem dX2_lots_62 : decode cX2_lots 62 = .ok (.aload_n 0, 1) := by decide +kernel
theorem dX2_lots_63 : decode cX2_lots 63 = .ok (.getfield 13, 3) := by decide +kernel
theorem dX2_lots_66 : decode cX2_lots 66 = .ok (.invokestatic 134, 3) := by decide +kernel
theorem dX2_lots_69 : decode cX2_lots 69 = .ok (.iconst 0, 1) := by decide +kernel
theorem dX2_lots_70 : decode cX2_lots 70 = .ok (.istore 6, 2) := by decide +kernel
theorem dX2_lots_72 : decode cX2_lots 72 = .ok (.iload 6, 2) := by decide +kernel
theorem dX2_lots_74 : decode cX2_lots 74 = .ok (.bipush 8, 2) := by decide +kernel
theorem dX2_lots_76 : decode cX2_lots 76 = .ok (.if_icmp .ge 29, 3) := by decide +kernel
theorem dX2_lots_79 : decode cX2_lots 79 = .ok (.aload_n 0, 1) := by decide +kernel
theorem dX2_lots_80 : decode cX2_lots 80 = .ok (.getfield 13, 3) := by decide +kernel
theorem dX2_lots_83 : decode cX2_lots 83 = .ok (.iconst 4, 1) := by decide +kernel
theorem dX2_lots_84 : decode cX2_lots 84 = .ok (.aload_n 0, 1) := by decide +kernel
theorem dX2_lots_85 : decode cX2_lots 85 = .ok (.bipush 10, 2) := by decide +kernel
theorem dX2_lots_87 : decode cX2_lots 87 = .ok (.invokevirtual 228, 3) := by decide +kernel
theorem dX2_lots_90 : decode cX2_lots 90 = .ok (.iastore, 1) := by decide +kernel
theorem dX2_lots_91 : decode cX2_lots 91 = .ok (.aload_n 0, 1) := by decide +kernel
theorem dX2_lots_92 : decode cX2_lots 92 = .ok (.getfield 13, 3) := by decide +kernel
theorem dX2_lots_95 : decode cX2_lots 95 = .ok (.iconst (-1), 1) := by decide +kernel
theorem dX2_lots_96 : decode cX2_lots 96 = .ok (.invokestatic 87, 3) := by decide +kernel
theorem dX2_lots_99 : decode cX2_lots 99 = .ok (.iinc 6 1, 3) := by decide +kernel
theorem dX2_lots_102 : decode cX2_lots 102 = .ok (.goto (-30), 3) := by decide +kernel
theorem dX2_lots_105 : decode cX2_lots 105 = .ok (.iload 4, 2) := by decide +kernel
theorem dX2_lots_107 : decode cX2_lots 107 = .ok (.iload_n 3, 1) := by decide +kernel
theorem dX2_lots_108 : decode cX2_lots 108 = .ok (.ifCond .ne 13, 3) := by decide +kernel
theorem dX2_lots_111 : decode cX2_lots 111 = .ok (.aload_n 0, 1) := by decide +kernel
theorem dX2_lots_112 : decode cX2_lots 112 = .ok (.getfield 13, 3) := by decide +kernel
theorem dX2_lots_115 : decode cX2_lots 115 = .ok (.invokestatic 180, 3) := by decide +kernel
theorem dX2_lots_118 : decode cX2_lots 118 = .ok (.goto 10, 3) := by decide +kernel
theorem dX2_lots_121 : decode cX2_lots 121 = .ok (.aload_n 0, 1) := by decide +kernel
theorem dX2_lots_122 : decode cX2_lots 122 = .ok (.getfield 13, 3) := by decide +kernel
theorem dX2_lots_125 : decode cX2_lots 125 = .ok (.invokestatic 183, 3) := by decide +kernel
theorem dX2_lots_128 : decode cX2_lots 128 = .ok (.iadd, 1) := by decide +kernel
theorem dX2_lots_129 : decode cX2_lots 129 = .ok (.istore 4, 2) := by decide +kernel
theorem dX2_lots_131 : decode cX2_lots 131 = .ok (.iinc 5 1, 3) := by decide +kernel
theorem dX2_lots_134 : decode cX2_lots 134 = .ok (.goto (-82), 3) := by decide +kernel
theorem dX2_lots_137 : decode cX2_lots 137 = .ok (.iload 4, 2) := by decide +kernel
theorem dX2_lots_139 : decode cX2_lots 139 = .ok (.ireturn, 1) := by decide +kernel
theorem dX2_image_0 : decode cX2_image 0 = .ok (.aload_n 0, 1) := by decide +kernel
theorem dX2_image_1 : decode cX2_image 1 = .ok (.getfield 9, 3) := by decide +kernel
theorem dX2_image_4 : decode cX2_image 4 = .ok (.aload_n 0, 1) := by decide +kernel
theorem dX2_image_5 : decode cX2_image 5 = .ok (.getfield 16, 3) := by decide +kernel
theorem dX2_image_8 : decode cX2_image 8 = .ok (.invokestatic 134, 3) := by decide +kernel
theorem dX2_image_11 : decode cX2_image 11 = .ok (.aload_n 0, 1) := by decide +kernel
theorem dX2_image_12 : decode cX2_image 12 = .ok (.iconst 1, 1) := by decide +kernel
theorem dX2_image_13 : decode cX2_image 13 = .ok (.putfield 231, 3) := by decide +kernel
theorem dX2_image_16 : decode cX2_image 16 = .ok (.aload_n 0, 1) := by decide +kernel
theorem dX2_image_17 : decode cX2_image 17 = .ok (.getfield 9, 3) := by decide +kernel
theorem dX2_image_20 : decode cX2_image 20 = .ok (.iconst 2, 1) := by decide +kernel
theorem dX2_image_21 : decode cX2_image 21 = .ok (.iaload, 1) := by decide +kernel
theorem dX2_image_22 : decode cX2_image 22 = .ok (.ireturn, 1) := by decide +kernel
theorem dX2_on_0 : decode cX2_on 0 = .ok (.aload_n 0, 1) := by decide +kernel
theorem dX2_on_1 : decode cX2_on 1 = .ok (.getfield 231, 3) := by decide +kernel
theorem dX2_on_4 : decode cX2_on 4 = .ok (.ifCond .ne 10, 3) := by decide +kernel
theorem dX2_on_7 : decode cX2_on 7 = .ok (.aload_n 0, 1) := by decide +kernel
theorem dX2_on_8 : decode cX2_on 8 = .ok (.bipush (-3), 2) := by decide +kernel
theorem dX2_on_10 : decode cX2_on 10 = .ok (.invokevirtual 36, 3) := by decide +kernel
theorem dX2_on_13 : decode cX2_on 13 = .ok (.ireturn, 1) := by decide +kernel
theorem dX2_on_14 : decode cX2_on 14 = .ok (.aload_n 0, 1) := by decide +kernel
theorem dX2_on_15 : decode cX2_on 15 = .ok (.getfield 16, 3) := by decide +kernel
theorem dX2_on_18 : decode cX2_on 18 = .ok (.aload_n 0, 1) := by decide +kernel
theorem dX2_on_19 : decode cX2_on 19 = .ok (.getfield 9, 3) := by decide +kernel
theorem dX2_on_22 : decode cX2_on 22 = .ok (.invokestatic 134, 3) := by decide +kernel
theorem dX2_on_25 : decode cX2_on 25 = .ok (.aload_n 0, 1) := by decide +kernel
theorem dX2_on_26 : decode cX2_on 26 = .ok (.getfield 9, 3) := by decide +kernel
theorem dX2_on_29 : decode cX2_on 29 = .ok (.iconst 2, 1) := by decide +kernel
theorem dX2_on_30 : decode cX2_on 30 = .ok (.iaload, 1) := by decide +kernel
theorem dX2_on_31 : decode cX2_on 31 = .ok (.ireturn, 1) := by decide +kernel
theorem dX2_count_0 : decode cX2_count 0 = .ok (.iload_n 1, 1) := by decide +kernel
theorem dX2_count_1 : decode cX2_count 1 = .ok (.bipush 11, 2) := by decide +kernel
theorem dX2_count_3 : decode cX2_count 3 = .ok (.bipush 16, 2) := by decide +kernel
theorem dX2_count_5 : decode cX2_count 5 = .ok (.invokestatic 40, 3) := by decide +kernel
theorem dX2_count_8 : decode cX2_count 8 = .ok (.ifCond .eq 13, 3) := by decide +kernel
theorem dX2_count_11 : decode cX2_count 11 = .ok (.aload_n 0, 1) := by decide +kernel
theorem dX2_count_12 : decode cX2_count 12 = .ok (.getfield 28, 3) := by decide +kernel
theorem dX2_count_15 : decode cX2_count 15 = .ok (.iload_n 1, 1) := by decide +kernel
theorem dX2_count_16 : decode cX2_count 16 = .ok (.bipush 10, 2) := by decide +kernel
theorem dX2_count_18 : decode cX2_count 18 = .ok (.isub, 1) := by decide +kernel
theorem dX2_count_19 : decode cX2_count 19 = .ok (.iaload, 1) := by decide +kernel
theorem dX2_count_20 : decode cX2_count 20 = .ok (.ireturn, 1) := by decide +kernel
theorem dX2_count_21 : decode cX2_count 21 = .ok (.iload_n 1, 1) := by decide +kernel
theorem dX2_count_22 : decode cX2_count 22 = .ok (.tableswitch 79 0 7 #[46, 46, 46, 46, 53, 61, 69, 74], 46) := by decide +kernel
theorem dX2_count_68 : decode cX2_count 68 = .ok (.aload_n 0, 1) := by decide +kernel
theorem dX2_count_69 : decode cX2_count 69 = .ok (.getfield 9, 3) := by decide +kernel
theorem dX2_count_72 : decode cX2_count 72 = .ok (.iload_n 1, 1) := by decide +kernel
theorem dX2_count_73 : decode cX2_count 73 = .ok (.iaload, 1) := by decide +kernel
theorem dX2_count_74 : decode cX2_count 74 = .ok (.ireturn, 1) := by decide +kernel
theorem dX2_count_75 : decode cX2_count 75 = .ok (.aload_n 0, 1) := by decide +kernel
theorem dX2_count_76 : decode cX2_count 76 = .ok (.getfield 9, 3) := by decide +kernel
theorem dX2_count_79 : decode cX2_count 79 = .ok (.invokestatic 150, 3) := by decide +kernel
theorem dX2_count_82 : decode cX2_count 82 = .ok (.ireturn, 1) := by decide +kernel
theorem dX2_count_83 : decode cX2_count 83 = .ok (.aload_n 0, 1) := by decide +kernel
theorem dX2_count_84 : decode cX2_count 84 = .ok (.getfield 9, 3) := by decide +kernel
theorem dX2_count_87 : decode cX2_count 87 = .ok (.invokestatic 183, 3) := by decide +kernel
theorem dX2_count_90 : decode cX2_count 90 = .ok (.ireturn, 1) := by decide +kernel
theorem dX2_count_91 : decode cX2_count 91 = .ok (.aload_n 0, 1) := by decide +kernel
theorem dX2_count_92 : decode cX2_count 92 = .ok (.getfield 216, 3) := by decide +kernel
theorem dX2_count_95 : decode cX2_count 95 = .ok (.ireturn, 1) := by decide +kernel
theorem dX2_count_96 : decode cX2_count 96 = .ok (.aload_n 0, 1) := by decide +kernel
theorem dX2_count_97 : decode cX2_count 97 = .ok (.getfield 97, 3) := by decide +kernel
theorem dX2_count_100 : decode cX2_count 100 = .ok (.ireturn, 1) := by decide +kernel
theorem dX2_count_101 : decode cX2_count 101 = .ok (.bipush (-9), 2) := by decide +kernel
theorem dX2_count_103 : decode cX2_count 103 = .ok (.ireturn, 1) := by decide +kernel
theorem dJ11_isValidCodePoint_9a6ad_0 : decode cJ11_isValidCodePoint_9a6ad 0 = .ok (.iload_n 0, 1) := by decide +kernel
theorem dJ11_isValidCodePoint_9a6ad_1 : decode cJ11_isValidCodePoint_9a6ad 1 = .ok (.bipush 16, 2) := by decide +kernel
theorem dJ11_isValidCodePoint_9a6ad_3 : decode cJ11_isValidCodePoint_9a6ad 3 = .ok (.iushr, 1) := by decide +kernel
theorem dJ11_isValidCodePoint_9a6ad_4 : decode cJ11_isValidCodePoint_9a6ad 4 = .ok (.istore_n 1, 1) := by decide +kernel
theorem dJ11_isValidCodePoint_9a6ad_5 : decode cJ11_isValidCodePoint_9a6ad 5 = .ok (.iload_n 1, 1) := by decide +kernel
theorem dJ11_isValidCodePoint_9a6ad_6 : decode cJ11_isValidCodePoint_9a6ad 6 = .ok (.bipush 17, 2) := by decide +kernel
theorem dJ11_isValidCodePoint_9a6ad_8 : decode cJ11_isValidCodePoint_9a6ad 8 = .ok (.if_icmp .ge 7, 3) := by decide +kernel
theorem dJ11_isValidCodePoint_9a6ad_11 : decode cJ11_isValidCodePoint_9a6ad 11 = .ok (.iconst 1, 1) := by decide +kernel
theorem dJ11_isValidCodePoint_9a6ad_12 : decode cJ11_isValidCodePoint_9a6ad 12 = .ok (.goto 4, 3) := by decide +kernel
theorem dJ11_isValidCodePoint_9a6ad_15 : decode cJ11_isValidCodePoint_9a6ad 15 = .ok (.iconst 0, 1) := by decide +kernel
theorem dJ11_isValidCodePoint_9a6ad_16 : decode cJ11_isValidCodePoint_9a6ad 16 = .ok (.ireturn, 1) := by decide +kernel
theorem dJ11_highSurrogate_5068e_0 : decode cJ11_highSurrogate_5068e 0 = .ok (.iload_n 0, 1) := by decide +kernel
theorem dJ11_highSurrogate_5068e_1 : decode cJ11_highSurrogate_5068e 1 = .ok (.bipush 10, 2) := by decide +kernel
theorem dJ11_highSurrogate_5068e_3 : decode cJ11_highSurrogate_5068e 3 = .ok (.iushr, 1) := by decide +kernel
theorem dJ11_highSurrogate_5068e_4 : decode cJ11_highSurrogate_5068e 4 = .ok (.ldc 110, 2) := by decide +kernel
theorem dJ11_highSurrogate_5068e_6 : decode cJ11_highSurrogate_5068e 6 = .ok (.iadd, 1) := by decide +kernel
theorem dJ11_highSurrogate_5068e_7 : decode cJ11_highSurrogate_5068e 7 = .ok (.i2c, 1) := by decide +kernel
theorem dJ11_highSurrogate_5068e_8 : decode cJ11_highSurrogate_5068e 8 = .ok (.ireturn, 1) := by decide +kernel
theorem dJ11_lowSurrogate_5068e_0 : decode cJ11_lowSurrogate_5068e 0 = .ok (.iload_n 0, 1) := by decide +kernel
theorem dJ11_lowSurrogate_5068e_1 : decode cJ11_lowSurrogate_5068e 1 = .ok (.sipush 1023, 3) := by decide +kernel
theorem dJ11_lowSurrogate_5068e_4 : decode cJ11_lowSurrogate_5068e 4 = .ok (.iand, 1) := by decide +kernel
theorem dJ11_lowSurrogate_5068e_5 : decode cJ11_lowSurrogate_5068e 5 = .ok (.ldc 76, 2) := by decide +kernel
theorem dJ11_lowSurrogate_5068e_7 : decode cJ11_lowSurrogate_5068e 7 = .ok (.iadd, 1) := by decide +kernel
theorem dJ11_lowSurrogate_5068e_8 : decode cJ11_lowSurrogate_5068e 8 = .ok (.i2c, 1) := by decide +kernel
theorem dJ11_lowSurrogate_5068e_9 : decode cJ11_lowSurrogate_5068e 9 = .ok (.ireturn, 1) := by decide +kernel
theorem dJ6_bitCount_0f7a4_0 : decode cJ6_bitCount_0f7a4 0 = .ok (.iload_n 0, 1) := by decide +kernel
theorem dJ6_bitCount_0f7a4_1 : decode cJ6_bitCount_0f7a4 1 = .ok (.iload_n 0, 1) := by decide +kernel
theorem dJ6_bitCount_0f7a4_2 : decode cJ6_bitCount_0f7a4 2 = .ok (.iconst 1, 1) := by decide +kernel
theorem dJ6_bitCount_0f7a4_3 : decode cJ6_bitCount_0f7a4 3 = .ok (.iushr, 1) := by decide +kernel
theorem dJ6_bitCount_0f7a4_4 : decode cJ6_bitCount_0f7a4 4 = .ok (.ldc_w 265, 3) := by decide +kernel
theorem dJ6_bitCount_0f7a4_7 : decode cJ6_bitCount_0f7a4 7 = .ok (.iand, 1) := by decide +kernel
theorem dJ6_bitCount_0f7a4_8 : decode cJ6_bitCount_0f7a4 8 = .ok (.isub, 1) := by decide +kernel
theorem dJ6_bitCount_0f7a4_9 : decode cJ6_bitCount_0f7a4 9 = .ok (.istore_n 0, 1) := by decide +kernel
theorem dJ6_bitCount_0f7a4_10 : decode cJ6_bitCount_0f7a4 10 = .ok (.iload_n 0, 1) := by decide +kernel
theorem dJ6_bitCount_0f7a4_11 : decode cJ6_bitCount_0f7a4 11 = .ok (.ldc_w 266, 3) := by decide +kernel
theorem dJ6_bitCount_0f7a4_14 : decode cJ6_bitCount_0f7a4 14 = .ok (.iand, 1) := by decide +kernel
theorem dJ6_bitCount_0f7a4_15 : decode cJ6_bitCount_0f7a4 15 = .ok (.iload_n 0, 1) := by decide +kernel
theorem dJ6_bitCount_0f7a4_16 : decode cJ6_bitCount_0f7a4 16 = .ok (.iconst 2, 1) := by decide +kernel
theorem dJ6_bitCount_0f7a4_17 : decode cJ6_bitCount_0f7a4 17 = .ok (.iushr, 1) := by decide +kernel
theorem dJ6_bitCount_0f7a4_18 : decode cJ6_bitCount_0f7a4 18 = .ok (.ldc_w 266, 3) := by decide +kernel
theorem dJ6_bitCount_0f7a4_21 : decode cJ6_bitCount_0f7a4 21 = .ok (.iand, 1) := by decide +kernel
theorem dJ6_bitCount_0f7a4_22 : decode cJ6_bitCount_0f7a4 22 = .ok (.iadd, 1) := by decide +kernel
theorem dJ6_bitCount_0f7a4_23 : decode cJ6_bitCount_0f7a4 23 = .ok (.istore_n 0, 1) := by decide +kernel
theorem dJ6_bitCount_0f7a4_24 : decode cJ6_bitCount_0f7a4 24 = .ok (.iload_n 0, 1) := by decide +kernel
theorem dJ6_bitCount_0f7a4_25 : decode cJ6_bitCount_0f7a4 25 = .ok (.iload_n 0, 1) := by decide +kernel
theorem dJ6_bitCount_0f7a4_26 : decode cJ6_bitCount_0f7a4 26 = .ok (.iconst 4, 1) := by decide +kernel
theorem dJ6_bitCount_0f7a4_27 : decode cJ6_bitCount_0f7a4 27 = .ok (.iushr, 1) := by decide +kernel
theorem dJ6_bitCount_0f7a4_28 : decode cJ6_bitCount_0f7a4 28 = .ok (.iadd, 1) := by decide +kernel
theorem dJ6_bitCount_0f7a4_29 : decode cJ6_bitCount_0f7a4 29 = .ok (.ldc_w 267, 3) := by decide +kernel
theorem dJ6_bitCount_0f7a4_32 : decode cJ6_bitCount_0f7a4 32 = .ok (.iand, 1) := by decide +kernel
theorem dJ6_bitCount_0f7a4_33 : decode cJ6_bitCount_0f7a4 33 = .ok (.istore_n 0, 1) := by decide +kernel
theorem dJ6_bitCount_0f7a4_34 : decode cJ6_bitCount_0f7a4 34 = .ok (.iload_n 0, 1) := by decide +kernel
theorem dJ6_bitCount_0f7a4_35 : decode cJ6_bitCount_0f7a4 35 = .ok (.iload_n 0, 1) := by decide +kernel
theorem dJ6_bitCount_0f7a4_36 : decode cJ6_bitCount_0f7a4 36 = .ok (.bipush 8, 2) := by decide +kernel
theorem dJ6_bitCount_0f7a4_38 : decode cJ6_bitCount_0f7a4 38 = .ok (.iushr, 1) := by decide +kernel
theorem dJ6_bitCount_0f7a4_39 : decode cJ6_bitCount_0f7a4 39 = .ok (.iadd, 1) := by decide +kernel
theorem dJ6_bitCount_0f7a4_40 : decode cJ6_bitCount_0f7a4 40 = .ok (.istore_n 0, 1) := by decide +kernel
theorem dJ6_bitCount_0f7a4_41 : decode cJ6_bitCount_0f7a4 41 = .ok (.iload_n 0, 1) := by decide +kernel
theorem dJ6_bitCount_0f7a4_42 : decode cJ6_bitCount_0f7a4 42 = .ok (.iload_n 0, 1) := by decide +kernel
theorem dJ6_bitCount_0f7a4_43 : decode cJ6_bitCount_0f7a4 43 = .ok (.bipush 16, 2) := by decide +kernel
theorem dJ6_bitCount_0f7a4_45 : decode cJ6_bitCount_0f7a4 45 = .ok (.iushr, 1) := by decide +kernel
theorem dJ6_bitCount_0f7a4_46 : decode cJ6_bitCount_0f7a4 46 = .ok (.iadd, 1) := by decide +kernel
theorem dJ6_bitCount_0f7a4_47 : decode cJ6_bitCount_0f7a4 47 = .ok (.istore_n 0, 1) := by decide +kernel
theorem dJ6_bitCount_0f7a4_48 : decode cJ6_bitCount_0f7a4 48 = .ok (.iload_n 0, 1) := by decide +kernel
theorem dJ6_bitCount_0f7a4_49 : decode cJ6_bitCount_0f7a4 49 = .ok (.bipush 63, 2) := by decide +kernel
theorem dJ6_bitCount_0f7a4_51 : decode cJ6_bitCount_0f7a4 51 = .ok (.iand, 1) := by decide +kernel
theorem dJ6_bitCount_0f7a4_52 : decode cJ6_bitCount_0f7a4 52 = .ok (.ireturn, 1) := by decide +kernel
theorem dJ9_abs_0f7a4_0 : decode cJ9_abs_0f7a4 0 = .ok (.iload_n 0, 1) := by decide +kernel
theorem dJ9_abs_0f7a4_1 : decode cJ9_abs_0f7a4 1 = .ok (.ifCond .ge 8, 3) := by decide +kernel
theorem dJ9_abs_0f7a4_4 : decode cJ9_abs_0f7a4 4 = .ok (.iload_n 0, 1) := by decide +kernel
theorem dJ9_abs_0f7a4_5 : decode cJ9_abs_0f7a4 5 = .ok (.ineg, 1) := by decide +kernel
theorem dJ9_abs_0f7a4_6 : decode cJ9_abs_0f7a4 6 = .ok (.goto 4, 3) := by decide +kernel
theorem dJ9_abs_0f7a4_9 : decode cJ9_abs_0f7a4 9 = .ok (.iload_n 0, 1) := by decide +kernel
theorem dJ9_abs_0f7a4_10 : decode cJ9_abs_0f7a4 10 = .ok (.ireturn, 1) := by decide +kernel
theorem dJ9_max_7cf53_0 : decode cJ9_max_7cf53 0 = .ok (.iload_n 0, 1) := by decide +kernel
theorem dJ9_max_7cf53_1 : decode cJ9_max_7cf53 1 = .ok (.iload_n 1, 1) := by decide +kernel
theorem dJ9_max_7cf53_2 : decode cJ9_max_7cf53 2 = .ok (.if_icmp .lt 7, 3) := by decide +kernel
theorem dJ9_max_7cf53_5 : decode cJ9_max_7cf53 5 = .ok (.iload_n 0, 1) := by decide +kernel
theorem dJ9_max_7cf53_6 : decode cJ9_max_7cf53 6 = .ok (.goto 4, 3) := by decide +kernel
theorem dJ9_max_7cf53_9 : decode cJ9_max_7cf53 9 = .ok (.iload_n 1, 1) := by decide +kernel
theorem dJ9_max_7cf53_10 : decode cJ9_max_7cf53 10 = .ok (.ireturn, 1) := by decide +kernel
theorem dJ9_min_7cf53_0 : decode cJ9_min_7cf53 0 = .ok (.iload_n 0, 1) := by decide +kernel
theorem dJ9_min_7cf53_1 : decode cJ9_min_7cf53 1 = .ok (.iload_n 1, 1) := by decide +kernel
theorem dJ9_min_7cf53_2 : decode cJ9_min_7cf53 2 = .ok (.if_icmp .gt 7, 3) := by decide +kernel
theorem dJ9_min_7cf53_5 : decode cJ9_min_7cf53 5 = .ok (.iload_n 0, 1) := by decide +kernel
theorem dJ9_min_7cf53_6 : decode cJ9_min_7cf53 6 = .ok (.goto 4, 3) := by decide +kernel
theorem dJ9_min_7cf53_9 : decode cJ9_min_7cf53 9 = .ok (.iload_n 1, 1) := by decide +kernel
theorem dJ9_min_7cf53_10 : decode cJ9_min_7cf53 10 = .ok (.ireturn, 1) := by decide +kernel
theorem dJ0_length_8abf5_0 : decode cJ0_length_8abf5 0 = .ok (.aload_n 0, 1) := by decide +kernel
theorem dJ0_length_8abf5_1 : decode cJ0_length_8abf5 1 = .ok (.getfield 9, 3) := by decide +kernel
theorem dJ0_length_8abf5_4 : decode cJ0_length_8abf5 4 = .ok (.arraylength, 1) := by decide +kernel
theorem dJ0_length_8abf5_5 : decode cJ0_length_8abf5 5 = .ok (.aload_n 0, 1) := by decide +kernel
theorem dJ0_length_8abf5_6 : decode cJ0_length_8abf5 6 = .ok (.invokevirtual 335, 3) := by decide +kernel
theorem dJ0_length_8abf5_9 : decode cJ0_length_8abf5 9 = .ok (.ishr, 1) := by decide +kernel
theorem dJ0_length_8abf5_10 : decode cJ0_length_8abf5 10 = .ok (.ireturn, 1) := by decide +kernel
theorem dJ0_indexOf_0f7a4_0 : decode cJ0_indexOf_0f7a4 0 = .ok (.aload_n 0, 1) := by decide +kernel
theorem dJ0_indexOf_0f7a4_1 : decode cJ0_indexOf_0f7a4 1 = .ok (.iload_n 1, 1) := by decide +kernel
theorem dJ0_indexOf_0f7a4_2 : decode cJ0_indexOf_0f7a4 2 = .ok (.iconst 0, 1) := by decide +kernel
theorem dJ0_indexOf_0f7a4_3 : decode cJ0_indexOf_0f7a4 3 = .ok (.invokevirtual 633, 3) := by decide +kernel
theorem dJ0_indexOf_0f7a4_6 : decode cJ0_indexOf_0f7a4 6 = .ok (.ireturn, 1) := by decide +kernel
theorem dJ0_indexOf_7cf53_0 : decode cJ0_indexOf_7cf53 0 = .ok (.aload_n 0, 1) := by decide +kernel
theorem dJ0_indexOf_7cf53_1 : decode cJ0_indexOf_7cf53 1 = .ok (.invokevirtual 492, 3) := by decide +kernel
theorem dJ0_indexOf_7cf53_4 : decode cJ0_indexOf_7cf53 4 = .ok (.ifCond .eq 19, 3) := by decide +kernel
theorem dJ0_indexOf_7cf53_7 : decode cJ0_indexOf_7cf53 7 = .ok (.aload_n 0, 1) := by decide +kernel
theorem dJ0_indexOf_7cf53_8 : decode cJ0_indexOf_7cf53 8 = .ok (.getfield 9, 3) := by decide +kernel
theorem dJ0_indexOf_7cf53_11 : decode cJ0_indexOf_7cf53 11 = .ok (.iload_n 1, 1) := by decide +kernel
theorem dJ0_indexOf_7cf53_12 : decode cJ0_indexOf_7cf53 12 = .ok (.iload_n 2, 1) := by decide +kernel
theorem dJ0_indexOf_7cf53_13 : decode cJ0_indexOf_7cf53 13 = .ok (.aload_n 0, 1) := by decide +kernel
theorem dJ0_indexOf_7cf53_14 : decode cJ0_indexOf_7cf53 14 = .ok (.invokevirtual 505, 3) := by decide +kernel
theorem dJ0_indexOf_7cf53_17 : decode cJ0_indexOf_7cf53 17 = .ok (.invokestatic 637, 3) := by decide +kernel
theorem dJ0_indexOf_7cf53_20 : decode cJ0_indexOf_7cf53 20 = .ok (.goto 16, 3) := by decide +kernel
theorem dJ0_indexOf_7cf53_23 : decode cJ0_indexOf_7cf53 23 = .ok (.aload_n 0, 1) := by decide +kernel
theorem dJ0_indexOf_7cf53_24 : decode cJ0_indexOf_7cf53 24 = .ok (.getfield 9, 3) := by decide +kernel
theorem dJ0_indexOf_7cf53_27 : decode cJ0_indexOf_7cf53 27 = .ok (.iload_n 1, 1) := by decide +kernel
theorem dJ0_indexOf_7cf53_28 : decode cJ0_indexOf_7cf53 28 = .ok (.iload_n 2, 1) := by decide +kernel
theorem dJ0_indexOf_7cf53_29 : decode cJ0_indexOf_7cf53 29 = .ok (.aload_n 0, 1) := by decide +kernel
theorem dJ0_indexOf_7cf53_30 : decode cJ0_indexOf_7cf53 30 = .ok (.invokevirtual 505, 3) := by decide +kernel
theorem dJ0_indexOf_7cf53_33 : decode cJ0_indexOf_7cf53 33 = .ok (.invokestatic 640, 3) := by decide +kernel
theorem dJ0_indexOf_7cf53_36 : decode cJ0_indexOf_7cf53 36 = .ok (.ireturn, 1) := by decide +kernel
theorem dJ0_coder_7d493_0 : decode cJ0_coder_7d493 0 = .ok (.getstatic 38, 3) := by decide +kernel
theorem dJ0_coder_7d493_3 : decode cJ0_coder_7d493 3 = .ok (.ifCond .eq 10, 3) := by decide +kernel
theorem dJ0_coder_7d493_6 : decode cJ0_coder_7d493 6 = .ok (.aload_n 0, 1) := by decide +kernel
theorem dJ0_coder_7d493_7 : decode cJ0_coder_7d493 7 = .ok (.getfield 15, 3) := by decide +kernel
theorem dJ0_coder_7d493_10 : decode cJ0_coder_7d493 10 = .ok (.goto 4, 3) := by decide +kernel
theorem dJ0_coder_7d493_13 : decode cJ0_coder_7d493 13 = .ok (.iconst 1, 1) := by decide +kernel
theorem dJ0_coder_7d493_14 : decode cJ0_coder_7d493 14 = .ok (.ireturn, 1) := by decide +kernel
theorem dJ0_isLatin1_aae02_0 : decode cJ0_isLatin1_aae02 0 = .ok (.getstatic 38, 3) := by decide +kernel
theorem dJ0_isLatin1_aae02_3 : decode cJ0_isLatin1_aae02 3 = .ok (.ifCond .eq 14, 3) := by decide +kernel
theorem dJ0_isLatin1_aae02_6 : decode cJ0_isLatin1_aae02 6 = .ok (.aload_n 0, 1) := by decide +kernel
theorem dJ0_isLatin1_aae02_7 : decode cJ0_isLatin1_aae02 7 = .ok (.getfield 15, 3) := by decide +kernel
theorem dJ0_isLatin1_aae02_10 : decode cJ0_isLatin1_aae02 10 = .ok (.ifCond .ne 7, 3) := by decide +kernel
theorem dJ0_isLatin1_aae02_13 : decode cJ0_isLatin1_aae02 13 = .ok (.iconst 1, 1) := by decide +kernel
theorem dJ0_isLatin1_aae02_14 : decode cJ0_isLatin1_aae02 14 = .ok (.goto 4, 3) := by decide +kernel
theorem dJ0_isLatin1_aae02_17 : decode cJ0_isLatin1_aae02 17 = .ok (.iconst 0, 1) := by decide +kernel
theorem dJ0_isLatin1_aae02_18 : decode cJ0_isLatin1_aae02 18 = .ok (.ireturn, 1) := by decide +kernel
theorem dJ0_checkBoundsBeginEnd_23922_0 : decode cJ0_checkBoundsBeginEnd_23922 0 = .ok (.iload_n 0, 1) := by decide +kernel
theorem dJ0_checkBoundsBeginEnd_23922_1 : decode cJ0_checkBoundsBeginEnd_23922 1 = .ok (.iload_n 1, 1) := by decide +kernel
theorem dJ0_checkBoundsBeginEnd_23922_2 : decode cJ0_checkBoundsBeginEnd_23922 2 = .ok (.iload_n 2, 1) := by decide +kernel
theorem dJ0_checkBoundsBeginEnd_23922_3 : decode cJ0_checkBoundsBeginEnd_23922 3 = .ok (.getstatic 1053, 3) := by decide +kernel
theorem dJ0_checkBoundsBeginEnd_23922_6 : decode cJ0_checkBoundsBeginEnd_23922 6 = .ok (.invokestatic 1062, 3) := by decide +kernel
theorem dJ0_checkBoundsBeginEnd_23922_9 : decode cJ0_checkBoundsBeginEnd_23922 9 = .ok (.pop, 1) := by decide +kernel
theorem dJ0_checkBoundsBeginEnd_23922_10 : decode cJ0_checkBoundsBeginEnd_23922 10 = .ok (.return_, 1) := by decide +kernel
theorem dJ1_canEncode_9a6ad_0 : decode cJ1_canEncode_9a6ad 0 = .ok (.iload_n 0, 1) := by decide +kernel
theorem dJ1_canEncode_9a6ad_1 : decode cJ1_canEncode_9a6ad 1 = .ok (.ifCond .lt 14, 3) := by decide +kernel
theorem dJ1_canEncode_9a6ad_4 : decode cJ1_canEncode_9a6ad 4 = .ok (.iload_n 0, 1) := by decide +kernel
theorem dJ1_canEncode_9a6ad_5 : decode cJ1_canEncode_9a6ad 5 = .ok (.sipush 255, 3) := by decide +kernel
theorem dJ1_canEncode_9a6ad_8 : decode cJ1_canEncode_9a6ad 8 = .ok (.if_icmp .gt 7, 3) := by decide +kernel
theorem dJ1_canEncode_9a6ad_11 : decode cJ1_canEncode_9a6ad 11 = .ok (.iconst 1, 1) := by decide +kernel
theorem dJ1_canEncode_9a6ad_12 : decode cJ1_canEncode_9a6ad 12 = .ok (.goto 4, 3) := by decide +kernel
theorem dJ1_canEncode_9a6ad_15 : decode cJ1_canEncode_9a6ad 15 = .ok (.iconst 0, 1) := by decide +kernel
theorem dJ1_canEncode_9a6ad_16 : decode cJ1_canEncode_9a6ad 16 = .ok (.ireturn, 1) := by decide +kernel
theorem dJ1_indexOf_4cfef_0 : decode cJ1_indexOf_4cfef 0 = .ok (.iload_n 1, 1) := by decide +kernel
theorem dJ1_indexOf_4cfef_1 : decode cJ1_indexOf_4cfef 1 = .ok (.invokestatic 88, 3) := by decide +kernel
theorem dJ1_indexOf_4cfef_4 : decode cJ1_indexOf_4cfef 4 = .ok (.ifCond .ne 5, 3) := by decide +kernel
theorem dJ1_indexOf_4cfef_7 : decode cJ1_indexOf_4cfef 7 = .ok (.iconst (-1), 1) := by decide +kernel
theorem dJ1_indexOf_4cfef_8 : decode cJ1_indexOf_4cfef 8 = .ok (.ireturn, 1) := by decide +kernel
theorem dJ1_indexOf_4cfef_9 : decode cJ1_indexOf_4cfef 9 = .ok (.iload_n 2, 1) := by decide +kernel
theorem dJ1_indexOf_4cfef_10 : decode cJ1_indexOf_4cfef 10 = .ok (.iconst 0, 1) := by decide +kernel
theorem dJ1_indexOf_4cfef_11 : decode cJ1_indexOf_4cfef 11 = .ok (.invokestatic 92, 3) := by decide +kernel
theorem dJ1_indexOf_4cfef_14 : decode cJ1_indexOf_4cfef 14 = .ok (.istore_n 2, 1) := by decide +kernel
theorem dJ1_indexOf_4cfef_15 : decode cJ1_indexOf_4cfef 15 = .ok (.iload_n 3, 1) := by decide +kernel
theorem dJ1_indexOf_4cfef_16 : decode cJ1_indexOf_4cfef 16 = .ok (.aload_n 0, 1) := by decide +kernel
theorem dJ1_indexOf_4cfef_17 : decode cJ1_indexOf_4cfef 17 = .ok (.arraylength, 1) := by decide +kernel
theorem dJ1_indexOf_4cfef_18 : decode cJ1_indexOf_4cfef 18 = .ok (.invokestatic 38, 3) := by decide +kernel
theorem dJ1_indexOf_4cfef_21 : decode cJ1_indexOf_4cfef 21 = .ok (.istore_n 3, 1) := by decide +kernel
theorem dJ1_indexOf_4cfef_22 : decode cJ1_indexOf_4cfef 22 = .ok (.iload_n 2, 1) := by decide +kernel
theorem dJ1_indexOf_4cfef_23 : decode cJ1_indexOf_4cfef 23 = .ok (.iload_n 3, 1) := by decide +kernel
theorem dJ1_indexOf_4cfef_24 : decode cJ1_indexOf_4cfef 24 = .ok (.if_icmp .lt 5, 3) := by decide +kernel
theorem dJ1_indexOf_4cfef_27 : decode cJ1_indexOf_4cfef 27 = .ok (.iconst (-1), 1) := by decide +kernel
theorem dJ1_indexOf_4cfef_28 : decode cJ1_indexOf_4cfef 28 = .ok (.ireturn, 1) := by decide +kernel
theorem dJ1_indexOf_4cfef_29 : decode cJ1_indexOf_4cfef 29 = .ok (.aload_n 0, 1) := by decide +kernel
theorem dJ1_indexOf_4cfef_30 : decode cJ1_indexOf_4cfef 30 = .ok (.iload_n 1, 1) := by decide +kernel
theorem dJ1_indexOf_4cfef_31 : decode cJ1_indexOf_4cfef 31 = .ok (.iload_n 2, 1) := by decide +kernel
theorem dJ1_indexOf_4cfef_32 : decode cJ1_indexOf_4cfef 32 = .ok (.iload_n 3, 1) := by decide +kernel
theorem dJ1_indexOf_4cfef_33 : decode cJ1_indexOf_4cfef 33 = .ok (.invokestatic 95, 3) := by decide +kernel
theorem dJ1_indexOf_4cfef_36 : decode cJ1_indexOf_4cfef 36 = .ok (.ireturn, 1) := by decide +kernel
theorem dJ1_indexOfChar_4cfef_0 : decode cJ1_indexOfChar_4cfef 0 = .ok (.iload_n 1, 1) := by decide +kernel
theorem dJ1_indexOfChar_4cfef_1 : decode cJ1_indexOfChar_4cfef 1 = .ok (.i2b, 1) := by decide +kernel
theorem dJ1_indexOfChar_4cfef_2 : decode cJ1_indexOfChar_4cfef 2 = .ok (.istore 4, 2) := by decide +kernel
theorem dJ1_indexOfChar_4cfef_4 : decode cJ1_indexOfChar_4cfef 4 = .ok (.iload_n 2, 1) := by decide +kernel
theorem dJ1_indexOfChar_4cfef_5 : decode cJ1_indexOfChar_4cfef 5 = .ok (.istore 5, 2) := by decide +kernel
theorem dJ1_indexOfChar_4cfef_7 : decode cJ1_indexOfChar_4cfef 7 = .ok (.iload 5, 2) := by decide +kernel
theorem dJ1_indexOfChar_4cfef_9 : decode cJ1_indexOfChar_4cfef 9 = .ok (.iload_n 3, 1) := by decide +kernel
theorem dJ1_indexOfChar_4cfef_10 : decode cJ1_indexOfChar_4cfef 10 = .ok (.if_icmp .ge 21, 3) := by decide +kernel
theorem dJ1_indexOfChar_4cfef_13 : decode cJ1_indexOfChar_4cfef 13 = .ok (.aload_n 0, 1) := by decide +kernel
theorem dJ1_indexOfChar_4cfef_14 : decode cJ1_indexOfChar_4cfef 14 = .ok (.iload 5, 2) := by decide +kernel
theorem dJ1_indexOfChar_4cfef_16 : decode cJ1_indexOfChar_4cfef 16 = .ok (.baload, 1) := by decide +kernel
theorem dJ1_indexOfChar_4cfef_17 : decode cJ1_indexOfChar_4cfef 17 = .ok (.iload 4, 2) := by decide +kernel
theorem dJ1_indexOfChar_4cfef_19 : decode cJ1_indexOfChar_4cfef 19 = .ok (.if_icmp .ne 6, 3) := by decide +kernel
theorem dJ1_indexOfChar_4cfef_22 : decode cJ1_indexOfChar_4cfef 22 = .ok (.iload 5, 2) := by decide +kernel
theorem dJ1_indexOfChar_4cfef_24 : decode cJ1_indexOfChar_4cfef 24 = .ok (.ireturn, 1) := by decide +kernel
theorem dJ1_indexOfChar_4cfef_25 : decode cJ1_indexOfChar_4cfef 25 = .ok (.iinc 5 1, 3) := by decide +kernel
theorem dJ1_indexOfChar_4cfef_28 : decode cJ1_indexOfChar_4cfef 28 = .ok (.goto (-21), 3) := by decide +kernel
theorem dJ1_indexOfChar_4cfef_31 : decode cJ1_indexOfChar_4cfef 31 = .ok (.iconst (-1), 1) := by decide +kernel
theorem dJ1_indexOfChar_4cfef_32 : decode cJ1_indexOfChar_4cfef 32 = .ok (.ireturn, 1) := by decide +kernel
theorem dJ2_getChar_3b067_0 : decode cJ2_getChar_3b067 0 = .ok (.getstatic 44, 3) := by decide +kernel
theorem dJ2_getChar_3b067_3 : decode cJ2_getChar_3b067 3 = .ok (.ifCond .ne 25, 3) := by decide +kernel
theorem dJ2_getChar_3b067_6 : decode cJ2_getChar_3b067 6 = .ok (.iload_n 1, 1) := by decide +kernel
theorem dJ2_getChar_3b067_7 : decode cJ2_getChar_3b067 7 = .ok (.ifCond .lt 11, 3) := by decide +kernel
theorem dJ2_getChar_3b067_10 : decode cJ2_getChar_3b067 10 = .ok (.iload_n 1, 1) := by decide +kernel
theorem dJ2_getChar_3b067_11 : decode cJ2_getChar_3b067 11 = .ok (.aload_n 0, 1) := by decide +kernel
theorem dJ2_getChar_3b067_12 : decode cJ2_getChar_3b067 12 = .ok (.invokestatic 48, 3) := by decide +kernel
theorem dJ2_getChar_3b067_15 : decode cJ2_getChar_3b067 15 = .ok (.if_icmp .lt 13, 3) := by decide +kernel
theorem dJ2_getChar_3b067_18 : decode cJ2_getChar_3b067 18 = .ok (.new 52, 3) := by decide +kernel
theorem dJ2_getChar_3b067_21 : decode cJ2_getChar_3b067 21 = .ok (.dup, 1) := by decide +kernel
theorem dJ2_getChar_3b067_22 : decode cJ2_getChar_3b067 22 = .ok (.ldc 54, 2) := by decide +kernel
theorem dJ2_getChar_3b067_24 : decode cJ2_getChar_3b067 24 = .ok (.invokespecial 56, 3) := by decide +kernel
theorem dJ2_getChar_3b067_27 : decode cJ2_getChar_3b067 27 = .ok (.athrow, 1) := by decide +kernel
theorem dJ2_getChar_3b067_28 : decode cJ2_getChar_3b067 28 = .ok (.iload_n 1, 1) := by decide +kernel
theorem dJ2_getChar_3b067_29 : decode cJ2_getChar_3b067 29 = .ok (.iconst 1, 1) := by decide +kernel
theorem dJ2_getChar_3b067_30 : decode cJ2_getChar_3b067 30 = .ok (.ishl, 1) := by decide +kernel
theorem dJ2_getChar_3b067_31 : decode cJ2_getChar_3b067 31 = .ok (.istore_n 1, 1) := by decide +kernel
theorem dJ2_getChar_3b067_32 : decode cJ2_getChar_3b067 32 = .ok (.aload_n 0, 1) := by decide +kernel
theorem dJ2_getChar_3b067_33 : decode cJ2_getChar_3b067 33 = .ok (.iload_n 1, 1) := by decide +kernel
theorem dJ2_getChar_3b067_34 : decode cJ2_getChar_3b067 34 = .ok (.iinc 1 1, 3) := by decide +kernel
theorem dJ2_getChar_3b067_37 : decode cJ2_getChar_3b067 37 = .ok (.baload, 1) := by decide +kernel
theorem dJ2_getChar_3b067_38 : decode cJ2_getChar_3b067 38 = .ok (.sipush 255, 3) := by decide +kernel
theorem dJ2_getChar_3b067_41 : decode cJ2_getChar_3b067 41 = .ok (.iand, 1) := by decide +kernel
theorem dJ2_getChar_3b067_42 : decode cJ2_getChar_3b067 42 = .ok (.getstatic 59, 3) := by decide +kernel
theorem dJ2_getChar_3b067_45 : decode cJ2_getChar_3b067 45 = .ok (.ishl, 1) := by decide +kernel
theorem dJ2_getChar_3b067_46 : decode cJ2_getChar_3b067 46 = .ok (.aload_n 0, 1) := by decide +kernel
theorem dJ2_getChar_3b067_47 : decode cJ2_getChar_3b067 47 = .ok (.iload_n 1, 1) := by decide +kernel
theorem dJ2_getChar_3b067_48 : decode cJ2_getChar_3b067 48 = .ok (.baload, 1) := by decide +kernel
theorem dJ2_getChar_3b067_49 : decode cJ2_getChar_3b067 49 = .ok (.sipush 255, 3) := by decide +kernel
theorem dJ2_getChar_3b067_52 : decode cJ2_getChar_3b067 52 = .ok (.iand, 1) := by decide +kernel
theorem dJ2_getChar_3b067_53 : decode cJ2_getChar_3b067 53 = .ok (.getstatic 63, 3) := by decide +kernel
theorem dJ2_getChar_3b067_56 : decode cJ2_getChar_3b067 56 = .ok (.ishl, 1) := by decide +kernel
theorem dJ2_getChar_3b067_57 : decode cJ2_getChar_3b067 57 = .ok (.ior, 1) := by decide +kernel
theorem dJ2_getChar_3b067_58 : decode cJ2_getChar_3b067 58 = .ok (.i2c, 1) := by decide +kernel
theorem dJ2_getChar_3b067_59 : decode cJ2_getChar_3b067 59 = .ok (.ireturn, 1) := by decide +kernel
theorem dJ2_length_9d52b_0 : decode cJ2_length_9d52b 0 = .ok (.aload_n 0, 1) := by decide +kernel
theorem dJ2_length_9d52b_1 : decode cJ2_length_9d52b 1 = .ok (.arraylength, 1) := by decide +kernel
theorem dJ2_length_9d52b_2 : decode cJ2_length_9d52b 2 = .ok (.iconst 1, 1) := by decide +kernel
theorem dJ2_length_9d52b_3 : decode cJ2_length_9d52b 3 = .ok (.ishr, 1) := by decide +kernel
theorem dJ2_length_9d52b_4 : decode cJ2_length_9d52b 4 = .ok (.ireturn, 1) := by decide +kernel
theorem dJ2_indexOf_4cfef_0 : decode cJ2_indexOf_4cfef 0 = .ok (.iload_n 2, 1) := by decide +kernel
theorem dJ2_indexOf_4cfef_1 : decode cJ2_indexOf_4cfef 1 = .ok (.iconst 0, 1) := by decide +kernel
theorem dJ2_indexOf_4cfef_2 : decode cJ2_indexOf_4cfef 2 = .ok (.invokestatic 224, 3) := by decide +kernel
theorem dJ2_indexOf_4cfef_5 : decode cJ2_indexOf_4cfef 5 = .ok (.istore_n 2, 1) := by decide +kernel
theorem dJ2_indexOf_4cfef_6 : decode cJ2_indexOf_4cfef 6 = .ok (.iload_n 3, 1) := by decide +kernel
theorem dJ2_indexOf_4cfef_7 : decode cJ2_indexOf_4cfef 7 = .ok (.aload_n 0, 1) := by decide +kernel
theorem dJ2_indexOf_4cfef_8 : decode cJ2_indexOf_4cfef 8 = .ok (.arraylength, 1) := by decide +kernel
theorem dJ2_indexOf_4cfef_9 : decode cJ2_indexOf_4cfef 9 = .ok (.iconst 1, 1) := by decide +kernel
theorem dJ2_indexOf_4cfef_10 : decode cJ2_indexOf_4cfef 10 = .ok (.ishr, 1) := by decide +kernel
theorem dJ2_indexOf_4cfef_11 : decode cJ2_indexOf_4cfef 11 = .ok (.invokestatic 183, 3) := by decide +kernel
theorem dJ2_indexOf_4cfef_14 : decode cJ2_indexOf_4cfef 14 = .ok (.istore_n 3, 1) := by decide +kernel
theorem dJ2_indexOf_4cfef_15 : decode cJ2_indexOf_4cfef 15 = .ok (.iload_n 2, 1) := by decide +kernel
theorem dJ2_indexOf_4cfef_16 : decode cJ2_indexOf_4cfef 16 = .ok (.iload_n 3, 1) := by decide +kernel
theorem dJ2_indexOf_4cfef_17 : decode cJ2_indexOf_4cfef 17 = .ok (.if_icmp .lt 5, 3) := by decide +kernel
theorem dJ2_indexOf_4cfef_20 : decode cJ2_indexOf_4cfef 20 = .ok (.iconst (-1), 1) := by decide +kernel
theorem dJ2_indexOf_4cfef_21 : decode cJ2_indexOf_4cfef 21 = .ok (.ireturn, 1) := by decide +kernel
theorem dJ2_indexOf_4cfef_22 : decode cJ2_indexOf_4cfef 22 = .ok (.iload_n 1, 1) := by decide +kernel
theorem dJ2_indexOf_4cfef_23 : decode cJ2_indexOf_4cfef 23 = .ok (.ldc 227, 2) := by decide +kernel
theorem dJ2_indexOf_4cfef_25 : decode cJ2_indexOf_4cfef 25 = .ok (.if_icmp .ge 11, 3) := by decide +kernel
theorem dJ2_indexOf_4cfef_28 : decode cJ2_indexOf_4cfef 28 = .ok (.aload_n 0, 1) := by decide +kernel
theorem dJ2_indexOf_4cfef_29 : decode cJ2_indexOf_4cfef 29 = .ok (.iload_n 1, 1) := by decide +kernel
theorem dJ2_indexOf_4cfef_30 : decode cJ2_indexOf_4cfef 30 = .ok (.iload_n 2, 1) := by decide +kernel
theorem dJ2_indexOf_4cfef_31 : decode cJ2_indexOf_4cfef 31 = .ok (.iload_n 3, 1) := by decide +kernel
theorem dJ2_indexOf_4cfef_32 : decode cJ2_indexOf_4cfef 32 = .ok (.invokestatic 228, 3) := by decide +kernel
theorem dJ2_indexOf_4cfef_35 : decode cJ2_indexOf_4cfef 35 = .ok (.ireturn, 1) := by decide +kernel
theorem dJ2_indexOf_4cfef_36 : decode cJ2_indexOf_4cfef 36 = .ok (.aload_n 0, 1) := by decide +kernel
theorem dJ2_indexOf_4cfef_37 : decode cJ2_indexOf_4cfef 37 = .ok (.iload_n 1, 1) := by decide +kernel
theorem dJ2_indexOf_4cfef_38 : decode cJ2_indexOf_4cfef 38 = .ok (.iload_n 2, 1) := by decide +kernel
theorem dJ2_indexOf_4cfef_39 : decode cJ2_indexOf_4cfef 39 = .ok (.iload_n 3, 1) := by decide +kernel
theorem dJ2_indexOf_4cfef_40 : decode cJ2_indexOf_4cfef 40 = .ok (.invokestatic 232, 3) := by decide +kernel
theorem dJ2_indexOf_4cfef_43 : decode cJ2_indexOf_4cfef 43 = .ok (.ireturn, 1) := by decide +kernel
theorem dJ2_indexOfChar_4cfef_0 : decode cJ2_indexOfChar_4cfef 0 = .ok (.iload_n 2, 1) := by decide +kernel
theorem dJ2_indexOfChar_4cfef_1 : decode cJ2_indexOfChar_4cfef 1 = .ok (.iload_n 3, 1) := by decide +kernel
theorem dJ2_indexOfChar_4cfef_2 : decode cJ2_indexOfChar_4cfef 2 = .ok (.aload_n 0, 1) := by decide +kernel
theorem dJ2_indexOfChar_4cfef_3 : decode cJ2_indexOfChar_4cfef 3 = .ok (.invokestatic 96, 3) := by decide +kernel
theorem dJ2_indexOfChar_4cfef_6 : decode cJ2_indexOfChar_4cfef 6 = .ok (.aload_n 0, 1) := by decide +kernel
theorem dJ2_indexOfChar_4cfef_7 : decode cJ2_indexOfChar_4cfef 7 = .ok (.iload_n 1, 1) := by decide +kernel
theorem dJ2_indexOfChar_4cfef_8 : decode cJ2_indexOfChar_4cfef 8 = .ok (.iload_n 2, 1) := by decide +kernel
theorem dJ2_indexOfChar_4cfef_9 : decode cJ2_indexOfChar_4cfef 9 = .ok (.iload_n 3, 1) := by decide +kernel
theorem dJ2_indexOfChar_4cfef_10 : decode cJ2_indexOfChar_4cfef 10 = .ok (.invokestatic 244, 3) := by decide +kernel
theorem dJ2_indexOfChar_4cfef_13 : decode cJ2_indexOfChar_4cfef 13 = .ok (.ireturn, 1) := by decide +kernel
theorem dJ2_indexOfCharUnsafe_4cfef_0 : decode cJ2_indexOfCharUnsafe_4cfef 0 = .ok (.iload_n 2, 1) := by decide +kernel
theorem dJ2_indexOfCharUnsafe_4cfef_1 : decode cJ2_indexOfCharUnsafe_4cfef 1 = .ok (.istore 4, 2) := by decide +kernel
theorem dJ2_indexOfCharUnsafe_4cfef_3 : decode cJ2_indexOfCharUnsafe_4cfef 3 = .ok (.iload 4, 2) := by decide +kernel
theorem dJ2_indexOfCharUnsafe_4cfef_5 : decode cJ2_indexOfCharUnsafe_4cfef 5 = .ok (.iload_n 3, 1) := by decide +kernel
theorem dJ2_indexOfCharUnsafe_4cfef_6 : decode cJ2_indexOfCharUnsafe_4cfef 6 = .ok (.if_icmp .ge 22, 3) := by decide +kernel
theorem dJ2_indexOfCharUnsafe_4cfef_9 : decode cJ2_indexOfCharUnsafe_4cfef 9 = .ok (.aload_n 0, 1) := by decide +kernel
theorem dJ2_indexOfCharUnsafe_4cfef_10 : decode cJ2_indexOfCharUnsafe_4cfef 10 = .ok (.iload 4, 2) := by decide +kernel
theorem dJ2_indexOfCharUnsafe_4cfef_12 : decode cJ2_indexOfCharUnsafe_4cfef 12 = .ok (.invokestatic 71, 3) := by decide +kernel
theorem dJ2_indexOfCharUnsafe_4cfef_15 : decode cJ2_indexOfCharUnsafe_4cfef 15 = .ok (.iload_n 1, 1) := by decide +kernel
theorem dJ2_indexOfCharUnsafe_4cfef_16 : decode cJ2_indexOfCharUnsafe_4cfef 16 = .ok (.if_icmp .ne 6, 3) := by decide +kernel
theorem dJ2_indexOfCharUnsafe_4cfef_19 : decode cJ2_indexOfCharUnsafe_4cfef 19 = .ok (.iload 4, 2) := by decide +kernel
theorem dJ2_indexOfCharUnsafe_4cfef_21 : decode cJ2_indexOfCharUnsafe_4cfef 21 = .ok (.ireturn, 1) := by decide +kernel
theorem dJ2_indexOfCharUnsafe_4cfef_22 : decode cJ2_indexOfCharUnsafe_4cfef 22 = .ok (.iinc 4 1, 3) := by decide +kernel
theorem dJ2_indexOfCharUnsafe_4cfef_25 : decode cJ2_indexOfCharUnsafe_4cfef 25 = .ok (.goto (-22), 3) := by decide +kernel
theorem dJ2_indexOfCharUnsafe_4cfef_28 : decode cJ2_indexOfCharUnsafe_4cfef 28 = .ok (.iconst (-1), 1) := by decide +kernel
theorem dJ2_indexOfCharUnsafe_4cfef_29 : decode cJ2_indexOfCharUnsafe_4cfef 29 = .ok (.ireturn, 1) := by decide +kernel
theorem dJ2_indexOfSupplementary_4cfef_0 : decode cJ2_indexOfSupplementary_4cfef 0 = .ok (.iload_n 1, 1) := by decide +kernel
theorem dJ2_indexOfSupplementary_4cfef_1 : decode cJ2_indexOfSupplementary_4cfef 1 = .ok (.invokestatic 164, 3) := by decide +kernel
theorem dJ2_indexOfSupplementary_4cfef_4 : decode cJ2_indexOfSupplementary_4cfef 4 = .ok (.ifCond .eq 65, 3) := by decide +kernel
theorem dJ2_indexOfSupplementary_4cfef_7 : decode cJ2_indexOfSupplementary_4cfef 7 = .ok (.iload_n 1, 1) := by decide +kernel
theorem dJ2_indexOfSupplementary_4cfef_8 : decode cJ2_indexOfSupplementary_4cfef 8 = .ok (.invokestatic 157, 3) := by decide +kernel
theorem dJ2_indexOfSupplementary_4cfef_11 : decode cJ2_indexOfSupplementary_4cfef 11 = .ok (.istore 4, 2) := by decide +kernel
theorem dJ2_indexOfSupplementary_4cfef_13 : decode cJ2_indexOfSupplementary_4cfef 13 = .ok (.iload_n 1, 1) := by decide +kernel
theorem dJ2_indexOfSupplementary_4cfef_14 : decode cJ2_indexOfSupplementary_4cfef 14 = .ok (.invokestatic 161, 3) := by decide +kernel
theorem dJ2_indexOfSupplementary_4cfef_17 : decode cJ2_indexOfSupplementary_4cfef 17 = .ok (.istore 5, 2) := by decide +kernel
theorem dJ2_indexOfSupplementary_4cfef_19 : decode cJ2_indexOfSupplementary_4cfef 19 = .ok (.iload_n 2, 1) := by decide +kernel
theorem dJ2_indexOfSupplementary_4cfef_20 : decode cJ2_indexOfSupplementary_4cfef 20 = .ok (.iload_n 3, 1) := by decide +kernel
theorem dJ2_indexOfSupplementary_4cfef_21 : decode cJ2_indexOfSupplementary_4cfef 21 = .ok (.aload_n 0, 1) := by decide +kernel
theorem dJ2_indexOfSupplementary_4cfef_22 : decode cJ2_indexOfSupplementary_4cfef 22 = .ok (.invokestatic 96, 3) := by decide +kernel
theorem dJ2_indexOfSupplementary_4cfef_25 : decode cJ2_indexOfSupplementary_4cfef 25 = .ok (.iload_n 2, 1) := by decide +kernel
theorem dJ2_indexOfSupplementary_4cfef_26 : decode cJ2_indexOfSupplementary_4cfef 26 = .ok (.istore 6, 2) := by decide +kernel
theorem dJ2_indexOfSupplementary_4cfef_28 : decode cJ2_indexOfSupplementary_4cfef 28 = .ok (.iload 6, 2) := by decide +kernel
theorem dJ2_indexOfSupplementary_4cfef_30 : decode cJ2_indexOfSupplementary_4cfef 30 = .ok (.iload_n 3, 1) := by decide +kernel
theorem dJ2_indexOfSupplementary_4cfef_31 : decode cJ2_indexOfSupplementary_4cfef 31 = .ok (.iconst 1, 1) := by decide +kernel
theorem dJ2_indexOfSupplementary_4cfef_32 : decode cJ2_indexOfSupplementary_4cfef 32 = .ok (.isub, 1) := by decide +kernel
theorem dJ2_indexOfSupplementary_4cfef_33 : decode cJ2_indexOfSupplementary_4cfef 33 = .ok (.if_icmp .ge 36, 3) := by decide +kernel
theorem dJ2_indexOfSupplementary_4cfef_36 : decode cJ2_indexOfSupplementary_4cfef 36 = .ok (.aload_n 0, 1) := by decide +kernel
theorem dJ2_indexOfSupplementary_4cfef_37 : decode cJ2_indexOfSupplementary_4cfef 37 = .ok (.iload 6, 2) := by decide +kernel
theorem dJ2_indexOfSupplementary_4cfef_39 : decode cJ2_indexOfSupplementary_4cfef 39 = .ok (.invokestatic 71, 3) := by decide +kernel
theorem dJ2_indexOfSupplementary_4cfef_42 : decode cJ2_indexOfSupplementary_4cfef 42 = .ok (.iload 4, 2) := by decide +kernel
theorem dJ2_indexOfSupplementary_4cfef_44 : decode cJ2_indexOfSupplementary_4cfef 44 = .ok (.if_icmp .ne 19, 3) := by decide +kernel
theorem dJ2_indexOfSupplementary_4cfef_47 : decode cJ2_indexOfSupplementary_4cfef 47 = .ok (.aload_n 0, 1) := by decide +kernel
theorem dJ2_indexOfSupplementary_4cfef_48 : decode cJ2_indexOfSupplementary_4cfef 48 = .ok (.iload 6, 2) := by decide +kernel
theorem dJ2_indexOfSupplementary_4cfef_50 : decode cJ2_indexOfSupplementary_4cfef 50 = .ok (.iconst 1, 1) := by decide +kernel
theorem dJ2_indexOfSupplementary_4cfef_51 : decode cJ2_indexOfSupplementary_4cfef 51 = .ok (.iadd, 1) := by decide +kernel
theorem dJ2_indexOfSupplementary_4cfef_52 : decode cJ2_indexOfSupplementary_4cfef 52 = .ok (.invokestatic 71, 3) := by decide +kernel
theorem dJ2_indexOfSupplementary_4cfef_55 : decode cJ2_indexOfSupplementary_4cfef 55 = .ok (.iload 5, 2) := by decide +kernel
theorem dJ2_indexOfSupplementary_4cfef_57 : decode cJ2_indexOfSupplementary_4cfef 57 = .ok (.if_icmp .ne 6, 3) := by decide +kernel
theorem dJ2_indexOfSupplementary_4cfef_60 : decode cJ2_indexOfSupplementary_4cfef 60 = .ok (.iload 6, 2) := by decide +kernel
theorem dJ2_indexOfSupplementary_4cfef_62 : decode cJ2_indexOfSupplementary_4cfef 62 = .ok (.ireturn, 1) := by decide +kernel
theorem dJ2_indexOfSupplementary_4cfef_63 : decode cJ2_indexOfSupplementary_4cfef 63 = .ok (.iinc 6 1, 3) := by decide +kernel
theorem dJ2_indexOfSupplementary_4cfef_66 : decode cJ2_indexOfSupplementary_4cfef 66 = .ok (.goto (-38), 3) := by decide +kernel
theorem dJ2_indexOfSupplementary_4cfef_69 : decode cJ2_indexOfSupplementary_4cfef 69 = .ok (.iconst (-1), 1) := by decide +kernel
theorem dJ2_indexOfSupplementary_4cfef_70 : decode cJ2_indexOfSupplementary_4cfef 70 = .ok (.ireturn, 1) := by decide +kernel
theorem dJ2_checkBoundsBeginEnd_d044e_0 : decode cJ2_checkBoundsBeginEnd_d044e 0 = .ok (.iload_n 0, 1) := by decide +kernel
theorem dJ2_checkBoundsBeginEnd_d044e_1 : decode cJ2_checkBoundsBeginEnd_d044e 1 = .ok (.iload_n 1, 1) := by decide +kernel
theorem dJ2_checkBoundsBeginEnd_d044e_2 : decode cJ2_checkBoundsBeginEnd_d044e 2 = .ok (.aload_n 2, 1) := by decide +kernel
theorem dJ2_checkBoundsBeginEnd_d044e_3 : decode cJ2_checkBoundsBeginEnd_d044e 3 = .ok (.invokestatic 48, 3) := by decide +kernel
theorem dJ2_checkBoundsBeginEnd_d044e_6 : decode cJ2_checkBoundsBeginEnd_d044e 6 = .ok (.invokestatic 241, 3) := by decide +kernel
theorem dJ2_checkBoundsBeginEnd_d044e_9 : decode cJ2_checkBoundsBeginEnd_d044e 9 = .ok (.return_, 1) := by decide +kernel
theorem dJ7_fill_53178_0 : decode cJ7_fill_53178 0 = .ok (.iconst 0, 1) := by decide +kernel
theorem dJ7_fill_53178_1 : decode cJ7_fill_53178 1 = .ok (.istore_n 2, 1) := by decide +kernel
theorem dJ7_fill_53178_2 : decode cJ7_fill_53178 2 = .ok (.aload_n 0, 1) := by decide +kernel
theorem dJ7_fill_53178_3 : decode cJ7_fill_53178 3 = .ok (.arraylength, 1) := by decide +kernel
theorem dJ7_fill_53178_4 : decode cJ7_fill_53178 4 = .ok (.istore_n 3, 1) := by decide +kernel
theorem dJ7_fill_53178_5 : decode cJ7_fill_53178 5 = .ok (.iload_n 2, 1) := by decide +kernel
theorem dJ7_fill_53178_6 : decode cJ7_fill_53178 6 = .ok (.iload_n 3, 1) := by decide +kernel
theorem dJ7_fill_53178_7 : decode cJ7_fill_53178 7 = .ok (.if_icmp .ge 13, 3) := by decide +kernel
theorem dJ7_fill_53178_10 : decode cJ7_fill_53178 10 = .ok (.aload_n 0, 1) := by decide +kernel
theorem dJ7_fill_53178_11 : decode cJ7_fill_53178 11 = .ok (.iload_n 2, 1) := by decide +kernel
theorem dJ7_fill_53178_12 : decode cJ7_fill_53178 12 = .ok (.iload_n 1, 1) := by decide +kernel
theorem dJ7_fill_53178_13 : decode cJ7_fill_53178 13 = .ok (.iastore, 1) := by decide +kernel
theorem dJ7_fill_53178_14 : decode cJ7_fill_53178 14 = .ok (.iinc 2 1, 3) := by decide +kernel
theorem dJ7_fill_53178_17 : decode cJ7_fill_53178 17 = .ok (.goto (-12), 3) := by decide +kernel
theorem dJ7_fill_53178_20 : decode cJ7_fill_53178 20 = .ok (.return_, 1) := by decide +kernel
theorem dJ3_checkFromToIndex_8c36e_0 : decode cJ3_checkFromToIndex_8c36e 0 = .ok (.iload_n 0, 1) := by decide +kernel
theorem dJ3_checkFromToIndex_8c36e_1 : decode cJ3_checkFromToIndex_8c36e 1 = .ok (.ifCond .lt 13, 3) := by decide +kernel
theorem dJ3_checkFromToIndex_8c36e_4 : decode cJ3_checkFromToIndex_8c36e 4 = .ok (.iload_n 0, 1) := by decide +kernel
theorem dJ3_checkFromToIndex_8c36e_5 : decode cJ3_checkFromToIndex_8c36e 5 = .ok (.iload_n 1, 1) := by decide +kernel
theorem dJ3_checkFromToIndex_8c36e_6 : decode cJ3_checkFromToIndex_8c36e 6 = .ok (.if_icmp .gt 8, 3) := by decide +kernel
theorem dJ3_checkFromToIndex_8c36e_9 : decode cJ3_checkFromToIndex_8c36e 9 = .ok (.iload_n 1, 1) := by decide +kernel
theorem dJ3_checkFromToIndex_8c36e_10 : decode cJ3_checkFromToIndex_8c36e 10 = .ok (.iload_n 2, 1) := by decide +kernel
theorem dJ3_checkFromToIndex_8c36e_11 : decode cJ3_checkFromToIndex_8c36e 11 = .ok (.if_icmp .le 11, 3) := by decide +kernel
theorem dJ3_checkFromToIndex_8c36e_14 : decode cJ3_checkFromToIndex_8c36e 14 = .ok (.aload_n 3, 1) := by decide +kernel
theorem dJ3_checkFromToIndex_8c36e_15 : decode cJ3_checkFromToIndex_8c36e 15 = .ok (.iload_n 0, 1) := by decide +kernel
theorem dJ3_checkFromToIndex_8c36e_16 : decode cJ3_checkFromToIndex_8c36e 16 = .ok (.iload_n 1, 1) := by decide +kernel
theorem dJ3_checkFromToIndex_8c36e_17 : decode cJ3_checkFromToIndex_8c36e 17 = .ok (.iload_n 2, 1) := by decide +kernel
theorem dJ3_checkFromToIndex_8c36e_18 : decode cJ3_checkFromToIndex_8c36e 18 = .ok (.invokestatic 99, 3) := by decide +kernel
theorem dJ3_checkFromToIndex_8c36e_21 : decode cJ3_checkFromToIndex_8c36e 21 = .ok (.athrow, 1) := by decide +kernel
theorem dJ3_checkFromToIndex_8c36e_22 : decode cJ3_checkFromToIndex_8c36e 22 = .ok (.iload_n 0, 1) := by decide +kernel
theorem dJ3_checkFromToIndex_8c36e_23 : decode cJ3_checkFromToIndex_8c36e 23 = .ok (.ireturn, 1) := by decide +kernel
end
section
theorem dL_law_0 : decode cL_law 0 = .ok (.new 7, 3) := by decide +kernel
theorem dL_law_3 : decode cL_law 3 = .ok (.dup, 1) := by decide +kernel
theorem dL_law_4 : decode cL_law 4 = .ok (.invokespecial 9, 3) := by decide +kernel
theorem dL_law_7 : decode cL_law 7 = .ok (.astore_n 1, 1) := by decide +kernel
theorem dL_law_8 : decode cL_law 8 = .ok (.new 10, 3) := by decide +kernel
theorem dL_law_11 : decode cL_law 11 = .ok (.dup, 1) := by decide +kernel
theorem dL_law_12 : decode cL_law 12 = .ok (.invokespecial 12, 3) := by decide +kernel
theorem dL_law_15 : decode cL_law 15 = .ok (.astore_n 2, 1) := by decide +kernel
theorem dL_law_16 : decode cL_law 16 = .ok (.iconst 0, 1) := by decide +kernel
theorem dL_law_17 : decode cL_law 17 = .ok (.istore_n 3, 1) := by decide +kernel
theorem dL_law_18 : decode cL_law 18 = .ok (.iload_n 3, 1) := by decide +kernel
theorem dL_law_19 : decode cL_law 19 = .ok (.aload_n 0, 1) := by decide +kernel
theorem dL_law_20 : decode cL_law 20 = .ok (.arraylength, 1) := by decide +kernel
theorem dL_law_21 : decode cL_law 21 = .ok (.iconst 5, 1) := by decide +kernel
theorem dL_law_22 : decode cL_law 22 = .ok (.isub, 1) := by decide +kernel
theorem dL_law_23 : decode cL_law 23 = .ok (.if_icmp .gt 1179, 3) := by decide +kernel
theorem dL_law_26 : decode cL_law 26 = .ok (.aload_n 0, 1) := by decide +kernel
theorem dL_law_27 : decode cL_law 27 = .ok (.iload_n 3, 1) := by decide +kernel
theorem dL_law_28 : decode cL_law 28 = .ok (.iaload, 1) := by decide +kernel
theorem dL_law_29 : decode cL_law 29 = .ok (.bipush 63, 2) := by decide +kernel
theorem dL_law_31 : decode cL_law 31 = .ok (.iand, 1) := by decide +kernel
theorem dL_law_32 : decode cL_law 32 = .ok (.tableswitch 1164 0 37 #[168, 191, 204, 237, 270, 303, 326, 349, 372, 395, 428, 471, 494, 527, 560, 583, 606, 639, 672, 715, 738, 761, 784, 807, 830, 843, 856, 869, 912, 966, 990, 1023, 1046, 1059, 1072, 1115, 1128, 1141], 168) := by decide +kernel
theorem dL_law_200 : decode cL_law 200 = .ok (.aload_n 1, 1) := by decide +kernel
theorem dL_law_201 : decode cL_law 201 = .ok (.aload_n 0, 1) := by decide +kernel
theorem dL_law_202 : decode cL_law 202 = .ok (.iload_n 3, 1) := by decide +kernel
theorem dL_law_203 : decode cL_law 203 = .ok (.iconst 1, 1) := by decide +kernel
theorem dL_law_204 : decode cL_law 204 = .ok (.iadd, 1) := by decide +kernel
theorem dL_law_205 : decode cL_law 205 = .ok (.iaload, 1) := by decide +kernel
theorem dL_law_206 : decode cL_law 206 = .ok (.invokevirtual 13, 3) := by decide +kernel
theorem dL_law_209 : decode cL_law 209 = .ok (.aload_n 2, 1) := by decide +kernel
theorem dL_law_210 : decode cL_law 210 = .ok (.aload_n 0, 1) := by decide +kernel
theorem dL_law_211 : decode cL_law 211 = .ok (.iload_n 3, 1) := by decide +kernel
theorem dL_law_212 : decode cL_law 212 = .ok (.iconst 1, 1) := by decide +kernel
theorem dL_law_213 : decode cL_law 213 = .ok (.iadd, 1) := by decide +kernel
theorem dL_law_214 : decode cL_law 214 = .ok (.iaload, 1) := by decide +kernel
theorem dL_law_215 : decode cL_law 215 = .ok (.invokevirtual 17, 3) := by decide +kernel
theorem dL_law_218 : decode cL_law 218 = .ok (.if_icmp .eq 978, 3) := by decide +kernel
theorem dL_law_221 : decode cL_law 221 = .ok (.iconst 0, 1) := by decide +kernel
theorem dL_law_222 : decode cL_law 222 = .ok (.ireturn, 1) := by decide +kernel
theorem dL_law_223 : decode cL_law 223 = .ok (.aload_n 1, 1) := by decide +kernel
theorem dL_law_224 : decode cL_law 224 = .ok (.invokevirtual 18, 3) := by decide +kernel
theorem dL_law_227 : decode cL_law 227 = .ok (.aload_n 2, 1) := by decide +kernel
theorem dL_law_228 : decode cL_law 228 = .ok (.invokevirtual 22, 3) := by decide +kernel
theorem dL_law_231 : decode cL_law 231 = .ok (.if_icmp .eq 965, 3) := by decide +kernel
theorem dL_law_234 : decode cL_law 234 = .ok (.iconst 0, 1) := by decide +kernel
theorem dL_law_235 : decode cL_law 235 = .ok (.ireturn, 1) := by decide +kernel
theorem dL_law_236 : decode cL_law 236 = .ok (.aload_n 1, 1) := by decide +kernel
theorem dL_law_237 : decode cL_law 237 = .ok (.aload_n 0, 1) := by decide +kernel
theorem dL_law_238 : decode cL_law 238 = .ok (.iload_n 3, 1) := by decide +kernel
theorem dL_law_239 : decode cL_law 239 = .ok (.iconst 1, 1) := by decide +kernel
theorem dL_law_240 : decode cL_law 240 = .ok (.iadd, 1) := by decide +kernel
theorem dL_law_241 : decode cL_law 241 = .ok (.iaload, 1) := by decide +kernel
theorem dL_law_242 : decode cL_law 242 = .ok (.aload_n 0, 1) := by decide +kernel
theorem dL_law_243 : decode cL_law 243 = .ok (.iload_n 3, 1) := by decide +kernel
theorem dL_law_244 : decode cL_law 244 = .ok (.iconst 2, 1) := by decide +kernel
theorem dL_law_245 : decode cL_law 245 = .ok (.iadd, 1) := by decide +kernel
theorem dL_law_246 : decode cL_law 246 = .ok (.iaload, 1) := by decide +kernel
theorem dL_law_247 : decode cL_law 247 = .ok (.invokevirtual 23, 3) := by decide +kernel
theorem dL_law_250 : decode cL_law 250 = .ok (.aload_n 2, 1) := by decide +kernel
theorem dL_law_251 : decode cL_law 251 = .ok (.aload_n 0, 1) := by decide +kernel
theorem dL_law_252 : decode cL_law 252 = .ok (.iload_n 3, 1) := by decide +kernel
theorem dL_law_253 : decode cL_law 253 = .ok (.iconst 1, 1) := by decide +kernel
theorem dL_law_254 : decode cL_law 254 = .ok (.iadd, 1) := by decide +kernel
theorem dL_law_255 : decode cL_law 255 = .ok (.iaload, 1) := by decide +kernel
theorem dL_law_256 : decode cL_law 256 = .ok (.aload_n 0, 1) := by decide +kernel
theorem dL_law_257 : decode cL_law 257 = .ok (.iload_n 3, 1) := by decide +kernel
theorem dL_law_258 : decode cL_law 258 = .ok (.iconst 2, 1) := by decide +kernel
theorem dL_law_259 : decode cL_law 259 = .ok (.iadd, 1) := by decide +kernel
theorem dL_law_260 : decode cL_law 260 = .ok (.iaload, 1) := by decide +kernel
theorem dL_law_261 : decode cL_law 261 = .ok (.invokevirtual 27, 3) := by decide +kernel
theorem dL_law_264 : decode cL_law 264 = .ok (.if_icmp .eq 932, 3) := by decide +kernel
theorem dL_law_267 : decode cL_law 267 = .ok (.iconst 0, 1) := by decide +kernel
theorem dL_law_268 : decode cL_law 268 = .ok (.ireturn, 1) := by decide +kernel
theorem dL_law_269 : decode cL_law 269 = .ok (.aload_n 1, 1) := by decide +kernel
theorem dL_law_270 : decode cL_law 270 = .ok (.aload_n 0, 1) := by decide +kernel
theorem dL_law_271 : decode cL_law 271 = .ok (.iload_n 3, 1) := by decide +kernel
theorem dL_law_272 : decode cL_law 272 = .ok (.iconst 1, 1) := by decide +kernel
theorem dL_law_273 : decode cL_law 273 = .ok (.iadd, 1) := by decide +kernel
theorem dL_law_274 : decode cL_law 274 = .ok (.iaload, 1) := by decide +kernel
theorem dL_law_275 : decode cL_law 275 = .ok (.aload_n 0, 1) := by decide +kernel
theorem dL_law_276 : decode cL_law 276 = .ok (.iload_n 3, 1) := by decide +kernel
theorem dL_law_277 : decode cL_law 277 = .ok (.iconst 2, 1) := by decide +kernel
theorem dL_law_278 : decode cL_law 278 = .ok (.iadd, 1) := by decide +kernel
theorem dL_law_279 : decode cL_law 279 = .ok (.iaload, 1) := by decide +kernel
theorem dL_law_280 : decode cL_law 280 = .ok (.invokevirtual 28, 3) := by decide +kernel
theorem dL_law_283 : decode cL_law 283 = .ok (.aload_n 2, 1) := by decide +kernel
theorem dL_law_284 : decode cL_law 284 = .ok (.aload_n 0, 1) := by decide +kernel
theorem dL_law_285 : decode cL_law 285 = .ok (.iload_n 3, 1) := by decide +kernel
theorem dL_law_286 : decode cL_law 286 = .ok (.iconst 1, 1) := by decide +kernel
theorem dL_law_287 : decode cL_law 287 = .ok (.iadd, 1) := by decide +kernel
theorem dL_law_288 : decode cL_law 288 = .ok (.iaload, 1) := by decide +kernel
theorem dL_law_289 : decode cL_law 289 = .ok (.aload_n 0, 1) := by decide +kernel
theorem dL_law_290 : decode cL_law 290 = .ok (.iload_n 3, 1) := by decide +kernel
theorem dL_law_291 : decode cL_law 291 = .ok (.iconst 2, 1) := by decide +kernel
theorem dL_law_292 : decode cL_law 292 = .ok (.iadd, 1) := by decide +kernel
theorem dL_law_293 : decode cL_law 293 = .ok (.iaload, 1) := by decide +kernel
theorem dL_law_294 : decode cL_law 294 = .ok (.invokevirtual 31, 3) := by decide +kernel
theorem dL_law_297 : decode cL_law 297 = .ok (.if_icmp .eq 899, 3) := by decide +kernel
theorem dL_law_300 : decode cL_law 300 = .ok (.iconst 0, 1) := by decide +kernel
theorem dL_law_301 : decode cL_law 301 = .ok (.ireturn, 1) := by decide +kernel
theorem dL_law_302 : decode cL_law 302 = .ok (.aload_n 1, 1) := by decide +kernel
theorem dL_law_303 : decode cL_law 303 = .ok (.aload_n 0, 1) := by decide +kernel
theorem dL_law_304 : decode cL_law 304 = .ok (.iload_n 3, 1) := by decide +kernel
theorem dL_law_305 : decode cL_law 305 = .ok (.iconst 1, 1) := by decide +kernel
theorem dL_law_306 : decode cL_law 306 = .ok (.iadd, 1) := by decide +kernel
theorem dL_law_307 : decode cL_law 307 = .ok (.iaload, 1) := by decide +kernel
theorem dL_law_308 : decode cL_law 308 = .ok (.aload_n 0, 1) := by decide +kernel
theorem dL_law_309 : decode cL_law 309 = .ok (.iload_n 3, 1) := by decide +kernel
theorem dL_law_310 : decode cL_law 310 = .ok (.iconst 2, 1) := by decide +kernel
theorem dL_law_311 : decode cL_law 311 = .ok (.iadd, 1) := by decide +kernel
theorem dL_law_312 : decode cL_law 312 = .ok (.iaload, 1) := by decide +kernel
theorem dL_law_313 : decode cL_law 313 = .ok (.invokevirtual 32, 3) := by decide +kernel
theorem dL_law_316 : decode cL_law 316 = .ok (.aload_n 2, 1) := by decide +kernel
theorem dL_law_317 : decode cL_law 317 = .ok (.aload_n 0, 1) := by decide +kernel
theorem dL_law_318 : decode cL_law 318 = .ok (.iload_n 3, 1) := by decide +kernel
theorem dL_law_319 : decode cL_law 319 = .ok (.iconst 1, 1) := by decide +kernel
theorem dL_law_320 : decode cL_law 320 = .ok (.iadd, 1) := by decide +kernel
theorem dL_law_321 : decode cL_law 321 = .ok (.iaload, 1) := by decide +kernel
theorem dL_law_322 : decode cL_law 322 = .ok (.aload_n 0, 1) := by decide +kernel
theorem dL_law_323 : decode cL_law 323 = .ok (.iload_n 3, 1) := by decide +kernel
theorem dL_law_324 : decode cL_law 324 = .ok (.iconst 2, 1) := by decide +kernel
theorem dL_law_325 : decode cL_law 325 = .ok (.iadd, 1) := by decide +kernel
theorem dL_law_326 : decode cL_law 326 = .ok (.iaload, 1) := by decide +kernel
theorem dL_law_327 : decode cL_law 327 = .ok (.invokevirtual 35, 3) := by decide +kernel
theorem dL_law_330 : decode cL_law 330 = .ok (.if_icmp .eq 866, 3) := by decide +kernel
theorem dL_law_333 : decode cL_law 333 = .ok (.iconst 0, 1) := by decide +kernel
theorem dL_law_334 : decode cL_law 334 = .ok (.ireturn, 1) := by decide +kernel
theorem dL_law_335 : decode cL_law 335 = .ok (.aload_n 1, 1) := by decide +kernel
theorem dL_law_336 : decode cL_law 336 = .ok (.aload_n 0, 1) := by decide +kernel
theorem dL_law_337 : decode cL_law 337 = .ok (.iload_n 3, 1) := by decide +kernel
theorem dL_law_338 : decode cL_law 338 = .ok (.iconst 1, 1) := by decide +kernel
theorem dL_law_339 : decode cL_law 339 = .ok (.iadd, 1) := by decide +kernel
theorem dL_law_340 : decode cL_law 340 = .ok (.iaload, 1) := by decide +kernel
theorem dL_law_341 : decode cL_law 341 = .ok (.invokevirtual 36, 3) := by decide +kernel
theorem dL_law_344 : decode cL_law 344 = .ok (.aload_n 2, 1) := by decide +kernel
theorem dL_law_345 : decode cL_law 345 = .ok (.aload_n 0, 1) := by decide +kernel
theorem dL_law_346 : decode cL_law 346 = .ok (.iload_n 3, 1) := by decide +kernel
theorem dL_law_347 : decode cL_law 347 = .ok (.iconst 1, 1) := by decide +kernel
theorem dL_law_348 : decode cL_law 348 = .ok (.iadd, 1) := by decide +kernel
theorem dL_law_349 : decode cL_law 349 = .ok (.iaload, 1) := by decide +kernel
theorem dL_law_350 : decode cL_law 350 = .ok (.invokevirtual 39, 3) := by decide +kernel
theorem dL_law_353 : decode cL_law 353 = .ok (.if_icmp .eq 843, 3) := by decide +kernel
theorem dL_law_356 : decode cL_law 356 = .ok (.iconst 0, 1) := by decide +kernel
theorem dL_law_357 : decode cL_law 357 = .ok (.ireturn, 1) := by decide +kernel
theorem dL_law_358 : decode cL_law 358 = .ok (.aload_n 1, 1) := by decide +kernel
theorem dL_law_359 : decode cL_law 359 = .ok (.aload_n 0, 1) := by decide +kernel
theorem dL_law_360 : decode cL_law 360 = .ok (.iload_n 3, 1) := by decide +kernel
theorem dL_law_361 : decode cL_law 361 = .ok (.iconst 1, 1) := by decide +kernel
theorem dL_law_362 : decode cL_law 362 = .ok (.iadd, 1) := by decide +kernel
theorem dL_law_363 : decode cL_law 363 = .ok (.iaload, 1) := by decide +kernel
theorem dL_law_364 : decode cL_law 364 = .ok (.invokevirtual 40, 3) := by decide +kernel
theorem dL_law_367 : decode cL_law 367 = .ok (.aload_n 2, 1) := by decide +kernel
theorem dL_law_368 : decode cL_law 368 = .ok (.aload_n 0, 1) := by decide +kernel
theorem dL_law_369 : decode cL_law 369 = .ok (.iload_n 3, 1) := by decide +kernel
theorem dL_law_370 : decode cL_law 370 = .ok (.iconst 1, 1) := by decide +kernel
theorem dL_law_371 : decode cL_law 371 = .ok (.iadd, 1) := by decide +kernel
theorem dL_law_372 : decode cL_law 372 = .ok (.iaload, 1) := by decide +kernel
theorem dL_law_373 : decode cL_law 373 = .ok (.invokevirtual 43, 3) := by decide +kernel
theorem dL_law_376 : decode cL_law 376 = .ok (.if_icmp .eq 820, 3) := by decide +kernel
theorem dL_law_379 : decode cL_law 379 = .ok (.iconst 0, 1) := by decide +kernel
theorem dL_law_380 : decode cL_law 380 = .ok (.ireturn, 1) := by decide +kernel
theorem dL_law_381 : decode cL_law 381 = .ok (.aload_n 1, 1) := by decide +kernel
theorem dL_law_382 : decode cL_law 382 = .ok (.aload_n 0, 1) := by decide +kernel
theorem dL_law_383 : decode cL_law 383 = .ok (.iload_n 3, 1) := by decide +kernel
theorem dL_law_384 : decode cL_law 384 = .ok (.iconst 1, 1) := by decide +kernel
theorem dL_law_385 : decode cL_law 385 = .ok (.iadd, 1) := by decide +kernel
theorem dL_law_386 : decode cL_law 386 = .ok (.iaload, 1) := by decide +kernel
theorem dL_law_387 : decode cL_law 387 = .ok (.invokevirtual 44, 3) := by decide +kernel
theorem dL_law_390 : decode cL_law 390 = .ok (.aload_n 2, 1) := by decide +kernel
theorem dL_law_391 : decode cL_law 391 = .ok (.aload_n 0, 1) := by decide +kernel
theorem dL_law_392 : decode cL_law 392 = .ok (.iload_n 3, 1) := by decide +kernel
theorem dL_law_393 : decode cL_law 393 = .ok (.iconst 1, 1) := by decide +kernel
theorem dL_law_394 : decode cL_law 394 = .ok (.iadd, 1) := by decide +kernel
theorem dL_law_395 : decode cL_law 395 = .ok (.iaload, 1) := by decide +kernel
theorem dL_law_396 : decode cL_law 396 = .ok (.invokevirtual 47, 3) := by decide +kernel
theorem dL_law_399 : decode cL_law 399 = .ok (.if_icmp .eq 797, 3) := by decide +kernel
theorem dL_law_402 : decode cL_law 402 = .ok (.iconst 0, 1) := by decide +kernel
theorem dL_law_403 : decode cL_law 403 = .ok (.ireturn, 1) := by decide +kernel
theorem dL_law_404 : decode cL_law 404 = .ok (.aload_n 1, 1) := by decide +kernel
theorem dL_law_405 : decode cL_law 405 = .ok (.aload_n 0, 1) := by decide +kernel
theorem dL_law_406 : decode cL_law 406 = .ok (.iload_n 3, 1) := by decide +kernel
theorem dL_law_407 : decode cL_law 407 = .ok (.iconst 1, 1) := by decide +kernel
theorem dL_law_408 : decode cL_law 408 = .ok (.iadd, 1) := by decide +kernel
theorem dL_law_409 : decode cL_law 409 = .ok (.iaload, 1) := by decide +kernel
theorem dL_law_410 : decode cL_law 410 = .ok (.invokevirtual 48, 3) := by decide +kernel
theorem dL_law_413 : decode cL_law 413 = .ok (.aload_n 2, 1) := by decide +kernel
theorem dL_law_414 : decode cL_law 414 = .ok (.aload_n 0, 1) := by decide +kernel
theorem dL_law_415 : decode cL_law 415 = .ok (.iload_n 3, 1) := by decide +kernel
theorem dL_law_416 : decode cL_law 416 = .ok (.iconst 1, 1) := by decide +kernel
theorem dL_law_417 : decode cL_law 417 = .ok (.iadd, 1) := by decide +kernel
theorem dL_law_418 : decode cL_law 418 = .ok (.iaload, 1) := by decide +kernel
theorem dL_law_419 : decode cL_law 419 = .ok (.invokevirtual 51, 3) := by decide +kernel
theorem dL_law_422 : decode cL_law 422 = .ok (.if_icmp .eq 774, 3) := by decide +kernel
theorem dL_law_425 : decode cL_law 425 = .ok (.iconst 0, 1) := by decide +kernel
theorem dL_law_426 : decode cL_law 426 = .ok (.ireturn, 1) := by decide +kernel
theorem dL_law_427 : decode cL_law 427 = .ok (.aload_n 1, 1) := by decide +kernel
theorem dL_law_428 : decode cL_law 428 = .ok (.aload_n 0, 1) := by decide +kernel
theorem dL_law_429 : decode cL_law 429 = .ok (.iload_n 3, 1) := by decide +kernel
theorem dL_law_430 : decode cL_law 430 = .ok (.iconst 1, 1) := by decide +kernel
theorem dL_law_431 : decode cL_law 431 = .ok (.iadd, 1) := by decide +kernel
theorem dL_law_432 : decode cL_law 432 = .ok (.iaload, 1) := by decide +kernel
theorem dL_law_433 : decode cL_law 433 = .ok (.aload_n 0, 1) := by decide +kernel
theorem dL_law_434 : decode cL_law 434 = .ok (.iload_n 3, 1) := by decide +kernel
theorem dL_law_435 : decode cL_law 435 = .ok (.iconst 2, 1) := by decide +kernel
theorem dL_law_436 : decode cL_law 436 = .ok (.iadd, 1) := by decide +kernel
theorem dL_law_437 : decode cL_law 437 = .ok (.iaload, 1) := by decide +kernel
theorem dL_law_438 : decode cL_law 438 = .ok (.invokevirtual 52, 3) := by decide +kernel
theorem dL_law_441 : decode cL_law 441 = .ok (.aload_n 2, 1) := by decide +kernel
theorem dL_law_442 : decode cL_law 442 = .ok (.aload_n 0, 1) := by decide +kernel
theorem dL_law_443 : decode cL_law 443 = .ok (.iload_n 3, 1) := by decide +kernel
theorem dL_law_444 : decode cL_law 444 = .ok (.iconst 1, 1) := by decide +kernel
theorem dL_law_445 : decode cL_law 445 = .ok (.iadd, 1) := by decide +kernel
theorem dL_law_446 : decode cL_law 446 = .ok (.iaload, 1) := by decide +kernel
theorem dL_law_447 : decode cL_law 447 = .ok (.aload_n 0, 1) := by decide +kernel
theorem dL_law_448 : decode cL_law 448 = .ok (.iload_n 3, 1) := by decide +kernel
theorem dL_law_449 : decode cL_law 449 = .ok (.iconst 2, 1) := by decide +kernel
theorem dL_law_450 : decode cL_law 450 = .ok (.iadd, 1) := by decide +kernel
theorem dL_law_451 : decode cL_law 451 = .ok (.iaload, 1) := by decide +kernel
theorem dL_law_452 : decode cL_law 452 = .ok (.invokevirtual 55, 3) := by decide +kernel
theorem dL_law_455 : decode cL_law 455 = .ok (.if_icmp .eq 741, 3) := by decide +kernel
theorem dL_law_458 : decode cL_law 458 = .ok (.iconst 0, 1) := by decide +kernel
theorem dL_law_459 : decode cL_law 459 = .ok (.ireturn, 1) := by decide +kernel
theorem dL_law_460 : decode cL_law 460 = .ok (.aload_n 1, 1) := by decide +kernel
theorem dL_law_461 : decode cL_law 461 = .ok (.aload_n 0, 1) := by decide +kernel
theorem dL_law_462 : decode cL_law 462 = .ok (.iload_n 3, 1) := by decide +kernel
theorem dL_law_463 : decode cL_law 463 = .ok (.iconst 1, 1) := by decide +kernel
theorem dL_law_464 : decode cL_law 464 = .ok (.iadd, 1) := by decide +kernel
theorem dL_law_465 : decode cL_law 465 = .ok (.iaload, 1) := by decide +kernel
theorem dL_law_466 : decode cL_law 466 = .ok (.aload_n 0, 1) := by decide +kernel
theorem dL_law_467 : decode cL_law 467 = .ok (.iload_n 3, 1) := by decide +kernel
theorem dL_law_468 : decode cL_law 468 = .ok (.iconst 2, 1) := by decide +kernel
theorem dL_law_469 : decode cL_law 469 = .ok (.iadd, 1) := by decide +kernel
theorem dL_law_470 : decode cL_law 470 = .ok (.iaload, 1) := by decide +kernel
theorem dL_law_471 : decode cL_law 471 = .ok (.aload_n 0, 1) := by decide +kernel
theorem dL_law_472 : decode cL_law 472 = .ok (.iload_n 3, 1) := by decide +kernel
theorem dL_law_473 : decode cL_law 473 = .ok (.iconst 3, 1) := by decide +kernel
theorem dL_law_474 : decode cL_law 474 = .ok (.iadd, 1) := by decide +kernel
theorem dL_law_475 : decode cL_law 475 = .ok (.iaload, 1) := by decide +kernel
theorem dL_law_476 : decode cL_law 476 = .ok (.invokevirtual 56, 3) := by decide +kernel
theorem dL_law_479 : decode cL_law 479 = .ok (.aload_n 2, 1) := by decide +kernel
theorem dL_law_480 : decode cL_law 480 = .ok (.aload_n 0, 1) := by decide +kernel
theorem dL_law_481 : decode cL_law 481 = .ok (.iload_n 3, 1) := by decide +kernel
theorem dL_law_482 : decode cL_law 482 = .ok (.iconst 1, 1) := by decide +kernel
theorem dL_law_483 : decode cL_law 483 = .ok (.iadd, 1) := by decide +kernel
theorem dL_law_484 : decode cL_law 484 = .ok (.iaload, 1) := by decide +kernel
theorem dL_law_485 : decode cL_law 485 = .ok (.aload_n 0, 1) := by decide +kernel
theorem dL_law_486 : decode cL_law 486 = .ok (.iload_n 3, 1) := by decide +kernel
theorem dL_law_487 : decode cL_law 487 = .ok (.iconst 2, 1) := by decide +kernel
theorem dL_law_488 : decode cL_law 488 = .ok (.iadd, 1) := by decide +kernel
theorem dL_law_489 : decode cL_law 489 = .ok (.iaload, 1) := by decide +kernel
theorem dL_law_490 : decode cL_law 490 = .ok (.aload_n 0, 1) := by decide +kernel
theorem dL_law_491 : decode cL_law 491 = .ok (.iload_n 3, 1) := by decide +kernel
theorem dL_law_492 : decode cL_law 492 = .ok (.iconst 3, 1) := by decide +kernel
theorem dL_law_493 : decode cL_law 493 = .ok (.iadd, 1) := by decide +kernel
theorem dL_law_494 : decode cL_law 494 = .ok (.iaload, 1) := by decide +kernel
theorem dL_law_495 : decode cL_law 495 = .ok (.invokevirtual 60, 3) := by decide +kernel
theorem dL_law_498 : decode cL_law 498 = .ok (.if_icmp .eq 698, 3) := by decide +kernel
theorem dL_law_501 : decode cL_law 501 = .ok (.iconst 0, 1) := by decide +kernel
theorem dL_law_502 : decode cL_law 502 = .ok (.ireturn, 1) := by decide +kernel
theorem dL_law_503 : decode cL_law 503 = .ok (.aload_n 1, 1) := by decide +kernel
theorem dL_law_504 : decode cL_law 504 = .ok (.aload_n 0, 1) := by decide +kernel
theorem dL_law_505 : decode cL_law 505 = .ok (.iload_n 3, 1) := by decide +kernel
theorem dL_law_506 : decode cL_law 506 = .ok (.iconst 1, 1) := by decide +kernel
theorem dL_law_507 : decode cL_law 507 = .ok (.iadd, 1) := by decide +kernel
theorem dL_law_508 : decode cL_law 508 = .ok (.iaload, 1) := by decide +kernel
theorem dL_law_509 : decode cL_law 509 = .ok (.invokevirtual 61, 3) := by decide +kernel
theorem dL_law_512 : decode cL_law 512 = .ok (.aload_n 2, 1) := by decide +kernel
theorem dL_law_513 : decode cL_law 513 = .ok (.aload_n 0, 1) := by decide +kernel
theorem dL_law_514 : decode cL_law 514 = .ok (.iload_n 3, 1) := by decide +kernel
theorem dL_law_515 : decode cL_law 515 = .ok (.iconst 1, 1) := by decide +kernel
theorem dL_law_516 : decode cL_law 516 = .ok (.iadd, 1) := by decide +kernel
theorem dL_law_517 : decode cL_law 517 = .ok (.iaload, 1) := by decide +kernel
theorem dL_law_518 : decode cL_law 518 = .ok (.invokevirtual 64, 3) := by decide +kernel
theorem dL_law_521 : decode cL_law 521 = .ok (.if_icmp .eq 675, 3) := by decide +kernel
theorem dL_law_524 : decode cL_law 524 = .ok (.iconst 0, 1) := by decide +kernel
theorem dL_law_525 : decode cL_law 525 = .ok (.ireturn, 1) := by decide +kernel
theorem dL_law_526 : decode cL_law 526 = .ok (.aload_n 1, 1) := by decide +kernel
theorem dL_law_527 : decode cL_law 527 = .ok (.aload_n 0, 1) := by decide +kernel
theorem dL_law_528 : decode cL_law 528 = .ok (.iload_n 3, 1) := by decide +kernel
theorem dL_law_529 : decode cL_law 529 = .ok (.iconst 1, 1) := by decide +kernel
theorem dL_law_530 : decode cL_law 530 = .ok (.iadd, 1) := by decide +kernel
theorem dL_law_531 : decode cL_law 531 = .ok (.iaload, 1) := by decide +kernel
theorem dL_law_532 : decode cL_law 532 = .ok (.aload_n 0, 1) := by decide +kernel
theorem dL_law_533 : decode cL_law 533 = .ok (.iload_n 3, 1) := by decide +kernel
theorem dL_law_534 : decode cL_law 534 = .ok (.iconst 2, 1) := by decide +kernel
theorem dL_law_535 : decode cL_law 535 = .ok (.iadd, 1) := by decide +kernel
theorem dL_law_536 : decode cL_law 536 = .ok (.iaload, 1) := by decide +kernel
theorem dL_law_537 : decode cL_law 537 = .ok (.invokevirtual 65, 3) := by decide +kernel
theorem dL_law_540 : decode cL_law 540 = .ok (.aload_n 2, 1) := by decide +kernel
theorem dL_law_541 : decode cL_law 541 = .ok (.aload_n 0, 1) := by decide +kernel
theorem dL_law_542 : decode cL_law 542 = .ok (.iload_n 3, 1) := by decide +kernel
theorem dL_law_543 : decode cL_law 543 = .ok (.iconst 1, 1) := by decide +kernel
theorem dL_law_544 : decode cL_law 544 = .ok (.iadd, 1) := by decide +kernel
theorem dL_law_545 : decode cL_law 545 = .ok (.iaload, 1) := by decide +kernel
theorem dL_law_546 : decode cL_law 546 = .ok (.aload_n 0, 1) := by decide +kernel
theorem dL_law_547 : decode cL_law 547 = .ok (.iload_n 3, 1) := by decide +kernel
theorem dL_law_548 : decode cL_law 548 = .ok (.iconst 2, 1) := by decide +kernel
theorem dL_law_549 : decode cL_law 549 = .ok (.iadd, 1) := by decide +kernel
theorem dL_law_550 : decode cL_law 550 = .ok (.iaload, 1) := by decide +kernel
theorem dL_law_551 : decode cL_law 551 = .ok (.invokevirtual 68, 3) := by decide +kernel
theorem dL_law_554 : decode cL_law 554 = .ok (.if_icmp .eq 642, 3) := by decide +kernel
theorem dL_law_557 : decode cL_law 557 = .ok (.iconst 0, 1) := by decide +kernel
theorem dL_law_558 : decode cL_law 558 = .ok (.ireturn, 1) := by decide +kernel
theorem dL_law_559 : decode cL_law 559 = .ok (.aload_n 1, 1) := by decide +kernel
theorem dL_law_560 : decode cL_law 560 = .ok (.aload_n 0, 1) := by decide +kernel
theorem dL_law_561 : decode cL_law 561 = .ok (.iload_n 3, 1) := by decide +kernel
theorem dL_law_562 : decode cL_law 562 = .ok (.iconst 1, 1) := by decide +kernel
theorem dL_law_563 : decode cL_law 563 = .ok (.iadd, 1) := by decide +kernel
theorem dL_law_564 : decode cL_law 564 = .ok (.iaload, 1) := by decide +kernel
theorem dL_law_565 : decode cL_law 565 = .ok (.aload_n 0, 1) := by decide +kernel
theorem dL_law_566 : decode cL_law 566 = .ok (.iload_n 3, 1) := by decide +kernel
theorem dL_law_567 : decode cL_law 567 = .ok (.iconst 2, 1) := by decide +kernel
theorem dL_law_568 : decode cL_law 568 = .ok (.iadd, 1) := by decide +kernel
theorem dL_law_569 : decode cL_law 569 = .ok (.iaload, 1) := by decide +kernel
theorem dL_law_570 : decode cL_law 570 = .ok (.invokevirtual 69, 3) := by decide +kernel
theorem dL_law_573 : decode cL_law 573 = .ok (.aload_n 2, 1) := by decide +kernel
theorem dL_law_574 : decode cL_law 574 = .ok (.aload_n 0, 1) := by decide +kernel
theorem dL_law_575 : decode cL_law 575 = .ok (.iload_n 3, 1) := by decide +kernel
theorem dL_law_576 : decode cL_law 576 = .ok (.iconst 1, 1) := by decide +kernel
theorem dL_law_577 : decode cL_law 577 = .ok (.iadd, 1) := by decide +kernel
theorem dL_law_578 : decode cL_law 578 = .ok (.iaload, 1) := by decide +kernel
theorem dL_law_579 : decode cL_law 579 = .ok (.aload_n 0, 1) := by decide +kernel
theorem dL_law_580 : decode cL_law 580 = .ok (.iload_n 3, 1) := by decide +kernel
theorem dL_law_581 : decode cL_law 581 = .ok (.iconst 2, 1) := by decide +kernel
theorem dL_law_582 : decode cL_law 582 = .ok (.iadd, 1) := by decide +kernel
theorem dL_law_583 : decode cL_law 583 = .ok (.iaload, 1) := by decide +kernel
theorem dL_law_584 : decode cL_law 584 = .ok (.invokevirtual 72, 3) := by decide +kernel
theorem dL_law_587 : decode cL_law 587 = .ok (.if_icmp .eq 609, 3) := by decide +kernel
theorem dL_law_590 : decode cL_law 590 = .ok (.iconst 0, 1) := by decide +kernel
theorem dL_law_591 : decode cL_law 591 = .ok (.ireturn, 1) := by decide +kernel
theorem dL_law_592 : decode cL_law 592 = .ok (.aload_n 1, 1) := by decide +kernel
theorem dL_law_593 : decode cL_law 593 = .ok (.aload_n 0, 1) := by decide +kernel
theorem dL_law_594 : decode cL_law 594 = .ok (.iload_n 3, 1) := by decide +kernel
theorem dL_law_595 : decode cL_law 595 = .ok (.iconst 1, 1) := by decide +kernel
theorem dL_law_596 : decode cL_law 596 = .ok (.iadd, 1) := by decide +kernel
theorem dL_law_597 : decode cL_law 597 = .ok (.iaload, 1) := by decide +kernel
theorem dL_law_598 : decode cL_law 598 = .ok (.invokevirtual 73, 3) := by decide +kernel
theorem dL_law_601 : decode cL_law 601 = .ok (.aload_n 2, 1) := by decide +kernel
theorem dL_law_602 : decode cL_law 602 = .ok (.aload_n 0, 1) := by decide +kernel
theorem dL_law_603 : decode cL_law 603 = .ok (.iload_n 3, 1) := by decide +kernel
theorem dL_law_604 : decode cL_law 604 = .ok (.iconst 1, 1) := by decide +kernel
theorem dL_law_605 : decode cL_law 605 = .ok (.iadd, 1) := by decide +kernel
theorem dL_law_606 : decode cL_law 606 = .ok (.iaload, 1) := by decide +kernel
theorem dL_law_607 : decode cL_law 607 = .ok (.invokevirtual 76, 3) := by decide +kernel
theorem dL_law_610 : decode cL_law 610 = .ok (.if_icmp .eq 586, 3) := by decide +kernel
theorem dL_law_613 : decode cL_law 613 = .ok (.iconst 0, 1) := by decide +kernel
theorem dL_law_614 : decode cL_law 614 = .ok (.ireturn, 1) := by decide +kernel
theorem dL_law_615 : decode cL_law 615 = .ok (.aload_n 1, 1) := by decide +kernel
theorem dL_law_616 : decode cL_law 616 = .ok (.aload_n 0, 1) := by decide +kernel
theorem dL_law_617 : decode cL_law 617 = .ok (.iload_n 3, 1) := by decide +kernel
theorem dL_law_618 : decode cL_law 618 = .ok (.iconst 1, 1) := by decide +kernel
theorem dL_law_619 : decode cL_law 619 = .ok (.iadd, 1) := by decide +kernel
theorem dL_law_620 : decode cL_law 620 = .ok (.iaload, 1) := by decide +kernel
theorem dL_law_621 : decode cL_law 621 = .ok (.invokevirtual 77, 3) := by decide +kernel
theorem dL_law_624 : decode cL_law 624 = .ok (.aload_n 2, 1) := by decide +kernel
theorem dL_law_625 : decode cL_law 625 = .ok (.aload_n 0, 1) := by decide +kernel
theorem dL_law_626 : decode cL_law 626 = .ok (.iload_n 3, 1) := by decide +kernel
theorem dL_law_627 : decode cL_law 627 = .ok (.iconst 1, 1) := by decide +kernel
theorem dL_law_628 : decode cL_law 628 = .ok (.iadd, 1) := by decide +kernel
theorem dL_law_629 : decode cL_law 629 = .ok (.iaload, 1) := by decide +kernel
theorem dL_law_630 : decode cL_law 630 = .ok (.invokevirtual 80, 3) := by decide +kernel
theorem dL_law_633 : decode cL_law 633 = .ok (.if_icmp .eq 563, 3) := by decide +kernel
theorem dL_law_636 : decode cL_law 636 = .ok (.iconst 0, 1) := by decide +kernel
theorem dL_law_637 : decode cL_law 637 = .ok (.ireturn, 1) := by decide +kernel
theorem dL_law_638 : decode cL_law 638 = .ok (.aload_n 1, 1) := by decide +kernel
theorem dL_law_639 : decode cL_law 639 = .ok (.aload_n 0, 1) := by decide +kernel
theorem dL_law_640 : decode cL_law 640 = .ok (.iload_n 3, 1) := by decide +kernel
theorem dL_law_641 : decode cL_law 641 = .ok (.iconst 1, 1) := by decide +kernel
theorem dL_law_642 : decode cL_law 642 = .ok (.iadd, 1) := by decide +kernel
theorem dL_law_643 : decode cL_law 643 = .ok (.iaload, 1) := by decide +kernel
theorem dL_law_644 : decode cL_law 644 = .ok (.aload_n 0, 1) := by decide +kernel
theorem dL_law_645 : decode cL_law 645 = .ok (.iload_n 3, 1) := by decide +kernel
theorem dL_law_646 : decode cL_law 646 = .ok (.iconst 2, 1) := by decide +kernel
theorem dL_law_647 : decode cL_law 647 = .ok (.iadd, 1) := by decide +kernel
theorem dL_law_648 : decode cL_law 648 = .ok (.iaload, 1) := by decide +kernel
theorem dL_law_649 : decode cL_law 649 = .ok (.invokevirtual 81, 3) := by decide +kernel
theorem dL_law_652 : decode cL_law 652 = .ok (.aload_n 2, 1) := by decide +kernel
theorem dL_law_653 : decode cL_law 653 = .ok (.aload_n 0, 1) := by decide +kernel
theorem dL_law_654 : decode cL_law 654 = .ok (.iload_n 3, 1) := by decide +kernel
theorem dL_law_655 : decode cL_law 655 = .ok (.iconst 1, 1) := by decide +kernel
theorem dL_law_656 : decode cL_law 656 = .ok (.iadd, 1) := by decide +kernel
theorem dL_law_657 : decode cL_law 657 = .ok (.iaload, 1) := by decide +kernel
theorem dL_law_658 : decode cL_law 658 = .ok (.aload_n 0, 1) := by decide +kernel
theorem dL_law_659 : decode cL_law 659 = .ok (.iload_n 3, 1) := by decide +kernel
theorem dL_law_660 : decode cL_law 660 = .ok (.iconst 2, 1) := by decide +kernel
theorem dL_law_661 : decode cL_law 661 = .ok (.iadd, 1) := by decide +kernel
theorem dL_law_662 : decode cL_law 662 = .ok (.iaload, 1) := by decide +kernel
theorem dL_law_663 : decode cL_law 663 = .ok (.invokevirtual 84, 3) := by decide +kernel
theorem dL_law_666 : decode cL_law 666 = .ok (.if_icmp .eq 530, 3) := by decide +kernel
theorem dL_law_669 : decode cL_law 669 = .ok (.iconst 0, 1) := by decide +kernel
theorem dL_law_670 : decode cL_law 670 = .ok (.ireturn, 1) := by decide +kernel
theorem dL_law_671 : decode cL_law 671 = .ok (.aload_n 1, 1) := by decide +kernel
theorem dL_law_672 : decode cL_law 672 = .ok (.aload_n 0, 1) := by decide +kernel
theorem dL_law_673 : decode cL_law 673 = .ok (.iload_n 3, 1) := by decide +kernel
theorem dL_law_674 : decode cL_law 674 = .ok (.iconst 1, 1) := by decide +kernel
theorem dL_law_675 : decode cL_law 675 = .ok (.iadd, 1) := by decide +kernel
theorem dL_law_676 : decode cL_law 676 = .ok (.iaload, 1) := by decide +kernel
theorem dL_law_677 : decode cL_law 677 = .ok (.aload_n 0, 1) := by decide +kernel
theorem dL_law_678 : decode cL_law 678 = .ok (.iload_n 3, 1) := by decide +kernel
theorem dL_law_679 : decode cL_law 679 = .ok (.iconst 2, 1) := by decide +kernel
theorem dL_law_680 : decode cL_law 680 = .ok (.iadd, 1) := by decide +kernel
theorem dL_law_681 : decode cL_law 681 = .ok (.iaload, 1) := by decide +kernel
theorem dL_law_682 : decode cL_law 682 = .ok (.invokevirtual 85, 3) := by decide +kernel
theorem dL_law_685 : decode cL_law 685 = .ok (.aload_n 2, 1) := by decide +kernel
theorem dL_law_686 : decode cL_law 686 = .ok (.aload_n 0, 1) := by decide +kernel
theorem dL_law_687 : decode cL_law 687 = .ok (.iload_n 3, 1) := by decide +kernel
theorem dL_law_688 : decode cL_law 688 = .ok (.iconst 1, 1) := by decide +kernel
theorem dL_law_689 : decode cL_law 689 = .ok (.iadd, 1) := by decide +kernel
theorem dL_law_690 : decode cL_law 690 = .ok (.iaload, 1) := by decide +kernel
theorem dL_law_691 : decode cL_law 691 = .ok (.aload_n 0, 1) := by decide +kernel
theorem dL_law_692 : decode cL_law 692 = .ok (.iload_n 3, 1) := by decide +kernel
theorem dL_law_693 : decode cL_law 693 = .ok (.iconst 2, 1) := by decide +kernel
theorem dL_law_694 : decode cL_law 694 = .ok (.iadd, 1) := by decide +kernel
theorem dL_law_695 : decode cL_law 695 = .ok (.iaload, 1) := by decide +kernel
theorem dL_law_696 : decode cL_law 696 = .ok (.invokevirtual 88, 3) := by decide +kernel
theorem dL_law_699 : decode cL_law 699 = .ok (.if_icmp .eq 497, 3) := by decide +kernel
theorem dL_law_702 : decode cL_law 702 = .ok (.iconst 0, 1) := by decide +kernel
theorem dL_law_703 : decode cL_law 703 = .ok (.ireturn, 1) := by decide +kernel
theorem dL_law_704 : decode cL_law 704 = .ok (.aload_n 1, 1) := by decide +kernel
theorem dL_law_705 : decode cL_law 705 = .ok (.aload_n 0, 1) := by decide +kernel
theorem dL_law_706 : decode cL_law 706 = .ok (.iload_n 3, 1) := by decide +kernel
theorem dL_law_707 : decode cL_law 707 = .ok (.iconst 1, 1) := by decide +kernel
theorem dL_law_708 : decode cL_law 708 = .ok (.iadd, 1) := by decide +kernel
theorem dL_law_709 : decode cL_law 709 = .ok (.iaload, 1) := by decide +kernel
theorem dL_law_710 : decode cL_law 710 = .ok (.aload_n 0, 1) := by decide +kernel
theorem dL_law_711 : decode cL_law 711 = .ok (.iload_n 3, 1) := by decide +kernel
theorem dL_law_712 : decode cL_law 712 = .ok (.iconst 2, 1) := by decide +kernel
theorem dL_law_713 : decode cL_law 713 = .ok (.iadd, 1) := by decide +kernel
theorem dL_law_714 : decode cL_law 714 = .ok (.iaload, 1) := by decide +kernel
theorem dL_law_715 : decode cL_law 715 = .ok (.aload_n 0, 1) := by decide +kernel
theorem dL_law_716 : decode cL_law 716 = .ok (.iload_n 3, 1) := by decide +kernel
theorem dL_law_717 : decode cL_law 717 = .ok (.iconst 3, 1) := by decide +kernel
theorem dL_law_718 : decode cL_law 718 = .ok (.iadd, 1) := by decide +kernel
theorem dL_law_719 : decode cL_law 719 = .ok (.iaload, 1) := by decide +kernel
theorem dL_law_720 : decode cL_law 720 = .ok (.invokevirtual 89, 3) := by decide +kernel
theorem dL_law_723 : decode cL_law 723 = .ok (.aload_n 2, 1) := by decide +kernel
theorem dL_law_724 : decode cL_law 724 = .ok (.aload_n 0, 1) := by decide +kernel
theorem dL_law_725 : decode cL_law 725 = .ok (.iload_n 3, 1) := by decide +kernel
theorem dL_law_726 : decode cL_law 726 = .ok (.iconst 1, 1) := by decide +kernel
theorem dL_law_727 : decode cL_law 727 = .ok (.iadd, 1) := by decide +kernel
theorem dL_law_728 : decode cL_law 728 = .ok (.iaload, 1) := by decide +kernel
theorem dL_law_729 : decode cL_law 729 = .ok (.aload_n 0, 1) := by decide +kernel
theorem dL_law_730 : decode cL_law 730 = .ok (.iload_n 3, 1) := by decide +kernel
theorem dL_law_731 : decode cL_law 731 = .ok (.iconst 2, 1) := by decide +kernel
theorem dL_law_732 : decode cL_law 732 = .ok (.iadd, 1) := by decide +kernel
theorem dL_law_733 : decode cL_law 733 = .ok (.iaload, 1) := by decide +kernel
theorem dL_law_734 : decode cL_law 734 = .ok (.aload_n 0, 1) := by decide +kernel
theorem dL_law_735 : decode cL_law 735 = .ok (.iload_n 3, 1) := by decide +kernel
theorem dL_law_736 : decode cL_law 736 = .ok (.iconst 3, 1) := by decide +kernel
theorem dL_law_737 : decode cL_law 737 = .ok (.iadd, 1) := by decide +kernel
theorem dL_law_738 : decode cL_law 738 = .ok (.iaload, 1) := by decide +kernel
theorem dL_law_739 : decode cL_law 739 = .ok (.invokevirtual 92, 3) := by decide +kernel
theorem dL_law_742 : decode cL_law 742 = .ok (.if_icmp .eq 454, 3) := by decide +kernel
theorem dL_law_745 : decode cL_law 745 = .ok (.iconst 0, 1) := by decide +kernel
theorem dL_law_746 : decode cL_law 746 = .ok (.ireturn, 1) := by decide +kernel
theorem dL_law_747 : decode cL_law 747 = .ok (.aload_n 1, 1) := by decide +kernel
theorem dL_law_748 : decode cL_law 748 = .ok (.aload_n 0, 1) := by decide +kernel
theorem dL_law_749 : decode cL_law 749 = .ok (.iload_n 3, 1) := by decide +kernel
theorem dL_law_750 : decode cL_law 750 = .ok (.iconst 1, 1) := by decide +kernel
theorem dL_law_751 : decode cL_law 751 = .ok (.iadd, 1) := by decide +kernel
theorem dL_law_752 : decode cL_law 752 = .ok (.iaload, 1) := by decide +kernel
theorem dL_law_753 : decode cL_law 753 = .ok (.invokevirtual 93, 3) := by decide +kernel
theorem dL_law_756 : decode cL_law 756 = .ok (.aload_n 2, 1) := by decide +kernel
theorem dL_law_757 : decode cL_law 757 = .ok (.aload_n 0, 1) := by decide +kernel
theorem dL_law_758 : decode cL_law 758 = .ok (.iload_n 3, 1) := by decide +kernel
theorem dL_law_759 : decode cL_law 759 = .ok (.iconst 1, 1) := by decide +kernel
theorem dL_law_760 : decode cL_law 760 = .ok (.iadd, 1) := by decide +kernel
theorem dL_law_761 : decode cL_law 761 = .ok (.iaload, 1) := by decide +kernel
theorem dL_law_762 : decode cL_law 762 = .ok (.invokevirtual 96, 3) := by decide +kernel
theorem dL_law_765 : decode cL_law 765 = .ok (.if_icmp .eq 431, 3) := by decide +kernel
theorem dL_law_768 : decode cL_law 768 = .ok (.iconst 0, 1) := by decide +kernel
theorem dL_law_769 : decode cL_law 769 = .ok (.ireturn, 1) := by decide +kernel
theorem dL_law_770 : decode cL_law 770 = .ok (.aload_n 1, 1) := by decide +kernel
theorem dL_law_771 : decode cL_law 771 = .ok (.aload_n 0, 1) := by decide +kernel
theorem dL_law_772 : decode cL_law 772 = .ok (.iload_n 3, 1) := by decide +kernel
theorem dL_law_773 : decode cL_law 773 = .ok (.iconst 1, 1) := by decide +kernel
theorem dL_law_774 : decode cL_law 774 = .ok (.iadd, 1) := by decide +kernel
theorem dL_law_775 : decode cL_law 775 = .ok (.iaload, 1) := by decide +kernel
theorem dL_law_776 : decode cL_law 776 = .ok (.invokevirtual 97, 3) := by decide +kernel
theorem dL_law_779 : decode cL_law 779 = .ok (.aload_n 2, 1) := by decide +kernel
theorem dL_law_780 : decode cL_law 780 = .ok (.aload_n 0, 1) := by decide +kernel
theorem dL_law_781 : decode cL_law 781 = .ok (.iload_n 3, 1) := by decide +kernel
theorem dL_law_782 : decode cL_law 782 = .ok (.iconst 1, 1) := by decide +kernel
theorem dL_law_783 : decode cL_law 783 = .ok (.iadd, 1) := by decide +kernel
theorem dL_law_784 : decode cL_law 784 = .ok (.iaload, 1) := by decide +kernel
theorem dL_law_785 : decode cL_law 785 = .ok (.invokevirtual 100, 3) := by decide +kernel
theorem dL_law_788 : decode cL_law 788 = .ok (.if_icmp .eq 408, 3) := by decide +kernel
theorem dL_law_791 : decode cL_law 791 = .ok (.iconst 0, 1) := by decide +kernel
theorem dL_law_792 : decode cL_law 792 = .ok (.ireturn, 1) := by decide +kernel
theorem dL_law_793 : decode cL_law 793 = .ok (.aload_n 1, 1) := by decide +kernel
theorem dL_law_794 : decode cL_law 794 = .ok (.aload_n 0, 1) := by decide +kernel
theorem dL_law_795 : decode cL_law 795 = .ok (.iload_n 3, 1) := by decide +kernel
theorem dL_law_796 : decode cL_law 796 = .ok (.iconst 1, 1) := by decide +kernel
theorem dL_law_797 : decode cL_law 797 = .ok (.iadd, 1) := by decide +kernel
theorem dL_law_798 : decode cL_law 798 = .ok (.iaload, 1) := by decide +kernel
theorem dL_law_799 : decode cL_law 799 = .ok (.invokevirtual 101, 3) := by decide +kernel
theorem dL_law_802 : decode cL_law 802 = .ok (.aload_n 2, 1) := by decide +kernel
theorem dL_law_803 : decode cL_law 803 = .ok (.aload_n 0, 1) := by decide +kernel
theorem dL_law_804 : decode cL_law 804 = .ok (.iload_n 3, 1) := by decide +kernel
theorem dL_law_805 : decode cL_law 805 = .ok (.iconst 1, 1) := by decide +kernel
theorem dL_law_806 : decode cL_law 806 = .ok (.iadd, 1) := by decide +kernel
theorem dL_law_807 : decode cL_law 807 = .ok (.iaload, 1) := by decide +kernel
theorem dL_law_808 : decode cL_law 808 = .ok (.invokevirtual 104, 3) := by decide +kernel
theorem dL_law_811 : decode cL_law 811 = .ok (.if_icmp .eq 385, 3) := by decide +kernel
theorem dL_law_814 : decode cL_law 814 = .ok (.iconst 0, 1) := by decide +kernel
theorem dL_law_815 : decode cL_law 815 = .ok (.ireturn, 1) := by decide +kernel
theorem dL_law_816 : decode cL_law 816 = .ok (.aload_n 1, 1) := by decide +kernel
theorem dL_law_817 : decode cL_law 817 = .ok (.aload_n 0, 1) := by decide +kernel
theorem dL_law_818 : decode cL_law 818 = .ok (.iload_n 3, 1) := by decide +kernel
theorem dL_law_819 : decode cL_law 819 = .ok (.iconst 1, 1) := by decide +kernel
theorem dL_law_820 : decode cL_law 820 = .ok (.iadd, 1) := by decide +kernel
theorem dL_law_821 : decode cL_law 821 = .ok (.iaload, 1) := by decide +kernel
theorem dL_law_822 : decode cL_law 822 = .ok (.invokevirtual 105, 3) := by decide +kernel
theorem dL_law_825 : decode cL_law 825 = .ok (.aload_n 2, 1) := by decide +kernel
theorem dL_law_826 : decode cL_law 826 = .ok (.aload_n 0, 1) := by decide +kernel
theorem dL_law_827 : decode cL_law 827 = .ok (.iload_n 3, 1) := by decide +kernel
theorem dL_law_828 : decode cL_law 828 = .ok (.iconst 1, 1) := by decide +kernel
theorem dL_law_829 : decode cL_law 829 = .ok (.iadd, 1) := by decide +kernel
theorem dL_law_830 : decode cL_law 830 = .ok (.iaload, 1) := by decide +kernel
theorem dL_law_831 : decode cL_law 831 = .ok (.invokevirtual 108, 3) := by decide +kernel
theorem dL_law_834 : decode cL_law 834 = .ok (.if_icmp .eq 362, 3) := by decide +kernel
theorem dL_law_837 : decode cL_law 837 = .ok (.iconst 0, 1) := by decide +kernel
theorem dL_law_838 : decode cL_law 838 = .ok (.ireturn, 1) := by decide +kernel
theorem dL_law_839 : decode cL_law 839 = .ok (.aload_n 1, 1) := by decide +kernel
theorem dL_law_840 : decode cL_law 840 = .ok (.aload_n 0, 1) := by decide +kernel
theorem dL_law_841 : decode cL_law 841 = .ok (.iload_n 3, 1) := by decide +kernel
theorem dL_law_842 : decode cL_law 842 = .ok (.iconst 1, 1) := by decide +kernel
theorem dL_law_843 : decode cL_law 843 = .ok (.iadd, 1) := by decide +kernel
theorem dL_law_844 : decode cL_law 844 = .ok (.iaload, 1) := by decide +kernel
theorem dL_law_845 : decode cL_law 845 = .ok (.invokevirtual 109, 3) := by decide +kernel
theorem dL_law_848 : decode cL_law 848 = .ok (.aload_n 2, 1) := by decide +kernel
theorem dL_law_849 : decode cL_law 849 = .ok (.aload_n 0, 1) := by decide +kernel
theorem dL_law_850 : decode cL_law 850 = .ok (.iload_n 3, 1) := by decide +kernel
theorem dL_law_851 : decode cL_law 851 = .ok (.iconst 1, 1) := by decide +kernel
theorem dL_law_852 : decode cL_law 852 = .ok (.iadd, 1) := by decide +kernel
theorem dL_law_853 : decode cL_law 853 = .ok (.iaload, 1) := by decide +kernel
theorem dL_law_854 : decode cL_law 854 = .ok (.invokevirtual 112, 3) := by decide +kernel
theorem dL_law_857 : decode cL_law 857 = .ok (.if_icmp .eq 339, 3) := by decide +kernel
theorem dL_law_860 : decode cL_law 860 = .ok (.iconst 0, 1) := by decide +kernel
theorem dL_law_861 : decode cL_law 861 = .ok (.ireturn, 1) := by decide +kernel
theorem dL_law_862 : decode cL_law 862 = .ok (.aload_n 1, 1) := by decide +kernel
theorem dL_law_863 : decode cL_law 863 = .ok (.invokevirtual 113, 3) := by decide +kernel
theorem dL_law_866 : decode cL_law 866 = .ok (.aload_n 2, 1) := by decide +kernel
theorem dL_law_867 : decode cL_law 867 = .ok (.invokevirtual 116, 3) := by decide +kernel
theorem dL_law_870 : decode cL_law 870 = .ok (.if_icmp .eq 326, 3) := by decide +kernel
theorem dL_law_873 : decode cL_law 873 = .ok (.iconst 0, 1) := by decide +kernel
theorem dL_law_874 : decode cL_law 874 = .ok (.ireturn, 1) := by decide +kernel
theorem dL_law_875 : decode cL_law 875 = .ok (.aload_n 1, 1) := by decide +kernel
theorem dL_law_876 : decode cL_law 876 = .ok (.invokevirtual 117, 3) := by decide +kernel
theorem dL_law_879 : decode cL_law 879 = .ok (.aload_n 2, 1) := by decide +kernel
theorem dL_law_880 : decode cL_law 880 = .ok (.invokevirtual 120, 3) := by decide +kernel
theorem dL_law_883 : decode cL_law 883 = .ok (.if_icmp .eq 313, 3) := by decide +kernel
theorem dL_law_886 : decode cL_law 886 = .ok (.iconst 0, 1) := by decide +kernel
theorem dL_law_887 : decode cL_law 887 = .ok (.ireturn, 1) := by decide +kernel
theorem dL_law_888 : decode cL_law 888 = .ok (.aload_n 1, 1) := by decide +kernel
theorem dL_law_889 : decode cL_law 889 = .ok (.invokevirtual 121, 3) := by decide +kernel
theorem dL_law_892 : decode cL_law 892 = .ok (.aload_n 2, 1) := by decide +kernel
theorem dL_law_893 : decode cL_law 893 = .ok (.invokevirtual 124, 3) := by decide +kernel
theorem dL_law_896 : decode cL_law 896 = .ok (.if_icmp .eq 300, 3) := by decide +kernel
theorem dL_law_899 : decode cL_law 899 = .ok (.iconst 0, 1) := by decide +kernel
theorem dL_law_900 : decode cL_law 900 = .ok (.ireturn, 1) := by decide +kernel
theorem dL_law_901 : decode cL_law 901 = .ok (.aload_n 1, 1) := by decide +kernel
theorem dL_law_902 : decode cL_law 902 = .ok (.aload_n 0, 1) := by decide +kernel
theorem dL_law_903 : decode cL_law 903 = .ok (.iload_n 3, 1) := by decide +kernel
theorem dL_law_904 : decode cL_law 904 = .ok (.iconst 1, 1) := by decide +kernel
theorem dL_law_905 : decode cL_law 905 = .ok (.iadd, 1) := by decide +kernel
theorem dL_law_906 : decode cL_law 906 = .ok (.iaload, 1) := by decide +kernel
theorem dL_law_907 : decode cL_law 907 = .ok (.aload_n 0, 1) := by decide +kernel
theorem dL_law_908 : decode cL_law 908 = .ok (.iload_n 3, 1) := by decide +kernel
theorem dL_law_909 : decode cL_law 909 = .ok (.iconst 2, 1) := by decide +kernel
theorem dL_law_910 : decode cL_law 910 = .ok (.iadd, 1) := by decide +kernel
theorem dL_law_911 : decode cL_law 911 = .ok (.iaload, 1) := by decide +kernel
theorem dL_law_912 : decode cL_law 912 = .ok (.aload_n 0, 1) := by decide +kernel
theorem dL_law_913 : decode cL_law 913 = .ok (.iload_n 3, 1) := by decide +kernel
theorem dL_law_914 : decode cL_law 914 = .ok (.iconst 3, 1) := by decide +kernel
theorem dL_law_915 : decode cL_law 915 = .ok (.iadd, 1) := by decide +kernel
theorem dL_law_916 : decode cL_law 916 = .ok (.iaload, 1) := by decide +kernel
theorem dL_law_917 : decode cL_law 917 = .ok (.invokevirtual 125, 3) := by decide +kernel
theorem dL_law_920 : decode cL_law 920 = .ok (.aload_n 2, 1) := by decide +kernel
theorem dL_law_921 : decode cL_law 921 = .ok (.aload_n 0, 1) := by decide +kernel
theorem dL_law_922 : decode cL_law 922 = .ok (.iload_n 3, 1) := by decide +kernel
theorem dL_law_923 : decode cL_law 923 = .ok (.iconst 1, 1) := by decide +kernel
theorem dL_law_924 : decode cL_law 924 = .ok (.iadd, 1) := by decide +kernel
theorem dL_law_925 : decode cL_law 925 = .ok (.iaload, 1) := by decide +kernel
theorem dL_law_926 : decode cL_law 926 = .ok (.aload_n 0, 1) := by decide +kernel
theorem dL_law_927 : decode cL_law 927 = .ok (.iload_n 3, 1) := by decide +kernel
theorem dL_law_928 : decode cL_law 928 = .ok (.iconst 2, 1) := by decide +kernel
theorem dL_law_929 : decode cL_law 929 = .ok (.iadd, 1) := by decide +kernel
theorem dL_law_930 : decode cL_law 930 = .ok (.iaload, 1) := by decide +kernel
theorem dL_law_931 : decode cL_law 931 = .ok (.aload_n 0, 1) := by decide +kernel
theorem dL_law_932 : decode cL_law 932 = .ok (.iload_n 3, 1) := by decide +kernel
theorem dL_law_933 : decode cL_law 933 = .ok (.iconst 3, 1) := by decide +kernel
theorem dL_law_934 : decode cL_law 934 = .ok (.iadd, 1) := by decide +kernel
theorem dL_law_935 : decode cL_law 935 = .ok (.iaload, 1) := by decide +kernel
theorem dL_law_936 : decode cL_law 936 = .ok (.invokevirtual 128, 3) := by decide +kernel
theorem dL_law_939 : decode cL_law 939 = .ok (.if_icmp .eq 257, 3) := by decide +kernel
theorem dL_law_942 : decode cL_law 942 = .ok (.iconst 0, 1) := by decide +kernel
theorem dL_law_943 : decode cL_law 943 = .ok (.ireturn, 1) := by decide +kernel
theorem dL_law_944 : decode cL_law 944 = .ok (.aload_n 1, 1) := by decide +kernel
theorem dL_law_945 : decode cL_law 945 = .ok (.aload_n 0, 1) := by decide +kernel
theorem dL_law_946 : decode cL_law 946 = .ok (.iload_n 3, 1) := by decide +kernel
theorem dL_law_947 : decode cL_law 947 = .ok (.iconst 1, 1) := by decide +kernel
theorem dL_law_948 : decode cL_law 948 = .ok (.iadd, 1) := by decide +kernel
theorem dL_law_949 : decode cL_law 949 = .ok (.iaload, 1) := by decide +kernel
theorem dL_law_950 : decode cL_law 950 = .ok (.aload_n 0, 1) := by decide +kernel
theorem dL_law_951 : decode cL_law 951 = .ok (.iload_n 3, 1) := by decide +kernel
theorem dL_law_952 : decode cL_law 952 = .ok (.iconst 2, 1) := by decide +kernel
theorem dL_law_953 : decode cL_law 953 = .ok (.iadd, 1) := by decide +kernel
theorem dL_law_954 : decode cL_law 954 = .ok (.iaload, 1) := by decide +kernel
theorem dL_law_955 : decode cL_law 955 = .ok (.aload_n 0, 1) := by decide +kernel
theorem dL_law_956 : decode cL_law 956 = .ok (.iload_n 3, 1) := by decide +kernel
theorem dL_law_957 : decode cL_law 957 = .ok (.iconst 3, 1) := by decide +kernel
theorem dL_law_958 : decode cL_law 958 = .ok (.iadd, 1) := by decide +kernel
theorem dL_law_959 : decode cL_law 959 = .ok (.iaload, 1) := by decide +kernel
theorem dL_law_960 : decode cL_law 960 = .ok (.aload_n 0, 1) := by decide +kernel
theorem dL_law_961 : decode cL_law 961 = .ok (.iload_n 3, 1) := by decide +kernel
theorem dL_law_962 : decode cL_law 962 = .ok (.iconst 4, 1) := by decide +kernel
theorem dL_law_963 : decode cL_law 963 = .ok (.iadd, 1) := by decide +kernel
theorem dL_law_964 : decode cL_law 964 = .ok (.iaload, 1) := by decide +kernel
theorem dL_law_965 : decode cL_law 965 = .ok (.invokevirtual 129, 3) := by decide +kernel
theorem dL_law_968 : decode cL_law 968 = .ok (.aload_n 2, 1) := by decide +kernel
theorem dL_law_969 : decode cL_law 969 = .ok (.aload_n 0, 1) := by decide +kernel
theorem dL_law_970 : decode cL_law 970 = .ok (.iload_n 3, 1) := by decide +kernel
theorem dL_law_971 : decode cL_law 971 = .ok (.iconst 1, 1) := by decide +kernel
theorem dL_law_972 : decode cL_law 972 = .ok (.iadd, 1) := by decide +kernel
theorem dL_law_973 : decode cL_law 973 = .ok (.iaload, 1) := by decide +kernel
theorem dL_law_974 : decode cL_law 974 = .ok (.aload_n 0, 1) := by decide +kernel
theorem dL_law_975 : decode cL_law 975 = .ok (.iload_n 3, 1) := by decide +kernel
theorem dL_law_976 : decode cL_law 976 = .ok (.iconst 2, 1) := by decide +kernel
theorem dL_law_977 : decode cL_law 977 = .ok (.iadd, 1) := by decide +kernel
theorem dL_law_978 : decode cL_law 978 = .ok (.iaload, 1) := by decide +kernel
theorem dL_law_979 : decode cL_law 979 = .ok (.aload_n 0, 1) := by decide +kernel
theorem dL_law_980 : decode cL_law 980 = .ok (.iload_n 3, 1) := by decide +kernel
theorem dL_law_981 : decode cL_law 981 = .ok (.iconst 3, 1) := by decide +kernel
theorem dL_law_982 : decode cL_law 982 = .ok (.iadd, 1) := by decide +kernel
theorem dL_law_983 : decode cL_law 983 = .ok (.iaload, 1) := by decide +kernel
theorem dL_law_984 : decode cL_law 984 = .ok (.aload_n 0, 1) := by decide +kernel
theorem dL_law_985 : decode cL_law 985 = .ok (.iload_n 3, 1) := by decide +kernel
theorem dL_law_986 : decode cL_law 986 = .ok (.iconst 4, 1) := by decide +kernel
theorem dL_law_987 : decode cL_law 987 = .ok (.iadd, 1) := by decide +kernel
theorem dL_law_988 : decode cL_law 988 = .ok (.iaload, 1) := by decide +kernel
theorem dL_law_989 : decode cL_law 989 = .ok (.invokevirtual 133, 3) := by decide +kernel
theorem dL_law_992 : decode cL_law 992 = .ok (.lcmp, 1) := by decide +kernel
theorem dL_law_993 : decode cL_law 993 = .ok (.ifCond .eq 203, 3) := by decide +kernel
theorem dL_law_996 : decode cL_law 996 = .ok (.iconst 0, 1) := by decide +kernel
theorem dL_law_997 : decode cL_law 997 = .ok (.ireturn, 1) := by decide +kernel
theorem dL_law_998 : decode cL_law 998 = .ok (.aload_n 1, 1) := by decide +kernel
theorem dL_law_999 : decode cL_law 999 = .ok (.aload_n 0, 1) := by decide +kernel
theorem dL_law_1000 : decode cL_law 1000 = .ok (.iload_n 3, 1) := by decide +kernel
theorem dL_law_1001 : decode cL_law 1001 = .ok (.iconst 1, 1) := by decide +kernel
theorem dL_law_1002 : decode cL_law 1002 = .ok (.iadd, 1) := by decide +kernel
theorem dL_law_1003 : decode cL_law 1003 = .ok (.iaload, 1) := by decide +kernel
theorem dL_law_1004 : decode cL_law 1004 = .ok (.invokevirtual 134, 3) := by decide +kernel
theorem dL_law_1007 : decode cL_law 1007 = .ok (.aload_n 2, 1) := by decide +kernel
theorem dL_law_1008 : decode cL_law 1008 = .ok (.aload_n 0, 1) := by decide +kernel
theorem dL_law_1009 : decode cL_law 1009 = .ok (.iload_n 3, 1) := by decide +kernel
theorem dL_law_1010 : decode cL_law 1010 = .ok (.iconst 1, 1) := by decide +kernel
theorem dL_law_1011 : decode cL_law 1011 = .ok (.iadd, 1) := by decide +kernel
theorem dL_law_1012 : decode cL_law 1012 = .ok (.iaload, 1) := by decide +kernel
theorem dL_law_1013 : decode cL_law 1013 = .ok (.invokevirtual 138, 3) := by decide +kernel
theorem dL_law_1016 : decode cL_law 1016 = .ok (.lcmp, 1) := by decide +kernel
theorem dL_law_1017 : decode cL_law 1017 = .ok (.ifCond .eq 179, 3) := by decide +kernel
theorem dL_law_1020 : decode cL_law 1020 = .ok (.iconst 0, 1) := by decide +kernel
theorem dL_law_1021 : decode cL_law 1021 = .ok (.ireturn, 1) := by decide +kernel
theorem dL_law_1022 : decode cL_law 1022 = .ok (.aload_n 1, 1) := by decide +kernel
theorem dL_law_1023 : decode cL_law 1023 = .ok (.aload_n 0, 1) := by decide +kernel
theorem dL_law_1024 : decode cL_law 1024 = .ok (.iload_n 3, 1) := by decide +kernel
theorem dL_law_1025 : decode cL_law 1025 = .ok (.iconst 1, 1) := by decide +kernel
theorem dL_law_1026 : decode cL_law 1026 = .ok (.iadd, 1) := by decide +kernel
theorem dL_law_1027 : decode cL_law 1027 = .ok (.iaload, 1) := by decide +kernel
theorem dL_law_1028 : decode cL_law 1028 = .ok (.aload_n 0, 1) := by decide +kernel
theorem dL_law_1029 : decode cL_law 1029 = .ok (.iload_n 3, 1) := by decide +kernel
theorem dL_law_1030 : decode cL_law 1030 = .ok (.iconst 2, 1) := by decide +kernel
theorem dL_law_1031 : decode cL_law 1031 = .ok (.iadd, 1) := by decide +kernel
theorem dL_law_1032 : decode cL_law 1032 = .ok (.iaload, 1) := by decide +kernel
theorem dL_law_1033 : decode cL_law 1033 = .ok (.invokevirtual 139, 3) := by decide +kernel
theorem dL_law_1036 : decode cL_law 1036 = .ok (.aload_n 2, 1) := by decide +kernel
theorem dL_law_1037 : decode cL_law 1037 = .ok (.aload_n 0, 1) := by decide +kernel
theorem dL_law_1038 : decode cL_law 1038 = .ok (.iload_n 3, 1) := by decide +kernel
theorem dL_law_1039 : decode cL_law 1039 = .ok (.iconst 1, 1) := by decide +kernel
theorem dL_law_1040 : decode cL_law 1040 = .ok (.iadd, 1) := by decide +kernel
theorem dL_law_1041 : decode cL_law 1041 = .ok (.iaload, 1) := by decide +kernel
theorem dL_law_1042 : decode cL_law 1042 = .ok (.aload_n 0, 1) := by decide +kernel
theorem dL_law_1043 : decode cL_law 1043 = .ok (.iload_n 3, 1) := by decide +kernel
theorem dL_law_1044 : decode cL_law 1044 = .ok (.iconst 2, 1) := by decide +kernel
theorem dL_law_1045 : decode cL_law 1045 = .ok (.iadd, 1) := by decide +kernel
theorem dL_law_1046 : decode cL_law 1046 = .ok (.iaload, 1) := by decide +kernel
theorem dL_law_1047 : decode cL_law 1047 = .ok (.invokevirtual 142, 3) := by decide +kernel
theorem dL_law_1050 : decode cL_law 1050 = .ok (.if_icmp .eq 146, 3) := by decide +kernel
theorem dL_law_1053 : decode cL_law 1053 = .ok (.iconst 0, 1) := by decide +kernel
theorem dL_law_1054 : decode cL_law 1054 = .ok (.ireturn, 1) := by decide +kernel
theorem dL_law_1055 : decode cL_law 1055 = .ok (.aload_n 1, 1) := by decide +kernel
theorem dL_law_1056 : decode cL_law 1056 = .ok (.aload_n 0, 1) := by decide +kernel
theorem dL_law_1057 : decode cL_law 1057 = .ok (.iload_n 3, 1) := by decide +kernel
theorem dL_law_1058 : decode cL_law 1058 = .ok (.iconst 1, 1) := by decide +kernel
theorem dL_law_1059 : decode cL_law 1059 = .ok (.iadd, 1) := by decide +kernel
theorem dL_law_1060 : decode cL_law 1060 = .ok (.iaload, 1) := by decide +kernel
theorem dL_law_1061 : decode cL_law 1061 = .ok (.invokevirtual 143, 3) := by decide +kernel
theorem dL_law_1064 : decode cL_law 1064 = .ok (.aload_n 2, 1) := by decide +kernel
theorem dL_law_1065 : decode cL_law 1065 = .ok (.aload_n 0, 1) := by decide +kernel
theorem dL_law_1066 : decode cL_law 1066 = .ok (.iload_n 3, 1) := by decide +kernel
theorem dL_law_1067 : decode cL_law 1067 = .ok (.iconst 1, 1) := by decide +kernel
theorem dL_law_1068 : decode cL_law 1068 = .ok (.iadd, 1) := by decide +kernel
theorem dL_law_1069 : decode cL_law 1069 = .ok (.iaload, 1) := by decide +kernel
theorem dL_law_1070 : decode cL_law 1070 = .ok (.invokevirtual 146, 3) := by decide +kernel
theorem dL_law_1073 : decode cL_law 1073 = .ok (.if_icmp .eq 123, 3) := by decide +kernel
theorem dL_law_1076 : decode cL_law 1076 = .ok (.iconst 0, 1) := by decide +kernel
theorem dL_law_1077 : decode cL_law 1077 = .ok (.ireturn, 1) := by decide +kernel
theorem dL_law_1078 : decode cL_law 1078 = .ok (.aload_n 1, 1) := by decide +kernel
theorem dL_law_1079 : decode cL_law 1079 = .ok (.invokevirtual 147, 3) := by decide +kernel
theorem dL_law_1082 : decode cL_law 1082 = .ok (.aload_n 2, 1) := by decide +kernel
theorem dL_law_1083 : decode cL_law 1083 = .ok (.invokevirtual 150, 3) := by decide +kernel
theorem dL_law_1086 : decode cL_law 1086 = .ok (.if_icmp .eq 110, 3) := by decide +kernel
theorem dL_law_1089 : decode cL_law 1089 = .ok (.iconst 0, 1) := by decide +kernel
theorem dL_law_1090 : decode cL_law 1090 = .ok (.ireturn, 1) := by decide +kernel
theorem dL_law_1091 : decode cL_law 1091 = .ok (.aload_n 1, 1) := by decide +kernel
theorem dL_law_1092 : decode cL_law 1092 = .ok (.invokevirtual 151, 3) := by decide +kernel
theorem dL_law_1095 : decode cL_law 1095 = .ok (.aload_n 2, 1) := by decide +kernel
theorem dL_law_1096 : decode cL_law 1096 = .ok (.invokevirtual 154, 3) := by decide +kernel
theorem dL_law_1099 : decode cL_law 1099 = .ok (.if_icmp .eq 97, 3) := by decide +kernel
theorem dL_law_1102 : decode cL_law 1102 = .ok (.iconst 0, 1) := by decide +kernel
theorem dL_law_1103 : decode cL_law 1103 = .ok (.ireturn, 1) := by decide +kernel
theorem dL_law_1104 : decode cL_law 1104 = .ok (.aload_n 1, 1) := by decide +kernel
theorem dL_law_1105 : decode cL_law 1105 = .ok (.aload_n 0, 1) := by decide +kernel
theorem dL_law_1106 : decode cL_law 1106 = .ok (.iload_n 3, 1) := by decide +kernel
theorem dL_law_1107 : decode cL_law 1107 = .ok (.iconst 1, 1) := by decide +kernel
theorem dL_law_1108 : decode cL_law 1108 = .ok (.iadd, 1) := by decide +kernel
theorem dL_law_1109 : decode cL_law 1109 = .ok (.iaload, 1) := by decide +kernel
theorem dL_law_1110 : decode cL_law 1110 = .ok (.aload_n 0, 1) := by decide +kernel
theorem dL_law_1111 : decode cL_law 1111 = .ok (.iload_n 3, 1) := by decide +kernel
theorem dL_law_1112 : decode cL_law 1112 = .ok (.iconst 2, 1) := by decide +kernel
theorem dL_law_1113 : decode cL_law 1113 = .ok (.iadd, 1) := by decide +kernel
theorem dL_law_1114 : decode cL_law 1114 = .ok (.iaload, 1) := by decide +kernel
theorem dL_law_1115 : decode cL_law 1115 = .ok (.aload_n 0, 1) := by decide +kernel
theorem dL_law_1116 : decode cL_law 1116 = .ok (.iload_n 3, 1) := by decide +kernel
theorem dL_law_1117 : decode cL_law 1117 = .ok (.iconst 3, 1) := by decide +kernel
theorem dL_law_1118 : decode cL_law 1118 = .ok (.iadd, 1) := by decide +kernel
theorem dL_law_1119 : decode cL_law 1119 = .ok (.iaload, 1) := by decide +kernel
theorem dL_law_1120 : decode cL_law 1120 = .ok (.invokevirtual 155, 3) := by decide +kernel
theorem dL_law_1123 : decode cL_law 1123 = .ok (.aload_n 2, 1) := by decide +kernel
theorem dL_law_1124 : decode cL_law 1124 = .ok (.aload_n 0, 1) := by decide +kernel
theorem dL_law_1125 : decode cL_law 1125 = .ok (.iload_n 3, 1) := by decide +kernel
theorem dL_law_1126 : decode cL_law 1126 = .ok (.iconst 1, 1) := by decide +kernel
theorem dL_law_1127 : decode cL_law 1127 = .ok (.iadd, 1) := by decide +kernel
theorem dL_law_1128 : decode cL_law 1128 = .ok (.iaload, 1) := by decide +kernel
theorem dL_law_1129 : decode cL_law 1129 = .ok (.aload_n 0, 1) := by decide +kernel
theorem dL_law_1130 : decode cL_law 1130 = .ok (.iload_n 3, 1) := by decide +kernel
theorem dL_law_1131 : decode cL_law 1131 = .ok (.iconst 2, 1) := by decide +kernel
theorem dL_law_1132 : decode cL_law 1132 = .ok (.iadd, 1) := by decide +kernel
theorem dL_law_1133 : decode cL_law 1133 = .ok (.iaload, 1) := by decide +kernel
theorem dL_law_1134 : decode cL_law 1134 = .ok (.aload_n 0, 1) := by decide +kernel
theorem dL_law_1135 : decode cL_law 1135 = .ok (.iload_n 3, 1) := by decide +kernel
theorem dL_law_1136 : decode cL_law 1136 = .ok (.iconst 3, 1) := by decide +kernel
theorem dL_law_1137 : decode cL_law 1137 = .ok (.iadd, 1) := by decide +kernel
theorem dL_law_1138 : decode cL_law 1138 = .ok (.iaload, 1) := by decide +kernel
theorem dL_law_1139 : decode cL_law 1139 = .ok (.invokevirtual 158, 3) := by decide +kernel
theorem dL_law_1142 : decode cL_law 1142 = .ok (.if_icmp .eq 54, 3) := by decide +kernel
theorem dL_law_1145 : decode cL_law 1145 = .ok (.iconst 0, 1) := by decide +kernel
theorem dL_law_1146 : decode cL_law 1146 = .ok (.ireturn, 1) := by decide +kernel
theorem dL_law_1147 : decode cL_law 1147 = .ok (.aload_n 1, 1) := by decide +kernel
theorem dL_law_1148 : decode cL_law 1148 = .ok (.invokevirtual 159, 3) := by decide +kernel
theorem dL_law_1151 : decode cL_law 1151 = .ok (.aload_n 2, 1) := by decide +kernel
theorem dL_law_1152 : decode cL_law 1152 = .ok (.invokevirtual 162, 3) := by decide +kernel
theorem dL_law_1155 : decode cL_law 1155 = .ok (.if_icmp .eq 41, 3) := by decide +kernel
theorem dL_law_1158 : decode cL_law 1158 = .ok (.iconst 0, 1) := by decide +kernel
theorem dL_law_1159 : decode cL_law 1159 = .ok (.ireturn, 1) := by decide +kernel
theorem dL_law_1160 : decode cL_law 1160 = .ok (.aload_n 1, 1) := by decide +kernel
theorem dL_law_1161 : decode cL_law 1161 = .ok (.invokevirtual 163, 3) := by decide +kernel
theorem dL_law_1164 : decode cL_law 1164 = .ok (.aload_n 2, 1) := by decide +kernel
theorem dL_law_1165 : decode cL_law 1165 = .ok (.invokevirtual 166, 3) := by decide +kernel
theorem dL_law_1168 : decode cL_law 1168 = .ok (.if_icmp .eq 28, 3) := by decide +kernel
theorem dL_law_1171 : decode cL_law 1171 = .ok (.iconst 0, 1) := by decide +kernel
theorem dL_law_1172 : decode cL_law 1172 = .ok (.ireturn, 1) := by decide +kernel
theorem dL_law_1173 : decode cL_law 1173 = .ok (.aload_n 1, 1) := by decide +kernel
theorem dL_law_1174 : decode cL_law 1174 = .ok (.aload_n 0, 1) := by decide +kernel
theorem dL_law_1175 : decode cL_law 1175 = .ok (.iload_n 3, 1) := by decide +kernel
theorem dL_law_1176 : decode cL_law 1176 = .ok (.iconst 1, 1) := by decide +kernel
theorem dL_law_1177 : decode cL_law 1177 = .ok (.iadd, 1) := by decide +kernel
theorem dL_law_1178 : decode cL_law 1178 = .ok (.iaload, 1) := by decide +kernel
theorem dL_law_1179 : decode cL_law 1179 = .ok (.invokevirtual 167, 3) := by decide +kernel
theorem dL_law_1182 : decode cL_law 1182 = .ok (.aload_n 2, 1) := by decide +kernel
theorem dL_law_1183 : decode cL_law 1183 = .ok (.aload_n 0, 1) := by decide +kernel
theorem dL_law_1184 : decode cL_law 1184 = .ok (.iload_n 3, 1) := by decide +kernel
theorem dL_law_1185 : decode cL_law 1185 = .ok (.iconst 1, 1) := by decide +kernel
theorem dL_law_1186 : decode cL_law 1186 = .ok (.iadd, 1) := by decide +kernel
theorem dL_law_1187 : decode cL_law 1187 = .ok (.iaload, 1) := by decide +kernel
theorem dL_law_1188 : decode cL_law 1188 = .ok (.invokevirtual 170, 3) := by decide +kernel
theorem dL_law_1191 : decode cL_law 1191 = .ok (.if_icmp .eq 5, 3) := by decide +kernel
theorem dL_law_1194 : decode cL_law 1194 = .ok (.iconst 0, 1) := by decide +kernel
theorem dL_law_1195 : decode cL_law 1195 = .ok (.ireturn, 1) := by decide +kernel
theorem dL_law_1196 : decode cL_law 1196 = .ok (.iinc 3 5, 3) := by decide +kernel
theorem dL_law_1199 : decode cL_law 1199 = .ok (.goto (-1181), 3) := by decide +kernel
theorem dL_law_1202 : decode cL_law 1202 = .ok (.iconst 1, 1) := by decide +kernel
theorem dL_law_1203 : decode cL_law 1203 = .ok (.ireturn, 1) := by decide +kernel
end
section
def lw_g : List Cond := lw_tbl.filter goodWord
theorem lw_m0 {w : Cond} (h : w ∈ k2_sels lw_privs) (hg : goodWord w = true) : w ∈ lw_g := List.mem_filter.mpr ⟨List.mem_append_left _ h, hg⟩
theorem lw_n1 {w : Cond} (h : w ∈ tables_1_1) : w ∈ lw_tbl := List.mem_append_right _ (List.mem_append_left _ h)
theorem lw_m1 {w : Cond} (h : w ∈ tables_1_1) (hg : goodWord w = true) : w ∈ lw_g := List.mem_filter.mpr ⟨lw_n1 h, hg⟩
theorem lw_n2 {w : Cond} (h : w ∈ tables_1_2) : w ∈ lw_tbl := List.mem_append_right _ (List.mem_append_right _ (List.mem_append_left _ h))
theorem lw_m2 {w : Cond} (h : w ∈ tables_1_2) (hg : goodWord w = true) : w ∈ lw_g := List.mem_filter.mpr ⟨lw_n2 h, hg⟩
theorem lw_n3 {w : Cond} (h : w ∈ tables_1_3) : w ∈ lw_tbl := List.mem_append_right _ (List.mem_append_right _ (List.mem_append_right _ (List.mem_append_left _ h)))
theorem lw_m3 {w : Cond} (h : w ∈ tables_1_3) (hg : goodWord w = true) : w ∈ lw_g := List.mem_filter.mpr ⟨lw_n3 h, hg⟩
theorem lw_n4 {w : Cond} (h : w ∈ tables_1_4) : w ∈ lw_tbl := List.mem_append_right _ (List.mem_append_right _ (List.mem_append_right _ (List.mem_append_right _ (List.mem_append_left _ h))))
theorem lw_m4 {w : Cond} (h : w ∈ tables_1_4) (hg : goodWord w = true) : w ∈ lw_g := List.mem_filter.mpr ⟨lw_n4 h, hg⟩
theorem lw_n5 {w : Cond} (h : w ∈ tables_1_5) : w ∈ lw_tbl := List.mem_append_right _ (List.mem_append_right _ (List.mem_append_right _ (List.mem_append_right _ (List.mem_append_right _ h))))
theorem lw_m5 {w : Cond} (h : w ∈ tables_1_5) (hg : goodWord w = true) : w ∈ lw_g := List.mem_filter.mpr ⟨lw_n5 h, hg⟩
theorem kn_RL : Cond.initialized RL ∈ lw_g := lw_m1 (List.mem_of_getElem? (i := 0) rfl) rfl
theorem kn_RX1 : Cond.initialized RX1 ∈ lw_g := lw_m1 (List.mem_of_getElem? (i := 1) rfl) rfl
theorem kn_RX0 : Cond.initialized RX0 ∈ lw_g := lw_m1 (List.mem_of_getElem? (i := 2) rfl) rfl
theorem kn_RX2 : Cond.initialized RX2 ∈ lw_g := lw_m1 (List.mem_of_getElem? (i := 3) rfl) rfl
theorem kn_RJ0 : Cond.initialized RJ0 ∈ lw_g := lw_m1 (List.mem_of_getElem? (i := 4) rfl) rfl
theorem kn_RJ1 : Cond.initialized RJ1 ∈ lw_g := lw_m1 (List.mem_of_getElem? (i := 5) rfl) rfl
theorem kn_RJ9 : Cond.initialized RJ9 ∈ lw_g := lw_m1 (List.mem_of_getElem? (i := 6) rfl) rfl
theorem kn_RJ2 : Cond.initialized RJ2 ∈ lw_g := lw_m1 (List.mem_of_getElem? (i := 7) rfl) rfl
theorem kn_RJ3 : Cond.initialized RJ3 ∈ lw_g := lw_m1 (List.mem_of_getElem? (i := 8) rfl) rfl
theorem kn_RJ11 : Cond.initialized RJ11 ∈ lw_g := lw_m1 (List.mem_of_getElem? (i := 9) rfl) rfl
theorem kn_RJ10 : Cond.initialized RJ10 ∈ lw_g := lw_m1 (List.mem_of_getElem? (i := 10) rfl) rfl
theorem kn_RJ6 : Cond.initialized RJ6 ∈ lw_g := lw_m1 (List.mem_of_getElem? (i := 11) rfl) rfl
theorem kn_RJ7 : Cond.initialized RJ7 ∈ lw_g := lw_m1 (List.mem_of_getElem? (i := 12) rfl) rfl
theorem kq_RL_7 : Cond.classLink RL 7 RX1 ∈ lw_g := lw_m1 (List.mem_of_getElem? (i := 13) rfl) rfl
theorem kb_RX1 : Cond.instantiable RX1 12 ∈ lw_g := lw_m1 (List.mem_of_getElem? (i := 14) rfl) rfl
theorem kl_RL_9 : Cond.methodLink RL 9 yX1_init ∈ lw_g := lw_m1 (List.mem_of_getElem? (i := 15) rfl) rfl
theorem ki_yX1_init : Cond.instanceMethod yX1_init ∈ lw_g := lw_m1 (List.mem_of_getElem? (i := 16) rfl) rfl
theorem kc_yX1_init : Cond.code yX1_init cX1_init 1 none ∈ lw_g := lw_m1 (List.mem_of_getElem? (i := 17) rfl) rfl
theorem kl_RX1_1 : Cond.methodLink RX1 1 ({ cls := "java/lang/Object", name := "<init>", desc := "()V" } : MethodName) ∈ lw_g := lw_m1 (List.mem_of_getElem? (i := 18) rfl) rfl
theorem ki_obj : Cond.instanceMethod objectInit ∈ lw_g := lw_m1 (List.mem_of_getElem? (i := 19) rfl) rfl
theorem kc_obj : Cond.code objectInit ⟨#[0xb1]⟩ 1 none ∈ lw_g := lw_m1 (List.mem_of_getElem? (i := 20) rfl) rfl
theorem kq_RX1_7 : Cond.classLink RX1 7 RX0 ∈ lw_g := lw_m1 (List.mem_of_getElem? (i := 21) rfl) rfl
theorem kb_RX0 : Cond.instantiable RX0 12 ∈ lw_g := lw_m1 (List.mem_of_getElem? (i := 22) rfl) rfl
theorem kl_RX1_9 : Cond.methodLinkNest RX1 9 yX0_init "RocketsAsk" ∈ lw_tbl := lw_n1 (List.mem_of_getElem? (i := 23) rfl)
theorem ki_yX0_init : Cond.instanceMethod yX0_init ∈ lw_g := lw_m1 (List.mem_of_getElem? (i := 24) rfl) rfl
theorem kc_yX0_init : Cond.code yX0_init cX0_init 1 none ∈ lw_g := lw_m1 (List.mem_of_getElem? (i := 25) rfl) rfl
theorem kl_RX0_3 : Cond.methodLink RX0 3 ({ cls := "java/lang/Object", name := "<init>", desc := "()V" } : MethodName) ∈ lw_g := lw_m1 (List.mem_of_getElem? (i := 26) rfl) rfl
theorem kf_RX0_9 : Cond.fieldLink RX0 9 "RocketsAsk$Valley" "rockets" "I" ∈ lw_g := lw_m1 (List.mem_of_getElem? (i := 27) rfl) rfl
theorem kf_RX1_129 : Cond.fieldLink RX1 129 "RocketsAsk$Valley" "rockets" "I" ∈ lw_g := lw_m1 (List.mem_of_getElem? (i := 28) rfl) rfl
theorem kf_RX0_15 : Cond.fieldLink RX0 15 "RocketsAsk$Valley" "kind" "[I" ∈ lw_g := lw_m1 (List.mem_of_getElem? (i := 29) rfl) rfl
theorem kf_RX1_73 : Cond.fieldLink RX1 73 "RocketsAsk$Valley" "kind" "[I" ∈ lw_g := lw_m1 (List.mem_of_getElem? (i := 30) rfl) rfl
theorem kf_RX0_19 : Cond.fieldLink RX0 19 "RocketsAsk$Valley" "figure" "[I" ∈ lw_g := lw_m1 (List.mem_of_getElem? (i := 31) rfl) rfl
theorem kf_RX1_76 : Cond.fieldLink RX1 76 "RocketsAsk$Valley" "figure" "[I" ∈ lw_g := lw_m1 (List.mem_of_getElem? (i := 32) rfl) rfl
theorem kf_RX0_22 : Cond.fieldLink RX0 22 "RocketsAsk$Valley" "word" "[I" ∈ lw_g := lw_m1 (List.mem_of_getElem? (i := 33) rfl) rfl
theorem kf_RX1_79 : Cond.fieldLink RX1 79 "RocketsAsk$Valley" "word" "[I" ∈ lw_g := lw_m1 (List.mem_of_getElem? (i := 34) rfl) rfl
theorem kf_RX0_25 : Cond.fieldLink RX0 25 "RocketsAsk$Valley" "sent" "I" ∈ lw_g := lw_m1 (List.mem_of_getElem? (i := 35) rfl) rfl
theorem kf_RX1_132 : Cond.fieldLink RX1 132 "RocketsAsk$Valley" "sent" "I" ∈ lw_g := lw_m1 (List.mem_of_getElem? (i := 36) rfl) rfl
theorem kf_RX0_28 : Cond.fieldLink RX0 28 "RocketsAsk$Valley" "readers" "I" ∈ lw_g := lw_m1 (List.mem_of_getElem? (i := 37) rfl) rfl
theorem kf_RX1_203 : Cond.fieldLink RX1 203 "RocketsAsk$Valley" "readers" "I" ∈ lw_g := lw_m1 (List.mem_of_getElem? (i := 38) rfl) rfl
theorem kf_RX0_31 : Cond.fieldLink RX0 31 "RocketsAsk$Valley" "at" "[I" ∈ lw_g := lw_m1 (List.mem_of_getElem? (i := 39) rfl) rfl
theorem kf_RX1_103 : Cond.fieldLink RX1 103 "RocketsAsk$Valley" "at" "[I" ∈ lw_g := lw_m1 (List.mem_of_getElem? (i := 40) rfl) rfl
theorem kf_RX0_34 : Cond.fieldLink RX0 34 "RocketsAsk$Valley" "minds" "[I" ∈ lw_g := lw_m1 (List.mem_of_getElem? (i := 41) rfl) rfl
theorem kf_RX1_106 : Cond.fieldLink RX1 106 "RocketsAsk$Valley" "minds" "[I" ∈ lw_g := lw_m1 (List.mem_of_getElem? (i := 42) rfl) rfl
theorem kf_RX0_37 : Cond.fieldLink RX0 37 "RocketsAsk$Valley" "left" "[I" ∈ lw_g := lw_m1 (List.mem_of_getElem? (i := 43) rfl) rfl
theorem kf_RX1_112 : Cond.fieldLink RX1 112 "RocketsAsk$Valley" "left" "[I" ∈ lw_g := lw_m1 (List.mem_of_getElem? (i := 44) rfl) rfl
theorem kf_RX0_40 : Cond.fieldLink RX0 40 "RocketsAsk$Valley" "money" "I" ∈ lw_g := lw_m1 (List.mem_of_getElem? (i := 45) rfl) rfl
theorem kf_RX1_122 : Cond.fieldLink RX1 122 "RocketsAsk$Valley" "money" "I" ∈ lw_g := lw_m1 (List.mem_of_getElem? (i := 46) rfl) rfl
theorem kf_RX0_43 : Cond.fieldLink RX0 43 "RocketsAsk$Valley" "blows" "I" ∈ lw_g := lw_m1 (List.mem_of_getElem? (i := 47) rfl) rfl
theorem kf_RX1_144 : Cond.fieldLink RX1 144 "RocketsAsk$Valley" "blows" "I" ∈ lw_g := lw_m1 (List.mem_of_getElem? (i := 48) rfl) rfl
theorem kf_RX0_46 : Cond.fieldLink RX0 46 "RocketsAsk$Valley" "night" "I" ∈ lw_g := lw_m1 (List.mem_of_getElem? (i := 49) rfl) rfl
theorem kf_RX1_147 : Cond.fieldLink RX1 147 "RocketsAsk$Valley" "night" "I" ∈ lw_g := lw_m1 (List.mem_of_getElem? (i := 50) rfl) rfl
theorem ka_int : Cond.arrayClass .int ∈ lw_g := lw_m1 (List.mem_of_getElem? (i := 76) rfl) rfl
theorem kf_RX1_10 : Cond.fieldLink RX1 10 "RocketsAsk" "now" "LRocketsAsk$Valley;" ∈ lw_g := lw_m1 (List.mem_of_getElem? (i := 77) rfl) rfl
theorem kf_RX1_16 : Cond.fieldLink RX1 16 "RocketsAsk" "mind" "LRocketsAsk$Valley;" ∈ lw_g := lw_m1 (List.mem_of_getElem? (i := 78) rfl) rfl
theorem kf_RX1_19 : Cond.fieldLink RX1 19 "RocketsAsk" "picture" "LRocketsAsk$Valley;" ∈ lw_g := lw_m1 (List.mem_of_getElem? (i := 79) rfl) rfl
theorem kf_RX1_22 : Cond.fieldLink RX1 22 "RocketsAsk" "pictured" "Z" ∈ lw_g := lw_m1 (List.mem_of_getElem? (i := 80) rfl) rfl
theorem kf_RX1_26 : Cond.fieldLink RX1 26 "RocketsAsk" "letters" "[I" ∈ lw_g := lw_m1 (List.mem_of_getElem? (i := 81) rfl) rfl
theorem kf_RX1_30 : Cond.fieldLink RX1 30 "RocketsAsk" "letterCount" "I" ∈ lw_g := lw_m1 (List.mem_of_getElem? (i := 82) rfl) rfl
theorem kf_RX1_34 : Cond.fieldLink RX1 34 "RocketsAsk" "told" "[I" ∈ lw_g := lw_m1 (List.mem_of_getElem? (i := 83) rfl) rfl
theorem kf_RX1_37 : Cond.fieldLink RX1 37 "RocketsAsk" "toldCount" "I" ∈ lw_g := lw_m1 (List.mem_of_getElem? (i := 84) rfl) rfl
theorem kf_RX1_40 : Cond.fieldLink RX1 40 "RocketsAsk" "refusals" "[I" ∈ lw_g := lw_m1 (List.mem_of_getElem? (i := 85) rfl) rfl
theorem kf_RX1_43 : Cond.fieldLink RX1 43 "RocketsAsk" "brings" "[I" ∈ lw_g := lw_m1 (List.mem_of_getElem? (i := 86) rfl) rfl
theorem kf_RX1_46 : Cond.fieldLink RX1 46 "RocketsAsk" "firstGets" "[I" ∈ lw_g := lw_m1 (List.mem_of_getElem? (i := 87) rfl) rfl
theorem kf_RX1_49 : Cond.fieldLink RX1 49 "RocketsAsk" "otherGets" "[I" ∈ lw_g := lw_m1 (List.mem_of_getElem? (i := 88) rfl) rfl
theorem kl_RL_13 : Cond.methodLink RL 13 yX1_letter ∈ lw_g := lw_m1 (List.mem_of_getElem? (i := 114) rfl) rfl
theorem ki_yX1_letter : Cond.instanceMethod yX1_letter ∈ lw_g := lw_m1 (List.mem_of_getElem? (i := 115) rfl) rfl
theorem ks_yX1_letter : Cond.selects RX1 yX1_letter yX1_letter ∈ lw_g := lw_m1 (List.mem_of_getElem? (i := 116) rfl) rfl
theorem kc_yX1_letter : Cond.code yX1_letter cX1_letter 2 (some .int) ∈ lw_g := lw_m1 (List.mem_of_getElem? (i := 117) rfl) rfl
theorem kl_RX1_52 : Cond.methodLink RX1 52 yX1_refuse ∈ lw_g := lw_m1 (List.mem_of_getElem? (i := 118) rfl) rfl
theorem ki_yX1_refuse : Cond.instanceMethod yX1_refuse ∈ lw_g := lw_m1 (List.mem_of_getElem? (i := 120) rfl) rfl
theorem kc_yX1_refuse : Cond.code yX1_refuse cX1_refuse 2 (some .int) ∈ lw_g := lw_m1 (List.mem_of_getElem? (i := 121) rfl) rfl
theorem kl_RL_18 : Cond.methodLink RL 18 yX1_valley ∈ lw_g := lw_m1 (List.mem_of_getElem? (i := 122) rfl) rfl
theorem ki_yX1_valley : Cond.instanceMethod yX1_valley ∈ lw_g := lw_m1 (List.mem_of_getElem? (i := 123) rfl) rfl
theorem ks_yX1_valley : Cond.selects RX1 yX1_valley yX1_valley ∈ lw_g := lw_m1 (List.mem_of_getElem? (i := 124) rfl) rfl
theorem kc_yX1_valley : Cond.code yX1_valley cX1_valley 5 (some .int) ∈ lw_g := lw_m1 (List.mem_of_getElem? (i := 125) rfl) rfl
theorem kl_RX1_56 : Cond.methodLink RX1 56 yX1_wrongLetter ∈ lw_g := lw_m1 (List.mem_of_getElem? (i := 126) rfl) rfl
theorem ki_yX1_wrongLetter : Cond.instanceMethod yX1_wrongLetter ∈ lw_g := lw_m1 (List.mem_of_getElem? (i := 128) rfl) rfl
theorem kc_yX1_wrongLetter : Cond.code yX1_wrongLetter cX1_wrongLetter 6 (some .int) ∈ lw_g := lw_m1 (List.mem_of_getElem? (i := 129) rfl) rfl
theorem kl_RX1_67 : Cond.methodLink RX1 67 yX1_lettersBehind ∈ lw_g := lw_m1 (List.mem_of_getElem? (i := 130) rfl) rfl
theorem kt_yX1_lettersBehind : Cond.static yX1_lettersBehind ∈ lw_g := lw_m1 (List.mem_of_getElem? (i := 131) rfl) rfl
theorem kc_yX1_lettersBehind : Cond.code yX1_lettersBehind cX1_lettersBehind 1 (some .int) ∈ lw_g := lw_m1 (List.mem_of_getElem? (i := 132) rfl) rfl
theorem kl_RX1_253 : Cond.methodLink RX1 253 yX1_canStand ∈ lw_g := lw_m1 (List.mem_of_getElem? (i := 133) rfl) rfl
theorem kt_yX1_canStand : Cond.static yX1_canStand ∈ lw_g := lw_m1 (List.mem_of_getElem? (i := 134) rfl) rfl
theorem kc_yX1_canStand : Cond.code yX1_canStand cX1_canStand 3 (some .boolean) ∈ lw_g := lw_m1 (List.mem_of_getElem? (i := 135) rfl) rfl
theorem kl_RX1_256 : Cond.methodLink RX1 256 yX1_kindOf ∈ lw_g := lw_m1 (List.mem_of_getElem? (i := 136) rfl) rfl
theorem kt_yX1_kindOf : Cond.static yX1_kindOf ∈ lw_g := lw_m1 (List.mem_of_getElem? (i := 137) rfl) rfl
theorem kc_yX1_kindOf : Cond.code yX1_kindOf cX1_kindOf 1 (some .int) ∈ lw_g := lw_m1 (List.mem_of_getElem? (i := 138) rfl) rfl
theorem kstr : Cond.stringRef RX1 259 "rsgdql" ∈ lw_tbl := lw_n1 (List.mem_of_getElem? (i := 139) rfl)
theorem kl_RX1_261 : Cond.methodLink RX1 261 yJ0_indexOf_0f7a4 ∈ lw_g := lw_m1 (List.mem_of_getElem? (i := 140) rfl) rfl
theorem ki_yJ0_indexOf_0f7a4 : Cond.instanceMethod yJ0_indexOf_0f7a4 ∈ lw_g := lw_m1 (List.mem_of_getElem? (i := 141) rfl) rfl
theorem ks_yJ0_indexOf_0f7a4 : Cond.selects RJ0 yJ0_indexOf_0f7a4 yJ0_indexOf_0f7a4 ∈ lw_g := lw_m1 (List.mem_of_getElem? (i := 142) rfl) rfl
theorem kc_yJ0_indexOf_0f7a4 : Cond.code yJ0_indexOf_0f7a4 cJ0_indexOf_0f7a4 2 (some .int) ∈ lw_g := lw_m1 (List.mem_of_getElem? (i := 143) rfl) rfl
theorem kl_RJ0_633 : Cond.methodLink RJ0 633 yJ0_indexOf_7cf53 ∈ lw_g := lw_m1 (List.mem_of_getElem? (i := 144) rfl) rfl
theorem ki_yJ0_indexOf_7cf53 : Cond.instanceMethod yJ0_indexOf_7cf53 ∈ lw_g := lw_m1 (List.mem_of_getElem? (i := 145) rfl) rfl
theorem ks_yJ0_indexOf_7cf53 : Cond.selects RJ0 yJ0_indexOf_7cf53 yJ0_indexOf_7cf53 ∈ lw_g := lw_m1 (List.mem_of_getElem? (i := 146) rfl) rfl
theorem kc_yJ0_indexOf_7cf53 : Cond.code yJ0_indexOf_7cf53 cJ0_indexOf_7cf53 3 (some .int) ∈ lw_g := lw_m1 (List.mem_of_getElem? (i := 147) rfl) rfl
theorem kl_RJ0_492 : Cond.methodLink RJ0 492 yJ0_isLatin1_aae02 ∈ lw_g := lw_m1 (List.mem_of_getElem? (i := 148) rfl) rfl
theorem ki_yJ0_isLatin1_aae02 : Cond.instanceMethod yJ0_isLatin1_aae02 ∈ lw_g := lw_m1 (List.mem_of_getElem? (i := 149) rfl) rfl
theorem ks_yJ0_isLatin1_aae02 : Cond.selects RJ0 yJ0_isLatin1_aae02 yJ0_isLatin1_aae02 ∈ lw_g := lw_m1 (List.mem_of_getElem? (i := 150) rfl) rfl
theorem kc_yJ0_isLatin1_aae02 : Cond.code yJ0_isLatin1_aae02 cJ0_isLatin1_aae02 1 (some .boolean) ∈ lw_g := lw_m1 (List.mem_of_getElem? (i := 151) rfl) rfl
theorem kf_RJ0_38 : Cond.fieldLink RJ0 38 "java/lang/String" "COMPACT_STRINGS" "Z" ∈ lw_g := lw_m1 (List.mem_of_getElem? (i := 152) rfl) rfl
theorem kls_RJ0_COMPACT_STRINGS : Cond.laysStatic RJ0 "COMPACT_STRINGS" "Z" ∈ lw_tbl := lw_n1 (List.mem_of_getElem? (i := 153) rfl)
theorem kl_RJ0_505 : Cond.methodLink RJ0 505 yJ0_length_8abf5 ∈ lw_g := lw_m1 (List.mem_of_getElem? (i := 154) rfl) rfl
theorem ki_yJ0_length_8abf5 : Cond.instanceMethod yJ0_length_8abf5 ∈ lw_g := lw_m1 (List.mem_of_getElem? (i := 155) rfl) rfl
theorem ks_yJ0_length_8abf5 : Cond.selects RJ0 yJ0_length_8abf5 yJ0_length_8abf5 ∈ lw_g := lw_m1 (List.mem_of_getElem? (i := 156) rfl) rfl
theorem kc_yJ0_length_8abf5 : Cond.code yJ0_length_8abf5 cJ0_length_8abf5 1 (some .int) ∈ lw_g := lw_m1 (List.mem_of_getElem? (i := 157) rfl) rfl
theorem kl_RJ0_335 : Cond.methodLink RJ0 335 yJ0_coder_7d493 ∈ lw_g := lw_m1 (List.mem_of_getElem? (i := 158) rfl) rfl
theorem ki_yJ0_coder_7d493 : Cond.instanceMethod yJ0_coder_7d493 ∈ lw_g := lw_m1 (List.mem_of_getElem? (i := 159) rfl) rfl
theorem ks_yJ0_coder_7d493 : Cond.selects RJ0 yJ0_coder_7d493 yJ0_coder_7d493 ∈ lw_g := lw_m1 (List.mem_of_getElem? (i := 160) rfl) rfl
theorem kc_yJ0_coder_7d493 : Cond.code yJ0_coder_7d493 cJ0_coder_7d493 1 (some .byte) ∈ lw_g := lw_m1 (List.mem_of_getElem? (i := 161) rfl) rfl
theorem kl_RJ0_637 : Cond.methodLink RJ0 637 yJ1_indexOf_4cfef ∈ lw_g := lw_m1 (List.mem_of_getElem? (i := 162) rfl) rfl
theorem kt_yJ1_indexOf_4cfef : Cond.static yJ1_indexOf_4cfef ∈ lw_g := lw_m1 (List.mem_of_getElem? (i := 163) rfl) rfl
theorem kc_yJ1_indexOf_4cfef : Cond.code yJ1_indexOf_4cfef cJ1_indexOf_4cfef 4 (some .int) ∈ lw_g := lw_m1 (List.mem_of_getElem? (i := 164) rfl) rfl
theorem kl_RJ1_88 : Cond.methodLink RJ1 88 yJ1_canEncode_9a6ad ∈ lw_g := lw_m1 (List.mem_of_getElem? (i := 165) rfl) rfl
theorem kt_yJ1_canEncode_9a6ad : Cond.static yJ1_canEncode_9a6ad ∈ lw_g := lw_m1 (List.mem_of_getElem? (i := 166) rfl) rfl
theorem kc_yJ1_canEncode_9a6ad : Cond.code yJ1_canEncode_9a6ad cJ1_canEncode_9a6ad 1 (some .boolean) ∈ lw_g := lw_m1 (List.mem_of_getElem? (i := 167) rfl) rfl
theorem kl_RJ1_92 : Cond.methodLink RJ1 92 yJ9_max_7cf53 ∈ lw_g := lw_m1 (List.mem_of_getElem? (i := 168) rfl) rfl
theorem kt_yJ9_max_7cf53 : Cond.static yJ9_max_7cf53 ∈ lw_g := lw_m1 (List.mem_of_getElem? (i := 169) rfl) rfl
theorem kc_yJ9_max_7cf53 : Cond.code yJ9_max_7cf53 cJ9_max_7cf53 2 (some .int) ∈ lw_g := lw_m1 (List.mem_of_getElem? (i := 170) rfl) rfl
theorem kl_RJ1_38 : Cond.methodLink RJ1 38 yJ9_min_7cf53 ∈ lw_g := lw_m1 (List.mem_of_getElem? (i := 171) rfl) rfl
theorem kt_yJ9_min_7cf53 : Cond.static yJ9_min_7cf53 ∈ lw_g := lw_m1 (List.mem_of_getElem? (i := 172) rfl) rfl
theorem kc_yJ9_min_7cf53 : Cond.code yJ9_min_7cf53 cJ9_min_7cf53 2 (some .int) ∈ lw_g := lw_m1 (List.mem_of_getElem? (i := 173) rfl) rfl
theorem kl_RJ1_95 : Cond.methodLink RJ1 95 yJ1_indexOfChar_4cfef ∈ lw_g := lw_m1 (List.mem_of_getElem? (i := 174) rfl) rfl
theorem kt_yJ1_indexOfChar_4cfef : Cond.static yJ1_indexOfChar_4cfef ∈ lw_g := lw_m1 (List.mem_of_getElem? (i := 175) rfl) rfl
theorem kc_yJ1_indexOfChar_4cfef : Cond.code yJ1_indexOfChar_4cfef cJ1_indexOfChar_4cfef 6 (some .int) ∈ lw_g := lw_m1 (List.mem_of_getElem? (i := 176) rfl) rfl
theorem kl_RJ0_640 : Cond.methodLink RJ0 640 yJ2_indexOf_4cfef ∈ lw_g := lw_m1 (List.mem_of_getElem? (i := 177) rfl) rfl
theorem kt_yJ2_indexOf_4cfef : Cond.static yJ2_indexOf_4cfef ∈ lw_g := lw_m1 (List.mem_of_getElem? (i := 178) rfl) rfl
theorem kc_yJ2_indexOf_4cfef : Cond.code yJ2_indexOf_4cfef cJ2_indexOf_4cfef 4 (some .int) ∈ lw_g := lw_m1 (List.mem_of_getElem? (i := 179) rfl) rfl
theorem kl_RJ2_224 : Cond.methodLink RJ2 224 yJ9_max_7cf53 ∈ lw_g := lw_m1 (List.mem_of_getElem? (i := 180) rfl) rfl
theorem kl_RJ2_183 : Cond.methodLink RJ2 183 yJ9_min_7cf53 ∈ lw_g := lw_m1 (List.mem_of_getElem? (i := 181) rfl) rfl
theorem kk_RJ2_227 : Cond.constant RJ2 227 (65536) ∈ lw_g := lw_m1 (List.mem_of_getElem? (i := 182) rfl) rfl
theorem kl_RJ2_228 : Cond.methodLink RJ2 228 yJ2_indexOfChar_4cfef ∈ lw_g := lw_m1 (List.mem_of_getElem? (i := 183) rfl) rfl
theorem kt_yJ2_indexOfChar_4cfef : Cond.static yJ2_indexOfChar_4cfef ∈ lw_g := lw_m1 (List.mem_of_getElem? (i := 184) rfl) rfl
theorem kc_yJ2_indexOfChar_4cfef : Cond.code yJ2_indexOfChar_4cfef cJ2_indexOfChar_4cfef 4 (some .int) ∈ lw_g := lw_m1 (List.mem_of_getElem? (i := 185) rfl) rfl
theorem kl_RJ2_96 : Cond.methodLink RJ2 96 yJ2_checkBoundsBeginEnd_d044e ∈ lw_g := lw_m1 (List.mem_of_getElem? (i := 186) rfl) rfl
theorem kt_yJ2_checkBoundsBeginEnd_d044e : Cond.static yJ2_checkBoundsBeginEnd_d044e ∈ lw_g := lw_m1 (List.mem_of_getElem? (i := 187) rfl) rfl
theorem kc_yJ2_checkBoundsBeginEnd_d044e : Cond.code yJ2_checkBoundsBeginEnd_d044e cJ2_checkBoundsBeginEnd_d044e 3 none ∈ lw_g := lw_m1 (List.mem_of_getElem? (i := 188) rfl) rfl
theorem kl_RJ2_48 : Cond.methodLink RJ2 48 yJ2_length_9d52b ∈ lw_g := lw_m1 (List.mem_of_getElem? (i := 189) rfl) rfl
theorem kt_yJ2_length_9d52b : Cond.static yJ2_length_9d52b ∈ lw_g := lw_m1 (List.mem_of_getElem? (i := 190) rfl) rfl
theorem kc_yJ2_length_9d52b : Cond.code yJ2_length_9d52b cJ2_length_9d52b 1 (some .int) ∈ lw_g := lw_m1 (List.mem_of_getElem? (i := 191) rfl) rfl
theorem kl_RJ2_241 : Cond.methodLink RJ2 241 yJ0_checkBoundsBeginEnd_23922 ∈ lw_g := lw_m1 (List.mem_of_getElem? (i := 192) rfl) rfl
theorem kt_yJ0_checkBoundsBeginEnd_23922 : Cond.static yJ0_checkBoundsBeginEnd_23922 ∈ lw_g := lw_m1 (List.mem_of_getElem? (i := 193) rfl) rfl
theorem kc_yJ0_checkBoundsBeginEnd_23922 : Cond.code yJ0_checkBoundsBeginEnd_23922 cJ0_checkBoundsBeginEnd_23922 3 none ∈ lw_g := lw_m1 (List.mem_of_getElem? (i := 194) rfl) rfl
theorem kf_RJ0_1053 : Cond.fieldLink RJ0 1053 "jdk/internal/util/Preconditions" "SIOOBE_FORMATTER" "Ljava/util/function/BiFunction;" ∈ lw_g := lw_m1 (List.mem_of_getElem? (i := 195) rfl) rfl
theorem kls_RJ3_SIOOBE_FORMATTER : Cond.laysStatic RJ3 "SIOOBE_FORMATTER" "Ljava/util/function/BiFunction;" ∈ lw_tbl := lw_n1 (List.mem_of_getElem? (i := 196) rfl)
theorem kl_RJ0_1062 : Cond.methodLink RJ0 1062 yJ3_checkFromToIndex_8c36e ∈ lw_g := lw_m1 (List.mem_of_getElem? (i := 197) rfl) rfl
theorem kt_yJ3_checkFromToIndex_8c36e : Cond.static yJ3_checkFromToIndex_8c36e ∈ lw_g := lw_m1 (List.mem_of_getElem? (i := 198) rfl) rfl
theorem kc_yJ3_checkFromToIndex_8c36e : Cond.code yJ3_checkFromToIndex_8c36e cJ3_checkFromToIndex_8c36e 4 (some .int) ∈ lw_g := lw_m1 (List.mem_of_getElem? (i := 199) rfl) rfl
theorem kl_RJ2_244 : Cond.methodLink RJ2 244 yJ2_indexOfCharUnsafe_4cfef ∈ lw_g := lw_m1 (List.mem_of_getElem? (i := 200) rfl) rfl
theorem kt_yJ2_indexOfCharUnsafe_4cfef : Cond.static yJ2_indexOfCharUnsafe_4cfef ∈ lw_g := lw_m1 (List.mem_of_getElem? (i := 201) rfl) rfl
theorem kc_yJ2_indexOfCharUnsafe_4cfef : Cond.code yJ2_indexOfCharUnsafe_4cfef cJ2_indexOfCharUnsafe_4cfef 5 (some .int) ∈ lw_g := lw_m1 (List.mem_of_getElem? (i := 202) rfl) rfl
theorem kl_RJ2_71 : Cond.methodLink RJ2 71 yJ2_getChar_3b067 ∈ lw_g := lw_m1 (List.mem_of_getElem? (i := 203) rfl) rfl
theorem kt_yJ2_getChar_3b067 : Cond.static yJ2_getChar_3b067 ∈ lw_g := lw_m1 (List.mem_of_getElem? (i := 204) rfl) rfl
theorem kc_yJ2_getChar_3b067 : Cond.code yJ2_getChar_3b067 cJ2_getChar_3b067 2 (some .char) ∈ lw_g := lw_m1 (List.mem_of_getElem? (i := 205) rfl) rfl
theorem kf_RJ2_44 : Cond.fieldLink RJ2 44 "java/lang/StringUTF16" "$assertionsDisabled" "Z" ∈ lw_g := lw_m1 (List.mem_of_getElem? (i := 206) rfl) rfl
theorem kls_RJ2__assertionsDisabled : Cond.laysStatic RJ2 "$assertionsDisabled" "Z" ∈ lw_tbl := lw_n1 (List.mem_of_getElem? (i := 207) rfl)
theorem kf_RJ2_59 : Cond.fieldLink RJ2 59 "java/lang/StringUTF16" "HI_BYTE_SHIFT" "I" ∈ lw_g := lw_m1 (List.mem_of_getElem? (i := 208) rfl) rfl
theorem kls_RJ2_HI_BYTE_SHIFT : Cond.laysStatic RJ2 "HI_BYTE_SHIFT" "I" ∈ lw_tbl := lw_n1 (List.mem_of_getElem? (i := 209) rfl)
theorem kf_RJ2_63 : Cond.fieldLink RJ2 63 "java/lang/StringUTF16" "LO_BYTE_SHIFT" "I" ∈ lw_g := lw_m1 (List.mem_of_getElem? (i := 210) rfl) rfl
theorem kls_RJ2_LO_BYTE_SHIFT : Cond.laysStatic RJ2 "LO_BYTE_SHIFT" "I" ∈ lw_tbl := lw_n1 (List.mem_of_getElem? (i := 211) rfl)
theorem kl_RJ2_232 : Cond.methodLink RJ2 232 yJ2_indexOfSupplementary_4cfef ∈ lw_g := lw_m1 (List.mem_of_getElem? (i := 212) rfl) rfl
theorem kt_yJ2_indexOfSupplementary_4cfef : Cond.static yJ2_indexOfSupplementary_4cfef ∈ lw_g := lw_m1 (List.mem_of_getElem? (i := 213) rfl) rfl
theorem kc_yJ2_indexOfSupplementary_4cfef : Cond.code yJ2_indexOfSupplementary_4cfef cJ2_indexOfSupplementary_4cfef 7 (some .int) ∈ lw_g := lw_m1 (List.mem_of_getElem? (i := 214) rfl) rfl
theorem kl_RJ2_164 : Cond.methodLink RJ2 164 yJ11_isValidCodePoint_9a6ad ∈ lw_g := lw_m1 (List.mem_of_getElem? (i := 215) rfl) rfl
theorem kt_yJ11_isValidCodePoint_9a6ad : Cond.static yJ11_isValidCodePoint_9a6ad ∈ lw_g := lw_m1 (List.mem_of_getElem? (i := 216) rfl) rfl
theorem kc_yJ11_isValidCodePoint_9a6ad : Cond.code yJ11_isValidCodePoint_9a6ad cJ11_isValidCodePoint_9a6ad 2 (some .boolean) ∈ lw_g := lw_m1 (List.mem_of_getElem? (i := 217) rfl) rfl
theorem kl_RJ2_157 : Cond.methodLink RJ2 157 yJ11_highSurrogate_5068e ∈ lw_g := lw_m1 (List.mem_of_getElem? (i := 218) rfl) rfl
theorem kt_yJ11_highSurrogate_5068e : Cond.static yJ11_highSurrogate_5068e ∈ lw_g := lw_m1 (List.mem_of_getElem? (i := 219) rfl) rfl
theorem kc_yJ11_highSurrogate_5068e : Cond.code yJ11_highSurrogate_5068e cJ11_highSurrogate_5068e 1 (some .char) ∈ lw_g := lw_m1 (List.mem_of_getElem? (i := 220) rfl) rfl
theorem kk_RJ11_110 : Cond.constant RJ11 110 (55232) ∈ lw_g := lw_m1 (List.mem_of_getElem? (i := 221) rfl) rfl
theorem kl_RJ2_161 : Cond.methodLink RJ2 161 yJ11_lowSurrogate_5068e ∈ lw_g := lw_m1 (List.mem_of_getElem? (i := 222) rfl) rfl
theorem kt_yJ11_lowSurrogate_5068e : Cond.static yJ11_lowSurrogate_5068e ∈ lw_g := lw_m1 (List.mem_of_getElem? (i := 223) rfl) rfl
theorem kc_yJ11_lowSurrogate_5068e : Cond.code yJ11_lowSurrogate_5068e cJ11_lowSurrogate_5068e 1 (some .char) ∈ lw_g := lw_m1 (List.mem_of_getElem? (i := 224) rfl) rfl
theorem kk_RJ11_76 : Cond.constant RJ11 76 (56320) ∈ lw_g := lw_m1 (List.mem_of_getElem? (i := 225) rfl) rfl
theorem kl_RX1_59 : Cond.methodLink RX1 59 yX0_copyFrom ∈ lw_g := lw_m1 (List.mem_of_getElem? (i := 226) rfl) rfl
theorem ki_yX0_copyFrom : Cond.instanceMethod yX0_copyFrom ∈ lw_g := lw_m1 (List.mem_of_getElem? (i := 227) rfl) rfl
theorem ks_yX0_copyFrom : Cond.selects RX0 yX0_copyFrom yX0_copyFrom ∈ lw_g := lw_m1 (List.mem_of_getElem? (i := 228) rfl) rfl
theorem kc_yX0_copyFrom : Cond.code yX0_copyFrom cX0_copyFrom 2 none ∈ lw_g := lw_m1 (List.mem_of_getElem? (i := 229) rfl) rfl
theorem kl_RX0_49 : Cond.methodLink RX0 49 ({ cls := "java/lang/System", name := "arraycopy", desc := "(Ljava/lang/Object;ILjava/lang/Object;II)V" } : MethodName) ∈ lw_g := lw_m1 (List.mem_of_getElem? (i := 230) rfl) rfl
theorem kt_arraycopy : Cond.static arraycopyName ∈ lw_g := lw_m1 (List.mem_of_getElem? (i := 231) rfl) rfl
theorem kv_arraycopy : Cond.native arraycopyName ∈ lw_g := lw_m1 (List.mem_of_getElem? (i := 232) rfl) rfl
theorem kl_RX1_63 : Cond.methodLink RX1 63 yX1_comesToMind ∈ lw_g := lw_m1 (List.mem_of_getElem? (i := 233) rfl) rfl
theorem ki_yX1_comesToMind : Cond.instanceMethod yX1_comesToMind ∈ lw_g := lw_m1 (List.mem_of_getElem? (i := 235) rfl) rfl
theorem kc_yX1_comesToMind : Cond.code yX1_comesToMind cX1_comesToMind 2 (some .boolean) ∈ lw_g := lw_m1 (List.mem_of_getElem? (i := 236) rfl) rfl
theorem kl_RX1_266 : Cond.methodLink RX1 266 yX1_rocketComes ∈ lw_g := lw_m1 (List.mem_of_getElem? (i := 237) rfl) rfl
theorem ki_yX1_rocketComes : Cond.instanceMethod yX1_rocketComes ∈ lw_g := lw_m1 (List.mem_of_getElem? (i := 239) rfl) rfl
theorem kc_yX1_rocketComes : Cond.code yX1_rocketComes cX1_rocketComes 2 (some .boolean) ∈ lw_g := lw_m2 (List.mem_of_getElem? (i := 0) rfl) rfl
theorem kl_RX1_269 : Cond.methodLink RX1 269 yX1_numberAt ∈ lw_g := lw_m2 (List.mem_of_getElem? (i := 1) rfl) rfl
theorem ki_yX1_numberAt : Cond.instanceMethod yX1_numberAt ∈ lw_g := lw_m2 (List.mem_of_getElem? (i := 3) rfl) rfl
theorem kc_yX1_numberAt : Cond.code yX1_numberAt cX1_numberAt 5 (some .int) ∈ lw_g := lw_m2 (List.mem_of_getElem? (i := 4) rfl) rfl
theorem kl_RX1_285 : Cond.methodLink RX1 285 yX0_addRocket ∈ lw_g := lw_m2 (List.mem_of_getElem? (i := 5) rfl) rfl
theorem ki_yX0_addRocket : Cond.instanceMethod yX0_addRocket ∈ lw_g := lw_m2 (List.mem_of_getElem? (i := 6) rfl) rfl
theorem ks_yX0_addRocket : Cond.selects RX0 yX0_addRocket yX0_addRocket ∈ lw_g := lw_m2 (List.mem_of_getElem? (i := 7) rfl) rfl
theorem kc_yX0_addRocket : Cond.code yX0_addRocket cX0_addRocket 5 (some .boolean) ∈ lw_g := lw_m2 (List.mem_of_getElem? (i := 8) rfl) rfl
theorem kl_RX1_272 : Cond.methodLink RX1 272 yX0_addReader ∈ lw_g := lw_m2 (List.mem_of_getElem? (i := 9) rfl) rfl
theorem ki_yX0_addReader : Cond.instanceMethod yX0_addReader ∈ lw_g := lw_m2 (List.mem_of_getElem? (i := 10) rfl) rfl
theorem ks_yX0_addReader : Cond.selects RX0 yX0_addReader yX0_addReader ∈ lw_g := lw_m2 (List.mem_of_getElem? (i := 11) rfl) rfl
theorem kc_yX0_addReader : Cond.code yX0_addReader cX0_addReader 3 (some .boolean) ∈ lw_g := lw_m2 (List.mem_of_getElem? (i := 12) rfl) rfl
theorem kl_RX1_276 : Cond.methodLink RX1 276 yX1_rocketGoesUp ∈ lw_g := lw_m2 (List.mem_of_getElem? (i := 13) rfl) rfl
theorem ki_yX1_rocketGoesUp : Cond.instanceMethod yX1_rocketGoesUp ∈ lw_g := lw_m2 (List.mem_of_getElem? (i := 15) rfl) rfl
theorem kc_yX1_rocketGoesUp : Cond.code yX1_rocketGoesUp cX1_rocketGoesUp 2 (some .boolean) ∈ lw_g := lw_m2 (List.mem_of_getElem? (i := 16) rfl) rfl
theorem kl_RX1_115 : Cond.methodLink RX1 115 yX0_canSend ∈ lw_g := lw_m2 (List.mem_of_getElem? (i := 17) rfl) rfl
theorem ki_yX0_canSend : Cond.instanceMethod yX0_canSend ∈ lw_g := lw_m2 (List.mem_of_getElem? (i := 18) rfl) rfl
theorem ks_yX0_canSend : Cond.selects RX0 yX0_canSend yX0_canSend ∈ lw_g := lw_m2 (List.mem_of_getElem? (i := 19) rfl) rfl
theorem kc_yX0_canSend : Cond.code yX0_canSend cX0_canSend 2 (some .boolean) ∈ lw_g := lw_m2 (List.mem_of_getElem? (i := 20) rfl) rfl
theorem kl_RX0_65 : Cond.methodLink RX0 65 yX0_hasRocket ∈ lw_g := lw_m2 (List.mem_of_getElem? (i := 21) rfl) rfl
theorem ki_yX0_hasRocket : Cond.instanceMethod yX0_hasRocket ∈ lw_g := lw_m2 (List.mem_of_getElem? (i := 22) rfl) rfl
theorem ks_yX0_hasRocket : Cond.selects RX0 yX0_hasRocket yX0_hasRocket ∈ lw_g := lw_m2 (List.mem_of_getElem? (i := 23) rfl) rfl
theorem kc_yX0_hasRocket : Cond.code yX0_hasRocket cX0_hasRocket 2 (some .boolean) ∈ lw_g := lw_m2 (List.mem_of_getElem? (i := 24) rfl) rfl
theorem kl_RX0_69 : Cond.methodLink RX0 69 yX0_isSent ∈ lw_g := lw_m2 (List.mem_of_getElem? (i := 25) rfl) rfl
theorem ki_yX0_isSent : Cond.instanceMethod yX0_isSent ∈ lw_g := lw_m2 (List.mem_of_getElem? (i := 26) rfl) rfl
theorem ks_yX0_isSent : Cond.selects RX0 yX0_isSent yX0_isSent ∈ lw_g := lw_m2 (List.mem_of_getElem? (i := 27) rfl) rfl
theorem kc_yX0_isSent : Cond.code yX0_isSent cX0_isSent 2 (some .boolean) ∈ lw_g := lw_m2 (List.mem_of_getElem? (i := 28) rfl) rfl
theorem kl_RX0_72 : Cond.methodLink RX0 72 yX0_costOf ∈ lw_g := lw_m2 (List.mem_of_getElem? (i := 29) rfl) rfl
theorem ki_yX0_costOf : Cond.instanceMethod yX0_costOf ∈ lw_g := lw_m2 (List.mem_of_getElem? (i := 30) rfl) rfl
theorem ks_yX0_costOf : Cond.selects RX0 yX0_costOf yX0_costOf ∈ lw_g := lw_m2 (List.mem_of_getElem? (i := 31) rfl) rfl
theorem kc_yX0_costOf : Cond.code yX0_costOf cX0_costOf 2 (some .int) ∈ lw_g := lw_m2 (List.mem_of_getElem? (i := 32) rfl) rfl
theorem kf_RX0_55 : Cond.fieldLinkNest RX0 55 "RocketsAsk" "COSTS" "[I" "RocketsAsk" ∈ lw_tbl := lw_n2 (List.mem_of_getElem? (i := 33) rfl)
theorem kls_RX1_COSTS : Cond.laysStatic RX1 "COSTS" "[I" ∈ lw_tbl := lw_n2 (List.mem_of_getElem? (i := 34) rfl)
theorem kl_RX1_118 : Cond.methodLink RX1 118 yX0_sendUp ∈ lw_g := lw_m2 (List.mem_of_getElem? (i := 35) rfl) rfl
theorem ki_yX0_sendUp : Cond.instanceMethod yX0_sendUp ∈ lw_g := lw_m2 (List.mem_of_getElem? (i := 36) rfl) rfl
theorem ks_yX0_sendUp : Cond.selects RX0 yX0_sendUp yX0_sendUp ∈ lw_g := lw_m2 (List.mem_of_getElem? (i := 37) rfl) rfl
theorem kc_yX0_sendUp : Cond.code yX0_sendUp cX0_sendUp 7 none ∈ lw_g := lw_m2 (List.mem_of_getElem? (i := 38) rfl) rfl
theorem kl_RX0_75 : Cond.methodLink RX0 75 yX0_throwAway ∈ lw_g := lw_m2 (List.mem_of_getElem? (i := 39) rfl) rfl
theorem ki_yX0_throwAway : Cond.instanceMethod yX0_throwAway ∈ lw_g := lw_m2 (List.mem_of_getElem? (i := 40) rfl) rfl
theorem ks_yX0_throwAway : Cond.selects RX0 yX0_throwAway yX0_throwAway ∈ lw_g := lw_m2 (List.mem_of_getElem? (i := 41) rfl) rfl
theorem kc_yX0_throwAway : Cond.code yX0_throwAway cX0_throwAway 2 none ∈ lw_g := lw_m2 (List.mem_of_getElem? (i := 42) rfl) rfl
theorem kl_RX0_79 : Cond.methodLink RX0 79 yX0_readersOf ∈ lw_g := lw_m2 (List.mem_of_getElem? (i := 43) rfl) rfl
theorem ki_yX0_readersOf : Cond.instanceMethod yX0_readersOf ∈ lw_g := lw_m2 (List.mem_of_getElem? (i := 44) rfl) rfl
theorem ks_yX0_readersOf : Cond.selects RX0 yX0_readersOf yX0_readersOf ∈ lw_g := lw_m2 (List.mem_of_getElem? (i := 45) rfl) rfl
theorem kc_yX0_readersOf : Cond.code yX0_readersOf cX0_readersOf 7 (some .int) ∈ lw_g := lw_m2 (List.mem_of_getElem? (i := 46) rfl) rfl
theorem kl_RX0_58 : Cond.methodLink RX0 58 yX0_burstOf ∈ lw_g := lw_m2 (List.mem_of_getElem? (i := 47) rfl) rfl
theorem ki_yX0_burstOf : Cond.instanceMethod yX0_burstOf ∈ lw_g := lw_m2 (List.mem_of_getElem? (i := 48) rfl) rfl
theorem ks_yX0_burstOf : Cond.selects RX0 yX0_burstOf yX0_burstOf ∈ lw_g := lw_m2 (List.mem_of_getElem? (i := 49) rfl) rfl
theorem kc_yX0_burstOf : Cond.code yX0_burstOf cX0_burstOf 5 (some .int) ∈ lw_g := lw_m2 (List.mem_of_getElem? (i := 50) rfl) rfl
theorem kl_RX0_62 : Cond.methodLink RX0 62 yX0_reachOf ∈ lw_g := lw_m2 (List.mem_of_getElem? (i := 51) rfl) rfl
theorem ki_yX0_reachOf : Cond.instanceMethod yX0_reachOf ∈ lw_g := lw_m2 (List.mem_of_getElem? (i := 52) rfl) rfl
theorem ks_yX0_reachOf : Cond.selects RX0 yX0_reachOf yX0_reachOf ∈ lw_g := lw_m2 (List.mem_of_getElem? (i := 53) rfl) rfl
theorem kc_yX0_reachOf : Cond.code yX0_reachOf cX0_reachOf 3 (some .int) ∈ lw_g := lw_m2 (List.mem_of_getElem? (i := 54) rfl) rfl
theorem kl_RX1_279 : Cond.methodLink RX1 279 yX1_rocketGoesBack ∈ lw_g := lw_m2 (List.mem_of_getElem? (i := 55) rfl) rfl
theorem ki_yX1_rocketGoesBack : Cond.instanceMethod yX1_rocketGoesBack ∈ lw_g := lw_m2 (List.mem_of_getElem? (i := 57) rfl) rfl
theorem kc_yX1_rocketGoesBack : Cond.code yX1_rocketGoesBack cX1_rocketGoesBack 2 (some .boolean) ∈ lw_g := lw_m2 (List.mem_of_getElem? (i := 58) rfl) rfl
theorem kl_RX1_70 : Cond.methodLink RX1 70 yX0_hasRocket ∈ lw_g := lw_m2 (List.mem_of_getElem? (i := 59) rfl) rfl
theorem kl_RX1_82 : Cond.methodLink RX1 82 yX0_isSent ∈ lw_g := lw_m2 (List.mem_of_getElem? (i := 60) rfl) rfl
theorem kl_RX1_125 : Cond.methodLink RX1 125 yX0_putBack ∈ lw_g := lw_m2 (List.mem_of_getElem? (i := 61) rfl) rfl
theorem ki_yX0_putBack : Cond.instanceMethod yX0_putBack ∈ lw_g := lw_m2 (List.mem_of_getElem? (i := 62) rfl) rfl
theorem ks_yX0_putBack : Cond.selects RX0 yX0_putBack yX0_putBack ∈ lw_g := lw_m2 (List.mem_of_getElem? (i := 63) rfl) rfl
theorem kc_yX0_putBack : Cond.code yX0_putBack cX0_putBack 2 none ∈ lw_g := lw_m2 (List.mem_of_getElem? (i := 64) rfl) rfl
theorem kl_RX1_282 : Cond.methodLink RX1 282 yX1_nightsGoBy ∈ lw_g := lw_m2 (List.mem_of_getElem? (i := 65) rfl) rfl
theorem ki_yX1_nightsGoBy : Cond.instanceMethod yX1_nightsGoBy ∈ lw_g := lw_m2 (List.mem_of_getElem? (i := 67) rfl) rfl
theorem kc_yX1_nightsGoBy : Cond.code yX1_nightsGoBy cX1_nightsGoBy 2 (some .boolean) ∈ lw_g := lw_m2 (List.mem_of_getElem? (i := 68) rfl) rfl
theorem kl_RX1_150 : Cond.methodLink RX1 150 yX0_passNights ∈ lw_g := lw_m2 (List.mem_of_getElem? (i := 69) rfl) rfl
theorem ki_yX0_passNights : Cond.instanceMethod yX0_passNights ∈ lw_g := lw_m2 (List.mem_of_getElem? (i := 70) rfl) rfl
theorem ks_yX0_passNights : Cond.selects RX0 yX0_passNights yX0_passNights ∈ lw_g := lw_m2 (List.mem_of_getElem? (i := 71) rfl) rfl
theorem kc_yX0_passNights : Cond.code yX0_passNights cX0_passNights 5 none ∈ lw_g := lw_m2 (List.mem_of_getElem? (i := 72) rfl) rfl
theorem kl_RX0_85 : Cond.methodLink RX0 85 yX0_forget ∈ lw_g := lw_m2 (List.mem_of_getElem? (i := 73) rfl) rfl
theorem ki_yX0_forget : Cond.instanceMethod yX0_forget ∈ lw_g := lw_m2 (List.mem_of_getElem? (i := 74) rfl) rfl
theorem ks_yX0_forget : Cond.selects RX0 yX0_forget yX0_forget ∈ lw_g := lw_m2 (List.mem_of_getElem? (i := 75) rfl) rfl
theorem kc_yX0_forget : Cond.code yX0_forget cX0_forget 2 none ∈ lw_g := lw_m2 (List.mem_of_getElem? (i := 76) rfl) rfl
theorem kl_RX0_88 : Cond.methodLink RX0 88 yX0_upNext ∈ lw_g := lw_m2 (List.mem_of_getElem? (i := 77) rfl) rfl
theorem ki_yX0_upNext : Cond.instanceMethod yX0_upNext ∈ lw_g := lw_m2 (List.mem_of_getElem? (i := 78) rfl) rfl
theorem ks_yX0_upNext : Cond.selects RX0 yX0_upNext yX0_upNext ∈ lw_g := lw_m2 (List.mem_of_getElem? (i := 79) rfl) rfl
theorem kc_yX0_upNext : Cond.code yX0_upNext cX0_upNext 2 (some .int) ∈ lw_g := lw_m2 (List.mem_of_getElem? (i := 80) rfl) rfl
theorem kl_RX0_82 : Cond.methodLink RX0 82 yX0_canSend ∈ lw_g := lw_m2 (List.mem_of_getElem? (i := 81) rfl) rfl
theorem kl_RX0_92 : Cond.methodLink RX0 92 yX0_sendUp ∈ lw_g := lw_m2 (List.mem_of_getElem? (i := 82) rfl) rfl
theorem ka_byte : Cond.arrayClass .byte ∈ lw_g := lw_m2 (List.mem_of_getElem? (i := 83) rfl) rfl
theorem kl_RL_23 : Cond.methodLink RL 23 yX1_rocket ∈ lw_g := lw_m2 (List.mem_of_getElem? (i := 84) rfl) rfl
theorem ki_yX1_rocket : Cond.instanceMethod yX1_rocket ∈ lw_g := lw_m2 (List.mem_of_getElem? (i := 85) rfl) rfl
theorem ks_yX1_rocket : Cond.selects RX1 yX1_rocket yX1_rocket ∈ lw_g := lw_m2 (List.mem_of_getElem? (i := 86) rfl) rfl
theorem kc_yX1_rocket : Cond.code yX1_rocket cX1_rocket 3 (some .int) ∈ lw_g := lw_m2 (List.mem_of_getElem? (i := 87) rfl) rfl
theorem kl_RX1_85 : Cond.methodLink RX1 85 yX0_costOf ∈ lw_g := lw_m2 (List.mem_of_getElem? (i := 88) rfl) rfl
theorem kl_RX1_88 : Cond.methodLink RX1 88 yX0_reachOf ∈ lw_g := lw_m2 (List.mem_of_getElem? (i := 89) rfl) rfl
theorem kl_RX1_91 : Cond.methodLink RX1 91 yX0_darkOf ∈ lw_g := lw_m2 (List.mem_of_getElem? (i := 90) rfl) rfl
theorem ki_yX0_darkOf : Cond.instanceMethod yX0_darkOf ∈ lw_g := lw_m2 (List.mem_of_getElem? (i := 91) rfl) rfl
theorem ks_yX0_darkOf : Cond.selects RX0 yX0_darkOf yX0_darkOf ∈ lw_g := lw_m2 (List.mem_of_getElem? (i := 92) rfl) rfl
theorem kc_yX0_darkOf : Cond.code yX0_darkOf cX0_darkOf 3 (some .int) ∈ lw_g := lw_m2 (List.mem_of_getElem? (i := 93) rfl) rfl
theorem kl_RX1_94 : Cond.methodLink RX1 94 yX0_burstOf ∈ lw_g := lw_m2 (List.mem_of_getElem? (i := 94) rfl) rfl
theorem kl_RX1_97 : Cond.methodLink RX1 97 yX0_readersOf ∈ lw_g := lw_m2 (List.mem_of_getElem? (i := 95) rfl) rfl
theorem kl_RL_28 : Cond.methodLink RL 28 yX1_reader ∈ lw_g := lw_m2 (List.mem_of_getElem? (i := 96) rfl) rfl
theorem ki_yX1_reader : Cond.instanceMethod yX1_reader ∈ lw_g := lw_m2 (List.mem_of_getElem? (i := 97) rfl) rfl
theorem ks_yX1_reader : Cond.selects RX1 yX1_reader yX1_reader ∈ lw_g := lw_m2 (List.mem_of_getElem? (i := 98) rfl) rfl
theorem kc_yX1_reader : Cond.code yX1_reader cX1_reader 3 (some .int) ∈ lw_g := lw_m2 (List.mem_of_getElem? (i := 99) rfl) rfl
theorem kl_RX1_100 : Cond.methodLink RX1 100 yX0_hasReader ∈ lw_g := lw_m2 (List.mem_of_getElem? (i := 100) rfl) rfl
theorem ki_yX0_hasReader : Cond.instanceMethod yX0_hasReader ∈ lw_g := lw_m2 (List.mem_of_getElem? (i := 101) rfl) rfl
theorem ks_yX0_hasReader : Cond.selects RX0 yX0_hasReader yX0_hasReader ∈ lw_g := lw_m2 (List.mem_of_getElem? (i := 102) rfl) rfl
theorem kc_yX0_hasReader : Cond.code yX0_hasReader cX0_hasReader 2 (some .boolean) ∈ lw_g := lw_m2 (List.mem_of_getElem? (i := 103) rfl) rfl
theorem kl_RX1_109 : Cond.methodLink RX1 109 yX0_wordsOf ∈ lw_g := lw_m2 (List.mem_of_getElem? (i := 104) rfl) rfl
theorem ki_yX0_wordsOf : Cond.instanceMethod yX0_wordsOf ∈ lw_g := lw_m2 (List.mem_of_getElem? (i := 105) rfl) rfl
theorem ks_yX0_wordsOf : Cond.selects RX0 yX0_wordsOf yX0_wordsOf ∈ lw_g := lw_m2 (List.mem_of_getElem? (i := 106) rfl) rfl
theorem kc_yX0_wordsOf : Cond.code yX0_wordsOf cX0_wordsOf 4 (some .int) ∈ lw_g := lw_m2 (List.mem_of_getElem? (i := 107) rfl) rfl
theorem kl_RL_32 : Cond.methodLink RL 32 yX1_keeps ∈ lw_g := lw_m2 (List.mem_of_getElem? (i := 108) rfl) rfl
theorem ki_yX1_keeps : Cond.instanceMethod yX1_keeps ∈ lw_g := lw_m2 (List.mem_of_getElem? (i := 109) rfl) rfl
theorem ks_yX1_keeps : Cond.selects RX1 yX1_keeps yX1_keeps ∈ lw_g := lw_m2 (List.mem_of_getElem? (i := 110) rfl) rfl
theorem kc_yX1_keeps : Cond.code yX1_keeps cX1_keeps 3 (some .int) ∈ lw_g := lw_m2 (List.mem_of_getElem? (i := 111) rfl) rfl
theorem kl_RL_36 : Cond.methodLink RL 36 yX1_sends ∈ lw_g := lw_m2 (List.mem_of_getElem? (i := 112) rfl) rfl
theorem ki_yX1_sends : Cond.instanceMethod yX1_sends ∈ lw_g := lw_m2 (List.mem_of_getElem? (i := 113) rfl) rfl
theorem ks_yX1_sends : Cond.selects RX1 yX1_sends yX1_sends ∈ lw_g := lw_m2 (List.mem_of_getElem? (i := 114) rfl) rfl
theorem kc_yX1_sends : Cond.code yX1_sends cX1_sends 2 (some .int) ∈ lw_g := lw_m2 (List.mem_of_getElem? (i := 115) rfl) rfl
theorem kl_RL_40 : Cond.methodLink RL 40 yX1_boxes ∈ lw_g := lw_m2 (List.mem_of_getElem? (i := 116) rfl) rfl
theorem ki_yX1_boxes : Cond.instanceMethod yX1_boxes ∈ lw_g := lw_m2 (List.mem_of_getElem? (i := 117) rfl) rfl
theorem ks_yX1_boxes : Cond.selects RX1 yX1_boxes yX1_boxes ∈ lw_g := lw_m2 (List.mem_of_getElem? (i := 118) rfl) rfl
theorem kc_yX1_boxes : Cond.code yX1_boxes cX1_boxes 2 (some .int) ∈ lw_g := lw_m2 (List.mem_of_getElem? (i := 119) rfl) rfl
theorem kl_RX1_135 : Cond.methodLink RX1 135 yJ6_bitCount_0f7a4 ∈ lw_g := lw_m2 (List.mem_of_getElem? (i := 120) rfl) rfl
theorem kt_yJ6_bitCount_0f7a4 : Cond.static yJ6_bitCount_0f7a4 ∈ lw_g := lw_m2 (List.mem_of_getElem? (i := 121) rfl) rfl
theorem kc_yJ6_bitCount_0f7a4 : Cond.code yJ6_bitCount_0f7a4 cJ6_bitCount_0f7a4 1 (some .int) ∈ lw_g := lw_m2 (List.mem_of_getElem? (i := 122) rfl) rfl
theorem kk_RJ6_265 : Cond.constant RJ6 265 (1431655765) ∈ lw_g := lw_m2 (List.mem_of_getElem? (i := 123) rfl) rfl
theorem kk_RJ6_266 : Cond.constant RJ6 266 (858993459) ∈ lw_g := lw_m2 (List.mem_of_getElem? (i := 124) rfl) rfl
theorem kk_RJ6_267 : Cond.constant RJ6 267 (252645135) ∈ lw_g := lw_m2 (List.mem_of_getElem? (i := 125) rfl) rfl
theorem kl_RL_44 : Cond.methodLink RL 44 yX1_wind ∈ lw_g := lw_m2 (List.mem_of_getElem? (i := 126) rfl) rfl
theorem ki_yX1_wind : Cond.instanceMethod yX1_wind ∈ lw_g := lw_m2 (List.mem_of_getElem? (i := 127) rfl) rfl
theorem ks_yX1_wind : Cond.selects RX1 yX1_wind yX1_wind ∈ lw_g := lw_m2 (List.mem_of_getElem? (i := 128) rfl) rfl
theorem kc_yX1_wind : Cond.code yX1_wind cX1_wind 4 (some .int) ∈ lw_g := lw_m2 (List.mem_of_getElem? (i := 129) rfl) rfl
theorem kl_RX1_140 : Cond.methodLink RX1 140 yX1_outside ∈ lw_g := lw_m2 (List.mem_of_getElem? (i := 130) rfl) rfl
theorem kt_yX1_outside : Cond.static yX1_outside ∈ lw_g := lw_m2 (List.mem_of_getElem? (i := 131) rfl) rfl
theorem kc_yX1_outside : Cond.code yX1_outside cX1_outside 3 (some .int) ∈ lw_g := lw_m2 (List.mem_of_getElem? (i := 132) rfl) rfl
theorem kl_RL_48 : Cond.methodLink RL 48 yX1_grant ∈ lw_g := lw_m2 (List.mem_of_getElem? (i := 133) rfl) rfl
theorem ki_yX1_grant : Cond.instanceMethod yX1_grant ∈ lw_g := lw_m2 (List.mem_of_getElem? (i := 134) rfl) rfl
theorem ks_yX1_grant : Cond.selects RX1 yX1_grant yX1_grant ∈ lw_g := lw_m2 (List.mem_of_getElem? (i := 135) rfl) rfl
theorem kc_yX1_grant : Cond.code yX1_grant cX1_grant 4 (some .int) ∈ lw_g := lw_m2 (List.mem_of_getElem? (i := 136) rfl) rfl
theorem kl_RL_52 : Cond.methodLink RL 52 yX1_stands ∈ lw_g := lw_m2 (List.mem_of_getElem? (i := 137) rfl) rfl
theorem ki_yX1_stands : Cond.instanceMethod yX1_stands ∈ lw_g := lw_m2 (List.mem_of_getElem? (i := 138) rfl) rfl
theorem ks_yX1_stands : Cond.selects RX1 yX1_stands yX1_stands ∈ lw_g := lw_m2 (List.mem_of_getElem? (i := 139) rfl) rfl
theorem kc_yX1_stands : Cond.code yX1_stands cX1_stands 4 (some .int) ∈ lw_g := lw_m2 (List.mem_of_getElem? (i := 140) rfl) rfl
theorem kl_RL_56 : Cond.methodLink RL 56 yX1_turn ∈ lw_g := lw_m2 (List.mem_of_getElem? (i := 141) rfl) rfl
theorem ki_yX1_turn : Cond.instanceMethod yX1_turn ∈ lw_g := lw_m2 (List.mem_of_getElem? (i := 142) rfl) rfl
theorem ks_yX1_turn : Cond.selects RX1 yX1_turn yX1_turn ∈ lw_g := lw_m2 (List.mem_of_getElem? (i := 143) rfl) rfl
theorem kc_yX1_turn : Cond.code yX1_turn cX1_turn 6 (some .int) ∈ lw_g := lw_m2 (List.mem_of_getElem? (i := 144) rfl) rfl
theorem kl_RL_61 : Cond.methodLink RL 61 yX1_nights ∈ lw_g := lw_m2 (List.mem_of_getElem? (i := 145) rfl) rfl
theorem ki_yX1_nights : Cond.instanceMethod yX1_nights ∈ lw_g := lw_m2 (List.mem_of_getElem? (i := 146) rfl) rfl
theorem ks_yX1_nights : Cond.selects RX1 yX1_nights yX1_nights ∈ lw_g := lw_m2 (List.mem_of_getElem? (i := 147) rfl) rfl
theorem kc_yX1_nights : Cond.code yX1_nights cX1_nights 3 (some .int) ∈ lw_g := lw_m2 (List.mem_of_getElem? (i := 148) rfl) rfl
theorem kl_RL_65 : Cond.methodLink RL 65 yX1_wordsThen ∈ lw_g := lw_m2 (List.mem_of_getElem? (i := 149) rfl) rfl
theorem ki_yX1_wordsThen : Cond.instanceMethod yX1_wordsThen ∈ lw_g := lw_m2 (List.mem_of_getElem? (i := 150) rfl) rfl
theorem ks_yX1_wordsThen : Cond.selects RX1 yX1_wordsThen yX1_wordsThen ∈ lw_g := lw_m2 (List.mem_of_getElem? (i := 151) rfl) rfl
theorem kc_yX1_wordsThen : Cond.code yX1_wordsThen cX1_wordsThen 4 (some .int) ∈ lw_g := lw_m2 (List.mem_of_getElem? (i := 152) rfl) rfl
theorem kl_RX1_153 : Cond.methodLink RX1 153 yX1_thinkOn ∈ lw_g := lw_m2 (List.mem_of_getElem? (i := 153) rfl) rfl
theorem ki_yX1_thinkOn : Cond.instanceMethod yX1_thinkOn ∈ lw_g := lw_m2 (List.mem_of_getElem? (i := 155) rfl) rfl
theorem kc_yX1_thinkOn : Cond.code yX1_thinkOn cX1_thinkOn 2 none ∈ lw_g := lw_m2 (List.mem_of_getElem? (i := 156) rfl) rfl
theorem kl_RL_69 : Cond.methodLink RL 69 yX1_then ∈ lw_g := lw_m2 (List.mem_of_getElem? (i := 157) rfl) rfl
theorem ki_yX1_then : Cond.instanceMethod yX1_then ∈ lw_g := lw_m2 (List.mem_of_getElem? (i := 158) rfl) rfl
theorem ks_yX1_then : Cond.selects RX1 yX1_then yX1_then ∈ lw_g := lw_m2 (List.mem_of_getElem? (i := 159) rfl) rfl
theorem kc_yX1_then : Cond.code yX1_then cX1_then 4 (some .int) ∈ lw_g := lw_m2 (List.mem_of_getElem? (i := 160) rfl) rfl
theorem kl_RX1_156 : Cond.methodLink RX1 156 yX1_isOneOfTwo ∈ lw_g := lw_m2 (List.mem_of_getElem? (i := 161) rfl) rfl
theorem kt_yX1_isOneOfTwo : Cond.static yX1_isOneOfTwo ∈ lw_g := lw_m2 (List.mem_of_getElem? (i := 162) rfl) rfl
theorem kc_yX1_isOneOfTwo : Cond.code yX1_isOneOfTwo cX1_isOneOfTwo 1 (some .boolean) ∈ lw_g := lw_m2 (List.mem_of_getElem? (i := 163) rfl) rfl
theorem kl_RL_73 : Cond.methodLink RL 73 yX1_whole ∈ lw_g := lw_m2 (List.mem_of_getElem? (i := 164) rfl) rfl
theorem ki_yX1_whole : Cond.instanceMethod yX1_whole ∈ lw_g := lw_m2 (List.mem_of_getElem? (i := 165) rfl) rfl
theorem ks_yX1_whole : Cond.selects RX1 yX1_whole yX1_whole ∈ lw_g := lw_m2 (List.mem_of_getElem? (i := 166) rfl) rfl
theorem kc_yX1_whole : Cond.code yX1_whole cX1_whole 2 (some .int) ∈ lw_g := lw_m2 (List.mem_of_getElem? (i := 167) rfl) rfl
theorem kl_RX1_159 : Cond.methodLink RX1 159 yX1_firstWhole ∈ lw_g := lw_m2 (List.mem_of_getElem? (i := 168) rfl) rfl
theorem ki_yX1_firstWhole : Cond.instanceMethod yX1_firstWhole ∈ lw_g := lw_m2 (List.mem_of_getElem? (i := 170) rfl) rfl
theorem kc_yX1_firstWhole : Cond.code yX1_firstWhole cX1_firstWhole 5 (some .int) ∈ lw_g := lw_m2 (List.mem_of_getElem? (i := 171) rfl) rfl
theorem kl_RX1_163 : Cond.methodLink RX1 163 yX1_nightsUntilWhole ∈ lw_g := lw_m2 (List.mem_of_getElem? (i := 172) rfl) rfl
theorem ki_yX1_nightsUntilWhole : Cond.instanceMethod yX1_nightsUntilWhole ∈ lw_g := lw_m2 (List.mem_of_getElem? (i := 174) rfl) rfl
theorem kc_yX1_nightsUntilWhole : Cond.code yX1_nightsUntilWhole cX1_nightsUntilWhole 3 (some .int) ∈ lw_g := lw_m2 (List.mem_of_getElem? (i := 175) rfl) rfl
theorem kl_RX1_288 : Cond.methodLink RX1 288 yX0_isWhole ∈ lw_g := lw_m2 (List.mem_of_getElem? (i := 176) rfl) rfl
theorem ki_yX0_isWhole : Cond.instanceMethod yX0_isWhole ∈ lw_g := lw_m2 (List.mem_of_getElem? (i := 177) rfl) rfl
theorem ks_yX0_isWhole : Cond.selects RX0 yX0_isWhole yX0_isWhole ∈ lw_g := lw_m2 (List.mem_of_getElem? (i := 178) rfl) rfl
theorem kc_yX0_isWhole : Cond.code yX0_isWhole cX0_isWhole 2 (some .boolean) ∈ lw_g := lw_m2 (List.mem_of_getElem? (i := 179) rfl) rfl
theorem kl_RX0_96 : Cond.methodLink RX0 96 yX0_wordsOf ∈ lw_g := lw_m2 (List.mem_of_getElem? (i := 180) rfl) rfl
theorem kl_RL_77 : Cond.methodLink RL 77 yX1_next ∈ lw_g := lw_m2 (List.mem_of_getElem? (i := 181) rfl) rfl
theorem ki_yX1_next : Cond.instanceMethod yX1_next ∈ lw_g := lw_m2 (List.mem_of_getElem? (i := 182) rfl) rfl
theorem ks_yX1_next : Cond.selects RX1 yX1_next yX1_next ∈ lw_g := lw_m2 (List.mem_of_getElem? (i := 183) rfl) rfl
theorem kc_yX1_next : Cond.code yX1_next cX1_next 2 (some .int) ∈ lw_g := lw_m2 (List.mem_of_getElem? (i := 184) rfl) rfl
theorem kl_RX1_166 : Cond.methodLink RX1 166 yX0_upNext ∈ lw_g := lw_m2 (List.mem_of_getElem? (i := 185) rfl) rfl
theorem kl_RX1_169 : Cond.methodLink RX1 169 yX1_nightsUntilSpent ∈ lw_g := lw_m2 (List.mem_of_getElem? (i := 186) rfl) rfl
theorem ki_yX1_nightsUntilSpent : Cond.instanceMethod yX1_nightsUntilSpent ∈ lw_g := lw_m2 (List.mem_of_getElem? (i := 188) rfl) rfl
theorem kc_yX1_nightsUntilSpent : Cond.code yX1_nightsUntilSpent cX1_nightsUntilSpent 2 (some .int) ∈ lw_g := lw_m2 (List.mem_of_getElem? (i := 189) rfl) rfl
theorem kl_RL_81 : Cond.methodLink RL 81 yX1_fewest ∈ lw_g := lw_m2 (List.mem_of_getElem? (i := 190) rfl) rfl
theorem ki_yX1_fewest : Cond.instanceMethod yX1_fewest ∈ lw_g := lw_m2 (List.mem_of_getElem? (i := 191) rfl) rfl
theorem ks_yX1_fewest : Cond.selects RX1 yX1_fewest yX1_fewest ∈ lw_g := lw_m2 (List.mem_of_getElem? (i := 192) rfl) rfl
theorem kc_yX1_fewest : Cond.code yX1_fewest cX1_fewest 3 (some .int) ∈ lw_g := lw_m2 (List.mem_of_getElem? (i := 193) rfl) rfl
theorem kl_RX1_172 : Cond.methodLink RX1 172 yX1_noteWhatIsBrought ∈ lw_g := lw_m2 (List.mem_of_getElem? (i := 194) rfl) rfl
theorem ki_yX1_noteWhatIsBrought : Cond.instanceMethod yX1_noteWhatIsBrought ∈ lw_g := lw_m2 (List.mem_of_getElem? (i := 196) rfl) rfl
theorem kc_yX1_noteWhatIsBrought : Cond.code yX1_noteWhatIsBrought cX1_noteWhatIsBrought 4 none ∈ lw_g := lw_m2 (List.mem_of_getElem? (i := 197) rfl) rfl
theorem kl_RX1_291 : Cond.methodLink RX1 291 yJ7_fill_53178 ∈ lw_g := lw_m2 (List.mem_of_getElem? (i := 198) rfl) rfl
theorem kt_yJ7_fill_53178 : Cond.static yJ7_fill_53178 ∈ lw_g := lw_m2 (List.mem_of_getElem? (i := 199) rfl) rfl
theorem kc_yJ7_fill_53178 : Cond.code yJ7_fill_53178 cJ7_fill_53178 4 none ∈ lw_g := lw_m2 (List.mem_of_getElem? (i := 200) rfl) rfl
theorem kl_RX1_175 : Cond.methodLink RX1 175 yX1_fewestRockets ∈ lw_g := lw_m2 (List.mem_of_getElem? (i := 201) rfl) rfl
theorem ki_yX1_fewestRockets : Cond.instanceMethod yX1_fewestRockets ∈ lw_g := lw_m2 (List.mem_of_getElem? (i := 203) rfl) rfl
theorem kc_yX1_fewestRockets : Cond.code yX1_fewestRockets cX1_fewestRockets 6 (some .int) ∈ lw_g := lw_m2 (List.mem_of_getElem? (i := 204) rfl) rfl
theorem kl_RX1_297 : Cond.methodLink RX1 297 yX1_makesWhole ∈ lw_g := lw_m2 (List.mem_of_getElem? (i := 205) rfl) rfl
theorem ki_yX1_makesWhole : Cond.instanceMethod yX1_makesWhole ∈ lw_g := lw_m2 (List.mem_of_getElem? (i := 207) rfl) rfl
theorem kc_yX1_makesWhole : Cond.code yX1_makesWhole cX1_makesWhole 5 (some .boolean) ∈ lw_g := lw_m2 (List.mem_of_getElem? (i := 208) rfl) rfl
theorem kl_RX1_178 : Cond.methodLink RX1 178 yX1_leastCost ∈ lw_g := lw_m2 (List.mem_of_getElem? (i := 209) rfl) rfl
theorem ki_yX1_leastCost : Cond.instanceMethod yX1_leastCost ∈ lw_g := lw_m2 (List.mem_of_getElem? (i := 211) rfl) rfl
theorem kc_yX1_leastCost : Cond.code yX1_leastCost cX1_leastCost 5 (some .int) ∈ lw_g := lw_m2 (List.mem_of_getElem? (i := 212) rfl) rfl
theorem kl_RX1_300 : Cond.methodLink RX1 300 yX1_costOfChosen ∈ lw_g := lw_m2 (List.mem_of_getElem? (i := 213) rfl) rfl
theorem ki_yX1_costOfChosen : Cond.instanceMethod yX1_costOfChosen ∈ lw_g := lw_m2 (List.mem_of_getElem? (i := 215) rfl) rfl
theorem kc_yX1_costOfChosen : Cond.code yX1_costOfChosen cX1_costOfChosen 4 (some .int) ∈ lw_g := lw_m2 (List.mem_of_getElem? (i := 216) rfl) rfl
theorem kl_RL_85 : Cond.methodLink RL 85 yX1_windBest ∈ lw_g := lw_m2 (List.mem_of_getElem? (i := 217) rfl) rfl
theorem ki_yX1_windBest : Cond.instanceMethod yX1_windBest ∈ lw_g := lw_m2 (List.mem_of_getElem? (i := 218) rfl) rfl
theorem ks_yX1_windBest : Cond.selects RX1 yX1_windBest yX1_windBest ∈ lw_g := lw_m2 (List.mem_of_getElem? (i := 219) rfl) rfl
theorem kc_yX1_windBest : Cond.code yX1_windBest cX1_windBest 8 (some .int) ∈ lw_g := lw_m2 (List.mem_of_getElem? (i := 220) rfl) rfl
theorem kl_RX1_181 : Cond.methodLink RX1 181 yX0_countWhole ∈ lw_g := lw_m2 (List.mem_of_getElem? (i := 221) rfl) rfl
theorem ki_yX0_countWhole : Cond.instanceMethod yX0_countWhole ∈ lw_g := lw_m2 (List.mem_of_getElem? (i := 222) rfl) rfl
theorem ks_yX0_countWhole : Cond.selects RX0 yX0_countWhole yX0_countWhole ∈ lw_g := lw_m2 (List.mem_of_getElem? (i := 223) rfl) rfl
theorem kc_yX0_countWhole : Cond.code yX0_countWhole cX0_countWhole 3 (some .int) ∈ lw_g := lw_m2 (List.mem_of_getElem? (i := 224) rfl) rfl
theorem kl_RX0_99 : Cond.methodLink RX0 99 yX0_isWhole ∈ lw_g := lw_m2 (List.mem_of_getElem? (i := 225) rfl) rfl
theorem kl_RL_89 : Cond.methodLink RL 89 yX1_move ∈ lw_g := lw_m2 (List.mem_of_getElem? (i := 226) rfl) rfl
theorem ki_yX1_move : Cond.instanceMethod yX1_move ∈ lw_g := lw_m2 (List.mem_of_getElem? (i := 227) rfl) rfl
theorem ks_yX1_move : Cond.selects RX1 yX1_move yX1_move ∈ lw_g := lw_m2 (List.mem_of_getElem? (i := 228) rfl) rfl
theorem kc_yX1_move : Cond.code yX1_move cX1_move 9 (some .int) ∈ lw_g := lw_m2 (List.mem_of_getElem? (i := 229) rfl) rfl
theorem kl_RL_93 : Cond.methodLink RL 93 yX1_forgo ∈ lw_g := lw_m2 (List.mem_of_getElem? (i := 230) rfl) rfl
theorem ki_yX1_forgo : Cond.instanceMethod yX1_forgo ∈ lw_g := lw_m2 (List.mem_of_getElem? (i := 231) rfl) rfl
theorem ks_yX1_forgo : Cond.selects RX1 yX1_forgo yX1_forgo ∈ lw_g := lw_m2 (List.mem_of_getElem? (i := 232) rfl) rfl
theorem kc_yX1_forgo : Cond.code yX1_forgo cX1_forgo 3 (some .int) ∈ lw_g := lw_m2 (List.mem_of_getElem? (i := 233) rfl) rfl
theorem kl_RX1_184 : Cond.methodLink RX1 184 yX1_bestToSpend ∈ lw_g := lw_m2 (List.mem_of_getElem? (i := 234) rfl) rfl
theorem ki_yX1_bestToSpend : Cond.instanceMethod yX1_bestToSpend ∈ lw_g := lw_m2 (List.mem_of_getElem? (i := 236) rfl) rfl
theorem kc_yX1_bestToSpend : Cond.code yX1_bestToSpend cX1_bestToSpend 7 (some .int) ∈ lw_g := lw_m2 (List.mem_of_getElem? (i := 237) rfl) rfl
theorem kl_RX1_245 : Cond.methodLink RX1 245 yX0_countWords ∈ lw_g := lw_m2 (List.mem_of_getElem? (i := 238) rfl) rfl
theorem ki_yX0_countWords : Cond.instanceMethod yX0_countWords ∈ lw_g := lw_m2 (List.mem_of_getElem? (i := 239) rfl) rfl
theorem ks_yX0_countWords : Cond.selects RX0 yX0_countWords yX0_countWords ∈ lw_g := lw_m3 (List.mem_of_getElem? (i := 0) rfl) rfl
theorem kc_yX0_countWords : Cond.code yX0_countWords cX0_countWords 3 (some .int) ∈ lw_g := lw_m3 (List.mem_of_getElem? (i := 1) rfl) rfl
theorem kl_RX0_102 : Cond.methodLink RX0 102 yJ6_bitCount_0f7a4 ∈ lw_g := lw_m3 (List.mem_of_getElem? (i := 2) rfl) rfl
theorem kl_RX1_303 : Cond.methodLink RX1 303 yX1_wordsHadBySpending ∈ lw_g := lw_m3 (List.mem_of_getElem? (i := 3) rfl) rfl
theorem ki_yX1_wordsHadBySpending : Cond.instanceMethod yX1_wordsHadBySpending ∈ lw_g := lw_m3 (List.mem_of_getElem? (i := 5) rfl) rfl
theorem kc_yX1_wordsHadBySpending : Cond.code yX1_wordsHadBySpending cX1_wordsHadBySpending 4 (some .int) ∈ lw_g := lw_m3 (List.mem_of_getElem? (i := 6) rfl) rfl
theorem kl_RX1_307 : Cond.methodLink RX1 307 yX0_throwAway ∈ lw_g := lw_m3 (List.mem_of_getElem? (i := 7) rfl) rfl
theorem kl_RL_97 : Cond.methodLink RL 97 yX1_firstUp ∈ lw_g := lw_m3 (List.mem_of_getElem? (i := 8) rfl) rfl
theorem ki_yX1_firstUp : Cond.instanceMethod yX1_firstUp ∈ lw_g := lw_m3 (List.mem_of_getElem? (i := 9) rfl) rfl
theorem ks_yX1_firstUp : Cond.selects RX1 yX1_firstUp yX1_firstUp ∈ lw_g := lw_m3 (List.mem_of_getElem? (i := 10) rfl) rfl
theorem kc_yX1_firstUp : Cond.code yX1_firstUp cX1_firstUp 3 (some .int) ∈ lw_g := lw_m3 (List.mem_of_getElem? (i := 11) rfl) rfl
theorem kl_RL_101 : Cond.methodLink RL 101 yX1_longest ∈ lw_g := lw_m3 (List.mem_of_getElem? (i := 12) rfl) rfl
theorem ki_yX1_longest : Cond.instanceMethod yX1_longest ∈ lw_g := lw_m3 (List.mem_of_getElem? (i := 13) rfl) rfl
theorem ks_yX1_longest : Cond.selects RX1 yX1_longest yX1_longest ∈ lw_g := lw_m3 (List.mem_of_getElem? (i := 14) rfl) rfl
theorem kc_yX1_longest : Cond.code yX1_longest cX1_longest 2 (some .int) ∈ lw_g := lw_m3 (List.mem_of_getElem? (i := 15) rfl) rfl
theorem kl_RX1_188 : Cond.methodLink RX1 188 yX1_longestDark ∈ lw_g := lw_m3 (List.mem_of_getElem? (i := 16) rfl) rfl
theorem ki_yX1_longestDark : Cond.instanceMethod yX1_longestDark ∈ lw_g := lw_m3 (List.mem_of_getElem? (i := 18) rfl) rfl
theorem kc_yX1_longestDark : Cond.code yX1_longestDark cX1_longestDark 5 (some .int) ∈ lw_g := lw_m3 (List.mem_of_getElem? (i := 19) rfl) rfl
theorem kl_RX1_191 : Cond.methodLink RX1 191 yX1_costOfTheBox ∈ lw_g := lw_m3 (List.mem_of_getElem? (i := 20) rfl) rfl
theorem ki_yX1_costOfTheBox : Cond.instanceMethod yX1_costOfTheBox ∈ lw_g := lw_m3 (List.mem_of_getElem? (i := 22) rfl) rfl
theorem kc_yX1_costOfTheBox : Cond.code yX1_costOfTheBox cX1_costOfTheBox 1 (some .int) ∈ lw_g := lw_m3 (List.mem_of_getElem? (i := 23) rfl) rfl
theorem kl_RL_105 : Cond.methodLink RL 105 yX1_seen ∈ lw_g := lw_m3 (List.mem_of_getElem? (i := 24) rfl) rfl
theorem ki_yX1_seen : Cond.instanceMethod yX1_seen ∈ lw_g := lw_m3 (List.mem_of_getElem? (i := 25) rfl) rfl
theorem ks_yX1_seen : Cond.selects RX1 yX1_seen yX1_seen ∈ lw_g := lw_m3 (List.mem_of_getElem? (i := 26) rfl) rfl
theorem kc_yX1_seen : Cond.code yX1_seen cX1_seen 6 (some .int) ∈ lw_g := lw_m3 (List.mem_of_getElem? (i := 27) rfl) rfl
theorem kl_RL_109 : Cond.methodLink RL 109 yX1_words ∈ lw_g := lw_m3 (List.mem_of_getElem? (i := 28) rfl) rfl
theorem ki_yX1_words : Cond.instanceMethod yX1_words ∈ lw_g := lw_m3 (List.mem_of_getElem? (i := 29) rfl) rfl
theorem ks_yX1_words : Cond.selects RX1 yX1_words yX1_words ∈ lw_g := lw_m3 (List.mem_of_getElem? (i := 30) rfl) rfl
theorem kc_yX1_words : Cond.code yX1_words cX1_words 2 (some .int) ∈ lw_g := lw_m3 (List.mem_of_getElem? (i := 31) rfl) rfl
theorem kl_RX1_194 : Cond.methodLink RX1 194 yX1_lackingWords ∈ lw_g := lw_m3 (List.mem_of_getElem? (i := 32) rfl) rfl
theorem ki_yX1_lackingWords : Cond.instanceMethod yX1_lackingWords ∈ lw_g := lw_m3 (List.mem_of_getElem? (i := 34) rfl) rfl
theorem kc_yX1_lackingWords : Cond.code yX1_lackingWords cX1_lackingWords 3 (some .int) ∈ lw_g := lw_m3 (List.mem_of_getElem? (i := 35) rfl) rfl
theorem kl_RX1_197 : Cond.methodLink RX1 197 yX1_knownWords ∈ lw_g := lw_m3 (List.mem_of_getElem? (i := 36) rfl) rfl
theorem ki_yX1_knownWords : Cond.instanceMethod yX1_knownWords ∈ lw_g := lw_m3 (List.mem_of_getElem? (i := 38) rfl) rfl
theorem kc_yX1_knownWords : Cond.code yX1_knownWords cX1_knownWords 3 (some .int) ∈ lw_g := lw_m3 (List.mem_of_getElem? (i := 39) rfl) rfl
theorem kl_RX1_200 : Cond.methodLink RX1 200 yX1_rarestWord ∈ lw_g := lw_m3 (List.mem_of_getElem? (i := 40) rfl) rfl
theorem ki_yX1_rarestWord : Cond.instanceMethod yX1_rarestWord ∈ lw_g := lw_m3 (List.mem_of_getElem? (i := 42) rfl) rfl
theorem kc_yX1_rarestWord : Cond.code yX1_rarestWord cX1_rarestWord 6 (some .int) ∈ lw_g := lw_m3 (List.mem_of_getElem? (i := 43) rfl) rfl
theorem kl_RL_113 : Cond.methodLink RL 113 yX1_near ∈ lw_g := lw_m3 (List.mem_of_getElem? (i := 44) rfl) rfl
theorem ki_yX1_near : Cond.instanceMethod yX1_near ∈ lw_g := lw_m3 (List.mem_of_getElem? (i := 45) rfl) rfl
theorem ks_yX1_near : Cond.selects RX1 yX1_near yX1_near ∈ lw_g := lw_m3 (List.mem_of_getElem? (i := 46) rfl) rfl
theorem kc_yX1_near : Cond.code yX1_near cX1_near 5 (some .int) ∈ lw_g := lw_m3 (List.mem_of_getElem? (i := 47) rfl) rfl
theorem kl_RX1_206 : Cond.methodLink RX1 206 yJ9_abs_0f7a4 ∈ lw_g := lw_m3 (List.mem_of_getElem? (i := 48) rfl) rfl
theorem kt_yJ9_abs_0f7a4 : Cond.static yJ9_abs_0f7a4 ∈ lw_g := lw_m3 (List.mem_of_getElem? (i := 49) rfl) rfl
theorem kc_yJ9_abs_0f7a4 : Cond.code yJ9_abs_0f7a4 cJ9_abs_0f7a4 1 (some .int) ∈ lw_g := lw_m3 (List.mem_of_getElem? (i := 50) rfl) rfl
theorem kl_RL_117 : Cond.methodLink RL 117 yX1_alone ∈ lw_g := lw_m3 (List.mem_of_getElem? (i := 51) rfl) rfl
theorem ki_yX1_alone : Cond.instanceMethod yX1_alone ∈ lw_g := lw_m3 (List.mem_of_getElem? (i := 52) rfl) rfl
theorem ks_yX1_alone : Cond.selects RX1 yX1_alone yX1_alone ∈ lw_g := lw_m3 (List.mem_of_getElem? (i := 53) rfl) rfl
theorem kc_yX1_alone : Cond.code yX1_alone cX1_alone 5 (some .int) ∈ lw_g := lw_m3 (List.mem_of_getElem? (i := 54) rfl) rfl
theorem kl_RL_121 : Cond.methodLink RL 121 yX1_tell ∈ lw_g := lw_m3 (List.mem_of_getElem? (i := 55) rfl) rfl
theorem ki_yX1_tell : Cond.instanceMethod yX1_tell ∈ lw_g := lw_m3 (List.mem_of_getElem? (i := 56) rfl) rfl
theorem ks_yX1_tell : Cond.selects RX1 yX1_tell yX1_tell ∈ lw_g := lw_m3 (List.mem_of_getElem? (i := 57) rfl) rfl
theorem kc_yX1_tell : Cond.code yX1_tell cX1_tell 4 (some .int) ∈ lw_g := lw_m3 (List.mem_of_getElem? (i := 58) rfl) rfl
theorem kl_RL_125 : Cond.methodLink RL 125 yX1_two ∈ lw_g := lw_m3 (List.mem_of_getElem? (i := 59) rfl) rfl
theorem ki_yX1_two : Cond.instanceMethod yX1_two ∈ lw_g := lw_m3 (List.mem_of_getElem? (i := 60) rfl) rfl
theorem ks_yX1_two : Cond.selects RX1 yX1_two yX1_two ∈ lw_g := lw_m3 (List.mem_of_getElem? (i := 61) rfl) rfl
theorem kc_yX1_two : Cond.code yX1_two cX1_two 6 (some .int) ∈ lw_g := lw_m3 (List.mem_of_getElem? (i := 62) rfl) rfl
theorem kl_RX1_211 : Cond.methodLink RX1 211 yX1_noteWhatPairGets ∈ lw_g := lw_m3 (List.mem_of_getElem? (i := 63) rfl) rfl
theorem ki_yX1_noteWhatPairGets : Cond.instanceMethod yX1_noteWhatPairGets ∈ lw_g := lw_m3 (List.mem_of_getElem? (i := 65) rfl) rfl
theorem kc_yX1_noteWhatPairGets : Cond.code yX1_noteWhatPairGets cX1_noteWhatPairGets 8 none ∈ lw_g := lw_m3 (List.mem_of_getElem? (i := 66) rfl) rfl
theorem kl_RX1_310 : Cond.methodLink RX1 310 yX1_gain ∈ lw_g := lw_m3 (List.mem_of_getElem? (i := 67) rfl) rfl
theorem ki_yX1_gain : Cond.instanceMethod yX1_gain ∈ lw_g := lw_m3 (List.mem_of_getElem? (i := 69) rfl) rfl
theorem kc_yX1_gain : Cond.code yX1_gain cX1_gain 4 (some .int) ∈ lw_g := lw_m3 (List.mem_of_getElem? (i := 70) rfl) rfl
theorem kl_RL_129 : Cond.methodLink RL 129 yX1_rain ∈ lw_g := lw_m3 (List.mem_of_getElem? (i := 71) rfl) rfl
theorem ki_yX1_rain : Cond.instanceMethod yX1_rain ∈ lw_g := lw_m3 (List.mem_of_getElem? (i := 72) rfl) rfl
theorem ks_yX1_rain : Cond.selects RX1 yX1_rain yX1_rain ∈ lw_g := lw_m3 (List.mem_of_getElem? (i := 73) rfl) rfl
theorem kc_yX1_rain : Cond.code yX1_rain cX1_rain 8 (some .long) ∈ lw_g := lw_m3 (List.mem_of_getElem? (i := 74) rfl) rfl
theorem kl_RX1_215 : Cond.methodLink RX1 215 yX1_refuseLong ∈ lw_g := lw_m3 (List.mem_of_getElem? (i := 75) rfl) rfl
theorem ki_yX1_refuseLong : Cond.instanceMethod yX1_refuseLong ∈ lw_g := lw_m3 (List.mem_of_getElem? (i := 77) rfl) rfl
theorem kc_yX1_refuseLong : Cond.code yX1_refuseLong cX1_refuseLong 2 (some .long) ∈ lw_g := lw_m3 (List.mem_of_getElem? (i := 78) rfl) rfl
theorem kk_RX1_251 : Cond.constantLong RX1 251 (4000000000000000000) ∈ lw_g := lw_m3 (List.mem_of_getElem? (i := 79) rfl) rfl
theorem kl_RX1_219 : Cond.methodLink RX1 219 yX1_isWholeAfter ∈ lw_g := lw_m3 (List.mem_of_getElem? (i := 80) rfl) rfl
theorem ki_yX1_isWholeAfter : Cond.instanceMethod yX1_isWholeAfter ∈ lw_g := lw_m3 (List.mem_of_getElem? (i := 82) rfl) rfl
theorem kc_yX1_isWholeAfter : Cond.code yX1_isWholeAfter cX1_isWholeAfter 5 (some .boolean) ∈ lw_g := lw_m3 (List.mem_of_getElem? (i := 83) rfl) rfl
theorem kl_RX1_223 : Cond.methodLink RX1 223 yX1_power ∈ lw_g := lw_m3 (List.mem_of_getElem? (i := 84) rfl) rfl
theorem kt_yX1_power : Cond.static yX1_power ∈ lw_g := lw_m3 (List.mem_of_getElem? (i := 85) rfl) rfl
theorem kc_yX1_power : Cond.code yX1_power cX1_power 5 (some .long) ∈ lw_g := lw_m3 (List.mem_of_getElem? (i := 86) rfl) rfl
theorem kl_RX1_227 : Cond.methodLink RX1 227 yX1_partOf ∈ lw_g := lw_m3 (List.mem_of_getElem? (i := 87) rfl) rfl
theorem kt_yX1_partOf : Cond.static yX1_partOf ∈ lw_g := lw_m3 (List.mem_of_getElem? (i := 88) rfl) rfl
theorem kc_yX1_partOf : Cond.code yX1_partOf cX1_partOf 7 (some .long) ∈ lw_g := lw_m3 (List.mem_of_getElem? (i := 89) rfl) rfl
theorem kl_RX1_313 : Cond.methodLink RX1 313 yX1_commonDivisor ∈ lw_g := lw_m3 (List.mem_of_getElem? (i := 90) rfl) rfl
theorem kt_yX1_commonDivisor : Cond.static yX1_commonDivisor ∈ lw_g := lw_m3 (List.mem_of_getElem? (i := 91) rfl) rfl
theorem kc_yX1_commonDivisor : Cond.code yX1_commonDivisor cX1_commonDivisor 11 (some .long) ∈ lw_g := lw_m3 (List.mem_of_getElem? (i := 92) rfl) rfl
theorem kl_RL_134 : Cond.methodLink RL 134 yX1_mean ∈ lw_g := lw_m3 (List.mem_of_getElem? (i := 93) rfl) rfl
theorem ki_yX1_mean : Cond.instanceMethod yX1_mean ∈ lw_g := lw_m3 (List.mem_of_getElem? (i := 94) rfl) rfl
theorem ks_yX1_mean : Cond.selects RX1 yX1_mean yX1_mean ∈ lw_g := lw_m3 (List.mem_of_getElem? (i := 95) rfl) rfl
theorem kc_yX1_mean : Cond.code yX1_mean cX1_mean 5 (some .long) ∈ lw_g := lw_m3 (List.mem_of_getElem? (i := 96) rfl) rfl
theorem kl_RX1_231 : Cond.methodLink RX1 231 yJ9_max_7cf53 ∈ lw_g := lw_m3 (List.mem_of_getElem? (i := 97) rfl) rfl
theorem kl_RL_139 : Cond.methodLink RL 139 yX1_whatSaid ∈ lw_g := lw_m3 (List.mem_of_getElem? (i := 98) rfl) rfl
theorem ki_yX1_whatSaid : Cond.instanceMethod yX1_whatSaid ∈ lw_g := lw_m3 (List.mem_of_getElem? (i := 99) rfl) rfl
theorem ks_yX1_whatSaid : Cond.selects RX1 yX1_whatSaid yX1_whatSaid ∈ lw_g := lw_m3 (List.mem_of_getElem? (i := 100) rfl) rfl
theorem kc_yX1_whatSaid : Cond.code yX1_whatSaid cX1_whatSaid 6 (some .int) ∈ lw_g := lw_m3 (List.mem_of_getElem? (i := 101) rfl) rfl
theorem kl_RX1_235 : Cond.methodLink RX1 235 yX1_rowFitsMind ∈ lw_g := lw_m3 (List.mem_of_getElem? (i := 102) rfl) rfl
theorem ki_yX1_rowFitsMind : Cond.instanceMethod yX1_rowFitsMind ∈ lw_g := lw_m3 (List.mem_of_getElem? (i := 104) rfl) rfl
theorem kc_yX1_rowFitsMind : Cond.code yX1_rowFitsMind cX1_rowFitsMind 2 (some .boolean) ∈ lw_g := lw_m3 (List.mem_of_getElem? (i := 105) rfl) rfl
theorem kl_RL_143 : Cond.methodLink RL 143 yX1_row ∈ lw_g := lw_m3 (List.mem_of_getElem? (i := 106) rfl) rfl
theorem ki_yX1_row : Cond.instanceMethod yX1_row ∈ lw_g := lw_m3 (List.mem_of_getElem? (i := 107) rfl) rfl
theorem ks_yX1_row : Cond.selects RX1 yX1_row yX1_row ∈ lw_g := lw_m3 (List.mem_of_getElem? (i := 108) rfl) rfl
theorem kc_yX1_row : Cond.code yX1_row cX1_row 3 (some .int) ∈ lw_g := lw_m3 (List.mem_of_getElem? (i := 109) rfl) rfl
theorem kl_RL_147 : Cond.methodLink RL 147 yX1_judge ∈ lw_g := lw_m3 (List.mem_of_getElem? (i := 110) rfl) rfl
theorem ki_yX1_judge : Cond.instanceMethod yX1_judge ∈ lw_g := lw_m3 (List.mem_of_getElem? (i := 111) rfl) rfl
theorem ks_yX1_judge : Cond.selects RX1 yX1_judge yX1_judge ∈ lw_g := lw_m3 (List.mem_of_getElem? (i := 112) rfl) rfl
theorem kc_yX1_judge : Cond.code yX1_judge cX1_judge 3 (some .int) ∈ lw_g := lw_m3 (List.mem_of_getElem? (i := 113) rfl) rfl
theorem kl_RX1_239 : Cond.methodLink RX1 239 yJ9_min_7cf53 ∈ lw_g := lw_m3 (List.mem_of_getElem? (i := 114) rfl) rfl
theorem kl_RL_151 : Cond.methodLink RL 151 yX1_clear ∈ lw_g := lw_m3 (List.mem_of_getElem? (i := 115) rfl) rfl
theorem ki_yX1_clear : Cond.instanceMethod yX1_clear ∈ lw_g := lw_m3 (List.mem_of_getElem? (i := 116) rfl) rfl
theorem ks_yX1_clear : Cond.selects RX1 yX1_clear yX1_clear ∈ lw_g := lw_m3 (List.mem_of_getElem? (i := 117) rfl) rfl
theorem kc_yX1_clear : Cond.code yX1_clear cX1_clear 2 (some .int) ∈ lw_g := lw_m3 (List.mem_of_getElem? (i := 118) rfl) rfl
theorem kl_RL_155 : Cond.methodLink RL 155 yX1_lots ∈ lw_g := lw_m3 (List.mem_of_getElem? (i := 119) rfl) rfl
theorem ki_yX1_lots : Cond.instanceMethod yX1_lots ∈ lw_g := lw_m3 (List.mem_of_getElem? (i := 120) rfl) rfl
theorem ks_yX1_lots : Cond.selects RX1 yX1_lots yX1_lots ∈ lw_g := lw_m3 (List.mem_of_getElem? (i := 121) rfl) rfl
theorem kc_yX1_lots : Cond.code yX1_lots cX1_lots 9 (some .int) ∈ lw_g := lw_m3 (List.mem_of_getElem? (i := 122) rfl) rfl
theorem kk_RX1_242 : Cond.constant RX1 242 (1664525) ∈ lw_g := lw_m3 (List.mem_of_getElem? (i := 123) rfl) rfl
theorem kk_RX1_243 : Cond.constant RX1 243 (1013904223) ∈ lw_g := lw_m3 (List.mem_of_getElem? (i := 124) rfl) rfl
theorem kk_RX1_244 : Cond.constant RX1 244 (2147483647) ∈ lw_g := lw_m3 (List.mem_of_getElem? (i := 125) rfl) rfl
theorem kl_RL_159 : Cond.methodLink RL 159 yX1_image ∈ lw_g := lw_m3 (List.mem_of_getElem? (i := 126) rfl) rfl
theorem ki_yX1_image : Cond.instanceMethod yX1_image ∈ lw_g := lw_m3 (List.mem_of_getElem? (i := 127) rfl) rfl
theorem ks_yX1_image : Cond.selects RX1 yX1_image yX1_image ∈ lw_g := lw_m3 (List.mem_of_getElem? (i := 128) rfl) rfl
theorem kc_yX1_image : Cond.code yX1_image cX1_image 1 (some .int) ∈ lw_g := lw_m3 (List.mem_of_getElem? (i := 129) rfl) rfl
theorem kl_RL_163 : Cond.methodLink RL 163 yX1_on ∈ lw_g := lw_m3 (List.mem_of_getElem? (i := 130) rfl) rfl
theorem ki_yX1_on : Cond.instanceMethod yX1_on ∈ lw_g := lw_m3 (List.mem_of_getElem? (i := 131) rfl) rfl
theorem ks_yX1_on : Cond.selects RX1 yX1_on yX1_on ∈ lw_g := lw_m3 (List.mem_of_getElem? (i := 132) rfl) rfl
theorem kc_yX1_on : Cond.code yX1_on cX1_on 1 (some .int) ∈ lw_g := lw_m3 (List.mem_of_getElem? (i := 133) rfl) rfl
theorem kl_RL_167 : Cond.methodLink RL 167 yX1_count ∈ lw_g := lw_m3 (List.mem_of_getElem? (i := 134) rfl) rfl
theorem ki_yX1_count : Cond.instanceMethod yX1_count ∈ lw_g := lw_m3 (List.mem_of_getElem? (i := 135) rfl) rfl
theorem ks_yX1_count : Cond.selects RX1 yX1_count yX1_count ∈ lw_g := lw_m3 (List.mem_of_getElem? (i := 136) rfl) rfl
theorem kc_yX1_count : Cond.code yX1_count cX1_count 2 (some .int) ∈ lw_g := lw_m3 (List.mem_of_getElem? (i := 137) rfl) rfl
theorem kl_RX1_248 : Cond.methodLink RX1 248 yX1_refusalsOf ∈ lw_g := lw_m3 (List.mem_of_getElem? (i := 138) rfl) rfl
theorem ki_yX1_refusalsOf : Cond.instanceMethod yX1_refusalsOf ∈ lw_g := lw_m3 (List.mem_of_getElem? (i := 140) rfl) rfl
theorem kc_yX1_refusalsOf : Cond.code yX1_refusalsOf cX1_refusalsOf 2 (some .int) ∈ lw_g := lw_m3 (List.mem_of_getElem? (i := 141) rfl) rfl
theorem kq_RL_10 : Cond.classLink RL 10 RX2 ∈ lw_g := lw_m3 (List.mem_of_getElem? (i := 142) rfl) rfl
theorem kb_RX2 : Cond.instantiable RX2 13 ∈ lw_g := lw_m3 (List.mem_of_getElem? (i := 143) rfl) rfl
theorem kl_RL_12 : Cond.methodLink RL 12 yX2_init ∈ lw_g := lw_m3 (List.mem_of_getElem? (i := 144) rfl) rfl
theorem ki_yX2_init : Cond.instanceMethod yX2_init ∈ lw_g := lw_m3 (List.mem_of_getElem? (i := 145) rfl) rfl
theorem kc_yX2_init : Cond.code yX2_init cX2_init 1 none ∈ lw_g := lw_m3 (List.mem_of_getElem? (i := 146) rfl) rfl
theorem kl_RX2_1 : Cond.methodLink RX2 1 ({ cls := "java/lang/Object", name := "<init>", desc := "()V" } : MethodName) ∈ lw_g := lw_m3 (List.mem_of_getElem? (i := 147) rfl) rfl
theorem kf_RX2_9 : Cond.fieldLink RX2 9 "RocketsAskModel" "s" "[I" ∈ lw_g := lw_m3 (List.mem_of_getElem? (i := 148) rfl) rfl
theorem kf_RX2_13 : Cond.fieldLink RX2 13 "RocketsAskModel" "m" "[I" ∈ lw_g := lw_m3 (List.mem_of_getElem? (i := 149) rfl) rfl
theorem kf_RX2_16 : Cond.fieldLink RX2 16 "RocketsAskModel" "image" "[I" ∈ lw_g := lw_m3 (List.mem_of_getElem? (i := 150) rfl) rfl
theorem kf_RX2_19 : Cond.fieldLink RX2 19 "RocketsAskModel" "was" "[I" ∈ lw_g := lw_m3 (List.mem_of_getElem? (i := 151) rfl) rfl
theorem kf_RX2_231 : Cond.fieldLink RX2 231 "RocketsAskModel" "hasImage" "Z" ∈ lw_g := lw_m3 (List.mem_of_getElem? (i := 152) rfl) rfl
theorem kf_RX2_22 : Cond.fieldLink RX2 22 "RocketsAskModel" "letters" "[I" ∈ lw_g := lw_m3 (List.mem_of_getElem? (i := 153) rfl) rfl
theorem kf_RX2_25 : Cond.fieldLink RX2 25 "RocketsAskModel" "row" "[I" ∈ lw_g := lw_m3 (List.mem_of_getElem? (i := 154) rfl) rfl
theorem kf_RX2_28 : Cond.fieldLink RX2 28 "RocketsAskModel" "refused" "[I" ∈ lw_g := lw_m3 (List.mem_of_getElem? (i := 155) rfl) rfl
theorem kf_RX2_97 : Cond.fieldLink RX2 97 "RocketsAskModel" "letterMany" "I" ∈ lw_g := lw_m3 (List.mem_of_getElem? (i := 156) rfl) rfl
theorem kf_RX2_216 : Cond.fieldLink RX2 216 "RocketsAskModel" "rowMany" "I" ∈ lw_g := lw_m3 (List.mem_of_getElem? (i := 157) rfl) rfl
theorem kf_RX2_101 : Cond.fieldLink RX2 101 "RocketsAskModel" "place" "I" ∈ lw_g := lw_m3 (List.mem_of_getElem? (i := 158) rfl) rfl
theorem kf_RX2_31 : Cond.fieldLink RX2 31 "RocketsAskModel" "numbers" "[I" ∈ lw_g := lw_m3 (List.mem_of_getElem? (i := 159) rfl) rfl
theorem kf_RX2_222 : Cond.fieldLink RX2 222 "RocketsAskModel" "seed" "I" ∈ lw_g := lw_m3 (List.mem_of_getElem? (i := 160) rfl) rfl
theorem kl_RL_17 : Cond.methodLink RL 17 yX2_letter ∈ lw_g := lw_m3 (List.mem_of_getElem? (i := 188) rfl) rfl
theorem ki_yX2_letter : Cond.instanceMethod yX2_letter ∈ lw_g := lw_m3 (List.mem_of_getElem? (i := 189) rfl) rfl
theorem ks_yX2_letter : Cond.selects RX2 yX2_letter yX2_letter ∈ lw_g := lw_m3 (List.mem_of_getElem? (i := 190) rfl) rfl
theorem kc_yX2_letter : Cond.code yX2_letter cX2_letter 2 (some .int) ∈ lw_g := lw_m3 (List.mem_of_getElem? (i := 191) rfl) rfl
theorem kl_RX2_36 : Cond.methodLink RX2 36 yX2_no ∈ lw_g := lw_m3 (List.mem_of_getElem? (i := 192) rfl) rfl
theorem ki_yX2_no : Cond.instanceMethod yX2_no ∈ lw_g := lw_m3 (List.mem_of_getElem? (i := 194) rfl) rfl
theorem kc_yX2_no : Cond.code yX2_no cX2_no 2 (some .int) ∈ lw_g := lw_m3 (List.mem_of_getElem? (i := 195) rfl) rfl
theorem kl_RL_22 : Cond.methodLink RL 22 yX2_valley ∈ lw_g := lw_m3 (List.mem_of_getElem? (i := 196) rfl) rfl
theorem ki_yX2_valley : Cond.instanceMethod yX2_valley ∈ lw_g := lw_m3 (List.mem_of_getElem? (i := 197) rfl) rfl
theorem ks_yX2_valley : Cond.selects RX2 yX2_valley yX2_valley ∈ lw_g := lw_m3 (List.mem_of_getElem? (i := 198) rfl) rfl
theorem kc_yX2_valley : Cond.code yX2_valley cX2_valley 6 (some .int) ∈ lw_g := lw_m3 (List.mem_of_getElem? (i := 199) rfl) rfl
theorem kl_RX2_131 : Cond.methodLink RX2 131 yX2_readsStatement ∈ lw_g := lw_m3 (List.mem_of_getElem? (i := 200) rfl) rfl
theorem ki_yX2_readsStatement : Cond.instanceMethod yX2_readsStatement ∈ lw_g := lw_m3 (List.mem_of_getElem? (i := 202) rfl) rfl
theorem kc_yX2_readsStatement : Cond.code yX2_readsStatement cX2_readsStatement 3 (some .boolean) ∈ lw_g := lw_m3 (List.mem_of_getElem? (i := 203) rfl) rfl
theorem kl_RX2_104 : Cond.methodLink RX2 104 yX2_here ∈ lw_g := lw_m3 (List.mem_of_getElem? (i := 204) rfl) rfl
theorem ki_yX2_here : Cond.instanceMethod yX2_here ∈ lw_g := lw_m3 (List.mem_of_getElem? (i := 206) rfl) rfl
theorem kc_yX2_here : Cond.code yX2_here cX2_here 1 (some .int) ∈ lw_g := lw_m3 (List.mem_of_getElem? (i := 207) rfl) rfl
theorem kl_RX2_111 : Cond.methodLink RX2 111 yX2_readsKind ∈ lw_g := lw_m3 (List.mem_of_getElem? (i := 208) rfl) rfl
theorem ki_yX2_readsKind : Cond.instanceMethod yX2_readsKind ∈ lw_g := lw_m3 (List.mem_of_getElem? (i := 210) rfl) rfl
theorem kc_yX2_readsKind : Cond.code yX2_readsKind cX2_readsKind 1 (some .boolean) ∈ lw_g := lw_m3 (List.mem_of_getElem? (i := 211) rfl) rfl
theorem kl_RX2_108 : Cond.methodLink RX2 108 yX2_kindBy ∈ lw_g := lw_m3 (List.mem_of_getElem? (i := 212) rfl) rfl
theorem kt_yX2_kindBy : Cond.static yX2_kindBy ∈ lw_g := lw_m3 (List.mem_of_getElem? (i := 213) rfl) rfl
theorem kc_yX2_kindBy : Cond.code yX2_kindBy cX2_kindBy 1 (some .int) ∈ lw_g := lw_m3 (List.mem_of_getElem? (i := 214) rfl) rfl
theorem kl_RX2_115 : Cond.methodLink RX2 115 yX2_readsNumber ∈ lw_g := lw_m3 (List.mem_of_getElem? (i := 215) rfl) rfl
theorem ki_yX2_readsNumber : Cond.instanceMethod yX2_readsNumber ∈ lw_g := lw_m3 (List.mem_of_getElem? (i := 217) rfl) rfl
theorem kc_yX2_readsNumber : Cond.code yX2_readsNumber cX2_readsNumber 4 (some .boolean) ∈ lw_g := lw_m3 (List.mem_of_getElem? (i := 218) rfl) rfl
theorem kl_RX2_40 : Cond.methodLink RX2 40 yX2_isIn ∈ lw_g := lw_m3 (List.mem_of_getElem? (i := 219) rfl) rfl
theorem kt_yX2_isIn : Cond.static yX2_isIn ∈ lw_g := lw_m3 (List.mem_of_getElem? (i := 220) rfl) rfl
theorem kc_yX2_isIn : Cond.code yX2_isIn cX2_isIn 3 (some .boolean) ∈ lw_g := lw_m3 (List.mem_of_getElem? (i := 221) rfl) rfl
theorem kl_RX2_134 : Cond.methodLink RX2 134 yX2_copies ∈ lw_g := lw_m3 (List.mem_of_getElem? (i := 222) rfl) rfl
theorem kt_yX2_copies : Cond.static yX2_copies ∈ lw_g := lw_m3 (List.mem_of_getElem? (i := 223) rfl) rfl
theorem kc_yX2_copies : Cond.code yX2_copies cX2_copies 3 none ∈ lw_g := lw_m3 (List.mem_of_getElem? (i := 224) rfl) rfl
theorem kl_RX2_138 : Cond.methodLink RX2 138 yX2_isDone ∈ lw_g := lw_m3 (List.mem_of_getElem? (i := 225) rfl) rfl
theorem ki_yX2_isDone : Cond.instanceMethod yX2_isDone ∈ lw_g := lw_m3 (List.mem_of_getElem? (i := 227) rfl) rfl
theorem kc_yX2_isDone : Cond.code yX2_isDone cX2_isDone 3 (some .boolean) ∈ lw_g := lw_m3 (List.mem_of_getElem? (i := 228) rfl) rfl
theorem kl_RX2_118 : Cond.methodLink RX2 118 yX2_addsRocket ∈ lw_g := lw_m3 (List.mem_of_getElem? (i := 229) rfl) rfl
theorem ki_yX2_addsRocket : Cond.instanceMethod yX2_addsRocket ∈ lw_g := lw_m3 (List.mem_of_getElem? (i := 231) rfl) rfl
theorem kc_yX2_addsRocket : Cond.code yX2_addsRocket cX2_addsRocket 2 (some .boolean) ∈ lw_g := lw_m3 (List.mem_of_getElem? (i := 232) rfl) rfl
theorem kl_RX2_44 : Cond.methodLink RX2 44 yX2_ofR ∈ lw_g := lw_m3 (List.mem_of_getElem? (i := 233) rfl) rfl
theorem kt_yX2_ofR : Cond.static yX2_ofR ∈ lw_g := lw_m3 (List.mem_of_getElem? (i := 234) rfl) rfl
theorem kc_yX2_ofR : Cond.code yX2_ofR cX2_ofR 2 (some .int) ∈ lw_g := lw_m3 (List.mem_of_getElem? (i := 235) rfl) rfl
theorem kl_RX2_121 : Cond.methodLink RX2 121 yX2_addsReader ∈ lw_g := lw_m3 (List.mem_of_getElem? (i := 236) rfl) rfl
theorem ki_yX2_addsReader : Cond.instanceMethod yX2_addsReader ∈ lw_g := lw_m3 (List.mem_of_getElem? (i := 238) rfl) rfl
theorem kc_yX2_addsReader : Cond.code yX2_addsReader cX2_addsReader 2 (some .boolean) ∈ lw_g := lw_m3 (List.mem_of_getElem? (i := 239) rfl) rfl
theorem kl_RX2_48 : Cond.methodLink RX2 48 yX2_ofP ∈ lw_g := lw_m4 (List.mem_of_getElem? (i := 0) rfl) rfl
theorem kt_yX2_ofP : Cond.static yX2_ofP ∈ lw_g := lw_m4 (List.mem_of_getElem? (i := 1) rfl) rfl
theorem kc_yX2_ofP : Cond.code yX2_ofP cX2_ofP 2 (some .int) ∈ lw_g := lw_m4 (List.mem_of_getElem? (i := 2) rfl) rfl
theorem kl_RX2_124 : Cond.methodLink RX2 124 yX2_isRocket ∈ lw_g := lw_m4 (List.mem_of_getElem? (i := 3) rfl) rfl
theorem ki_yX2_isRocket : Cond.instanceMethod yX2_isRocket ∈ lw_g := lw_m4 (List.mem_of_getElem? (i := 5) rfl) rfl
theorem kc_yX2_isRocket : Cond.code yX2_isRocket cX2_isRocket 2 (some .boolean) ∈ lw_g := lw_m4 (List.mem_of_getElem? (i := 6) rfl) rfl
theorem kl_RX2_76 : Cond.methodLink RX2 76 yX2_canGo ∈ lw_g := lw_m4 (List.mem_of_getElem? (i := 7) rfl) rfl
theorem kt_yX2_canGo : Cond.static yX2_canGo ∈ lw_g := lw_m4 (List.mem_of_getElem? (i := 8) rfl) rfl
theorem kc_yX2_canGo : Cond.code yX2_canGo cX2_canGo 2 (some .boolean) ∈ lw_g := lw_m4 (List.mem_of_getElem? (i := 9) rfl) rfl
theorem kl_RX2_69 : Cond.methodLink RX2 69 yX2_costBy ∈ lw_g := lw_m4 (List.mem_of_getElem? (i := 10) rfl) rfl
theorem kt_yX2_costBy : Cond.static yX2_costBy ∈ lw_g := lw_m4 (List.mem_of_getElem? (i := 11) rfl) rfl
theorem kc_yX2_costBy : Cond.code yX2_costBy cX2_costBy 1 (some .int) ∈ lw_g := lw_m4 (List.mem_of_getElem? (i := 12) rfl) rfl
theorem kl_RX2_84 : Cond.methodLink RX2 84 yX2_sendsIn ∈ lw_g := lw_m4 (List.mem_of_getElem? (i := 13) rfl) rfl
theorem kt_yX2_sendsIn : Cond.static yX2_sendsIn ∈ lw_g := lw_m4 (List.mem_of_getElem? (i := 14) rfl) rfl
theorem kc_yX2_sendsIn : Cond.code yX2_sendsIn cX2_sendsIn 3 none ∈ lw_g := lw_m4 (List.mem_of_getElem? (i := 15) rfl) rfl
theorem kl_RX2_72 : Cond.methodLink RX2 72 yX2_bursts ∈ lw_g := lw_m4 (List.mem_of_getElem? (i := 16) rfl) rfl
theorem kt_yX2_bursts : Cond.static yX2_bursts ∈ lw_g := lw_m4 (List.mem_of_getElem? (i := 17) rfl) rfl
theorem kc_yX2_bursts : Cond.code yX2_bursts cX2_bursts 6 none ∈ lw_g := lw_m4 (List.mem_of_getElem? (i := 18) rfl) rfl
theorem kl_RX2_65 : Cond.methodLink RX2 65 yX2_has ∈ lw_g := lw_m4 (List.mem_of_getElem? (i := 19) rfl) rfl
theorem kt_yX2_has : Cond.static yX2_has ∈ lw_g := lw_m4 (List.mem_of_getElem? (i := 20) rfl) rfl
theorem kc_yX2_has : Cond.code yX2_has cX2_has 2 (some .boolean) ∈ lw_g := lw_m4 (List.mem_of_getElem? (i := 21) rfl) rfl
theorem kl_RX2_61 : Cond.methodLink RX2 61 yX2_isRead ∈ lw_g := lw_m4 (List.mem_of_getElem? (i := 22) rfl) rfl
theorem kt_yX2_isRead : Cond.static yX2_isRead ∈ lw_g := lw_m4 (List.mem_of_getElem? (i := 23) rfl) rfl
theorem kc_yX2_isRead : Cond.code yX2_isRead cX2_isRead 3 (some .boolean) ∈ lw_g := lw_m4 (List.mem_of_getElem? (i := 24) rfl) rfl
theorem kl_RX2_51 : Cond.methodLink RX2 51 yX2_burstsAt ∈ lw_g := lw_m4 (List.mem_of_getElem? (i := 25) rfl) rfl
theorem kt_yX2_burstsAt : Cond.static yX2_burstsAt ∈ lw_g := lw_m4 (List.mem_of_getElem? (i := 26) rfl) rfl
theorem kc_yX2_burstsAt : Cond.code yX2_burstsAt cX2_burstsAt 4 (some .int) ∈ lw_g := lw_m4 (List.mem_of_getElem? (i := 27) rfl) rfl
theorem kl_RX2_55 : Cond.methodLink RX2 55 yX2_apart ∈ lw_g := lw_m4 (List.mem_of_getElem? (i := 28) rfl) rfl
theorem kt_yX2_apart : Cond.static yX2_apart ∈ lw_g := lw_m4 (List.mem_of_getElem? (i := 29) rfl) rfl
theorem kc_yX2_apart : Cond.code yX2_apart cX2_apart 2 (some .int) ∈ lw_g := lw_m4 (List.mem_of_getElem? (i := 30) rfl) rfl
theorem kl_RX2_58 : Cond.methodLink RX2 58 yX2_reachBy ∈ lw_g := lw_m4 (List.mem_of_getElem? (i := 31) rfl) rfl
theorem kt_yX2_reachBy : Cond.static yX2_reachBy ∈ lw_g := lw_m4 (List.mem_of_getElem? (i := 32) rfl) rfl
theorem kc_yX2_reachBy : Cond.code yX2_reachBy cX2_reachBy 3 (some .int) ∈ lw_g := lw_m4 (List.mem_of_getElem? (i := 33) rfl) rfl
theorem kl_RX2_128 : Cond.methodLink RX2 128 yX2_nightsOn ∈ lw_g := lw_m4 (List.mem_of_getElem? (i := 34) rfl) rfl
theorem kt_yX2_nightsOn : Cond.static yX2_nightsOn ∈ lw_g := lw_m4 (List.mem_of_getElem? (i := 35) rfl) rfl
theorem kc_yX2_nightsOn : Cond.code yX2_nightsOn cX2_nightsOn 4 none ∈ lw_g := lw_m4 (List.mem_of_getElem? (i := 36) rfl) rfl
theorem kl_RX2_87 : Cond.methodLink RX2 87 yX2_night ∈ lw_g := lw_m4 (List.mem_of_getElem? (i := 37) rfl) rfl
theorem kt_yX2_night : Cond.static yX2_night ∈ lw_g := lw_m4 (List.mem_of_getElem? (i := 38) rfl) rfl
theorem kc_yX2_night : Cond.code yX2_night cX2_night 5 none ∈ lw_g := lw_m4 (List.mem_of_getElem? (i := 39) rfl) rfl
theorem kl_RX2_80 : Cond.methodLink RX2 80 yX2_nextOf ∈ lw_g := lw_m4 (List.mem_of_getElem? (i := 40) rfl) rfl
theorem kt_yX2_nextOf : Cond.static yX2_nextOf ∈ lw_g := lw_m4 (List.mem_of_getElem? (i := 41) rfl) rfl
theorem kc_yX2_nextOf : Cond.code yX2_nextOf cX2_nextOf 2 (some .int) ∈ lw_g := lw_m4 (List.mem_of_getElem? (i := 42) rfl) rfl
theorem kl_RL_27 : Cond.methodLink RL 27 yX2_rocket ∈ lw_g := lw_m4 (List.mem_of_getElem? (i := 43) rfl) rfl
theorem ki_yX2_rocket : Cond.instanceMethod yX2_rocket ∈ lw_g := lw_m4 (List.mem_of_getElem? (i := 44) rfl) rfl
theorem ks_yX2_rocket : Cond.selects RX2 yX2_rocket yX2_rocket ∈ lw_g := lw_m4 (List.mem_of_getElem? (i := 45) rfl) rfl
theorem kc_yX2_rocket : Cond.code yX2_rocket cX2_rocket 5 (some .int) ∈ lw_g := lw_m4 (List.mem_of_getElem? (i := 46) rfl) rfl
theorem kl_RX2_141 : Cond.methodLink RX2 141 yX2_darkBy ∈ lw_g := lw_m4 (List.mem_of_getElem? (i := 47) rfl) rfl
theorem kt_yX2_darkBy : Cond.static yX2_darkBy ∈ lw_g := lw_m4 (List.mem_of_getElem? (i := 48) rfl) rfl
theorem kc_yX2_darkBy : Cond.code yX2_darkBy cX2_darkBy 2 (some .int) ∈ lw_g := lw_m4 (List.mem_of_getElem? (i := 49) rfl) rfl
theorem kl_RX2_144 : Cond.methodLink RX2 144 yX2_readers ∈ lw_g := lw_m4 (List.mem_of_getElem? (i := 50) rfl) rfl
theorem kt_yX2_readers : Cond.static yX2_readers ∈ lw_g := lw_m4 (List.mem_of_getElem? (i := 51) rfl) rfl
theorem kc_yX2_readers : Cond.code yX2_readers cX2_readers 4 (some .int) ∈ lw_g := lw_m4 (List.mem_of_getElem? (i := 52) rfl) rfl
theorem kl_RL_31 : Cond.methodLink RL 31 yX2_reader ∈ lw_g := lw_m4 (List.mem_of_getElem? (i := 53) rfl) rfl
theorem ki_yX2_reader : Cond.instanceMethod yX2_reader ∈ lw_g := lw_m4 (List.mem_of_getElem? (i := 54) rfl) rfl
theorem ks_yX2_reader : Cond.selects RX2 yX2_reader yX2_reader ∈ lw_g := lw_m4 (List.mem_of_getElem? (i := 55) rfl) rfl
theorem kc_yX2_reader : Cond.code yX2_reader cX2_reader 3 (some .int) ∈ lw_g := lw_m4 (List.mem_of_getElem? (i := 56) rfl) rfl
theorem kl_RX2_147 : Cond.methodLink RX2 147 yX2_isReader ∈ lw_g := lw_m4 (List.mem_of_getElem? (i := 57) rfl) rfl
theorem ki_yX2_isReader : Cond.instanceMethod yX2_isReader ∈ lw_g := lw_m4 (List.mem_of_getElem? (i := 59) rfl) rfl
theorem kc_yX2_isReader : Cond.code yX2_isReader cX2_isReader 2 (some .boolean) ∈ lw_g := lw_m4 (List.mem_of_getElem? (i := 60) rfl) rfl
theorem kl_RX2_91 : Cond.methodLink RX2 91 yX2_wordsOf ∈ lw_g := lw_m4 (List.mem_of_getElem? (i := 61) rfl) rfl
theorem kt_yX2_wordsOf : Cond.static yX2_wordsOf ∈ lw_g := lw_m4 (List.mem_of_getElem? (i := 62) rfl) rfl
theorem kc_yX2_wordsOf : Cond.code yX2_wordsOf cX2_wordsOf 4 (some .int) ∈ lw_g := lw_m4 (List.mem_of_getElem? (i := 63) rfl) rfl
theorem kl_RL_35 : Cond.methodLink RL 35 yX2_keeps ∈ lw_g := lw_m4 (List.mem_of_getElem? (i := 64) rfl) rfl
theorem ki_yX2_keeps : Cond.instanceMethod yX2_keeps ∈ lw_g := lw_m4 (List.mem_of_getElem? (i := 65) rfl) rfl
theorem ks_yX2_keeps : Cond.selects RX2 yX2_keeps yX2_keeps ∈ lw_g := lw_m4 (List.mem_of_getElem? (i := 66) rfl) rfl
theorem kc_yX2_keeps : Cond.code yX2_keeps cX2_keeps 3 (some .int) ∈ lw_g := lw_m4 (List.mem_of_getElem? (i := 67) rfl) rfl
theorem kl_RL_39 : Cond.methodLink RL 39 yX2_sends ∈ lw_g := lw_m4 (List.mem_of_getElem? (i := 68) rfl) rfl
theorem ki_yX2_sends : Cond.instanceMethod yX2_sends ∈ lw_g := lw_m4 (List.mem_of_getElem? (i := 69) rfl) rfl
theorem ks_yX2_sends : Cond.selects RX2 yX2_sends yX2_sends ∈ lw_g := lw_m4 (List.mem_of_getElem? (i := 70) rfl) rfl
theorem kc_yX2_sends : Cond.code yX2_sends cX2_sends 2 (some .int) ∈ lw_g := lw_m4 (List.mem_of_getElem? (i := 71) rfl) rfl
theorem kl_RL_43 : Cond.methodLink RL 43 yX2_boxes ∈ lw_g := lw_m4 (List.mem_of_getElem? (i := 72) rfl) rfl
theorem ki_yX2_boxes : Cond.instanceMethod yX2_boxes ∈ lw_g := lw_m4 (List.mem_of_getElem? (i := 73) rfl) rfl
theorem ks_yX2_boxes : Cond.selects RX2 yX2_boxes yX2_boxes ∈ lw_g := lw_m4 (List.mem_of_getElem? (i := 74) rfl) rfl
theorem kc_yX2_boxes : Cond.code yX2_boxes cX2_boxes 2 (some .int) ∈ lw_g := lw_m4 (List.mem_of_getElem? (i := 75) rfl) rfl
theorem kl_RX2_150 : Cond.methodLink RX2 150 yX2_sentIn ∈ lw_g := lw_m4 (List.mem_of_getElem? (i := 76) rfl) rfl
theorem kt_yX2_sentIn : Cond.static yX2_sentIn ∈ lw_g := lw_m4 (List.mem_of_getElem? (i := 77) rfl) rfl
theorem kc_yX2_sentIn : Cond.code yX2_sentIn cX2_sentIn 3 (some .int) ∈ lw_g := lw_m4 (List.mem_of_getElem? (i := 78) rfl) rfl
theorem kl_RX2_94 : Cond.methodLink RX2 94 yX2_bits ∈ lw_g := lw_m4 (List.mem_of_getElem? (i := 79) rfl) rfl
theorem kt_yX2_bits : Cond.static yX2_bits ∈ lw_g := lw_m4 (List.mem_of_getElem? (i := 80) rfl) rfl
theorem kc_yX2_bits : Cond.code yX2_bits cX2_bits 3 (some .int) ∈ lw_g := lw_m4 (List.mem_of_getElem? (i := 81) rfl) rfl
theorem kl_RL_47 : Cond.methodLink RL 47 yX2_wind ∈ lw_g := lw_m4 (List.mem_of_getElem? (i := 82) rfl) rfl
theorem ki_yX2_wind : Cond.instanceMethod yX2_wind ∈ lw_g := lw_m4 (List.mem_of_getElem? (i := 83) rfl) rfl
theorem ks_yX2_wind : Cond.selects RX2 yX2_wind yX2_wind ∈ lw_g := lw_m4 (List.mem_of_getElem? (i := 84) rfl) rfl
theorem kc_yX2_wind : Cond.code yX2_wind cX2_wind 2 (some .int) ∈ lw_g := lw_m4 (List.mem_of_getElem? (i := 85) rfl) rfl
theorem kl_RX2_157 : Cond.methodLink RX2 157 yX2_sets ∈ lw_g := lw_m4 (List.mem_of_getElem? (i := 86) rfl) rfl
theorem ki_yX2_sets : Cond.instanceMethod yX2_sets ∈ lw_g := lw_m4 (List.mem_of_getElem? (i := 88) rfl) rfl
theorem kc_yX2_sets : Cond.code yX2_sets cX2_sets 6 (some .int) ∈ lw_g := lw_m4 (List.mem_of_getElem? (i := 89) rfl) rfl
theorem kl_RX2_153 : Cond.methodLink RX2 153 yX2_wrongBy ∈ lw_g := lw_m4 (List.mem_of_getElem? (i := 90) rfl) rfl
theorem kt_yX2_wrongBy : Cond.static yX2_wrongBy ∈ lw_g := lw_m4 (List.mem_of_getElem? (i := 91) rfl) rfl
theorem kc_yX2_wrongBy : Cond.code yX2_wrongBy cX2_wrongBy 3 (some .int) ∈ lw_g := lw_m4 (List.mem_of_getElem? (i := 92) rfl) rfl
theorem kl_RL_51 : Cond.methodLink RL 51 yX2_grant ∈ lw_g := lw_m4 (List.mem_of_getElem? (i := 93) rfl) rfl
theorem ki_yX2_grant : Cond.instanceMethod yX2_grant ∈ lw_g := lw_m4 (List.mem_of_getElem? (i := 94) rfl) rfl
theorem ks_yX2_grant : Cond.selects RX2 yX2_grant yX2_grant ∈ lw_g := lw_m4 (List.mem_of_getElem? (i := 95) rfl) rfl
theorem kc_yX2_grant : Cond.code yX2_grant cX2_grant 2 (some .int) ∈ lw_g := lw_m4 (List.mem_of_getElem? (i := 96) rfl) rfl
theorem kl_RL_55 : Cond.methodLink RL 55 yX2_stands ∈ lw_g := lw_m4 (List.mem_of_getElem? (i := 97) rfl) rfl
theorem ki_yX2_stands : Cond.instanceMethod yX2_stands ∈ lw_g := lw_m4 (List.mem_of_getElem? (i := 98) rfl) rfl
theorem ks_yX2_stands : Cond.selects RX2 yX2_stands yX2_stands ∈ lw_g := lw_m4 (List.mem_of_getElem? (i := 99) rfl) rfl
theorem kc_yX2_stands : Cond.code yX2_stands cX2_stands 3 (some .int) ∈ lw_g := lw_m4 (List.mem_of_getElem? (i := 100) rfl) rfl
theorem kl_RL_60 : Cond.methodLink RL 60 yX2_turn ∈ lw_g := lw_m4 (List.mem_of_getElem? (i := 101) rfl) rfl
theorem ki_yX2_turn : Cond.instanceMethod yX2_turn ∈ lw_g := lw_m4 (List.mem_of_getElem? (i := 102) rfl) rfl
theorem ks_yX2_turn : Cond.selects RX2 yX2_turn yX2_turn ∈ lw_g := lw_m4 (List.mem_of_getElem? (i := 103) rfl) rfl
theorem kc_yX2_turn : Cond.code yX2_turn cX2_turn 6 (some .int) ∈ lw_g := lw_m4 (List.mem_of_getElem? (i := 104) rfl) rfl
theorem kl_RL_64 : Cond.methodLink RL 64 yX2_nights ∈ lw_g := lw_m4 (List.mem_of_getElem? (i := 105) rfl) rfl
theorem ki_yX2_nights : Cond.instanceMethod yX2_nights ∈ lw_g := lw_m4 (List.mem_of_getElem? (i := 106) rfl) rfl
theorem ks_yX2_nights : Cond.selects RX2 yX2_nights yX2_nights ∈ lw_g := lw_m4 (List.mem_of_getElem? (i := 107) rfl) rfl
theorem kc_yX2_nights : Cond.code yX2_nights cX2_nights 2 (some .int) ∈ lw_g := lw_m4 (List.mem_of_getElem? (i := 108) rfl) rfl
theorem kl_RL_68 : Cond.methodLink RL 68 yX2_wordsThen ∈ lw_g := lw_m4 (List.mem_of_getElem? (i := 109) rfl) rfl
theorem ki_yX2_wordsThen : Cond.instanceMethod yX2_wordsThen ∈ lw_g := lw_m4 (List.mem_of_getElem? (i := 110) rfl) rfl
theorem ks_yX2_wordsThen : Cond.selects RX2 yX2_wordsThen yX2_wordsThen ∈ lw_g := lw_m4 (List.mem_of_getElem? (i := 111) rfl) rfl
theorem kc_yX2_wordsThen : Cond.code yX2_wordsThen cX2_wordsThen 4 (some .int) ∈ lw_g := lw_m4 (List.mem_of_getElem? (i := 112) rfl) rfl
theorem kl_RX2_160 : Cond.methodLink RX2 160 yX2_takes ∈ lw_g := lw_m4 (List.mem_of_getElem? (i := 113) rfl) rfl
theorem ki_yX2_takes : Cond.instanceMethod yX2_takes ∈ lw_g := lw_m4 (List.mem_of_getElem? (i := 115) rfl) rfl
theorem kc_yX2_takes : Cond.code yX2_takes cX2_takes 2 none ∈ lw_g := lw_m4 (List.mem_of_getElem? (i := 116) rfl) rfl
theorem kl_RL_72 : Cond.methodLink RL 72 yX2_then ∈ lw_g := lw_m4 (List.mem_of_getElem? (i := 117) rfl) rfl
theorem ki_yX2_then : Cond.instanceMethod yX2_then ∈ lw_g := lw_m4 (List.mem_of_getElem? (i := 118) rfl) rfl
theorem ks_yX2_then : Cond.selects RX2 yX2_then yX2_then ∈ lw_g := lw_m4 (List.mem_of_getElem? (i := 119) rfl) rfl
theorem kc_yX2_then : Cond.code yX2_then cX2_then 4 (some .int) ∈ lw_g := lw_m4 (List.mem_of_getElem? (i := 120) rfl) rfl
theorem kl_RL_76 : Cond.methodLink RL 76 yX2_whole ∈ lw_g := lw_m4 (List.mem_of_getElem? (i := 121) rfl) rfl
theorem ki_yX2_whole : Cond.instanceMethod yX2_whole ∈ lw_g := lw_m4 (List.mem_of_getElem? (i := 122) rfl) rfl
theorem ks_yX2_whole : Cond.selects RX2 yX2_whole yX2_whole ∈ lw_g := lw_m4 (List.mem_of_getElem? (i := 123) rfl) rfl
theorem kc_yX2_whole : Cond.code yX2_whole cX2_whole 2 (some .int) ∈ lw_g := lw_m4 (List.mem_of_getElem? (i := 124) rfl) rfl
theorem kl_RX2_168 : Cond.methodLink RX2 168 yX2_firstWhole ∈ lw_g := lw_m4 (List.mem_of_getElem? (i := 125) rfl) rfl
theorem ki_yX2_firstWhole : Cond.instanceMethod yX2_firstWhole ∈ lw_g := lw_m4 (List.mem_of_getElem? (i := 127) rfl) rfl
theorem kc_yX2_firstWhole : Cond.code yX2_firstWhole cX2_firstWhole 5 (some .int) ∈ lw_g := lw_m4 (List.mem_of_getElem? (i := 128) rfl) rfl
theorem kk_RX2_164 : Cond.constant RX2 164 (1000000000) ∈ lw_g := lw_m4 (List.mem_of_getElem? (i := 129) rfl) rfl
theorem kl_RX2_165 : Cond.methodLink RX2 165 yX2_wholeOf ∈ lw_g := lw_m4 (List.mem_of_getElem? (i := 130) rfl) rfl
theorem ki_yX2_wholeOf : Cond.instanceMethod yX2_wholeOf ∈ lw_g := lw_m4 (List.mem_of_getElem? (i := 132) rfl) rfl
theorem kc_yX2_wholeOf : Cond.code yX2_wholeOf cX2_wholeOf 3 (some .int) ∈ lw_g := lw_m4 (List.mem_of_getElem? (i := 133) rfl) rfl
theorem kl_RL_80 : Cond.methodLink RL 80 yX2_next ∈ lw_g := lw_m4 (List.mem_of_getElem? (i := 134) rfl) rfl
theorem ki_yX2_next : Cond.instanceMethod yX2_next ∈ lw_g := lw_m4 (List.mem_of_getElem? (i := 135) rfl) rfl
theorem ks_yX2_next : Cond.selects RX2 yX2_next yX2_next ∈ lw_g := lw_m4 (List.mem_of_getElem? (i := 136) rfl) rfl
theorem kc_yX2_next : Cond.code yX2_next cX2_next 3 (some .int) ∈ lw_g := lw_m4 (List.mem_of_getElem? (i := 137) rfl) rfl
theorem kl_RL_84 : Cond.methodLink RL 84 yX2_fewest ∈ lw_g := lw_m4 (List.mem_of_getElem? (i := 138) rfl) rfl
theorem ki_yX2_fewest : Cond.instanceMethod yX2_fewest ∈ lw_g := lw_m4 (List.mem_of_getElem? (i := 139) rfl) rfl
theorem ks_yX2_fewest : Cond.selects RX2 yX2_fewest yX2_fewest ∈ lw_g := lw_m4 (List.mem_of_getElem? (i := 140) rfl) rfl
theorem kc_yX2_fewest : Cond.code yX2_fewest cX2_fewest 6 (some .int) ∈ lw_g := lw_m4 (List.mem_of_getElem? (i := 141) rfl) rfl
theorem kl_RX2_171 : Cond.methodLink RX2 171 yX2_boxed ∈ lw_g := lw_m4 (List.mem_of_getElem? (i := 142) rfl) rfl
theorem ki_yX2_boxed : Cond.instanceMethod yX2_boxed ∈ lw_g := lw_m4 (List.mem_of_getElem? (i := 144) rfl) rfl
theorem kc_yX2_boxed : Cond.code yX2_boxed cX2_boxed 1 (some .int) ∈ lw_g := lw_m4 (List.mem_of_getElem? (i := 145) rfl) rfl
theorem kl_RX2_174 : Cond.methodLink RX2 174 yX2_isWholeBy ∈ lw_g := lw_m4 (List.mem_of_getElem? (i := 146) rfl) rfl
theorem ki_yX2_isWholeBy : Cond.instanceMethod yX2_isWholeBy ∈ lw_g := lw_m4 (List.mem_of_getElem? (i := 148) rfl) rfl
theorem kc_yX2_isWholeBy : Cond.code yX2_isWholeBy cX2_isWholeBy 4 (some .boolean) ∈ lw_g := lw_m4 (List.mem_of_getElem? (i := 149) rfl) rfl
theorem kl_RX2_177 : Cond.methodLink RX2 177 yX2_costOf ∈ lw_g := lw_m4 (List.mem_of_getElem? (i := 150) rfl) rfl
theorem ki_yX2_costOf : Cond.instanceMethod yX2_costOf ∈ lw_g := lw_m4 (List.mem_of_getElem? (i := 152) rfl) rfl
theorem kc_yX2_costOf : Cond.code yX2_costOf cX2_costOf 4 (some .int) ∈ lw_g := lw_m4 (List.mem_of_getElem? (i := 153) rfl) rfl
theorem kl_RL_88 : Cond.methodLink RL 88 yX2_windBest ∈ lw_g := lw_m4 (List.mem_of_getElem? (i := 154) rfl) rfl
theorem ki_yX2_windBest : Cond.instanceMethod yX2_windBest ∈ lw_g := lw_m4 (List.mem_of_getElem? (i := 155) rfl) rfl
theorem ks_yX2_windBest : Cond.selects RX2 yX2_windBest yX2_windBest ∈ lw_g := lw_m4 (List.mem_of_getElem? (i := 156) rfl) rfl
theorem kc_yX2_windBest : Cond.code yX2_windBest cX2_windBest 7 (some .int) ∈ lw_g := lw_m4 (List.mem_of_getElem? (i := 157) rfl) rfl
theorem kl_RX2_180 : Cond.methodLink RX2 180 yX2_wholeOnes ∈ lw_g := lw_m4 (List.mem_of_getElem? (i := 158) rfl) rfl
theorem kt_yX2_wholeOnes : Cond.static yX2_wholeOnes ∈ lw_g := lw_m4 (List.mem_of_getElem? (i := 159) rfl) rfl
theorem kc_yX2_wholeOnes : Cond.code yX2_wholeOnes cX2_wholeOnes 3 (some .int) ∈ lw_g := lw_m4 (List.mem_of_getElem? (i := 160) rfl) rfl
theorem kl_RL_92 : Cond.methodLink RL 92 yX2_move ∈ lw_g := lw_m4 (List.mem_of_getElem? (i := 161) rfl) rfl
theorem ki_yX2_move : Cond.instanceMethod yX2_move ∈ lw_g := lw_m4 (List.mem_of_getElem? (i := 162) rfl) rfl
theorem ks_yX2_move : Cond.selects RX2 yX2_move yX2_move ∈ lw_g := lw_m4 (List.mem_of_getElem? (i := 163) rfl) rfl
theorem kc_yX2_move : Cond.code yX2_move cX2_move 8 (some .int) ∈ lw_g := lw_m4 (List.mem_of_getElem? (i := 164) rfl) rfl
theorem kl_RL_96 : Cond.methodLink RL 96 yX2_forgo ∈ lw_g := lw_m4 (List.mem_of_getElem? (i := 165) rfl) rfl
theorem ki_yX2_forgo : Cond.instanceMethod yX2_forgo ∈ lw_g := lw_m4 (List.mem_of_getElem? (i := 166) rfl) rfl
theorem ks_yX2_forgo : Cond.selects RX2 yX2_forgo yX2_forgo ∈ lw_g := lw_m4 (List.mem_of_getElem? (i := 167) rfl) rfl
theorem kc_yX2_forgo : Cond.code yX2_forgo cX2_forgo 3 (some .int) ∈ lw_g := lw_m4 (List.mem_of_getElem? (i := 168) rfl) rfl
theorem kl_RX2_186 : Cond.methodLink RX2 186 yX2_bestNow ∈ lw_g := lw_m4 (List.mem_of_getElem? (i := 169) rfl) rfl
theorem ki_yX2_bestNow : Cond.instanceMethod yX2_bestNow ∈ lw_g := lw_m4 (List.mem_of_getElem? (i := 171) rfl) rfl
theorem kc_yX2_bestNow : Cond.code yX2_bestNow cX2_bestNow 6 (some .int) ∈ lw_g := lw_m4 (List.mem_of_getElem? (i := 172) rfl) rfl
theorem kl_RX2_183 : Cond.methodLink RX2 183 yX2_allWords ∈ lw_g := lw_m4 (List.mem_of_getElem? (i := 173) rfl) rfl
theorem kt_yX2_allWords : Cond.static yX2_allWords ∈ lw_g := lw_m4 (List.mem_of_getElem? (i := 174) rfl) rfl
theorem kc_yX2_allWords : Cond.code yX2_allWords cX2_allWords 3 (some .int) ∈ lw_g := lw_m4 (List.mem_of_getElem? (i := 175) rfl) rfl
theorem kl_RL_100 : Cond.methodLink RL 100 yX2_firstUp ∈ lw_g := lw_m4 (List.mem_of_getElem? (i := 176) rfl) rfl
theorem ki_yX2_firstUp : Cond.instanceMethod yX2_firstUp ∈ lw_g := lw_m4 (List.mem_of_getElem? (i := 177) rfl) rfl
theorem ks_yX2_firstUp : Cond.selects RX2 yX2_firstUp yX2_firstUp ∈ lw_g := lw_m4 (List.mem_of_getElem? (i := 178) rfl) rfl
theorem kc_yX2_firstUp : Cond.code yX2_firstUp cX2_firstUp 3 (some .int) ∈ lw_g := lw_m4 (List.mem_of_getElem? (i := 179) rfl) rfl
theorem kl_RL_104 : Cond.methodLink RL 104 yX2_longest ∈ lw_g := lw_m4 (List.mem_of_getElem? (i := 180) rfl) rfl
theorem ki_yX2_longest : Cond.instanceMethod yX2_longest ∈ lw_g := lw_m4 (List.mem_of_getElem? (i := 181) rfl) rfl
theorem ks_yX2_longest : Cond.selects RX2 yX2_longest yX2_longest ∈ lw_g := lw_m4 (List.mem_of_getElem? (i := 182) rfl) rfl
theorem kc_yX2_longest : Cond.code yX2_longest cX2_longest 4 (some .int) ∈ lw_g := lw_m4 (List.mem_of_getElem? (i := 183) rfl) rfl
theorem kl_RX2_190 : Cond.methodLink RX2 190 yX2_darkOf ∈ lw_g := lw_m4 (List.mem_of_getElem? (i := 184) rfl) rfl
theorem ki_yX2_darkOf : Cond.instanceMethod yX2_darkOf ∈ lw_g := lw_m4 (List.mem_of_getElem? (i := 186) rfl) rfl
theorem kc_yX2_darkOf : Cond.code yX2_darkOf cX2_darkOf 2 (some .int) ∈ lw_g := lw_m4 (List.mem_of_getElem? (i := 187) rfl) rfl
theorem kl_RL_108 : Cond.methodLink RL 108 yX2_seen ∈ lw_g := lw_m4 (List.mem_of_getElem? (i := 188) rfl) rfl
theorem ki_yX2_seen : Cond.instanceMethod yX2_seen ∈ lw_g := lw_m4 (List.mem_of_getElem? (i := 189) rfl) rfl
theorem ks_yX2_seen : Cond.selects RX2 yX2_seen yX2_seen ∈ lw_g := lw_m4 (List.mem_of_getElem? (i := 190) rfl) rfl
theorem kc_yX2_seen : Cond.code yX2_seen cX2_seen 4 (some .int) ∈ lw_g := lw_m4 (List.mem_of_getElem? (i := 191) rfl) rfl
theorem kl_RL_112 : Cond.methodLink RL 112 yX2_words ∈ lw_g := lw_m4 (List.mem_of_getElem? (i := 192) rfl) rfl
theorem ki_yX2_words : Cond.instanceMethod yX2_words ∈ lw_g := lw_m4 (List.mem_of_getElem? (i := 193) rfl) rfl
theorem ks_yX2_words : Cond.selects RX2 yX2_words yX2_words ∈ lw_g := lw_m4 (List.mem_of_getElem? (i := 194) rfl) rfl
theorem kc_yX2_words : Cond.code yX2_words cX2_words 6 (some .int) ∈ lw_g := lw_m4 (List.mem_of_getElem? (i := 195) rfl) rfl
theorem kl_RX2_193 : Cond.methodLink RX2 193 yX2_manyWith ∈ lw_g := lw_m4 (List.mem_of_getElem? (i := 196) rfl) rfl
theorem ki_yX2_manyWith : Cond.instanceMethod yX2_manyWith ∈ lw_g := lw_m4 (List.mem_of_getElem? (i := 198) rfl) rfl
theorem kc_yX2_manyWith : Cond.code yX2_manyWith cX2_manyWith 4 (some .int) ∈ lw_g := lw_m4 (List.mem_of_getElem? (i := 199) rfl) rfl
theorem kl_RL_116 : Cond.methodLink RL 116 yX2_near ∈ lw_g := lw_m4 (List.mem_of_getElem? (i := 200) rfl) rfl
theorem ki_yX2_near : Cond.instanceMethod yX2_near ∈ lw_g := lw_m4 (List.mem_of_getElem? (i := 201) rfl) rfl
theorem ks_yX2_near : Cond.selects RX2 yX2_near yX2_near ∈ lw_g := lw_m4 (List.mem_of_getElem? (i := 202) rfl) rfl
theorem kc_yX2_near : Cond.code yX2_near cX2_near 3 (some .int) ∈ lw_g := lw_m4 (List.mem_of_getElem? (i := 203) rfl) rfl
theorem kl_RL_120 : Cond.methodLink RL 120 yX2_alone ∈ lw_g := lw_m4 (List.mem_of_getElem? (i := 204) rfl) rfl
theorem ki_yX2_alone : Cond.instanceMethod yX2_alone ∈ lw_g := lw_m4 (List.mem_of_getElem? (i := 205) rfl) rfl
theorem ks_yX2_alone : Cond.selects RX2 yX2_alone yX2_alone ∈ lw_g := lw_m4 (List.mem_of_getElem? (i := 206) rfl) rfl
theorem kc_yX2_alone : Cond.code yX2_alone cX2_alone 4 (some .int) ∈ lw_g := lw_m4 (List.mem_of_getElem? (i := 207) rfl) rfl
theorem kl_RL_124 : Cond.methodLink RL 124 yX2_tell ∈ lw_g := lw_m4 (List.mem_of_getElem? (i := 208) rfl) rfl
theorem ki_yX2_tell : Cond.instanceMethod yX2_tell ∈ lw_g := lw_m4 (List.mem_of_getElem? (i := 209) rfl) rfl
theorem ks_yX2_tell : Cond.selects RX2 yX2_tell yX2_tell ∈ lw_g := lw_m4 (List.mem_of_getElem? (i := 210) rfl) rfl
theorem kc_yX2_tell : Cond.code yX2_tell cX2_tell 6 (some .int) ∈ lw_g := lw_m4 (List.mem_of_getElem? (i := 211) rfl) rfl
theorem kl_RL_128 : Cond.methodLink RL 128 yX2_two ∈ lw_g := lw_m4 (List.mem_of_getElem? (i := 212) rfl) rfl
theorem ki_yX2_two : Cond.instanceMethod yX2_two ∈ lw_g := lw_m4 (List.mem_of_getElem? (i := 213) rfl) rfl
theorem ks_yX2_two : Cond.selects RX2 yX2_two yX2_two ∈ lw_g := lw_m4 (List.mem_of_getElem? (i := 214) rfl) rfl
theorem kc_yX2_two : Cond.code yX2_two cX2_two 9 (some .int) ∈ lw_g := lw_m4 (List.mem_of_getElem? (i := 215) rfl) rfl
theorem kl_RX2_196 : Cond.methodLink RX2 196 yX2_lookingBy ∈ lw_g := lw_m4 (List.mem_of_getElem? (i := 216) rfl) rfl
theorem kt_yX2_lookingBy : Cond.static yX2_lookingBy ∈ lw_g := lw_m4 (List.mem_of_getElem? (i := 217) rfl) rfl
theorem kc_yX2_lookingBy : Cond.code yX2_lookingBy cX2_lookingBy 4 (some .int) ∈ lw_g := lw_m4 (List.mem_of_getElem? (i := 218) rfl) rfl
theorem kl_RX2_200 : Cond.methodLink RX2 200 yX2_hasBy ∈ lw_g := lw_m4 (List.mem_of_getElem? (i := 219) rfl) rfl
theorem ki_yX2_hasBy : Cond.instanceMethod yX2_hasBy ∈ lw_g := lw_m4 (List.mem_of_getElem? (i := 221) rfl) rfl
theorem kc_yX2_hasBy : Cond.code yX2_hasBy cX2_hasBy 7 (some .int) ∈ lw_g := lw_m4 (List.mem_of_getElem? (i := 222) rfl) rfl
theorem kl_RL_133 : Cond.methodLink RL 133 yX2_rain ∈ lw_g := lw_m4 (List.mem_of_getElem? (i := 223) rfl) rfl
theorem ki_yX2_rain : Cond.instanceMethod yX2_rain ∈ lw_g := lw_m4 (List.mem_of_getElem? (i := 224) rfl) rfl
theorem ks_yX2_rain : Cond.selects RX2 yX2_rain yX2_rain ∈ lw_g := lw_m4 (List.mem_of_getElem? (i := 225) rfl) rfl
theorem kc_yX2_rain : Cond.code yX2_rain cX2_rain 13 (some .long) ∈ lw_g := lw_m4 (List.mem_of_getElem? (i := 226) rfl) rfl
theorem kl_RX2_208 : Cond.methodLink RX2 208 yX2_noWide ∈ lw_g := lw_m4 (List.mem_of_getElem? (i := 227) rfl) rfl
theorem ki_yX2_noWide : Cond.instanceMethod yX2_noWide ∈ lw_g := lw_m4 (List.mem_of_getElem? (i := 229) rfl) rfl
theorem kc_yX2_noWide : Cond.code yX2_noWide cX2_noWide 2 (some .long) ∈ lw_g := lw_m4 (List.mem_of_getElem? (i := 230) rfl) rfl
theorem kk_RX2_34 : Cond.constantLong RX2 34 (4000000000000000000) ∈ lw_g := lw_m4 (List.mem_of_getElem? (i := 231) rfl) rfl
theorem kl_RX2_212 : Cond.methodLink RX2 212 yX2_partOf ∈ lw_g := lw_m4 (List.mem_of_getElem? (i := 232) rfl) rfl
theorem kt_yX2_partOf : Cond.static yX2_partOf ∈ lw_g := lw_m4 (List.mem_of_getElem? (i := 233) rfl) rfl
theorem kc_yX2_partOf : Cond.code yX2_partOf cX2_partOf 5 (some .long) ∈ lw_g := lw_m4 (List.mem_of_getElem? (i := 234) rfl) rfl
theorem kl_RX2_204 : Cond.methodLink RX2 204 yX2_gcd ∈ lw_g := lw_m4 (List.mem_of_getElem? (i := 235) rfl) rfl
theorem kt_yX2_gcd : Cond.static yX2_gcd ∈ lw_g := lw_m4 (List.mem_of_getElem? (i := 236) rfl) rfl
theorem kc_yX2_gcd : Cond.code yX2_gcd cX2_gcd 10 (some .long) ∈ lw_g := lw_m4 (List.mem_of_getElem? (i := 237) rfl) rfl
theorem kl_RL_138 : Cond.methodLink RL 138 yX2_mean ∈ lw_g := lw_m4 (List.mem_of_getElem? (i := 238) rfl) rfl
theorem ki_yX2_mean : Cond.instanceMethod yX2_mean ∈ lw_g := lw_m4 (List.mem_of_getElem? (i := 239) rfl) rfl
theorem ks_yX2_mean : Cond.selects RX2 yX2_mean yX2_mean ∈ lw_g := lw_m5 (List.mem_of_getElem? (i := 0) rfl) rfl
theorem kc_yX2_mean : Cond.code yX2_mean cX2_mean 2 (some .long) ∈ lw_g := lw_m5 (List.mem_of_getElem? (i := 1) rfl) rfl
theorem kl_RL_142 : Cond.methodLink RL 142 yX2_whatSaid ∈ lw_g := lw_m5 (List.mem_of_getElem? (i := 2) rfl) rfl
theorem ki_yX2_whatSaid : Cond.instanceMethod yX2_whatSaid ∈ lw_g := lw_m5 (List.mem_of_getElem? (i := 3) rfl) rfl
theorem ks_yX2_whatSaid : Cond.selects RX2 yX2_whatSaid yX2_whatSaid ∈ lw_g := lw_m5 (List.mem_of_getElem? (i := 4) rfl) rfl
theorem kc_yX2_whatSaid : Cond.code yX2_whatSaid cX2_whatSaid 5 (some .int) ∈ lw_g := lw_m5 (List.mem_of_getElem? (i := 5) rfl) rfl
theorem kl_RX2_219 : Cond.methodLink RX2 219 yX2_isSaidSo ∈ lw_g := lw_m5 (List.mem_of_getElem? (i := 6) rfl) rfl
theorem ki_yX2_isSaidSo : Cond.instanceMethod yX2_isSaidSo ∈ lw_g := lw_m5 (List.mem_of_getElem? (i := 8) rfl) rfl
theorem kc_yX2_isSaidSo : Cond.code yX2_isSaidSo cX2_isSaidSo 3 (some .boolean) ∈ lw_g := lw_m5 (List.mem_of_getElem? (i := 9) rfl) rfl
theorem kl_RL_146 : Cond.methodLink RL 146 yX2_row ∈ lw_g := lw_m5 (List.mem_of_getElem? (i := 10) rfl) rfl
theorem ki_yX2_row : Cond.instanceMethod yX2_row ∈ lw_g := lw_m5 (List.mem_of_getElem? (i := 11) rfl) rfl
theorem ks_yX2_row : Cond.selects RX2 yX2_row yX2_row ∈ lw_g := lw_m5 (List.mem_of_getElem? (i := 12) rfl) rfl
theorem kc_yX2_row : Cond.code yX2_row cX2_row 3 (some .int) ∈ lw_g := lw_m5 (List.mem_of_getElem? (i := 13) rfl) rfl
theorem kl_RL_150 : Cond.methodLink RL 150 yX2_judge ∈ lw_g := lw_m5 (List.mem_of_getElem? (i := 14) rfl) rfl
theorem ki_yX2_judge : Cond.instanceMethod yX2_judge ∈ lw_g := lw_m5 (List.mem_of_getElem? (i := 15) rfl) rfl
theorem ks_yX2_judge : Cond.selects RX2 yX2_judge yX2_judge ∈ lw_g := lw_m5 (List.mem_of_getElem? (i := 16) rfl) rfl
theorem kc_yX2_judge : Cond.code yX2_judge cX2_judge 3 (some .int) ∈ lw_g := lw_m5 (List.mem_of_getElem? (i := 17) rfl) rfl
theorem kl_RL_154 : Cond.methodLink RL 154 yX2_clear ∈ lw_g := lw_m5 (List.mem_of_getElem? (i := 18) rfl) rfl
theorem ki_yX2_clear : Cond.instanceMethod yX2_clear ∈ lw_g := lw_m5 (List.mem_of_getElem? (i := 19) rfl) rfl
theorem ks_yX2_clear : Cond.selects RX2 yX2_clear yX2_clear ∈ lw_g := lw_m5 (List.mem_of_getElem? (i := 20) rfl) rfl
theorem kc_yX2_clear : Cond.code yX2_clear cX2_clear 2 (some .int) ∈ lw_g := lw_m5 (List.mem_of_getElem? (i := 21) rfl) rfl
theorem kl_RL_158 : Cond.methodLink RL 158 yX2_lots ∈ lw_g := lw_m5 (List.mem_of_getElem? (i := 22) rfl) rfl
theorem ki_yX2_lots : Cond.instanceMethod yX2_lots ∈ lw_g := lw_m5 (List.mem_of_getElem? (i := 23) rfl) rfl
theorem ks_yX2_lots : Cond.selects RX2 yX2_lots yX2_lots ∈ lw_g := lw_m5 (List.mem_of_getElem? (i := 24) rfl) rfl
theorem kc_yX2_lots : Cond.code yX2_lots cX2_lots 7 (some .int) ∈ lw_g := lw_m5 (List.mem_of_getElem? (i := 25) rfl) rfl
theorem kl_RX2_228 : Cond.methodLink RX2 228 yX2_drawn ∈ lw_g := lw_m5 (List.mem_of_getElem? (i := 26) rfl) rfl
theorem ki_yX2_drawn : Cond.instanceMethod yX2_drawn ∈ lw_g := lw_m5 (List.mem_of_getElem? (i := 28) rfl) rfl
theorem kc_yX2_drawn : Cond.code yX2_drawn cX2_drawn 2 (some .int) ∈ lw_g := lw_m5 (List.mem_of_getElem? (i := 29) rfl) rfl
theorem kk_RX2_225 : Cond.constant RX2 225 (1664525) ∈ lw_g := lw_m5 (List.mem_of_getElem? (i := 30) rfl) rfl
theorem kk_RX2_226 : Cond.constant RX2 226 (1013904223) ∈ lw_g := lw_m5 (List.mem_of_getElem? (i := 31) rfl) rfl
theorem kk_RX2_227 : Cond.constant RX2 227 (2147483647) ∈ lw_g := lw_m5 (List.mem_of_getElem? (i := 32) rfl) rfl
theorem kl_RL_162 : Cond.methodLink RL 162 yX2_image ∈ lw_g := lw_m5 (List.mem_of_getElem? (i := 33) rfl) rfl
theorem ki_yX2_image : Cond.instanceMethod yX2_image ∈ lw_g := lw_m5 (List.mem_of_getElem? (i := 34) rfl) rfl
theorem ks_yX2_image : Cond.selects RX2 yX2_image yX2_image ∈ lw_g := lw_m5 (List.mem_of_getElem? (i := 35) rfl) rfl
theorem kc_yX2_image : Cond.code yX2_image cX2_image 1 (some .int) ∈ lw_g := lw_m5 (List.mem_of_getElem? (i := 36) rfl) rfl
theorem kl_RL_166 : Cond.methodLink RL 166 yX2_on ∈ lw_g := lw_m5 (List.mem_of_getElem? (i := 37) rfl) rfl
theorem ki_yX2_on : Cond.instanceMethod yX2_on ∈ lw_g := lw_m5 (List.mem_of_getElem? (i := 38) rfl) rfl
theorem ks_yX2_on : Cond.selects RX2 yX2_on yX2_on ∈ lw_g := lw_m5 (List.mem_of_getElem? (i := 39) rfl) rfl
theorem kc_yX2_on : Cond.code yX2_on cX2_on 1 (some .int) ∈ lw_g := lw_m5 (List.mem_of_getElem? (i := 40) rfl) rfl
theorem kl_RL_170 : Cond.methodLink RL 170 yX2_count ∈ lw_g := lw_m5 (List.mem_of_getElem? (i := 41) rfl) rfl
theorem ki_yX2_count : Cond.instanceMethod yX2_count ∈ lw_g := lw_m5 (List.mem_of_getElem? (i := 42) rfl) rfl
theorem ks_yX2_count : Cond.selects RX2 yX2_count yX2_count ∈ lw_g := lw_m5 (List.mem_of_getElem? (i := 43) rfl) rfl
theorem kc_yX2_count : Cond.code yX2_count cX2_count 2 (some .int) ∈ lw_g := lw_m5 (List.mem_of_getElem? (i := 44) rfl) rfl
theorem kf_RJ0_15 : Cond.fieldLink RJ0 15 "java/lang/String" "coder" "B" ∈ lw_g := lw_m5 (List.mem_of_getElem? (i := 45) rfl) rfl
theorem kf_RJ0_9 : Cond.fieldLink RJ0 9 "java/lang/String" "value" "[B" ∈ lw_g := lw_m5 (List.mem_of_getElem? (i := 46) rfl) rfl
theorem ks_yX1_refuse : Cond.selects RX1 yX1_refuse yX1_refuse ∈ lw_g := lw_m0 (List.mem_of_getElem? (i := 0) rfl) rfl
theorem ks_yX1_wrongLetter : Cond.selects RX1 yX1_wrongLetter yX1_wrongLetter ∈ lw_g := lw_m0 (List.mem_of_getElem? (i := 1) rfl) rfl
theorem ks_yX1_comesToMind : Cond.selects RX1 yX1_comesToMind yX1_comesToMind ∈ lw_g := lw_m0 (List.mem_of_getElem? (i := 2) rfl) rfl
theorem ks_yX1_rocketComes : Cond.selects RX1 yX1_rocketComes yX1_rocketComes ∈ lw_g := lw_m0 (List.mem_of_getElem? (i := 3) rfl) rfl
theorem ks_yX1_numberAt : Cond.selects RX1 yX1_numberAt yX1_numberAt ∈ lw_g := lw_m0 (List.mem_of_getElem? (i := 4) rfl) rfl
theorem ks_yX1_rocketGoesUp : Cond.selects RX1 yX1_rocketGoesUp yX1_rocketGoesUp ∈ lw_g := lw_m0 (List.mem_of_getElem? (i := 5) rfl) rfl
theorem ks_yX1_rocketGoesBack : Cond.selects RX1 yX1_rocketGoesBack yX1_rocketGoesBack ∈ lw_g := lw_m0 (List.mem_of_getElem? (i := 6) rfl) rfl
theorem ks_yX1_nightsGoBy : Cond.selects RX1 yX1_nightsGoBy yX1_nightsGoBy ∈ lw_g := lw_m0 (List.mem_of_getElem? (i := 7) rfl) rfl
theorem ks_yX1_thinkOn : Cond.selects RX1 yX1_thinkOn yX1_thinkOn ∈ lw_g := lw_m0 (List.mem_of_getElem? (i := 8) rfl) rfl
theorem ks_yX1_firstWhole : Cond.selects RX1 yX1_firstWhole yX1_firstWhole ∈ lw_g := lw_m0 (List.mem_of_getElem? (i := 9) rfl) rfl
theorem ks_yX1_nightsUntilWhole : Cond.selects RX1 yX1_nightsUntilWhole yX1_nightsUntilWhole ∈ lw_g := lw_m0 (List.mem_of_getElem? (i := 10) rfl) rfl
theorem ks_yX1_nightsUntilSpent : Cond.selects RX1 yX1_nightsUntilSpent yX1_nightsUntilSpent ∈ lw_g := lw_m0 (List.mem_of_getElem? (i := 11) rfl) rfl
theorem ks_yX1_noteWhatIsBrought : Cond.selects RX1 yX1_noteWhatIsBrought yX1_noteWhatIsBrought ∈ lw_g := lw_m0 (List.mem_of_getElem? (i := 12) rfl) rfl
theorem ks_yX1_fewestRockets : Cond.selects RX1 yX1_fewestRockets yX1_fewestRockets ∈ lw_g := lw_m0 (List.mem_of_getElem? (i := 13) rfl) rfl
theorem ks_yX1_makesWhole : Cond.selects RX1 yX1_makesWhole yX1_makesWhole ∈ lw_g := lw_m0 (List.mem_of_getElem? (i := 14) rfl) rfl
theorem ks_yX1_leastCost : Cond.selects RX1 yX1_leastCost yX1_leastCost ∈ lw_g := lw_m0 (List.mem_of_getElem? (i := 15) rfl) rfl
theorem ks_yX1_costOfChosen : Cond.selects RX1 yX1_costOfChosen yX1_costOfChosen ∈ lw_g := lw_m0 (List.mem_of_getElem? (i := 16) rfl) rfl
theorem ks_yX1_bestToSpend : Cond.selects RX1 yX1_bestToSpend yX1_bestToSpend ∈ lw_g := lw_m0 (List.mem_of_getElem? (i := 17) rfl) rfl
theorem ks_yX1_wordsHadBySpending : Cond.selects RX1 yX1_wordsHadBySpending yX1_wordsHadBySpending ∈ lw_g := lw_m0 (List.mem_of_getElem? (i := 18) rfl) rfl
theorem ks_yX1_longestDark : Cond.selects RX1 yX1_longestDark yX1_longestDark ∈ lw_g := lw_m0 (List.mem_of_getElem? (i := 19) rfl) rfl
theorem ks_yX1_costOfTheBox : Cond.selects RX1 yX1_costOfTheBox yX1_costOfTheBox ∈ lw_g := lw_m0 (List.mem_of_getElem? (i := 20) rfl) rfl
theorem ks_yX1_lackingWords : Cond.selects RX1 yX1_lackingWords yX1_lackingWords ∈ lw_g := lw_m0 (List.mem_of_getElem? (i := 21) rfl) rfl
theorem ks_yX1_knownWords : Cond.selects RX1 yX1_knownWords yX1_knownWords ∈ lw_g := lw_m0 (List.mem_of_getElem? (i := 22) rfl) rfl
theorem ks_yX1_rarestWord : Cond.selects RX1 yX1_rarestWord yX1_rarestWord ∈ lw_g := lw_m0 (List.mem_of_getElem? (i := 23) rfl) rfl
theorem ks_yX1_noteWhatPairGets : Cond.selects RX1 yX1_noteWhatPairGets yX1_noteWhatPairGets ∈ lw_g := lw_m0 (List.mem_of_getElem? (i := 24) rfl) rfl
theorem ks_yX1_gain : Cond.selects RX1 yX1_gain yX1_gain ∈ lw_g := lw_m0 (List.mem_of_getElem? (i := 25) rfl) rfl
theorem ks_yX1_refuseLong : Cond.selects RX1 yX1_refuseLong yX1_refuseLong ∈ lw_g := lw_m0 (List.mem_of_getElem? (i := 26) rfl) rfl
theorem ks_yX1_isWholeAfter : Cond.selects RX1 yX1_isWholeAfter yX1_isWholeAfter ∈ lw_g := lw_m0 (List.mem_of_getElem? (i := 27) rfl) rfl
theorem ks_yX1_rowFitsMind : Cond.selects RX1 yX1_rowFitsMind yX1_rowFitsMind ∈ lw_g := lw_m0 (List.mem_of_getElem? (i := 28) rfl) rfl
theorem ks_yX1_refusalsOf : Cond.selects RX1 yX1_refusalsOf yX1_refusalsOf ∈ lw_g := lw_m0 (List.mem_of_getElem? (i := 29) rfl) rfl
theorem ks_yX2_no : Cond.selects RX2 yX2_no yX2_no ∈ lw_g := lw_m0 (List.mem_of_getElem? (i := 30) rfl) rfl
theorem ks_yX2_readsStatement : Cond.selects RX2 yX2_readsStatement yX2_readsStatement ∈ lw_g := lw_m0 (List.mem_of_getElem? (i := 31) rfl) rfl
theorem ks_yX2_here : Cond.selects RX2 yX2_here yX2_here ∈ lw_g := lw_m0 (List.mem_of_getElem? (i := 32) rfl) rfl
theorem ks_yX2_readsKind : Cond.selects RX2 yX2_readsKind yX2_readsKind ∈ lw_g := lw_m0 (List.mem_of_getElem? (i := 33) rfl) rfl
theorem ks_yX2_readsNumber : Cond.selects RX2 yX2_readsNumber yX2_readsNumber ∈ lw_g := lw_m0 (List.mem_of_getElem? (i := 34) rfl) rfl
theorem ks_yX2_isDone : Cond.selects RX2 yX2_isDone yX2_isDone ∈ lw_g := lw_m0 (List.mem_of_getElem? (i := 35) rfl) rfl
theorem ks_yX2_addsRocket : Cond.selects RX2 yX2_addsRocket yX2_addsRocket ∈ lw_g := lw_m0 (List.mem_of_getElem? (i := 36) rfl) rfl
theorem ks_yX2_addsReader : Cond.selects RX2 yX2_addsReader yX2_addsReader ∈ lw_g := lw_m0 (List.mem_of_getElem? (i := 37) rfl) rfl
theorem ks_yX2_isRocket : Cond.selects RX2 yX2_isRocket yX2_isRocket ∈ lw_g := lw_m0 (List.mem_of_getElem? (i := 38) rfl) rfl
theorem ks_yX2_isReader : Cond.selects RX2 yX2_isReader yX2_isReader ∈ lw_g := lw_m0 (List.mem_of_getElem? (i := 39) rfl) rfl
theorem ks_yX2_sets : Cond.selects RX2 yX2_sets yX2_sets ∈ lw_g := lw_m0 (List.mem_of_getElem? (i := 40) rfl) rfl
theorem ks_yX2_takes : Cond.selects RX2 yX2_takes yX2_takes ∈ lw_g := lw_m0 (List.mem_of_getElem? (i := 41) rfl) rfl
theorem ks_yX2_firstWhole : Cond.selects RX2 yX2_firstWhole yX2_firstWhole ∈ lw_g := lw_m0 (List.mem_of_getElem? (i := 42) rfl) rfl
theorem ks_yX2_wholeOf : Cond.selects RX2 yX2_wholeOf yX2_wholeOf ∈ lw_g := lw_m0 (List.mem_of_getElem? (i := 43) rfl) rfl
theorem ks_yX2_boxed : Cond.selects RX2 yX2_boxed yX2_boxed ∈ lw_g := lw_m0 (List.mem_of_getElem? (i := 44) rfl) rfl
theorem ks_yX2_isWholeBy : Cond.selects RX2 yX2_isWholeBy yX2_isWholeBy ∈ lw_g := lw_m0 (List.mem_of_getElem? (i := 45) rfl) rfl
theorem ks_yX2_costOf : Cond.selects RX2 yX2_costOf yX2_costOf ∈ lw_g := lw_m0 (List.mem_of_getElem? (i := 46) rfl) rfl
theorem ks_yX2_bestNow : Cond.selects RX2 yX2_bestNow yX2_bestNow ∈ lw_g := lw_m0 (List.mem_of_getElem? (i := 47) rfl) rfl
theorem ks_yX2_darkOf : Cond.selects RX2 yX2_darkOf yX2_darkOf ∈ lw_g := lw_m0 (List.mem_of_getElem? (i := 48) rfl) rfl
theorem ks_yX2_manyWith : Cond.selects RX2 yX2_manyWith yX2_manyWith ∈ lw_g := lw_m0 (List.mem_of_getElem? (i := 49) rfl) rfl
theorem ks_yX2_hasBy : Cond.selects RX2 yX2_hasBy yX2_hasBy ∈ lw_g := lw_m0 (List.mem_of_getElem? (i := 50) rfl) rfl
theorem ks_yX2_noWide : Cond.selects RX2 yX2_noWide yX2_noWide ∈ lw_g := lw_m0 (List.mem_of_getElem? (i := 51) rfl) rfl
theorem ks_yX2_isSaidSo : Cond.selects RX2 yX2_isSaidSo yX2_isSaidSo ∈ lw_g := lw_m0 (List.mem_of_getElem? (i := 52) rfl) rfl
theorem ks_yX2_drawn : Cond.selects RX2 yX2_drawn yX2_drawn ∈ lw_g := lw_m0 (List.mem_of_getElem? (i := 53) rfl) rfl
theorem gl_tbl : GoodIn lw_g lw_g := fun w hw => ⟨hw, good_of_word (List.mem_filter.mp hw).2⟩
set_option maxRecDepth 20000 in
theorem inX0 : ∀ w ∈ wsX00, w ∈ lw_g := by decide +kernel
set_option maxRecDepth 20000 in
theorem inX1 : ∀ w ∈ wsX10, w ∈ lw_g := by decide +kernel
set_option maxRecDepth 20000 in
theorem inX2 : ∀ w ∈ wsX20, w ∈ lw_g := by decide +kernel
end
section
abbrev VS : Type := Nat → Nat → Int32
def up {α : Type} (g : Nat → α) (k : Nat) (x : α) : Nat → α := fun j => bif Nat.beq j k then x else g j
theorem up_s {α : Type} (g : Nat → α) (k : Nat) (x : α) : up g k x k = x := by simp [up]
theorem up_n {α : Type} (g : Nat → α) {k j : Nat} (x : α) (h : j ≠ k) : up g k x j = g j := by
  cases hb : Nat.beq j k with
  | false => simp [up, hb]
  | true => exact absurd (Nat.eq_of_beq_eq_true hb) h
def rd {β : Type} (n : Nat) (f : Nat → Int32) (i : Int32) (K : Int32 → Option β) : Option β := if i < 0 ∨ n ≤ i.toNatClampNeg then none else K (f i.toNatClampNeg)
theorem rd_some {β : Type} {n : Nat} {f : Nat → Int32} {i : Int32} {K : Int32 → Option β} {z : β} (h : rd n f i K = some z) : vp_in i n ∧ K (f i.toNatClampNeg) = some z := by
  by_cases hc : i < 0 ∨ n ≤ i.toNatClampNeg
  · rw [rd, if_pos hc] at h; cases h
  · rw [rd, if_neg hc] at h; exact ⟨hc, h⟩
def ck {β : Type} (n : Nat) (i : Int32) (K : Option β) : Option β := if i < 0 ∨ n ≤ i.toNatClampNeg then none else K
theorem ck_some {β : Type} {n : Nat} {i : Int32} {K : Option β} {z : β} (h : ck n i K = some z) : vp_in i n ∧ K = some z := by
  by_cases hc : i < 0 ∨ n ≤ i.toNatClampNeg
  · rw [ck, if_pos hc] at h; cases h
  · rw [ck, if_neg hc] at h; exact ⟨hc, h⟩
def bn {α β : Type} (x : α) (K : α → β) : β := K x
def dv {β : Type} (y : Int32) (K : Option β) : Option β := if y = 0 then none else K
theorem dv_some {β : Type} {y : Int32} {K : Option β} {z : β} (h : dv y K = some z) : ¬ y = 0 ∧ K = some z := by
  by_cases hc : y = 0
  · rw [dv, if_pos hc] at h; cases h
  · rw [dv, if_neg hc] at h; exact ⟨hc, h⟩
def dvl {β : Type} (y : Int64) (K : Option β) : Option β := if y = 0 then none else K
theorem dvl_some {β : Type} {y : Int64} {K : Option β} {z : β} (h : dvl y K = some z) : ¬ y = 0 ∧ K = some z := by
  by_cases hc : y = 0
  · rw [dvl, if_pos hc] at h; cases h
  · rw [dvl, if_neg hc] at h; exact ⟨hc, h⟩
def bz {β : Type} (x : Int32) (K : Option β) : Option β := if x = 0 ∨ x = 1 then K else none
theorem bz_some {β : Type} {x : Int32} {K : Option β} {z : β} (h : bz x K = some z) : narrow .boolean (.int x) = .int x ∧ K = some z := by
  by_cases hc : x = 0 ∨ x = 1
  · rw [bz, if_pos hc] at h
    exact ⟨by rcases hc with rfl | rfl <;> decide, h⟩
  · rw [bz, if_neg hc] at h; cases h
def cl {α β : Type} (x : Option α) (K : α → Option β) : Option β := match x with
  | none => none
  | some y => K y
theorem cl_some {α β : Type} {x : Option α} {K : α → Option β} {z : β} (h : cl x K = some z) : ∃ y, x = some y ∧ K y = some z := by
  cases x with
  | none => cases h
  | some y => exact ⟨y, rfl, h⟩
def lp {σ β : Type} (F : (σ → Option β) → σ → Option β) : Nat → σ → Option β
  | 0, _ => none
  | n + 1, x => F (lp F n) x
theorem lp_ok {σ β : Type} {F : (σ → Option β) → σ → Option β} {z : β} (G : σ → Prop) (hs : ∀ k : σ → Option β, (∀ x, k x = some z → G x) → ∀ x, F k x = some z → G x) : ∀ (n : Nat) (x : σ), lp F n x = some z → G x
  | 0, _, h => by cases h
  | n + 1, x, h => hs (lp F n) (lp_ok G hs n) x h
theorem some_e {α : Type} {x y : α} (h : some x = some y) : y = x := by cases h; rfl
theorem sw_out {x : Int32} {lo hi : Int} (h : ∀ k : Int, lo ≤ k → k ≤ hi → x.toInt ≠ k) : x.toInt < lo ∨ hi < x.toInt := by
  by_cases h1 : x.toInt < lo
  · exact Or.inl h1
  · by_cases h2 : hi < x.toInt
    · exact Or.inr h2
    · exact absurd rfl (h x.toInt (by omega) (by omega))
theorem sw_ne {x k : Int32} (h : ¬ x = k) : x.toInt ≠ k.toInt := fun e => h (Int32.toInt_inj.mp e)
def wV (cA : ClassId) (ad : Nat → Nat) (v : VS) : va_W :=
  [(ad 0, .inr (0, [.int (v 0 0), .ref (ad 1), .ref (ad 2), .ref (ad 3), .int (v 4 0), .int (v 5 0), .ref (ad 4), .ref (ad 5), .ref (ad 6), .int (v 9 0), .int (v 10 0), .int (v 11 0)])),
   (ad 1, .inl (cA, 9, .inl (v 1))), (ad 2, .inl (cA, 9, .inl (v 2))), (ad 3, .inl (cA, 9, .inl (v 3))), (ad 4, .inl (cA, 5, .inl (v 6))), (ad 5, .inl (cA, 5, .inl (v 7))), (ad 6, .inl (cA, 30, .inl (v 8)))]
def wR (cA : ClassId) (ad : Nat → Nat) (X : Nat → VS) : va_W :=
  [(ad 0, .inr (1, [.ref (ad 1), .ref (ad 8), .ref (ad 15), .int (X 3 3 0), .ref (ad 22), .int (X 3 5 0), .ref (ad 23), .int (X 3 7 0), .ref (ad 24), .ref (ad 25), .ref (ad 26), .ref (ad 27)])),
   (ad 1, .inr (0, [.int (X 0 0 0), .ref (ad 2), .ref (ad 3), .ref (ad 4), .int (X 0 4 0), .int (X 0 5 0), .ref (ad 5), .ref (ad 6), .ref (ad 7), .int (X 0 9 0), .int (X 0 10 0), .int (X 0 11 0)])),
   (ad 2, .inl (cA, 9, .inl (X 0 1))), (ad 3, .inl (cA, 9, .inl (X 0 2))), (ad 4, .inl (cA, 9, .inl (X 0 3))), (ad 5, .inl (cA, 5, .inl (X 0 6))), (ad 6, .inl (cA, 5, .inl (X 0 7))), (ad 7, .inl (cA, 30, .inl (X 0 8))),
   (ad 8, .inr (0, [.int (X 1 0 0), .ref (ad 9), .ref (ad 10), .ref (ad 11), .int (X 1 4 0), .int (X 1 5 0), .ref (ad 12), .ref (ad 13), .ref (ad 14), .int (X 1 9 0), .int (X 1 10 0), .int (X 1 11 0)])),
   (ad 9, .inl (cA, 9, .inl (X 1 1))), (ad 10, .inl (cA, 9, .inl (X 1 2))), (ad 11, .inl (cA, 9, .inl (X 1 3))), (ad 12, .inl (cA, 5, .inl (X 1 6))), (ad 13, .inl (cA, 5, .inl (X 1 7))), (ad 14, .inl (cA, 30, .inl (X 1 8))),
   (ad 15, .inr (0, [.int (X 2 0 0), .ref (ad 16), .ref (ad 17), .ref (ad 18), .int (X 2 4 0), .int (X 2 5 0), .ref (ad 19), .ref (ad 20), .ref (ad 21), .int (X 2 9 0), .int (X 2 10 0), .int (X 2 11 0)])),
   (ad 16, .inl (cA, 9, .inl (X 2 1))), (ad 17, .inl (cA, 9, .inl (X 2 2))), (ad 18, .inl (cA, 9, .inl (X 2 3))), (ad 19, .inl (cA, 5, .inl (X 2 6))), (ad 20, .inl (cA, 5, .inl (X 2 7))), (ad 21, .inl (cA, 30, .inl (X 2 8))),
   (ad 22, .inl (cA, 96, .inl (X 3 4))), (ad 23, .inl (cA, 16, .inl (X 3 6))), (ad 24, .inl (cA, 7, .inl (X 3 8))), (ad 25, .inl (cA, 9, .inl (X 3 9))), (ad 26, .inl (cA, 4, .inl (X 3 10))), (ad 27, .inl (cA, 4, .inl (X 3 11)))]
def wM (cA : ClassId) (ad : Nat → Nat) (Y : VS) : va_W :=
  [(ad 0, .inr (2, [.ref (ad 1), .ref (ad 2), .ref (ad 3), .ref (ad 4), .int (Y 4 0), .ref (ad 5), .ref (ad 6), .ref (ad 7), .int (Y 8 0), .int (Y 9 0), .int (Y 10 0), .ref (ad 8), .int (Y 12 0)])),
   (ad 1, .inl (cA, 81, .inl (Y 0))), (ad 2, .inl (cA, 81, .inl (Y 1))), (ad 3, .inl (cA, 81, .inl (Y 2))), (ad 4, .inl (cA, 81, .inl (Y 3))), (ad 5, .inl (cA, 96, .inl (Y 5))), (ad 6, .inl (cA, 16, .inl (Y 6))), (ad 7, .inl (cA, 7, .inl (Y 7))), (ad 8, .inl (cA, 3, .inl (Y 11)))]
def cofs : Nat → Int32 := fun k => ([5, 1, 10, 11, 3, 21] : List Int32).getD k 0
def kby : List Int32 := [114, 115, 103, 100, 113, 108]
/-- what is static: the row of costs, the text of the kinds' letters -/
def sF (g : Nat → Nat) (A : Nat → Prop) (U : State) : Prop :=
  va_Z RX1 "COSTS" "[I" (.ref (g 0)) A U U.heap ∧ (va_X (g 0) 6 cofs U U.heap ∧ g 0 < U.heap.size ∧ ¬ A (g 0)) ∧ va_Z RJ0 "COMPACT_STRINGS" "Z" (.int 1) A U U.heap ∧ vk_R RX1 259 "rsgdql" (g 1) U ∧ vk_S 1 [6] [kby] (fun _ => g 1) (fun _ => g 2) A U U.heap ∧ va_Nw (Cond.fieldLinkNest RX0 55 "RocketsAsk" "COSTS" "[I" "RocketsAsk") U
theorem sF.moved {g : Nat → Nat} {A : Nat → Prop} {u U : State} (hvm : U.vm = u.vm) (hh : U.heap = u.heap) (h : sF g A u) : sF g A U := by
  obtain ⟨h1, ⟨h2, h3, h4⟩, h5, h6, h7, h8⟩ := h
  have ha : u.vm.Alike U.vm := by rw [hvm]; exact Vm.Alike.refl u.vm
  unfold sF
  rw [hh]
  exact ⟨h1.moved ha, ⟨h2.moved ha, h3, h4⟩, h5.moved ha, vk_R.same hvm h6, h7.moved ha, va_Nw.same rfl hvm.symm h8⟩
theorem sF.go {g : Nat → Nat} {A B : Nat → Prop} {s U : State} {H : Heap} {locs : List Loc} (h : sF g A s) (hS : va_S A s.heap H locs) (hB : ∀ q, B q → A q) (hU : U.heap = H) (hW : s.WarmedH U.vm) : sF g B U := by
  obtain ⟨h1, ⟨h2, h3, h4⟩, h5, h6, h7, h8⟩ := h
  unfold sF
  rw [hU]
  exact ⟨((h1.kept hS.2.1).moved hW.alike).narrow hB, ⟨(h2.kept (hS.2.1 _ h3 h4)).moved hW.alike, Nat.lt_of_lt_of_le h3 hS.1, fun h => h4 (hB _ h)⟩, ((h5.kept hS.2.1).moved hW.alike).narrow hB, vk_R.warm hW h6, ((h7.kept hS.2.1).moved hW.alike).narrow hB, va_Nw.warmF hW h8⟩
def pcW (D : va_G) (cA : ClassId) (g : Nat → Nat) (wc : va_W) (sz : Nat) (U : State) : Prop := U.heap.size = sz ∧ va_P D vwCl wc U.heap ∧ va_K D vwCl [(cA, .int)] U ∧ va_D (fun _ => True) wc ∧ sF g (va_A wc sz) U
def atW (D : va_G) (cA : ClassId) (A : Nat → Prop) (w1 : va_W) (_ : Unit) (t : State) : Prop := va_P D vwCl w1 t.heap ∧ va_K D vwCl [(cA, .int)] t ∧ va_D A w1
def QI (D : va_G) (cA : ClassId) (A : Nat → Prop) (r : Int32) (w1 : va_W) : Array Value → State → Outcome → State → Prop := va_Qi (fun r' (_ : Unit) => r' = r) (atW D cA A w1) A
def QL (D : va_G) (cA : ClassId) (A : Nat → Prop) (r : Int64) (w1 : va_W) : Array Value → State → Outcome → State → Prop := va_Ql (fun r' (_ : Unit) => r' = r) (atW D cA A w1) A
def QV (D : va_G) (cA : ClassId) (A : Nat → Prop) (w1 : va_W) : Array Value → State → Outcome → State → Prop := va_Qv (fun (_ : Unit) => True) (atW D cA A w1) A
def MI (l : Launch) (D : va_G) (cA : ClassId) (g : Nat → Nat) (y : MethodName) (wsy : List Cond) (rm : Room) (vs : List Value) (wc : va_W) (r : Int32) (w1 : va_W) : Prop := ∀ sz, Met l y wsy rm (va_Pc vs (pcW D cA g wc sz)) (QI D cA (va_A wc sz) r w1) 0 0 (va_A wc sz)
def ML (l : Launch) (D : va_G) (cA : ClassId) (g : Nat → Nat) (y : MethodName) (wsy : List Cond) (rm : Room) (vs : List Value) (wc : va_W) (r : Int64) (w1 : va_W) : Prop := ∀ sz, Met l y wsy rm (va_Pc vs (pcW D cA g wc sz)) (QL D cA (va_A wc sz) r w1) 0 0 (va_A wc sz)
def MV (l : Launch) (D : va_G) (cA : ClassId) (g : Nat → Nat) (y : MethodName) (wsy : List Cond) (rm : Room) (vs : List Value) (wc : va_W) (w1 : va_W) : Prop := ∀ sz, Met l y wsy rm (va_Pc vs (pcW D cA g wc sz)) (QV D cA (va_A wc sz) w1) 0 0 (va_A wc sz)
def Cx (p : Program) (s : State) (m : MethodId) (args : Array Value) (meth : Method) (c : Code) (cc : ByteArray) (nL : Nat) (own : String) (D : va_G) (cA : ClassId) (g : Nat → Nat) (A : Nat → Prop) : Prop :=
  CallFix p m c cc nL s args lw_g own ∧ meth.locks = false ∧ va_K D vwCl [(cA, .int)] s ∧ (∀ q, s.heap.size ≤ q → A q) ∧ sF g A s
def Wd (D : va_G) (A : Nat → Prop) (H0 : Heap) (ws : va_W) (H : Heap) (locs : List Loc) : Prop := va_P D vwCl ws H ∧ va_D A ws ∧ va_S A H0 H locs
theorem fm_of {α : Type} {f : Nat → Option α} : ∀ {is : List Nat} {w : List α}, is.map f = w.map some → is.filterMap f = w
  | [], [], _ => rfl
  | [], _ :: _, h => by cases h
  | _ :: _, [], h => by cases h
  | i :: is, a :: w, h => by
    have h1 : f i = some a := (List.cons.inj h).1
    have h2 : is.map f = w.map some := (List.cons.inj h).2
    rw [List.filterMap_cons, h1]
    exact congrArg _ (fm_of h2)
theorem pcW_blind {D : va_G} {cA : ClassId} {g : Nat → Nat} {wc : va_W} {sz : Nat} {vs : List Value} : FrameBlind (va_Pc vs (pcW D cA g wc sz)) := by
  intro a U gg mk q
  obtain ⟨q0, q1, qP, qK, qD, qF⟩ := q
  exact ⟨q0, q1, qP, va_K.moved (u := U) (U := U.calling gg mk a) (Vm.Alike.refl U.vm) qK, qD, sF.moved (u := U) (U := U.calling gg mk a) rfl rfl qF⟩
theorem ent {p : Program} {l : Launch} {e : Env} {s : State} {m : MethodId} {args : Array Value} {below : List Frame} {meth : Method} {c : Code} {s₁ : State} {D : va_G} {cA : ClassId} {g : Nat → Nat} {wc : va_W} {sz : Nat} {vs : List Value} {y : MethodName} {cc : ByteArray} {maxL : Nat} {ret : Option FieldType} {rm : Room} (B : BodyLoose p l y (headSpec (Cond.code y cc maxL ret :: lw_g) rm) cc maxL ret e s m args below meth c s₁) (hml : c.maxLocals = maxL) (hv : va_Pc vs (pcW D cA g wc sz) args s) :
    args = vs.toArray ∧ Cx p s m args meth c cc maxL y.cls D cA g (va_A wc sz) ∧ meth.sig.returnType = ret ∧ Wd D (va_A wc sz) s.heap wc s.heap [] := by
  obtain ⟨h0, hsz, hP, hK, hD, hF⟩ := hv
  have hts := atoms_spec (ws := Cond.code y cc maxL ret :: lw_g) B.pre
  subst hsz
  exact ⟨h0, ⟨⟨B.exec, B.bytes, hml, findClass_of_methodNamed B.named, fun w hw => hts w (List.mem_cons_of_mem _ hw)⟩, B.notSynchronized, hK, fun q h => Or.inr h, hF⟩, B.returns, hP, hD.self, va_S.rf⟩
theorem gV {own C : String} {idx n : Nat} {y : MethodName} {b : ByteArray} {r : Option FieldType} (k1 : Cond.methodLink own idx y ∈ lw_g) (k2 : Cond.instanceMethod y ∈ lw_g) (k3 : Cond.selects C y y ∈ lw_g) (k4 : Cond.initialized C ∈ lw_g) (k5 : Cond.code y b n r ∈ lw_g) : GoodIn lw_g (wsV own idx C y (Cond.code y b n r :: lw_g)) := by
  intro w hw
  rcases List.mem_append.mp hw with h | h
  · simp only [List.mem_cons, List.not_mem_nil, or_false] at h
    rcases h with rfl | rfl | rfl | rfl
    · exact gl_tbl _ k1
    · exact gl_tbl _ k2
    · exact gl_tbl _ k3
    · exact gl_tbl _ k4
  · rcases List.mem_cons.mp h with rfl | h
    · exact gl_tbl _ k5
    · exact gl_tbl _ h
theorem gS {own : String} {idx n : Nat} {y : MethodName} {b : ByteArray} {r : Option FieldType} (k1 : Cond.methodLink own idx y ∈ lw_g) (k2 : Cond.static y ∈ lw_g) (k4 : Cond.initialized y.cls ∈ lw_g) (k5 : Cond.code y b n r ∈ lw_g) : GoodIn lw_g (va_wsS own idx y (Cond.code y b n r :: lw_g)) := by
  intro w hw
  rcases List.mem_append.mp hw with h | h
  · simp only [List.mem_cons, List.not_mem_nil, or_false] at h
    rcases h with rfl | rfl | rfl
    · exact gl_tbl _ k1
    · exact gl_tbl _ k2
    · exact gl_tbl _ k4
  · rcases List.mem_cons.mp h with rfl | h
    · exact gl_tbl _ k5
    · exact gl_tbl _ h
/-- how a callee's cells lie in the caller's: wc before and w1 behind the call, ws and ws2 the caller's -/
def Jn (wc w1 ws ws2 : va_W) : Prop := ∀ (D : va_G) (A : Nat → Prop) (H H1 : Heap), va_P D vwCl ws H → va_D A ws → (va_P D vwCl wc H ∧ va_D A wc) ∧ ((∀ q, va_A wc H.size q → A q) → (∀ q : Nat, q < H.size → ¬ va_A wc H.size q → H1[q]? = H[q]?) → va_P D vwCl w1 H1 → va_D (va_A wc H.size) w1 → va_P D vwCl ws2 H1 ∧ va_D A ws2)
theorem jnW {ws ws2 : va_W} : Jn ws ws2 ws ws2 := fun D A H H1 hP hD => ⟨⟨hP, hD⟩, fun hF hk hP1 hD1 => ⟨hP1, hD1.weaken (fun _ q _ h => hF q.1 h)⟩⟩
theorem jnE {ws : va_W} : Jn [] [] ws ws := fun D A H H1 hP hD => ⟨⟨fun k q h => by simp at h, ⟨fun i j p q h => by simp at h, fun k q h => by simp at h⟩⟩, fun hF hk hP1 hD1 => ⟨hP.kept (fun k q hq => hk q.1 (hP k q hq).lt (fun h => by
  rcases h with ⟨k, e, h⟩ | h
  · simp at h
  · exact absurd (hP _ q hq).lt (Nat.not_lt.mpr h))), hD⟩⟩
theorem jnC {ws wc w1 ws2 : va_W} (isC isR pm : List Nat) (hC : isC.map (fun i => ws[i]?) = wc.map some) (hR : isR.map (fun i => ws[i]?) = (isR.filterMap (fun i => ws[i]?)).map some) (hnC : va_nd isC = true) (hnR : va_nd isR = true) (hdis : ∀ i ∈ isR, i ∉ isC) (hpm : pm.map (fun i => ((isR.filterMap (fun i => ws[i]?)) ++ w1)[i]?) = ws2.map some) (hnp : va_nd pm = true) : Jn wc w1 ws ws2 := by
  intro D A H H1 hP hD
  refine ⟨⟨hP.sub isC (fm_of hC), hD.sub isC hnC hC⟩, fun hF hk hP1 hD1 => ?_⟩
  obtain ⟨hP2, hD2⟩ := va_join (wr := isR.filterMap (fun i => ws[i]?)) (w1 := w1) hP hD isC isR hC hR hnR hdis hk hF hP1 hD1
  exact ⟨hP2.sub pm (fm_of hpm), hD2.sub pm hnp hpm⟩
set_option maxHeartbeats 1000000 in
theorem cVi {p : Program} {l : Launch} {e : Env} {R : Room} {s : State} {m : MethodId} {args : Array Value} {below : List Frame} {meth : Method} {c : Code} {D : va_G} {cA : ClassId} {g : Nat → Nat} {A : Nat → Prop} {cc : ByteArray} {nL : Nat} {own : String} {H : Heap} {locs : List Loc} {cells slots : Nat} {Q : State → Prop} {pc index maxL n : Nat} {ls : Array Slot} {y : MethodName} {yb : ByteArray} {ret : Option FieldType} {rm : Room} {As rest : List Value} {ws wc w1 ws2 : va_W} {r : Int32} 
    {b ci q0 : Nat} {C : String} {q : vw_C} {fs : List Value} (C0 : Cx p s m args meth c cc nL own D cA g A) (hw : Wd D A s.heap ws H locs) (J : Jn wc w1 ws ws2) (hM : MI l D cA g y (Cond.code y yb maxL ret :: lw_g) rm (.ref b :: As) wc r w1)
    (k1 : Cond.methodLink own index y ∈ lw_g) (k2 : Cond.instanceMethod y ∈ lw_g) (k3 : Cond.selects C y y ∈ lw_g) (k4 : Cond.initialized C ∈ lw_g) (k5 : Cond.code y yb maxL ret ∈ lw_g) (hz : rm.cells = 0 ∧ rm.slots = 0) (hd : y.cls = C ∧ y.cls ≠ "java/lang/invoke/MethodHandle" ∧ y.cls ≠ "java/lang/invoke/VarHandle" ∧ (parseMethodDescriptor y.desc).map (fun d => d.parameters.length) = some n) (hRm : rm.frames + 1 ≤ R.frames ∧ 8 + (maxL + 11) + rm.locals ≤ R.locals) (hc : vwCl[ci]? = some q) (hq : q.1 = C) (he : wc[q0]? = some (b, .inr (ci, fs))) (hn : As.length = n) (hsz : ls.size = nL) (hrm : (rest.map fun v => v.category).sum ≤ 8) (hdg : decode cc pc = .ok (.invokevirtual index, 3)) (hcs : cells ≤ R.cells ∧ slots ≤ R.slots)
    (kk : ∀ (H1 : Heap) (locs1 : List Loc), Wd D A s.heap ws2 H1 locs1 → W p l e R s m args below meth c H1 locs1 cells slots Q (F0 m (pc + 3) ls (.int r :: rest))) : W p l e R s m args below meth c H locs cells slots Q (F0 m pc ls (As.reverse ++ .ref b :: rest)) := by
  obtain ⟨hfix, hlocks, hK, hA, hF⟩ := C0
  obtain ⟨hP, hD, hS⟩ := hw
  have hts := hfix.2.2.2.2
  obtain ⟨hPc, hDc⟩ := (J D A H H hP hD).1
  have hFc : ∀ q, va_A wc H.size q → A q := fun q h => by
    rcases h with ⟨k, e, h⟩ | h
    · exact hDc.2 k (q, e) h
    · exact hA q (Nat.le_trans hS.1 h)
  have hrec : ∃ cell : Cell, H[b]? = some cell ∧ cell.vm.isStatics = false ∧ s.vm.findClass C = some cell.cls := by
    rw [← hq]
    exact va_recv hK hPc hc he
  refine va_calli (va_runV (n := n) (As := As) (rest := rest) (g := F0 m pc ls (As.reverse ++ .ref b :: rest)) hfix (hM H.size) (cwV n hts (gV k1 k2 k3 k4 k5) rfl hz.1 hz.2 hd hRm) ⟨pcW_blind, hrec, fun U hU hW => ⟨rfl, by rw [hU], by rw [hU]; exact hPc, va_K.moved hW.alike hK, hDc.weaken (fun _ _ _ _ => trivial), hF.go hS hFc hU hW⟩⟩ rfl hn hsz rfl (lv_room hrm) hdg hcs) hS (fun q _ h => hFc q h) hFc (fun r' u t H1 locs1 ht hvm hp hB hz1 hk1 hS1 => ?_)
  obtain ⟨hP1, hK1, hD1⟩ := hB
  rw [ht] at hP1
  subst hp
  obtain ⟨hP2, hD2⟩ := (J D A H H1 hP hD).2 hFc hk1 hP1 hD1
  exact kk H1 locs1 ⟨hP2, hD2, hS1⟩
set_option maxHeartbeats 1000000 in
theorem cSi {p : Program} {l : Launch} {e : Env} {R : Room} {s : State} {m : MethodId} {args : Array Value} {below : List Frame} {meth : Method} {c : Code} {D : va_G} {cA : ClassId} {g : Nat → Nat} {A : Nat → Prop} {cc : ByteArray} {nL : Nat} {own : String} {H : Heap} {locs : List Loc} {cells slots : Nat} {Q : State → Prop} {pc index maxL n : Nat} {ls : Array Slot} {y : MethodName} {yb : ByteArray} {ret : Option FieldType} {rm : Room} {As rest : List Value} {ws wc w1 ws2 : va_W} {r : Int32} 
    (C0 : Cx p s m args meth c cc nL own D cA g A) (hw : Wd D A s.heap ws H locs) (J : Jn wc w1 ws ws2) (hM : MI l D cA g y (Cond.code y yb maxL ret :: lw_g) rm As wc r w1)
    (k1 : Cond.methodLink own index y ∈ lw_g) (k2 : Cond.static y ∈ lw_g) (k4 : Cond.initialized y.cls ∈ lw_g) (k5 : Cond.code y yb maxL ret ∈ lw_g) (hz : rm.cells = 0 ∧ rm.slots = 0) (hd : y.cls ≠ "java/lang/invoke/MethodHandle" ∧ y.cls ≠ "java/lang/invoke/VarHandle" ∧ (parseMethodDescriptor y.desc).map (fun d => d.parameters.length) = some n) (hRm : rm.frames + 1 ≤ R.frames ∧ 8 + (maxL + 11) + rm.locals ≤ R.locals) (hn : As.length = n) (hsz : ls.size = nL) (hrm : (rest.map fun v => v.category).sum ≤ 8) (hdg : decode cc pc = .ok (.invokestatic index, 3)) (hcs : cells ≤ R.cells ∧ slots ≤ R.slots)
    (kk : ∀ (H1 : Heap) (locs1 : List Loc), Wd D A s.heap ws2 H1 locs1 → W p l e R s m args below meth c H1 locs1 cells slots Q (F0 m (pc + 3) ls (.int r :: rest))) : W p l e R s m args below meth c H locs cells slots Q (F0 m pc ls (As.reverse ++ rest)) := by
  obtain ⟨hfix, hlocks, hK, hA, hF⟩ := C0
  obtain ⟨hP, hD, hS⟩ := hw
  have hts := hfix.2.2.2.2
  obtain ⟨hPc, hDc⟩ := (J D A H H hP hD).1
  have hFc : ∀ q, va_A wc H.size q → A q := fun q h => by
    rcases h with ⟨k, e, h⟩ | h
    · exact hDc.2 k (q, e) h
    · exact hA q (Nat.le_trans hS.1 h)
  refine va_calli (va_runS (n := n) (As := As) (rest := rest) (g := F0 m pc ls (As.reverse ++ rest)) hfix (hM H.size) (va_cwS n hts (gS k1 k2 k4 k5) rfl hz.1 hz.2 hd hRm) ⟨pcW_blind, fun U hU hW => ⟨rfl, by rw [hU], by rw [hU]; exact hPc, va_K.moved hW.alike hK, hDc.weaken (fun _ _ _ _ => trivial), hF.go hS hFc hU hW⟩⟩ rfl hn hsz rfl (lv_room hrm) hdg hcs) hS (fun q _ h => hFc q h) hFc (fun r' u t H1 locs1 ht hvm hp hB hz1 hk1 hS1 => ?_)
  obtain ⟨hP1, hK1, hD1⟩ := hB
  rw [ht] at hP1
  subst hp
  obtain ⟨hP2, hD2⟩ := (J D A H H1 hP hD).2 hFc hk1 hP1 hD1
  exact kk H1 locs1 ⟨hP2, hD2, hS1⟩
set_option maxHeartbeats 1000000 in
theorem cVl {p : Program} {l : Launch} {e : Env} {R : Room} {s : State} {m : MethodId} {args : Array Value} {below : List Frame} {meth : Method} {c : Code} {D : va_G} {cA : ClassId} {g : Nat → Nat} {A : Nat → Prop} {cc : ByteArray} {nL : Nat} {own : String} {H : Heap} {locs : List Loc} {cells slots : Nat} {Q : State → Prop} {pc index maxL n : Nat} {ls : Array Slot} {y : MethodName} {yb : ByteArray} {ret : Option FieldType} {rm : Room} {As rest : List Value} {ws wc w1 ws2 : va_W} {r : Int64} 
    {b ci q0 : Nat} {C : String} {q : vw_C} {fs : List Value} (C0 : Cx p s m args meth c cc nL own D cA g A) (hw : Wd D A s.heap ws H locs) (J : Jn wc w1 ws ws2) (hM : ML l D cA g y (Cond.code y yb maxL ret :: lw_g) rm (.ref b :: As) wc r w1)
    (k1 : Cond.methodLink own index y ∈ lw_g) (k2 : Cond.instanceMethod y ∈ lw_g) (k3 : Cond.selects C y y ∈ lw_g) (k4 : Cond.initialized C ∈ lw_g) (k5 : Cond.code y yb maxL ret ∈ lw_g) (hz : rm.cells = 0 ∧ rm.slots = 0) (hd : y.cls = C ∧ y.cls ≠ "java/lang/invoke/MethodHandle" ∧ y.cls ≠ "java/lang/invoke/VarHandle" ∧ (parseMethodDescriptor y.desc).map (fun d => d.parameters.length) = some n) (hRm : rm.frames + 1 ≤ R.frames ∧ 8 + (maxL + 11) + rm.locals ≤ R.locals) (hc : vwCl[ci]? = some q) (hq : q.1 = C) (he : wc[q0]? = some (b, .inr (ci, fs))) (hn : As.length = n) (hsz : ls.size = nL) (hrm : (rest.map fun v => v.category).sum ≤ 8) (hdg : decode cc pc = .ok (.invokevirtual index, 3)) (hcs : cells ≤ R.cells ∧ slots ≤ R.slots)
    (kk : ∀ (H1 : Heap) (locs1 : List Loc), Wd D A s.heap ws2 H1 locs1 → W p l e R s m args below meth c H1 locs1 cells slots Q (F0 m (pc + 3) ls (.long r :: rest))) : W p l e R s m args below meth c H locs cells slots Q (F0 m pc ls (As.reverse ++ .ref b :: rest)) := by
  obtain ⟨hfix, hlocks, hK, hA, hF⟩ := C0
  obtain ⟨hP, hD, hS⟩ := hw
  have hts := hfix.2.2.2.2
  obtain ⟨hPc, hDc⟩ := (J D A H H hP hD).1
  have hFc : ∀ q, va_A wc H.size q → A q := fun q h => by
    rcases h with ⟨k, e, h⟩ | h
    · exact hDc.2 k (q, e) h
    · exact hA q (Nat.le_trans hS.1 h)
  have hrec : ∃ cell : Cell, H[b]? = some cell ∧ cell.vm.isStatics = false ∧ s.vm.findClass C = some cell.cls := by
    rw [← hq]
    exact va_recv hK hPc hc he
  refine va_calll (va_runV (n := n) (As := As) (rest := rest) (g := F0 m pc ls (As.reverse ++ .ref b :: rest)) hfix (hM H.size) (cwV n hts (gV k1 k2 k3 k4 k5) rfl hz.1 hz.2 hd hRm) ⟨pcW_blind, hrec, fun U hU hW => ⟨rfl, by rw [hU], by rw [hU]; exact hPc, va_K.moved hW.alike hK, hDc.weaken (fun _ _ _ _ => trivial), hF.go hS hFc hU hW⟩⟩ rfl hn hsz rfl (lv_room hrm) hdg hcs) hS (fun q _ h => hFc q h) hFc (fun r' u t H1 locs1 ht hvm hp hB hz1 hk1 hS1 => ?_)
  obtain ⟨hP1, hK1, hD1⟩ := hB
  rw [ht] at hP1
  subst hp
  obtain ⟨hP2, hD2⟩ := (J D A H H1 hP hD).2 hFc hk1 hP1 hD1
  exact kk H1 locs1 ⟨hP2, hD2, hS1⟩
set_option maxHeartbeats 1000000 in
theorem cSl {p : Program} {l : Launch} {e : Env} {R : Room} {s : State} {m : MethodId} {args : Array Value} {below : List Frame} {meth : Method} {c : Code} {D : va_G} {cA : ClassId} {g : Nat → Nat} {A : Nat → Prop} {cc : ByteArray} {nL : Nat} {own : String} {H : Heap} {locs : List Loc} {cells slots : Nat} {Q : State → Prop} {pc index maxL n : Nat} {ls : Array Slot} {y : MethodName} {yb : ByteArray} {ret : Option FieldType} {rm : Room} {As rest : List Value} {ws wc w1 ws2 : va_W} {r : Int64} 
    (C0 : Cx p s m args meth c cc nL own D cA g A) (hw : Wd D A s.heap ws H locs) (J : Jn wc w1 ws ws2) (hM : ML l D cA g y (Cond.code y yb maxL ret :: lw_g) rm As wc r w1)
    (k1 : Cond.methodLink own index y ∈ lw_g) (k2 : Cond.static y ∈ lw_g) (k4 : Cond.initialized y.cls ∈ lw_g) (k5 : Cond.code y yb maxL ret ∈ lw_g) (hz : rm.cells = 0 ∧ rm.slots = 0) (hd : y.cls ≠ "java/lang/invoke/MethodHandle" ∧ y.cls ≠ "java/lang/invoke/VarHandle" ∧ (parseMethodDescriptor y.desc).map (fun d => d.parameters.length) = some n) (hRm : rm.frames + 1 ≤ R.frames ∧ 8 + (maxL + 11) + rm.locals ≤ R.locals) (hn : As.length = n) (hsz : ls.size = nL) (hrm : (rest.map fun v => v.category).sum ≤ 8) (hdg : decode cc pc = .ok (.invokestatic index, 3)) (hcs : cells ≤ R.cells ∧ slots ≤ R.slots)
    (kk : ∀ (H1 : Heap) (locs1 : List Loc), Wd D A s.heap ws2 H1 locs1 → W p l e R s m args below meth c H1 locs1 cells slots Q (F0 m (pc + 3) ls (.long r :: rest))) : W p l e R s m args below meth c H locs cells slots Q (F0 m pc ls (As.reverse ++ rest)) := by
  obtain ⟨hfix, hlocks, hK, hA, hF⟩ := C0
  obtain ⟨hP, hD, hS⟩ := hw
  have hts := hfix.2.2.2.2
  obtain ⟨hPc, hDc⟩ := (J D A H H hP hD).1
  have hFc : ∀ q, va_A wc H.size q → A q := fun q h => by
    rcases h with ⟨k, e, h⟩ | h
    · exact hDc.2 k (q, e) h
    · exact hA q (Nat.le_trans hS.1 h)
  refine va_calll (va_runS (n := n) (As := As) (rest := rest) (g := F0 m pc ls (As.reverse ++ rest)) hfix (hM H.size) (va_cwS n hts (gS k1 k2 k4 k5) rfl hz.1 hz.2 hd hRm) ⟨pcW_blind, fun U hU hW => ⟨rfl, by rw [hU], by rw [hU]; exact hPc, va_K.moved hW.alike hK, hDc.weaken (fun _ _ _ _ => trivial), hF.go hS hFc hU hW⟩⟩ rfl hn hsz rfl (lv_room hrm) hdg hcs) hS (fun q _ h => hFc q h) hFc (fun r' u t H1 locs1 ht hvm hp hB hz1 hk1 hS1 => ?_)
  obtain ⟨hP1, hK1, hD1⟩ := hB
  rw [ht] at hP1
  subst hp
  obtain ⟨hP2, hD2⟩ := (J D A H H1 hP hD).2 hFc hk1 hP1 hD1
  exact kk H1 locs1 ⟨hP2, hD2, hS1⟩
set_option maxHeartbeats 1000000 in
theorem cVv {p : Program} {l : Launch} {e : Env} {R : Room} {s : State} {m : MethodId} {args : Array Value} {below : List Frame} {meth : Method} {c : Code} {D : va_G} {cA : ClassId} {g : Nat → Nat} {A : Nat → Prop} {cc : ByteArray} {nL : Nat} {own : String} {H : Heap} {locs : List Loc} {cells slots : Nat} {Q : State → Prop} {pc index maxL n : Nat} {ls : Array Slot} {y : MethodName} {yb : ByteArray} {ret : Option FieldType} {rm : Room} {As rest : List Value} {ws wc w1 ws2 : va_W} 
    {b ci q0 : Nat} {C : String} {q : vw_C} {fs : List Value} (C0 : Cx p s m args meth c cc nL own D cA g A) (hw : Wd D A s.heap ws H locs) (J : Jn wc w1 ws ws2) (hM : MV l D cA g y (Cond.code y yb maxL ret :: lw_g) rm (.ref b :: As) wc w1)
    (k1 : Cond.methodLink own index y ∈ lw_g) (k2 : Cond.instanceMethod y ∈ lw_g) (k3 : Cond.selects C y y ∈ lw_g) (k4 : Cond.initialized C ∈ lw_g) (k5 : Cond.code y yb maxL ret ∈ lw_g) (hz : rm.cells = 0 ∧ rm.slots = 0) (hd : y.cls = C ∧ y.cls ≠ "java/lang/invoke/MethodHandle" ∧ y.cls ≠ "java/lang/invoke/VarHandle" ∧ (parseMethodDescriptor y.desc).map (fun d => d.parameters.length) = some n) (hRm : rm.frames + 1 ≤ R.frames ∧ 8 + (maxL + 11) + rm.locals ≤ R.locals) (hc : vwCl[ci]? = some q) (hq : q.1 = C) (he : wc[q0]? = some (b, .inr (ci, fs))) (hn : As.length = n) (hsz : ls.size = nL) (hrm : (rest.map fun v => v.category).sum ≤ 8) (hdg : decode cc pc = .ok (.invokevirtual index, 3)) (hcs : cells ≤ R.cells ∧ slots ≤ R.slots)
    (kk : ∀ (H1 : Heap) (locs1 : List Loc), Wd D A s.heap ws2 H1 locs1 → W p l e R s m args below meth c H1 locs1 cells slots Q (F0 m (pc + 3) ls rest)) : W p l e R s m args below meth c H locs cells slots Q (F0 m pc ls (As.reverse ++ .ref b :: rest)) := by
  obtain ⟨hfix, hlocks, hK, hA, hF⟩ := C0
  obtain ⟨hP, hD, hS⟩ := hw
  have hts := hfix.2.2.2.2
  obtain ⟨hPc, hDc⟩ := (J D A H H hP hD).1
  have hFc : ∀ q, va_A wc H.size q → A q := fun q h => by
    rcases h with ⟨k, e, h⟩ | h
    · exact hDc.2 k (q, e) h
    · exact hA q (Nat.le_trans hS.1 h)
  have hrec : ∃ cell : Cell, H[b]? = some cell ∧ cell.vm.isStatics = false ∧ s.vm.findClass C = some cell.cls := by
    rw [← hq]
    exact va_recv hK hPc hc he
  refine va_callv (va_runV (n := n) (As := As) (rest := rest) (g := F0 m pc ls (As.reverse ++ .ref b :: rest)) hfix (hM H.size) (cwV n hts (gV k1 k2 k3 k4 k5) rfl hz.1 hz.2 hd hRm) ⟨pcW_blind, hrec, fun U hU hW => ⟨rfl, by rw [hU], by rw [hU]; exact hPc, va_K.moved hW.alike hK, hDc.weaken (fun _ _ _ _ => trivial), hF.go hS hFc hU hW⟩⟩ rfl hn hsz rfl (lv_room hrm) hdg hcs) hS (fun q _ h => hFc q h) hFc (fun u t H1 locs1 ht hvm hp hB hz1 hk1 hS1 => ?_)
  obtain ⟨hP1, hK1, hD1⟩ := hB
  rw [ht] at hP1
  obtain ⟨hP2, hD2⟩ := (J D A H H1 hP hD).2 hFc hk1 hP1 hD1
  exact kk H1 locs1 ⟨hP2, hD2, hS1⟩
set_option maxHeartbeats 1000000 in
theorem cSv {p : Program} {l : Launch} {e : Env} {R : Room} {s : State} {m : MethodId} {args : Array Value} {below : List Frame} {meth : Method} {c : Code} {D : va_G} {cA : ClassId} {g : Nat → Nat} {A : Nat → Prop} {cc : ByteArray} {nL : Nat} {own : String} {H : Heap} {locs : List Loc} {cells slots : Nat} {Q : State → Prop} {pc index maxL n : Nat} {ls : Array Slot} {y : MethodName} {yb : ByteArray} {ret : Option FieldType} {rm : Room} {As rest : List Value} {ws wc w1 ws2 : va_W} 
    (C0 : Cx p s m args meth c cc nL own D cA g A) (hw : Wd D A s.heap ws H locs) (J : Jn wc w1 ws ws2) (hM : MV l D cA g y (Cond.code y yb maxL ret :: lw_g) rm As wc w1)
    (k1 : Cond.methodLink own index y ∈ lw_g) (k2 : Cond.static y ∈ lw_g) (k4 : Cond.initialized y.cls ∈ lw_g) (k5 : Cond.code y yb maxL ret ∈ lw_g) (hz : rm.cells = 0 ∧ rm.slots = 0) (hd : y.cls ≠ "java/lang/invoke/MethodHandle" ∧ y.cls ≠ "java/lang/invoke/VarHandle" ∧ (parseMethodDescriptor y.desc).map (fun d => d.parameters.length) = some n) (hRm : rm.frames + 1 ≤ R.frames ∧ 8 + (maxL + 11) + rm.locals ≤ R.locals) (hn : As.length = n) (hsz : ls.size = nL) (hrm : (rest.map fun v => v.category).sum ≤ 8) (hdg : decode cc pc = .ok (.invokestatic index, 3)) (hcs : cells ≤ R.cells ∧ slots ≤ R.slots)
    (kk : ∀ (H1 : Heap) (locs1 : List Loc), Wd D A s.heap ws2 H1 locs1 → W p l e R s m args below meth c H1 locs1 cells slots Q (F0 m (pc + 3) ls rest)) : W p l e R s m args below meth c H locs cells slots Q (F0 m pc ls (As.reverse ++ rest)) := by
  obtain ⟨hfix, hlocks, hK, hA, hF⟩ := C0
  obtain ⟨hP, hD, hS⟩ := hw
  have hts := hfix.2.2.2.2
  obtain ⟨hPc, hDc⟩ := (J D A H H hP hD).1
  have hFc : ∀ q, va_A wc H.size q → A q := fun q h => by
    rcases h with ⟨k, e, h⟩ | h
    · exact hDc.2 k (q, e) h
    · exact hA q (Nat.le_trans hS.1 h)
  refine va_callv (va_runS (n := n) (As := As) (rest := rest) (g := F0 m pc ls (As.reverse ++ rest)) hfix (hM H.size) (va_cwS n hts (gS k1 k2 k4 k5) rfl hz.1 hz.2 hd hRm) ⟨pcW_blind, fun U hU hW => ⟨rfl, by rw [hU], by rw [hU]; exact hPc, va_K.moved hW.alike hK, hDc.weaken (fun _ _ _ _ => trivial), hF.go hS hFc hU hW⟩⟩ rfl hn hsz rfl (lv_room hrm) hdg hcs) hS (fun q _ h => hFc q h) hFc (fun u t H1 locs1 ht hvm hp hB hz1 hk1 hS1 => ?_)
  obtain ⟨hP1, hK1, hD1⟩ := hB
  rw [ht] at hP1
  obtain ⟨hP2, hD2⟩ := (J D A H H1 hP hD).2 hFc hk1 hP1 hD1
  exact kk H1 locs1 ⟨hP2, hD2, hS1⟩
theorem rtI {p : Program} {l : Launch} {e : Env} {R : Room} {s : State} {m : MethodId} {args : Array Value} {below : List Frame} {meth : Method} {c : Code} {D : va_G} {cA : ClassId} {g : Nat → Nat} {A : Nat → Prop} {cc : ByteArray} {nL : Nat} {own : String} {H : Heap} {locs : List Loc} {cells slots : Nat} {pc : Nat} {ls : Array Slot} {r : Int32} {w1 : va_W} (C0 : Cx p s m args meth c cc nL own D cA g A) (hr : meth.sig.returnType = some .int) (hw : Wd D A s.heap w1 H locs) (hdg : decode cc pc = .ok (.ireturn, 1)) : W p l e R s m args below meth c H locs cells slots (MQ below (QI D cA A r w1) args s cells slots A) (F0 m pc ls [.int r]) := by
  have hlocks : meth.locks = false := C0.2.1
  exact W.iret C0.1.1 C0.1.2.1 hr (fun t ht hW => ⟨⟨r, (), rfl, rfl, by rw [ht]; exact hw.1, va_K.moved hW.alike C0.2.2.1, hw.2.1⟩, hw.2.2.F ht⟩) hw.2.2.2.2 hdg
theorem rtZ {p : Program} {l : Launch} {e : Env} {R : Room} {s : State} {m : MethodId} {args : Array Value} {below : List Frame} {meth : Method} {c : Code} {D : va_G} {cA : ClassId} {g : Nat → Nat} {A : Nat → Prop} {cc : ByteArray} {nL : Nat} {own : String} {H : Heap} {locs : List Loc} {cells slots : Nat} {pc : Nat} {ls : Array Slot} {r : Int32} {ty : FieldType} {w1 : va_W} (C0 : Cx p s m args meth c cc nL own D cA g A) (hr : meth.sig.returnType = some ty) (hz : narrow ty (.int r) = .int r) (hw : Wd D A s.heap w1 H locs) (hdg : decode cc pc = .ok (.ireturn, 1)) : W p l e R s m args below meth c H locs cells slots (MQ below (QI D cA A r w1) args s cells slots A) (F0 m pc ls [.int r]) := by
  have hlocks : meth.locks = false := C0.2.1
  exact W.zret C0.1.1 C0.1.2.1 hr hz (fun t ht hW => ⟨⟨r, (), rfl, rfl, by rw [ht]; exact hw.1, va_K.moved hW.alike C0.2.2.1, hw.2.1⟩, hw.2.2.F ht⟩) hw.2.2.2.2 hdg
theorem rtL {p : Program} {l : Launch} {e : Env} {R : Room} {s : State} {m : MethodId} {args : Array Value} {below : List Frame} {meth : Method} {c : Code} {D : va_G} {cA : ClassId} {g : Nat → Nat} {A : Nat → Prop} {cc : ByteArray} {nL : Nat} {own : String} {H : Heap} {locs : List Loc} {cells slots : Nat} {pc : Nat} {ls : Array Slot} {r : Int64} {w1 : va_W} (C0 : Cx p s m args meth c cc nL own D cA g A) (hr : meth.sig.returnType = some .long) (hw : Wd D A s.heap w1 H locs) (hdg : decode cc pc = .ok (.lreturn, 1)) : W p l e R s m args below meth c H locs cells slots (MQ below (QL D cA A r w1) args s cells slots A) (F0 m pc ls [.long r]) := by
  have hlocks : meth.locks = false := C0.2.1
  exact W.lret C0.1.1 C0.1.2.1 hr (fun t ht hW => ⟨⟨r, (), rfl, rfl, by rw [ht]; exact hw.1, va_K.moved hW.alike C0.2.2.1, hw.2.1⟩, hw.2.2.F ht⟩) hw.2.2.2.2 hdg
theorem rtV {p : Program} {l : Launch} {e : Env} {R : Room} {s : State} {m : MethodId} {args : Array Value} {below : List Frame} {meth : Method} {c : Code} {D : va_G} {cA : ClassId} {g : Nat → Nat} {A : Nat → Prop} {cc : ByteArray} {nL : Nat} {own : String} {H : Heap} {locs : List Loc} {cells slots : Nat} {pc : Nat} {ls : Array Slot} {w1 : va_W} (C0 : Cx p s m args meth c cc nL own D cA g A) (hr : meth.sig.returnType = none) (hw : Wd D A s.heap w1 H locs) (hdg : decode cc pc = .ok (.return_, 1)) : W p l e R s m args below meth c H locs cells slots (MQ below (QV D cA A w1) args s cells slots A) (F0 m pc ls []) := by
  have hlocks : meth.locks = false := C0.2.1
  exact W.vret C0.1.1 C0.1.2.1 hr (fun t ht hW => ⟨⟨(), rfl, trivial, by rw [ht]; exact hw.1, va_K.moved hW.alike C0.2.2.1, hw.2.1⟩, hw.2.2.F ht⟩) hw.2.2.2.2 hdg
/-- a field is read: k its place in the table, q0 the object's in the world -/
theorem tGet {p : Program} {l : Launch} {e : Env} {R : Room} {s : State} {m : MethodId} {args : Array Value} {below : List Frame} {meth : Method} {c : Code} {D : va_G} {cA : ClassId} {g : Nat → Nat} {A : Nat → Prop} {cc : ByteArray} {nL : Nat} {own : String} {H : Heap} {locs : List Loc} {cells slots : Nat} {Q : State → Prop} {pc index : Nat} {ls : Array Slot} {rest : List Value} {ws : va_W} {a : Nat} {ref Cn : String} {T : u_T} {N ci : Nat} {v : Value} {fs : List Value} (C0 : Cx p s m args meth c cc nL own D cA g A) (hw : Wd D A s.heap ws H locs) (hin : ∀ w ∈ u_ws Cn T N, w ∈ lw_g) (k q0 : Nat) (hc : vwCl[ci]? = some (Cn, T, N)) (hk : k < N) (hl : Cond.fieldLink own index ref (T k).2.1 (T k).2.2.1 ∈ lw_g) (href : (T k).1 = ref) (he : ws[q0]? = some (a, .inr (ci, fs))) (hv : fs[k]? = some v) (hdg : decode cc pc = .ok (.getfield index, 3))
    (kk : W p l e R s m args below meth c H locs cells slots Q (F0 m (pc + 3) ls (v :: rest))) : W p l e R s m args below meth c H locs cells slots Q (F0 m pc ls (.ref a :: rest)) :=
  va_get C0.1.1 C0.1.2.1 C0.1.2.2.2.2 hin C0.1.2.2.2.1 C0.2.2.1 hw.1 q0 he hc k hk (C0.1.2.2.2.2 _ hl) (fun x h => by rw [← href]; exact h) hv hdg kk
theorem tPut {p : Program} {l : Launch} {e : Env} {R : Room} {s : State} {m : MethodId} {args : Array Value} {below : List Frame} {meth : Method} {c : Code} {D : va_G} {cA : ClassId} {g : Nat → Nat} {A : Nat → Prop} {cc : ByteArray} {nL : Nat} {own : String} {H : Heap} {locs : List Loc} {cells slots : Nat} {Q : State → Prop} {pc index : Nat} {ls : Array Slot} {rest : List Value} {ws : va_W} {a : Nat} {ref Cn : String} {T : u_T} {N ci : Nat} {x : Int32} {fs : List Value} {ws2 : va_W} (C0 : Cx p s m args meth c cc nL own D cA g A) (hw : Wd D A s.heap ws H locs) (hin : ∀ w ∈ u_ws Cn T N, w ∈ lw_g) (ty0 : Nat → FieldType) (hty : ∀ k, k < N → parseFieldDescriptor (T k).2.2.1 = some (ty0 k)) (hnm : ∀ a, a < N → ∀ b, b < N → a ≠ b → (T a).2.1 ≠ (T b).2.1) (k q0 : Nat) (hc : vwCl[ci]? = some (Cn, T, N)) (hk : k < N) (hl : Cond.fieldLink own index ref (T k).2.1 (T k).2.2.1 ∈ lw_g) (href : (T k).1 = ref) (hfin : (T k).2.2.2 = false) (hn : narrow (ty0 k) (.int x) = .int x) (hfit : fits (ty0 k) (.int x) = true) (he : ws[q0]? = some (a, .inr (ci, fs))) (hlen : k < fs.length) (h2 : ws.set q0 (a, .inr (ci, fs.set k (.int x))) = ws2) (hdg : decode cc pc = .ok (.putfield index, 3))
    (kk : ∀ (H1 : Heap) (locs1 : List Loc), Wd D A s.heap ws2 H1 locs1 → W p l e R s m args below meth c H1 locs1 cells slots Q (F0 m (pc + 3) ls rest)) : W p l e R s m args below meth c H locs cells slots Q (F0 m pc ls (.int x :: .ref a :: rest)) := by
  subst h2
  exact va_put C0.1.1 C0.1.2.1 C0.1.2.2.2.2 hin ty0 hty hnm C0.1.2.2.2.1 C0.2.2.1 hw.1 hw.2.1 hw.2.2 q0 he hc k hk (C0.1.2.2.2.2 _ hl) (fun x h => by rw [← href]; exact h) hfin (hty k hk) hn hfit hlen hdg (fun H1 locs1 h1 h2 h3 => kk H1 locs1 ⟨h1, h2, h3⟩)
theorem tLd {p : Program} {l : Launch} {e : Env} {R : Room} {s : State} {m : MethodId} {args : Array Value} {below : List Frame} {meth : Method} {c : Code} {D : va_G} {cA : ClassId} {g : Nat → Nat} {A : Nat → Prop} {cc : ByteArray} {nL : Nat} {own : String} {H : Heap} {locs : List Loc} {cells slots : Nat} {Q : State → Prop} {pc index : Nat} {ls : Array Slot} {rest : List Value} {ws : va_W} {a : Nat} {n : Nat} {f : Nat → Int32} {i : Int32} (C0 : Cx p s m args meth c cc nL own D cA g A) (hw : Wd D A s.heap ws H locs) (q0 : Nat) (he : ws[q0]? = some (a, .inl (cA, n, .inl f))) (hin : vp_in i n) (hdg : decode cc pc = .ok (.iaload, 1))
    (kk : W p l e R s m args below meth c H locs cells slots Q (F0 m (pc + 1) ls (.int (f i.toNatClampNeg) :: rest))) : W p l e R s m args below meth c H locs cells slots Q (F0 m pc ls (.int i :: .ref a :: rest)) :=
  va_iald C0.1.1 C0.1.2.1 C0.2.2.1 hw.1 q0 0 he rfl hin hdg kk
theorem tSt {p : Program} {l : Launch} {e : Env} {R : Room} {s : State} {m : MethodId} {args : Array Value} {below : List Frame} {meth : Method} {c : Code} {D : va_G} {cA : ClassId} {g : Nat → Nat} {A : Nat → Prop} {cc : ByteArray} {nL : Nat} {own : String} {H : Heap} {locs : List Loc} {cells slots : Nat} {Q : State → Prop} {pc index : Nat} {ls : Array Slot} {rest : List Value} {ws : va_W} {a : Nat} {n : Nat} {f : Nat → Int32} {i x : Int32} {ws2 : va_W} (C0 : Cx p s m args meth c cc nL own D cA g A) (hw : Wd D A s.heap ws H locs) (q0 : Nat) (he : ws[q0]? = some (a, .inl (cA, n, .inl f))) (hin : vp_in i n) (h2 : ws.set q0 (a, .inl (cA, n, .inl (upd f i.toNatClampNeg x))) = ws2) (hdg : decode cc pc = .ok (.iastore, 1))
    (kk : ∀ (H1 : Heap) (locs1 : List Loc), Wd D A s.heap ws2 H1 locs1 → W p l e R s m args below meth c H1 locs1 cells slots Q (F0 m (pc + 1) ls rest)) : W p l e R s m args below meth c H locs cells slots Q (F0 m pc ls (.int x :: .int i :: .ref a :: rest)) := by
  subst h2
  exact va_iast C0.1.1 C0.1.2.1 C0.2.2.1 hw.1 hw.2.1 hw.2.2 q0 0 he rfl hin hdg (fun H1 locs1 h1 h2 h3 => kk H1 locs1 ⟨h1, h2, h3⟩)
end
