section
-- ===== PART A: goes FIRST, ahead of the names: the tables' words, and 'selects' of the private methods out of them =====
/-- a private method of a class that the tables say can be made, by its rows of tables_1 -/
def lw_okq (q : MethodName × Nat) : Prop := (q.1.cls ≠ "java/lang/invoke/MethodHandle" ∧ q.1.cls ≠ "java/lang/invoke/VarHandle") ∧ Cond.instantiable q.1.cls q.2 ∈ tables_1 ∧ Cond.privateMethod q.1 ∈ tables_1 ∧ Cond.instanceMethod q.1 ∈ tables_1
theorem lw_p0 : lw_okq (⟨"RelayRace$Text", "goesOn", "(I)Z"⟩, 2) := ⟨⟨by decide +kernel, by decide +kernel⟩, List.mem_of_getElem? (i := 21) (by decide +kernel), List.mem_of_getElem? (i := 181) (by decide +kernel), List.mem_of_getElem? (i := 182) (by decide +kernel)⟩
theorem lw_p1 : lw_okq (⟨"RelayRace", "runTold", "()V"⟩, 13) := ⟨⟨by decide +kernel, by decide +kernel⟩, List.mem_of_getElem? (i := 13) (by decide +kernel), List.mem_of_getElem? (i := 190) (by decide +kernel), List.mem_of_getElem? (i := 191) (by decide +kernel)⟩
theorem lw_p2 : lw_okq (⟨"RelayRace", "everyEvent", "()I"⟩, 13) := ⟨⟨by decide +kernel, by decide +kernel⟩, List.mem_of_getElem? (i := 13) (by decide +kernel), List.mem_of_getElem? (i := 194) (by decide +kernel), List.mem_of_getElem? (i := 195) (by decide +kernel)⟩
theorem lw_p3 : lw_okq (⟨"RelayRace$Race", "befall", "(III)V"⟩, 8) := ⟨⟨by decide +kernel, by decide +kernel⟩, List.mem_of_getElem? (i := 64) (by decide +kernel), List.mem_of_getElem? (i := 205) (by decide +kernel), List.mem_of_getElem? (i := 206) (by decide +kernel)⟩
theorem lw_p4 : lw_okq (⟨"RelayRace$Race", "stride", "(III)I"⟩, 8) := ⟨⟨by decide +kernel, by decide +kernel⟩, List.mem_of_getElem? (i := 64) (by decide +kernel), List.mem_of_getElem? (i := 224) (by decide +kernel), List.mem_of_getElem? (i := 225) (by decide +kernel)⟩
theorem lw_p5 : lw_okq (⟨"RelayRace", "isTeam", "(I)Z"⟩, 13) := ⟨⟨by decide +kernel, by decide +kernel⟩, List.mem_of_getElem? (i := 13) (by decide +kernel), List.mem_of_getElem? (i := 248) (by decide +kernel), List.mem_of_getElem? (i := 249) (by decide +kernel)⟩
theorem lw_p6 : lw_okq (⟨"RelayRace", "found", "(I)I"⟩, 13) := ⟨⟨by decide +kernel, by decide +kernel⟩, List.mem_of_getElem? (i := 13) (by decide +kernel), List.mem_of_getElem? (i := 290) (by decide +kernel), List.mem_of_getElem? (i := 291) (by decide +kernel)⟩
theorem lw_p7 : lw_okq (⟨"RelayRace", "momentsAhead", "(I)I"⟩, 13) := ⟨⟨by decide +kernel, by decide +kernel⟩, List.mem_of_getElem? (i := 13) (by decide +kernel), List.mem_of_getElem? (i := 352) (by decide +kernel), List.mem_of_getElem? (i := 353) (by decide +kernel)⟩
theorem lw_p8 : lw_okq (⟨"RelayRace", "findOrder", "(I)V"⟩, 13) := ⟨⟨by decide +kernel, by decide +kernel⟩, List.mem_of_getElem? (i := 13) (by decide +kernel), List.mem_of_getElem? (i := 374) (by decide +kernel), List.mem_of_getElem? (i := 375) (by decide +kernel)⟩
theorem lw_p9 : lw_okq (⟨"RelayRace", "tryOrder", "(IIII)V"⟩, 13) := ⟨⟨by decide +kernel, by decide +kernel⟩, List.mem_of_getElem? (i := 13) (by decide +kernel), List.mem_of_getElem? (i := 388) (by decide +kernel), List.mem_of_getElem? (i := 389) (by decide +kernel)⟩
theorem lw_p10 : lw_okq (⟨"RelayRace", "prepareStandings", "()V"⟩, 13) := ⟨⟨by decide +kernel, by decide +kernel⟩, List.mem_of_getElem? (i := 13) (by decide +kernel), List.mem_of_getElem? (i := 415) (by decide +kernel), List.mem_of_getElem? (i := 416) (by decide +kernel)⟩
theorem lw_p11 : lw_okq (⟨"RelayRace", "winnerWith", "(I)I"⟩, 13) := ⟨⟨by decide +kernel, by decide +kernel⟩, List.mem_of_getElem? (i := 13) (by decide +kernel), List.mem_of_getElem? (i := 419) (by decide +kernel), List.mem_of_getElem? (i := 420) (by decide +kernel)⟩
theorem lw_p12 : lw_okq (⟨"RelayRace", "standingWith", "(II)I"⟩, 13) := ⟨⟨by decide +kernel, by decide +kernel⟩, List.mem_of_getElem? (i := 13) (by decide +kernel), List.mem_of_getElem? (i := 423) (by decide +kernel), List.mem_of_getElem? (i := 424) (by decide +kernel)⟩
theorem lw_p13 : lw_okq (⟨"RelayRace", "eventsTouching", "(I)I"⟩, 13) := ⟨⟨by decide +kernel, by decide +kernel⟩, List.mem_of_getElem? (i := 13) (by decide +kernel), List.mem_of_getElem? (i := 427) (by decide +kernel), List.mem_of_getElem? (i := 428) (by decide +kernel)⟩
theorem lw_p14 : lw_okq (⟨"RelayRace", "possiblePaces", "(II)I"⟩, 13) := ⟨⟨by decide +kernel, by decide +kernel⟩, List.mem_of_getElem? (i := 13) (by decide +kernel), List.mem_of_getElem? (i := 456) (by decide +kernel), List.mem_of_getElem? (i := 457) (by decide +kernel)⟩
theorem lw_p15 : lw_okq (⟨"RelayRace", "possibleSorts", "(II)I"⟩, 13) := ⟨⟨by decide +kernel, by decide +kernel⟩, List.mem_of_getElem? (i := 13) (by decide +kernel), List.mem_of_getElem? (i := 460) (by decide +kernel), List.mem_of_getElem? (i := 461) (by decide +kernel)⟩
def lw_privs_1 : List (MethodName × Nat) := [(⟨"RelayRace$Text", "goesOn", "(I)Z"⟩, 2), (⟨"RelayRace", "runTold", "()V"⟩, 13), (⟨"RelayRace", "everyEvent", "()I"⟩, 13), (⟨"RelayRace$Race", "befall", "(III)V"⟩, 8), (⟨"RelayRace$Race", "stride", "(III)I"⟩, 8), (⟨"RelayRace", "isTeam", "(I)Z"⟩, 13), (⟨"RelayRace", "found", "(I)I"⟩, 13), (⟨"RelayRace", "momentsAhead", "(I)I"⟩, 13), (⟨"RelayRace", "findOrder", "(I)V"⟩, 13), (⟨"RelayRace", "tryOrder", "(IIII)V"⟩, 13), (⟨"RelayRace", "prepareStandings", "()V"⟩, 13), (⟨"RelayRace", "winnerWith", "(I)I"⟩, 13), (⟨"RelayRace", "standingWith", "(II)I"⟩, 13), (⟨"RelayRace", "eventsTouching", "(I)I"⟩, 13), (⟨"RelayRace", "possiblePaces", "(II)I"⟩, 13), (⟨"RelayRace", "possibleSorts", "(II)I"⟩, 13)]
theorem lw_r1 : ∀ q ∈ lw_privs_1, lw_okq q := List.forall_mem_cons.mpr ⟨lw_p0, List.forall_mem_cons.mpr ⟨lw_p1, List.forall_mem_cons.mpr ⟨lw_p2, List.forall_mem_cons.mpr ⟨lw_p3, List.forall_mem_cons.mpr ⟨lw_p4, List.forall_mem_cons.mpr ⟨lw_p5, List.forall_mem_cons.mpr ⟨lw_p6, List.forall_mem_cons.mpr ⟨lw_p7, List.forall_mem_cons.mpr ⟨lw_p8, List.forall_mem_cons.mpr ⟨lw_p9, List.forall_mem_cons.mpr ⟨lw_p10, List.forall_mem_cons.mpr ⟨lw_p11, List.forall_mem_cons.mpr ⟨lw_p12, List.forall_mem_cons.mpr ⟨lw_p13, List.forall_mem_cons.mpr ⟨lw_p14, List.forall_mem_cons.mpr ⟨lw_p15, fun _ h => absurd h List.not_mem_nil⟩⟩⟩⟩⟩⟩⟩⟩⟩⟩⟩⟩⟩⟩⟩⟩
theorem lw_p16 : lw_okq (⟨"RelayRace", "countRanks", "(I)V"⟩, 13) := ⟨⟨by decide +kernel, by decide +kernel⟩, List.mem_of_getElem? (i := 13) (by decide +kernel), List.mem_of_getElem? (i := 468) (by decide +kernel), List.mem_of_getElem? (i := 469) (by decide +kernel)⟩
theorem lw_p17 : lw_okq (⟨"RelayRace", "mostAlike", "(I)I"⟩, 13) := ⟨⟨by decide +kernel, by decide +kernel⟩, List.mem_of_getElem? (i := 13) (by decide +kernel), List.mem_of_getElem? (i := 472) (by decide +kernel), List.mem_of_getElem? (i := 473) (by decide +kernel)⟩
theorem lw_p18 : lw_okq (⟨"RelayRace", "weight", "(II)J"⟩, 13) := ⟨⟨by decide +kernel, by decide +kernel⟩, List.mem_of_getElem? (i := 13) (by decide +kernel), List.mem_of_getElem? (i := 488) (by decide +kernel), List.mem_of_getElem? (i := 489) (by decide +kernel)⟩
theorem lw_p19 : lw_okq (⟨"RelayRace", "sharedTwos", "(J)I"⟩, 13) := ⟨⟨by decide +kernel, by decide +kernel⟩, List.mem_of_getElem? (i := 13) (by decide +kernel), List.mem_of_getElem? (i := 492) (by decide +kernel), List.mem_of_getElem? (i := 493) (by decide +kernel)⟩
theorem lw_p20 : lw_okq (⟨"RelayRace", "drawEvents", "(II)V"⟩, 13) := ⟨⟨by decide +kernel, by decide +kernel⟩, List.mem_of_getElem? (i := 13) (by decide +kernel), List.mem_of_getElem? (i := 500) (by decide +kernel), List.mem_of_getElem? (i := 501) (by decide +kernel)⟩
theorem lw_p21 : lw_okq (⟨"RelayRace", "teamsHome", "()I"⟩, 13) := ⟨⟨by decide +kernel, by decide +kernel⟩, List.mem_of_getElem? (i := 13) (by decide +kernel), List.mem_of_getElem? (i := 557) (by decide +kernel), List.mem_of_getElem? (i := 558) (by decide +kernel)⟩
theorem lw_p22 : lw_okq (⟨"RelayRace", "metresTogether", "()I"⟩, 13) := ⟨⟨by decide +kernel, by decide +kernel⟩, List.mem_of_getElem? (i := 13) (by decide +kernel), List.mem_of_getElem? (i := 562) (by decide +kernel), List.mem_of_getElem? (i := 563) (by decide +kernel)⟩
theorem lw_p23 : lw_okq (⟨"RelayRace", "digestMoments", "(JI)J"⟩, 13) := ⟨⟨by decide +kernel, by decide +kernel⟩, List.mem_of_getElem? (i := 13) (by decide +kernel), List.mem_of_getElem? (i := 574) (by decide +kernel), List.mem_of_getElem? (i := 575) (by decide +kernel)⟩
theorem lw_p24 : lw_okq (⟨"RelayRace", "digestLegs", "(JI)J"⟩, 13) := ⟨⟨by decide +kernel, by decide +kernel⟩, List.mem_of_getElem? (i := 13) (by decide +kernel), List.mem_of_getElem? (i := 581) (by decide +kernel), List.mem_of_getElem? (i := 582) (by decide +kernel)⟩
theorem lw_p25 : lw_okq (⟨"RelayRace", "digestPlans", "(JI)J"⟩, 13) := ⟨⟨by decide +kernel, by decide +kernel⟩, List.mem_of_getElem? (i := 13) (by decide +kernel), List.mem_of_getElem? (i := 589) (by decide +kernel), List.mem_of_getElem? (i := 590) (by decide +kernel)⟩
theorem lw_p26 : lw_okq (⟨"RelayRaceModel", "faultOf", "()I"⟩, 38) := ⟨⟨by decide +kernel, by decide +kernel⟩, List.mem_of_getElem? (i := 603) (by decide +kernel), List.mem_of_getElem? (i := 744) (by decide +kernel), List.mem_of_getElem? (i := 745) (by decide +kernel)⟩
theorem lw_p27 : lw_okq (⟨"RelayRaceModel", "readsTeam", "(II)I"⟩, 38) := ⟨⟨by decide +kernel, by decide +kernel⟩, List.mem_of_getElem? (i := 603) (by decide +kernel), List.mem_of_getElem? (i := 748) (by decide +kernel), List.mem_of_getElem? (i := 749) (by decide +kernel)⟩
theorem lw_p28 : lw_okq (⟨"RelayRaceModel", "readsRunner", "(II)I"⟩, 38) := ⟨⟨by decide +kernel, by decide +kernel⟩, List.mem_of_getElem? (i := 603) (by decide +kernel), List.mem_of_getElem? (i := 752) (by decide +kernel), List.mem_of_getElem? (i := 753) (by decide +kernel)⟩
theorem lw_p29 : lw_okq (⟨"RelayRaceModel", "byteAt", "(I)I"⟩, 38) := ⟨⟨by decide +kernel, by decide +kernel⟩, List.mem_of_getElem? (i := 603) (by decide +kernel), List.mem_of_getElem? (i := 756) (by decide +kernel), List.mem_of_getElem? (i := 757) (by decide +kernel)⟩
theorem lw_p30 : lw_okq (⟨"RelayRaceModel", "isTeam", "(I)Z"⟩, 38) := ⟨⟨by decide +kernel, by decide +kernel⟩, List.mem_of_getElem? (i := 603) (by decide +kernel), List.mem_of_getElem? (i := 764) (by decide +kernel), List.mem_of_getElem? (i := 765) (by decide +kernel)⟩
theorem lw_p31 : lw_okq (⟨"RelayRaceModel", "reads", "()V"⟩, 38) := ⟨⟨by decide +kernel, by decide +kernel⟩, List.mem_of_getElem? (i := 603) (by decide +kernel), List.mem_of_getElem? (i := 768) (by decide +kernel), List.mem_of_getElem? (i := 769) (by decide +kernel)⟩
def lw_privs_2 : List (MethodName × Nat) := [(⟨"RelayRace", "countRanks", "(I)V"⟩, 13), (⟨"RelayRace", "mostAlike", "(I)I"⟩, 13), (⟨"RelayRace", "weight", "(II)J"⟩, 13), (⟨"RelayRace", "sharedTwos", "(J)I"⟩, 13), (⟨"RelayRace", "drawEvents", "(II)V"⟩, 13), (⟨"RelayRace", "teamsHome", "()I"⟩, 13), (⟨"RelayRace", "metresTogether", "()I"⟩, 13), (⟨"RelayRace", "digestMoments", "(JI)J"⟩, 13), (⟨"RelayRace", "digestLegs", "(JI)J"⟩, 13), (⟨"RelayRace", "digestPlans", "(JI)J"⟩, 13), (⟨"RelayRaceModel", "faultOf", "()I"⟩, 38), (⟨"RelayRaceModel", "readsTeam", "(II)I"⟩, 38), (⟨"RelayRaceModel", "readsRunner", "(II)I"⟩, 38), (⟨"RelayRaceModel", "byteAt", "(I)I"⟩, 38), (⟨"RelayRaceModel", "isTeam", "(I)Z"⟩, 38), (⟨"RelayRaceModel", "reads", "()V"⟩, 38)]
theorem lw_r2 : ∀ q ∈ lw_privs_2, lw_okq q := List.forall_mem_cons.mpr ⟨lw_p16, List.forall_mem_cons.mpr ⟨lw_p17, List.forall_mem_cons.mpr ⟨lw_p18, List.forall_mem_cons.mpr ⟨lw_p19, List.forall_mem_cons.mpr ⟨lw_p20, List.forall_mem_cons.mpr ⟨lw_p21, List.forall_mem_cons.mpr ⟨lw_p22, List.forall_mem_cons.mpr ⟨lw_p23, List.forall_mem_cons.mpr ⟨lw_p24, List.forall_mem_cons.mpr ⟨lw_p25, List.forall_mem_cons.mpr ⟨lw_p26, List.forall_mem_cons.mpr ⟨lw_p27, List.forall_mem_cons.mpr ⟨lw_p28, List.forall_mem_cons.mpr ⟨lw_p29, List.forall_mem_cons.mpr ⟨lw_p30, List.forall_mem_cons.mpr ⟨lw_p31, fun _ h => absurd h List.not_mem_nil⟩⟩⟩⟩⟩⟩⟩⟩⟩⟩⟩⟩⟩⟩⟩⟩
theorem lw_p32 : lw_okq (⟨"RelayRaceModel", "runnerOf", "(III)I"⟩, 38) := ⟨⟨by decide +kernel, by decide +kernel⟩, List.mem_of_getElem? (i := 603) (by decide +kernel), List.mem_of_getElem? (i := 778) (by decide +kernel), List.mem_of_getElem? (i := 779) (by decide +kernel)⟩
theorem lw_p33 : lw_okq (⟨"RelayRaceModel", "meets", "(I)I"⟩, 38) := ⟨⟨by decide +kernel, by decide +kernel⟩, List.mem_of_getElem? (i := 603) (by decide +kernel), List.mem_of_getElem? (i := 807) (by decide +kernel), List.mem_of_getElem? (i := 808) (by decide +kernel)⟩
theorem lw_p34 : lw_okq (⟨"RelayRaceModel", "atOf", "(III)I"⟩, 38) := ⟨⟨by decide +kernel, by decide +kernel⟩, List.mem_of_getElem? (i := 603) (by decide +kernel), List.mem_of_getElem? (i := 816) (by decide +kernel), List.mem_of_getElem? (i := 817) (by decide +kernel)⟩
theorem lw_p35 : lw_okq (⟨"RelayRaceModel", "runsTold", "()V"⟩, 38) := ⟨⟨by decide +kernel, by decide +kernel⟩, List.mem_of_getElem? (i := 603) (by decide +kernel), List.mem_of_getElem? (i := 820) (by decide +kernel), List.mem_of_getElem? (i := 821) (by decide +kernel)⟩
theorem lw_p36 : lw_okq (⟨"RelayRaceModel", "asTold", "()V"⟩, 38) := ⟨⟨by decide +kernel, by decide +kernel⟩, List.mem_of_getElem? (i := 603) (by decide +kernel), List.mem_of_getElem? (i := 824) (by decide +kernel), List.mem_of_getElem? (i := 825) (by decide +kernel)⟩
theorem lw_p37 : lw_okq (⟨"RelayRaceModel", "runs", "()V"⟩, 38) := ⟨⟨by decide +kernel, by decide +kernel⟩, List.mem_of_getElem? (i := 603) (by decide +kernel), List.mem_of_getElem? (i := 828) (by decide +kernel), List.mem_of_getElem? (i := 829) (by decide +kernel)⟩
theorem lw_p38 : lw_okq (⟨"RelayRaceModel", "goesBy", "(I)V"⟩, 38) := ⟨⟨by decide +kernel, by decide +kernel⟩, List.mem_of_getElem? (i := 603) (by decide +kernel), List.mem_of_getElem? (i := 832) (by decide +kernel), List.mem_of_getElem? (i := 833) (by decide +kernel)⟩
theorem lw_p39 : lw_okq (⟨"RelayRaceModel", "isRain", "(I)Z"⟩, 38) := ⟨⟨by decide +kernel, by decide +kernel⟩, List.mem_of_getElem? (i := 603) (by decide +kernel), List.mem_of_getElem? (i := 836) (by decide +kernel), List.mem_of_getElem? (i := 837) (by decide +kernel)⟩
theorem lw_p40 : lw_okq (⟨"RelayRaceModel", "goes", "(IIZ)V"⟩, 38) := ⟨⟨by decide +kernel, by decide +kernel⟩, List.mem_of_getElem? (i := 603) (by decide +kernel), List.mem_of_getElem? (i := 843) (by decide +kernel), List.mem_of_getElem? (i := 844) (by decide +kernel)⟩
theorem lw_p41 : lw_okq (⟨"RelayRaceModel", "stands", "(II)Z"⟩, 38) := ⟨⟨by decide +kernel, by decide +kernel⟩, List.mem_of_getElem? (i := 603) (by decide +kernel), List.mem_of_getElem? (i := 847) (by decide +kernel), List.mem_of_getElem? (i := 848) (by decide +kernel)⟩
theorem lw_p42 : lw_okq (⟨"RelayRaceModel", "stride", "(IIZ)I"⟩, 38) := ⟨⟨by decide +kernel, by decide +kernel⟩, List.mem_of_getElem? (i := 603) (by decide +kernel), List.mem_of_getElem? (i := 851) (by decide +kernel), List.mem_of_getElem? (i := 852) (by decide +kernel)⟩
theorem lw_p43 : lw_okq (⟨"RelayRaceModel", "isAhead", "(II)Z"⟩, 38) := ⟨⟨by decide +kernel, by decide +kernel⟩, List.mem_of_getElem? (i := 603) (by decide +kernel), List.mem_of_getElem? (i := 855) (by decide +kernel), List.mem_of_getElem? (i := 856) (by decide +kernel)⟩
theorem lw_p44 : lw_okq (⟨"RelayRaceModel", "homeOf", "(I)I"⟩, 38) := ⟨⟨by decide +kernel, by decide +kernel⟩, List.mem_of_getElem? (i := 603) (by decide +kernel), List.mem_of_getElem? (i := 863) (by decide +kernel), List.mem_of_getElem? (i := 864) (by decide +kernel)⟩
theorem lw_p45 : lw_okq (⟨"RelayRaceModel", "lastedOf", "(II)I"⟩, 38) := ⟨⟨by decide +kernel, by decide +kernel⟩, List.mem_of_getElem? (i := 603) (by decide +kernel), List.mem_of_getElem? (i := 871) (by decide +kernel), List.mem_of_getElem? (i := 872) (by decide +kernel)⟩
theorem lw_p46 : lw_okq (⟨"RelayRaceModel", "wonOf", "(I)I"⟩, 38) := ⟨⟨by decide +kernel, by decide +kernel⟩, List.mem_of_getElem? (i := 603) (by decide +kernel), List.mem_of_getElem? (i := 879) (by decide +kernel), List.mem_of_getElem? (i := 880) (by decide +kernel)⟩
theorem lw_p47 : lw_okq (⟨"RelayRaceModel", "wonBy", "(I)I"⟩, 38) := ⟨⟨by decide +kernel, by decide +kernel⟩, List.mem_of_getElem? (i := 603) (by decide +kernel), List.mem_of_getElem? (i := 883) (by decide +kernel), List.mem_of_getElem? (i := 884) (by decide +kernel)⟩
def lw_privs_3 : List (MethodName × Nat) := [(⟨"RelayRaceModel", "runnerOf", "(III)I"⟩, 38), (⟨"RelayRaceModel", "meets", "(I)I"⟩, 38), (⟨"RelayRaceModel", "atOf", "(III)I"⟩, 38), (⟨"RelayRaceModel", "runsTold", "()V"⟩, 38), (⟨"RelayRaceModel", "asTold", "()V"⟩, 38), (⟨"RelayRaceModel", "runs", "()V"⟩, 38), (⟨"RelayRaceModel", "goesBy", "(I)V"⟩, 38), (⟨"RelayRaceModel", "isRain", "(I)Z"⟩, 38), (⟨"RelayRaceModel", "goes", "(IIZ)V"⟩, 38), (⟨"RelayRaceModel", "stands", "(II)Z"⟩, 38), (⟨"RelayRaceModel", "stride", "(IIZ)I"⟩, 38), (⟨"RelayRaceModel", "isAhead", "(II)Z"⟩, 38), (⟨"RelayRaceModel", "homeOf", "(I)I"⟩, 38), (⟨"RelayRaceModel", "lastedOf", "(II)I"⟩, 38), (⟨"RelayRaceModel", "wonOf", "(I)I"⟩, 38), (⟨"RelayRaceModel", "wonBy", "(I)I"⟩, 38)]
theorem lw_r3 : ∀ q ∈ lw_privs_3, lw_okq q := List.forall_mem_cons.mpr ⟨lw_p32, List.forall_mem_cons.mpr ⟨lw_p33, List.forall_mem_cons.mpr ⟨lw_p34, List.forall_mem_cons.mpr ⟨lw_p35, List.forall_mem_cons.mpr ⟨lw_p36, List.forall_mem_cons.mpr ⟨lw_p37, List.forall_mem_cons.mpr ⟨lw_p38, List.forall_mem_cons.mpr ⟨lw_p39, List.forall_mem_cons.mpr ⟨lw_p40, List.forall_mem_cons.mpr ⟨lw_p41, List.forall_mem_cons.mpr ⟨lw_p42, List.forall_mem_cons.mpr ⟨lw_p43, List.forall_mem_cons.mpr ⟨lw_p44, List.forall_mem_cons.mpr ⟨lw_p45, List.forall_mem_cons.mpr ⟨lw_p46, List.forall_mem_cons.mpr ⟨lw_p47, fun _ h => absurd h List.not_mem_nil⟩⟩⟩⟩⟩⟩⟩⟩⟩⟩⟩⟩⟩⟩⟩⟩
theorem lw_p48 : lw_okq (⟨"RelayRaceModel", "wonNow", "()I"⟩, 38) := ⟨⟨by decide +kernel, by decide +kernel⟩, List.mem_of_getElem? (i := 603) (by decide +kernel), List.mem_of_getElem? (i := 887) (by decide +kernel), List.mem_of_getElem? (i := 888) (by decide +kernel)⟩
theorem lw_p49 : lw_okq (⟨"RelayRaceModel", "changesOf", "()I"⟩, 38) := ⟨⟨by decide +kernel, by decide +kernel⟩, List.mem_of_getElem? (i := 603) (by decide +kernel), List.mem_of_getElem? (i := 895) (by decide +kernel), List.mem_of_getElem? (i := 896) (by decide +kernel)⟩
theorem lw_p50 : lw_okq (⟨"RelayRaceModel", "firstAt", "(I)I"⟩, 38) := ⟨⟨by decide +kernel, by decide +kernel⟩, List.mem_of_getElem? (i := 603) (by decide +kernel), List.mem_of_getElem? (i := 899) (by decide +kernel), List.mem_of_getElem? (i := 900) (by decide +kernel)⟩
theorem lw_p51 : lw_okq (⟨"RelayRaceModel", "leaderOf", "(I)I"⟩, 38) := ⟨⟨by decide +kernel, by decide +kernel⟩, List.mem_of_getElem? (i := 603) (by decide +kernel), List.mem_of_getElem? (i := 907) (by decide +kernel), List.mem_of_getElem? (i := 908) (by decide +kernel)⟩
theorem lw_p52 : lw_okq (⟨"RelayRaceModel", "stoodOf", "(I)I"⟩, 38) := ⟨⟨by decide +kernel, by decide +kernel⟩, List.mem_of_getElem? (i := 603) (by decide +kernel), List.mem_of_getElem? (i := 915) (by decide +kernel), List.mem_of_getElem? (i := 916) (by decide +kernel)⟩
theorem lw_p53 : lw_okq (⟨"RelayRaceModel", "orderOf", "(II)I"⟩, 38) := ⟨⟨by decide +kernel, by decide +kernel⟩, List.mem_of_getElem? (i := 603) (by decide +kernel), List.mem_of_getElem? (i := 923) (by decide +kernel), List.mem_of_getElem? (i := 924) (by decide +kernel)⟩
theorem lw_p54 : lw_okq (⟨"RelayRaceModel", "puts", "(II)V"⟩, 38) := ⟨⟨by decide +kernel, by decide +kernel⟩, List.mem_of_getElem? (i := 603) (by decide +kernel), List.mem_of_getElem? (i := 930) (by decide +kernel), List.mem_of_getElem? (i := 931) (by decide +kernel)⟩
theorem lw_p55 : lw_okq (⟨"RelayRaceModel", "trainOf", "(II)I"⟩, 38) := ⟨⟨by decide +kernel, by decide +kernel⟩, List.mem_of_getElem? (i := 603) (by decide +kernel), List.mem_of_getElem? (i := 938) (by decide +kernel), List.mem_of_getElem? (i := 939) (by decide +kernel)⟩
theorem lw_p56 : lw_okq (⟨"RelayRaceModel", "fitOf", "(I)I"⟩, 38) := ⟨⟨by decide +kernel, by decide +kernel⟩, List.mem_of_getElem? (i := 603) (by decide +kernel), List.mem_of_getElem? (i := 946) (by decide +kernel), List.mem_of_getElem? (i := 947) (by decide +kernel)⟩
theorem lw_p57 : lw_okq (⟨"RelayRaceModel", "spareBy", "()I"⟩, 38) := ⟨⟨by decide +kernel, by decide +kernel⟩, List.mem_of_getElem? (i := 603) (by decide +kernel), List.mem_of_getElem? (i := 954) (by decide +kernel), List.mem_of_getElem? (i := 955) (by decide +kernel)⟩
theorem lw_p58 : lw_okq (⟨"RelayRaceModel", "isSpared", "(I)Z"⟩, 38) := ⟨⟨by decide +kernel, by decide +kernel⟩, List.mem_of_getElem? (i := 603) (by decide +kernel), List.mem_of_getElem? (i := 958) (by decide +kernel), List.mem_of_getElem? (i := 959) (by decide +kernel)⟩
theorem lw_p59 : lw_okq (⟨"RelayRaceModel", "ofRow", "(II)I"⟩, 38) := ⟨⟨by decide +kernel, by decide +kernel⟩, List.mem_of_getElem? (i := 603) (by decide +kernel), List.mem_of_getElem? (i := 962) (by decide +kernel), List.mem_of_getElem? (i := 963) (by decide +kernel)⟩
theorem lw_p60 : lw_okq (⟨"RelayRaceModel", "neverNow", "()I"⟩, 38) := ⟨⟨by decide +kernel, by decide +kernel⟩, List.mem_of_getElem? (i := 603) (by decide +kernel), List.mem_of_getElem? (i := 978) (by decide +kernel), List.mem_of_getElem? (i := 979) (by decide +kernel)⟩
theorem lw_p61 : lw_okq (⟨"RelayRaceModel", "isSeen", "()Z"⟩, 38) := ⟨⟨by decide +kernel, by decide +kernel⟩, List.mem_of_getElem? (i := 603) (by decide +kernel), List.mem_of_getElem? (i := 982) (by decide +kernel), List.mem_of_getElem? (i := 983) (by decide +kernel)⟩
theorem lw_p62 : lw_okq (⟨"RelayRaceModel", "pacesBy", "(I)I"⟩, 38) := ⟨⟨by decide +kernel, by decide +kernel⟩, List.mem_of_getElem? (i := 603) (by decide +kernel), List.mem_of_getElem? (i := 990) (by decide +kernel), List.mem_of_getElem? (i := 991) (by decide +kernel)⟩
theorem lw_p63 : lw_okq (⟨"RelayRaceModel", "sortsBy", "(I)I"⟩, 38) := ⟨⟨by decide +kernel, by decide +kernel⟩, List.mem_of_getElem? (i := 603) (by decide +kernel), List.mem_of_getElem? (i := 994) (by decide +kernel), List.mem_of_getElem? (i := 995) (by decide +kernel)⟩
def lw_privs_4 : List (MethodName × Nat) := [(⟨"RelayRaceModel", "wonNow", "()I"⟩, 38), (⟨"RelayRaceModel", "changesOf", "()I"⟩, 38), (⟨"RelayRaceModel", "firstAt", "(I)I"⟩, 38), (⟨"RelayRaceModel", "leaderOf", "(I)I"⟩, 38), (⟨"RelayRaceModel", "stoodOf", "(I)I"⟩, 38), (⟨"RelayRaceModel", "orderOf", "(II)I"⟩, 38), (⟨"RelayRaceModel", "puts", "(II)V"⟩, 38), (⟨"RelayRaceModel", "trainOf", "(II)I"⟩, 38), (⟨"RelayRaceModel", "fitOf", "(I)I"⟩, 38), (⟨"RelayRaceModel", "spareBy", "()I"⟩, 38), (⟨"RelayRaceModel", "isSpared", "(I)Z"⟩, 38), (⟨"RelayRaceModel", "ofRow", "(II)I"⟩, 38), (⟨"RelayRaceModel", "neverNow", "()I"⟩, 38), (⟨"RelayRaceModel", "isSeen", "()Z"⟩, 38), (⟨"RelayRaceModel", "pacesBy", "(I)I"⟩, 38), (⟨"RelayRaceModel", "sortsBy", "(I)I"⟩, 38)]
theorem lw_r4 : ∀ q ∈ lw_privs_4, lw_okq q := List.forall_mem_cons.mpr ⟨lw_p48, List.forall_mem_cons.mpr ⟨lw_p49, List.forall_mem_cons.mpr ⟨lw_p50, List.forall_mem_cons.mpr ⟨lw_p51, List.forall_mem_cons.mpr ⟨lw_p52, List.forall_mem_cons.mpr ⟨lw_p53, List.forall_mem_cons.mpr ⟨lw_p54, List.forall_mem_cons.mpr ⟨lw_p55, List.forall_mem_cons.mpr ⟨lw_p56, List.forall_mem_cons.mpr ⟨lw_p57, List.forall_mem_cons.mpr ⟨lw_p58, List.forall_mem_cons.mpr ⟨lw_p59, List.forall_mem_cons.mpr ⟨lw_p60, List.forall_mem_cons.mpr ⟨lw_p61, List.forall_mem_cons.mpr ⟨lw_p62, List.forall_mem_cons.mpr ⟨lw_p63, fun _ h => absurd h List.not_mem_nil⟩⟩⟩⟩⟩⟩⟩⟩⟩⟩⟩⟩⟩⟩⟩⟩
theorem lw_p64 : lw_okq (⟨"RelayRaceModel", "askOf", "(I)I"⟩, 38) := ⟨⟨by decide +kernel, by decide +kernel⟩, List.mem_of_getElem? (i := 603) (by decide +kernel), List.mem_of_getElem? (i := 1002) (by decide +kernel), List.mem_of_getElem? (i := 1003) (by decide +kernel)⟩
theorem lw_p65 : lw_okq (⟨"RelayRaceModel", "chanceOf", "(III)J"⟩, 38) := ⟨⟨by decide +kernel, by decide +kernel⟩, List.mem_of_getElem? (i := 603) (by decide +kernel), List.mem_of_getElem? (i := 1010) (by decide +kernel), List.mem_of_getElem? (i := 1011) (by decide +kernel)⟩
theorem lw_p66 : lw_okq (⟨"RelayRaceModel", "yearsOf", "(III)I"⟩, 38) := ⟨⟨by decide +kernel, by decide +kernel⟩, List.mem_of_getElem? (i := 603) (by decide +kernel), List.mem_of_getElem? (i := 1025) (by decide +kernel), List.mem_of_getElem? (i := 1026) (by decide +kernel)⟩
theorem lw_p67 : lw_okq (⟨"RelayRaceModel", "lacks", "(III)I"⟩, 38) := ⟨⟨by decide +kernel, by decide +kernel⟩, List.mem_of_getElem? (i := 603) (by decide +kernel), List.mem_of_getElem? (i := 1042) (by decide +kernel), List.mem_of_getElem? (i := 1043) (by decide +kernel)⟩
theorem lw_p68 : lw_okq (⟨"RelayRaceModel", "keep", "(III)V"⟩, 38) := ⟨⟨by decide +kernel, by decide +kernel⟩, List.mem_of_getElem? (i := 603) (by decide +kernel), List.mem_of_getElem? (i := 1046) (by decide +kernel), List.mem_of_getElem? (i := 1047) (by decide +kernel)⟩
theorem lw_p69 : lw_okq (⟨"RelayRaceModel", "teamsOf", "()I"⟩, 38) := ⟨⟨by decide +kernel, by decide +kernel⟩, List.mem_of_getElem? (i := 603) (by decide +kernel), List.mem_of_getElem? (i := 1067) (by decide +kernel), List.mem_of_getElem? (i := 1068) (by decide +kernel)⟩
theorem lw_p70 : lw_okq (⟨"RelayRaceModel", "homesOf", "()I"⟩, 38) := ⟨⟨by decide +kernel, by decide +kernel⟩, List.mem_of_getElem? (i := 603) (by decide +kernel), List.mem_of_getElem? (i := 1071) (by decide +kernel), List.mem_of_getElem? (i := 1072) (by decide +kernel)⟩
theorem lw_p71 : lw_okq (⟨"RelayRaceModel", "allMetres", "()I"⟩, 38) := ⟨⟨by decide +kernel, by decide +kernel⟩, List.mem_of_getElem? (i := 603) (by decide +kernel), List.mem_of_getElem? (i := 1075) (by decide +kernel), List.mem_of_getElem? (i := 1076) (by decide +kernel)⟩
theorem lw_p72 : lw_okq (⟨"RelayRaceModel", "teamDigest", "(JI)J"⟩, 38) := ⟨⟨by decide +kernel, by decide +kernel⟩, List.mem_of_getElem? (i := 603) (by decide +kernel), List.mem_of_getElem? (i := 1086) (by decide +kernel), List.mem_of_getElem? (i := 1087) (by decide +kernel)⟩
theorem lw_p73 : lw_okq (⟨"RelayRaceModel", "atDigest", "(JII)J"⟩, 38) := ⟨⟨by decide +kernel, by decide +kernel⟩, List.mem_of_getElem? (i := 603) (by decide +kernel), List.mem_of_getElem? (i := 1090) (by decide +kernel), List.mem_of_getElem? (i := 1091) (by decide +kernel)⟩
theorem lw_p74 : lw_okq (⟨"RelayRaceModel", "legDigest", "(JII)J"⟩, 38) := ⟨⟨by decide +kernel, by decide +kernel⟩, List.mem_of_getElem? (i := 603) (by decide +kernel), List.mem_of_getElem? (i := 1094) (by decide +kernel), List.mem_of_getElem? (i := 1095) (by decide +kernel)⟩
def lw_privs_5 : List (MethodName × Nat) := [(⟨"RelayRaceModel", "askOf", "(I)I"⟩, 38), (⟨"RelayRaceModel", "chanceOf", "(III)J"⟩, 38), (⟨"RelayRaceModel", "yearsOf", "(III)I"⟩, 38), (⟨"RelayRaceModel", "lacks", "(III)I"⟩, 38), (⟨"RelayRaceModel", "keep", "(III)V"⟩, 38), (⟨"RelayRaceModel", "teamsOf", "()I"⟩, 38), (⟨"RelayRaceModel", "homesOf", "()I"⟩, 38), (⟨"RelayRaceModel", "allMetres", "()I"⟩, 38), (⟨"RelayRaceModel", "teamDigest", "(JI)J"⟩, 38), (⟨"RelayRaceModel", "atDigest", "(JII)J"⟩, 38), (⟨"RelayRaceModel", "legDigest", "(JII)J"⟩, 38)]
theorem lw_r5 : ∀ q ∈ lw_privs_5, lw_okq q := List.forall_mem_cons.mpr ⟨lw_p64, List.forall_mem_cons.mpr ⟨lw_p65, List.forall_mem_cons.mpr ⟨lw_p66, List.forall_mem_cons.mpr ⟨lw_p67, List.forall_mem_cons.mpr ⟨lw_p68, List.forall_mem_cons.mpr ⟨lw_p69, List.forall_mem_cons.mpr ⟨lw_p70, List.forall_mem_cons.mpr ⟨lw_p71, List.forall_mem_cons.mpr ⟨lw_p72, List.forall_mem_cons.mpr ⟨lw_p73, List.forall_mem_cons.mpr ⟨lw_p74, fun _ h => absurd h List.not_mem_nil⟩⟩⟩⟩⟩⟩⟩⟩⟩⟩⟩
def lw_privs : List (MethodName × Nat) := lw_privs_1 ++ (lw_privs_2 ++ (lw_privs_3 ++ (lw_privs_4 ++ (lw_privs_5))))
def lw_tbl : List Cond := k2_sels lw_privs ++ tables_1
theorem lw_privs_ok : ∀ q ∈ lw_privs, lw_okq q := by
  show ∀ q ∈ lw_privs_1 ++ (lw_privs_2 ++ (lw_privs_3 ++ (lw_privs_4 ++ (lw_privs_5)))), lw_okq q
  exact List.forall_mem_append.mpr ⟨lw_r1, List.forall_mem_append.mpr ⟨lw_r2, List.forall_mem_append.mpr ⟨lw_r3, List.forall_mem_append.mpr ⟨lw_r4, lw_r5⟩⟩⟩⟩
-- ===== end of PART A; then your names; then what follows =====
end
section
def RX0 : String := "RelayRace$Race"
def TX0 : u_T := fun k => match k with
  | 0 => ("RelayRace$Race", "sorts", "[I", true)
  | 1 => ("RelayRace$Race", "paces", "[I", true)
  | 2 => ("RelayRace$Race", "stops", "[J", true)
  | 3 => ("RelayRace$Race", "metres", "[I", true)
  | 4 => ("RelayRace$Race", "ends", "[I", true)
  | 5 => ("RelayRace$Race", "teams", "I", false)
  | 6 => ("RelayRace$Race", "legLength", "I", false)
  | _ => ("RelayRace$Race", "rainFrom", "I", false)
def tyX0 : Nat → FieldType := fun k => match k with
  | 0 => .array .int
  | 1 => .array .int
  | 2 => .array .long
  | 3 => .array .int
  | 4 => .array .int
  | 5 => .int
  | 6 => .int
  | _ => .int
theorem nmX0 : ∀ a, a < 8 → ∀ b, b < 8 → a ≠ b → (TX0 a).2.1 ≠ (TX0 b).2.1 := by decide +kernel
theorem tyX0_ok : ∀ k, k < 8 → parseFieldDescriptor (TX0 k).2.2.1 = some (tyX0 k) := by decide +kernel
abbrev cX0_init : ByteArray := prog_2_method_1_code
def yX0_init : MethodName := ⟨RX0, "<init>", "()V"⟩
abbrev cX0_takeText : ByteArray := prog_2_method_2_code
def yX0_takeText : MethodName := ⟨RX0, "takeText", "(LRelayRace$Text;)V"⟩
abbrev cX0_takeRace : ByteArray := prog_2_method_3_code
def yX0_takeRace : MethodName := ⟨RX0, "takeRace", "(LRelayRace$Race;)V"⟩
abbrev cX0_takeRunner : ByteArray := prog_2_method_4_code
def yX0_takeRunner : MethodName := ⟨RX0, "takeRunner", "(LRelayRace$Race;III)V"⟩
abbrev cX0_setConditions : ByteArray := prog_2_method_5_code
def yX0_setConditions : MethodName := ⟨RX0, "setConditions", "(ILRelayRace$Triples;I)V"⟩
abbrev cX0_befall : ByteArray := prog_2_method_6_code
def yX0_befall : MethodName := ⟨RX0, "befall", "(III)V"⟩
abbrev cX0_runAll : ByteArray := prog_2_method_7_code
def yX0_runAll : MethodName := ⟨RX0, "runAll", "()V"⟩
abbrev cX0_runTeam : ByteArray := prog_2_method_8_code
def yX0_runTeam : MethodName := ⟨RX0, "runTeam", "(I)V"⟩
abbrev cX0_stride : ByteArray := prog_2_method_9_code
def yX0_stride : MethodName := ⟨RX0, "stride", "(III)I"⟩
abbrev cX0_metresAt : ByteArray := prog_2_method_10_code
def yX0_metresAt : MethodName := ⟨RX0, "metresAt", "(II)I"⟩
abbrev cX0_homeOf : ByteArray := prog_2_method_11_code
def yX0_homeOf : MethodName := ⟨RX0, "homeOf", "(I)I"⟩
abbrev cX0_legAt : ByteArray := prog_2_method_12_code
def yX0_legAt : MethodName := ⟨RX0, "legAt", "(II)I"⟩
abbrev cX0_stoodOf : ByteArray := prog_2_method_13_code
def yX0_stoodOf : MethodName := ⟨RX0, "stoodOf", "(I)I"⟩
abbrev cX0_standingAt : ByteArray := prog_2_method_14_code
def yX0_standingAt : MethodName := ⟨RX0, "standingAt", "(II)I"⟩
abbrev cX0_rankAt : ByteArray := prog_2_method_15_code
def yX0_rankAt : MethodName := ⟨RX0, "rankAt", "(II)I"⟩
abbrev cX0_foremostAt : ByteArray := prog_2_method_16_code
def yX0_foremostAt : MethodName := ⟨RX0, "foremostAt", "(I)I"⟩
abbrev cX0_winner : ByteArray := prog_2_method_17_code
def yX0_winner : MethodName := ⟨RX0, "winner", "()I"⟩
abbrev cX0_comesOutAs : ByteArray := prog_2_method_18_code
def yX0_comesOutAs : MethodName := ⟨RX0, "comesOutAs", "(LRelayRace$Triples;)Z"⟩
def RX1 : String := "RelayRace$Sheet"
def TX1 : u_T := fun k => match k with
  | 0 => ("RelayRace$Sheet", "items", "[I", true)
  | 1 => ("RelayRace$Sheet", "lost", "Z", false)
  | 2 => ("RelayRace$Sheet", "form", "I", false)
  | _ => ("RelayRace$Sheet", "size", "I", false)
def tyX1 : Nat → FieldType := fun k => match k with
  | 0 => .array .int
  | 1 => .boolean
  | 2 => .int
  | _ => .int
theorem nmX1 : ∀ a, a < 4 → ∀ b, b < 4 → a ≠ b → (TX1 a).2.1 ≠ (TX1 b).2.1 := by decide +kernel
theorem tyX1_ok : ∀ k, k < 4 → parseFieldDescriptor (TX1 k).2.2.1 = some (tyX1 k) := by decide +kernel
abbrev cX1_init : ByteArray := prog_3_method_1_code
def yX1_init : MethodName := ⟨RX1, "<init>", "()V"⟩
abbrev cX1_begin : ByteArray := prog_3_method_2_code
def yX1_begin : MethodName := ⟨RX1, "begin", "(II)V"⟩
abbrev cX1_store : ByteArray := prog_3_method_3_code
def yX1_store : MethodName := ⟨RX1, "store", "(II)V"⟩
abbrev cX1_hasItems : ByteArray := prog_3_method_4_code
def yX1_hasItems : MethodName := ⟨RX1, "hasItems", "(II)Z"⟩
def RX2 : String := "RelayRace$Text"
def TX2 : u_T := fun k => match k with
  | 0 => ("RelayRace$Text", "bytes", "[I", true)
  | _ => ("RelayRace$Text", "length", "I", false)
def tyX2 : Nat → FieldType := fun k => match k with
  | 0 => .array .int
  | _ => .int
theorem nmX2 : ∀ a, a < 2 → ∀ b, b < 2 → a ≠ b → (TX2 a).2.1 ≠ (TX2 b).2.1 := by decide +kernel
theorem tyX2_ok : ∀ k, k < 2 → parseFieldDescriptor (TX2 k).2.2.1 = some (tyX2 k) := by decide +kernel
abbrev cX2_init : ByteArray := prog_4_method_1_code
def yX2_init : MethodName := ⟨RX2, "<init>", "()V"⟩
abbrev cX2_append : ByteArray := prog_4_method_2_code
def yX2_append : MethodName := ⟨RX2, "append", "(I)V"⟩
abbrev cX2_firstFault : ByteArray := prog_4_method_3_code
def yX2_firstFault : MethodName := ⟨RX2, "firstFault", "()I"⟩
abbrev cX2_goesOn : ByteArray := prog_4_method_4_code
def yX2_goesOn : MethodName := ⟨RX2, "goesOn", "(I)Z"⟩
abbrev cX2_sortAt : ByteArray := prog_4_method_5_code
def yX2_sortAt : MethodName := ⟨RX2, "sortAt", "(I)I"⟩
def RX3 : String := "RelayRace$Triples"
def TX3 : u_T := fun k => match k with
  | 0 => ("RelayRace$Triples", "first", "[I", true)
  | 1 => ("RelayRace$Triples", "second", "[I", true)
  | 2 => ("RelayRace$Triples", "third", "[I", true)
  | _ => ("RelayRace$Triples", "size", "I", false)
def tyX3 : Nat → FieldType := fun k => match k with
  | 0 => .array .int
  | 1 => .array .int
  | 2 => .array .int
  | _ => .int
theorem nmX3 : ∀ a, a < 4 → ∀ b, b < 4 → a ≠ b → (TX3 a).2.1 ≠ (TX3 b).2.1 := by decide +kernel
theorem tyX3_ok : ∀ k, k < 4 → parseFieldDescriptor (TX3 k).2.2.1 = some (tyX3 k) := by decide +kernel
abbrev cX3_init : ByteArray := prog_5_method_1_code
def yX3_init : MethodName := ⟨RX3, "<init>", "()V"⟩
abbrev cX3_append : ByteArray := prog_5_method_2_code
def yX3_append : MethodName := ⟨RX3, "append", "(III)V"⟩
def RX4 : String := "RelayRace"
def TX4 : u_T := fun k => match k with
  | 0 => ("RelayRace", "text", "LRelayRace$Text;", true)
  | 1 => ("RelayRace", "events", "LRelayRace$Triples;", true)
  | 2 => ("RelayRace", "sightings", "LRelayRace$Triples;", true)
  | 3 => ("RelayRace", "drawn", "LRelayRace$Triples;", true)
  | 4 => ("RelayRace", "told", "LRelayRace$Race;", true)
  | 5 => ("RelayRace", "trial", "LRelayRace$Race;", true)
  | 6 => ("RelayRace", "standings", "[I", true)
  | 7 => ("RelayRace", "standingsOld", "Z", false)
  | 8 => ("RelayRace", "plan", "[I", true)
  | 9 => ("RelayRace", "alike", "[I", true)
  | 10 => ("RelayRace", "sheets", "[LRelayRace$Sheet;", true)
  | 11 => ("RelayRace", "legLength", "I", false)
  | _ => ("RelayRace", "latestFinding", "I", false)
def tyX4 : Nat → FieldType := fun k => match k with
  | 0 => .object "RelayRace$Text"
  | 1 => .object "RelayRace$Triples"
  | 2 => .object "RelayRace$Triples"
  | 3 => .object "RelayRace$Triples"
  | 4 => .object "RelayRace$Race"
  | 5 => .object "RelayRace$Race"
  | 6 => .array .int
  | 7 => .boolean
  | 8 => .array .int
  | 9 => .array .int
  | 10 => .array (.object "RelayRace$Sheet")
  | 11 => .int
  | _ => .int
theorem nmX4 : ∀ a, a < 13 → ∀ b, b < 13 → a ≠ b → (TX4 a).2.1 ≠ (TX4 b).2.1 := by decide +kernel
theorem tyX4_ok : ∀ k, k < 13 → parseFieldDescriptor (TX4 k).2.2.1 = some (tyX4 k) := by decide +kernel
abbrev cX4_init : ByteArray := prog_1_method_1_code
def yX4_init : MethodName := ⟨RX4, "<init>", "()V"⟩
abbrev cX4_type : ByteArray := prog_1_method_2_code
def yX4_type : MethodName := ⟨RX4, "type", "(I)I"⟩
abbrev cX4_wipe : ByteArray := prog_1_method_3_code
def yX4_wipe : MethodName := ⟨RX4, "wipe", "()I"⟩
abbrev cX4_undo : ByteArray := prog_1_method_4_code
def yX4_undo : MethodName := ⟨RX4, "undo", "()I"⟩
abbrev cX4_fault : ByteArray := prog_1_method_5_code
def yX4_fault : MethodName := ⟨RX4, "fault", "()I"⟩
abbrev cX4_runner : ByteArray := prog_1_method_6_code
def yX4_runner : MethodName := ⟨RX4, "runner", "(III)I"⟩
abbrev cX4_along : ByteArray := prog_1_method_7_code
def yX4_along : MethodName := ⟨RX4, "along", "(I)I"⟩
abbrev cX4_event : ByteArray := prog_1_method_8_code
def yX4_event : MethodName := ⟨RX4, "event", "(III)I"⟩
abbrev cX4_back : ByteArray := prog_1_method_9_code
def yX4_back : MethodName := ⟨RX4, "back", "()I"⟩
abbrev cX4_read : ByteArray := prog_1_method_10_code
def yX4_read : MethodName := ⟨RX4, "read", "(I)I"⟩
abbrev cX4_runTold : ByteArray := prog_1_method_11_code
def yX4_runTold : MethodName := ⟨RX4, "runTold", "()V"⟩
abbrev cX4_everyEvent : ByteArray := prog_1_method_12_code
def yX4_everyEvent : MethodName := ⟨RX4, "everyEvent", "()I"⟩
abbrev cX4_at : ByteArray := prog_1_method_13_code
def yX4_at : MethodName := ⟨RX4, "at", "(III)I"⟩
abbrev cX4_home : ByteArray := prog_1_method_14_code
def yX4_home : MethodName := ⟨RX4, "home", "(I)I"⟩
abbrev cX4_lasted : ByteArray := prog_1_method_15_code
def yX4_lasted : MethodName := ⟨RX4, "lasted", "(II)I"⟩
abbrev cX4_won : ByteArray := prog_1_method_16_code
def yX4_won : MethodName := ⟨RX4, "won", "(I)I"⟩
abbrev cX4_winnerOf : ByteArray := prog_1_method_17_code
def yX4_winnerOf : MethodName := ⟨RX4, "winnerOf", "(LRelayRace$Race;I)I"⟩
abbrev cX4_changes : ByteArray := prog_1_method_18_code
def yX4_changes : MethodName := ⟨RX4, "changes", "()I"⟩
abbrev cX4_leader : ByteArray := prog_1_method_19_code
def yX4_leader : MethodName := ⟨RX4, "leader", "(I)I"⟩
abbrev cX4_momentsAhead : ByteArray := prog_1_method_20_code
def yX4_momentsAhead : MethodName := ⟨RX4, "momentsAhead", "(I)I"⟩
abbrev cX4_stood : ByteArray := prog_1_method_21_code
def yX4_stood : MethodName := ⟨RX4, "stood", "(I)I"⟩
abbrev cX4_order : ByteArray := prog_1_method_22_code
def yX4_order : MethodName := ⟨RX4, "order", "(II)I"⟩
abbrev cX4_findOrder : ByteArray := prog_1_method_23_code
def yX4_findOrder : MethodName := ⟨RX4, "findOrder", "(I)V"⟩
abbrev cX4_tryOrder : ByteArray := prog_1_method_24_code
def yX4_tryOrder : MethodName := ⟨RX4, "tryOrder", "(IIII)V"⟩
abbrev cX4_train : ByteArray := prog_1_method_25_code
def yX4_train : MethodName := ⟨RX4, "train", "(II)I"⟩
abbrev cX4_isSooner : ByteArray := prog_1_method_26_code
def yX4_isSooner : MethodName := ⟨RX4, "isSooner", "(II)Z"⟩
abbrev cX4_fit : ByteArray := prog_1_method_27_code
def yX4_fit : MethodName := ⟨RX4, "fit", "(I)I"⟩
abbrev cX4_spare : ByteArray := prog_1_method_28_code
def yX4_spare : MethodName := ⟨RX4, "spare", "(I)I"⟩
abbrev cX4_spared : ByteArray := prog_1_method_29_code
def yX4_spared : MethodName := ⟨RX4, "spared", "(IIII)I"⟩
abbrev cX4_prepareStandings : ByteArray := prog_1_method_30_code
def yX4_prepareStandings : MethodName := ⟨RX4, "prepareStandings", "()V"⟩
abbrev cX4_winnerWith : ByteArray := prog_1_method_31_code
def yX4_winnerWith : MethodName := ⟨RX4, "winnerWith", "(I)I"⟩
abbrev cX4_standingWith : ByteArray := prog_1_method_32_code
def yX4_standingWith : MethodName := ⟨RX4, "standingWith", "(II)I"⟩
abbrev cX4_eventsTouching : ByteArray := prog_1_method_33_code
def yX4_eventsTouching : MethodName := ⟨RX4, "eventsTouching", "(I)I"⟩
abbrev cX4_seen : ByteArray := prog_1_method_34_code
def yX4_seen : MethodName := ⟨RX4, "seen", "(III)I"⟩
abbrev cX4_forget : ByteArray := prog_1_method_35_code
def yX4_forget : MethodName := ⟨RX4, "forget", "()I"⟩
abbrev cX4_never : ByteArray := prog_1_method_36_code
def yX4_never : MethodName := ⟨RX4, "never", "()I"⟩
abbrev cX4_was : ByteArray := prog_1_method_37_code
def yX4_was : MethodName := ⟨RX4, "was", "(III)I"⟩
abbrev cX4_possiblePaces : ByteArray := prog_1_method_38_code
def yX4_possiblePaces : MethodName := ⟨RX4, "possiblePaces", "(II)I"⟩
abbrev cX4_possibleSorts : ByteArray := prog_1_method_39_code
def yX4_possibleSorts : MethodName := ⟨RX4, "possibleSorts", "(II)I"⟩
abbrev cX4_ask : ByteArray := prog_1_method_40_code
def yX4_ask : MethodName := ⟨RX4, "ask", "(II)I"⟩
abbrev cX4_countRanks : ByteArray := prog_1_method_41_code
def yX4_countRanks : MethodName := ⟨RX4, "countRanks", "(I)V"⟩
abbrev cX4_mostAlike : ByteArray := prog_1_method_42_code
def yX4_mostAlike : MethodName := ⟨RX4, "mostAlike", "(I)I"⟩
abbrev cX4_chance : ByteArray := prog_1_method_43_code
def yX4_chance : MethodName := ⟨RX4, "chance", "(III)J"⟩
abbrev cX4_sharedTwos : ByteArray := prog_1_method_44_code
def yX4_sharedTwos : MethodName := ⟨RX4, "sharedTwos", "(J)I"⟩
abbrev cX4_weight : ByteArray := prog_1_method_45_code
def yX4_weight : MethodName := ⟨RX4, "weight", "(II)J"⟩
abbrev cX4_years : ByteArray := prog_1_method_46_code
def yX4_years : MethodName := ⟨RX4, "years", "(III)I"⟩
abbrev cX4_drawEvents : ByteArray := prog_1_method_47_code
def yX4_drawEvents : MethodName := ⟨RX4, "drawEvents", "(II)V"⟩
abbrev cX4_nextSeed : ByteArray := prog_1_method_48_code
def yX4_nextSeed : MethodName := ⟨RX4, "nextSeed", "(I)I"⟩
abbrev cX4_sheet : ByteArray := prog_1_method_49_code
def yX4_sheet : MethodName := ⟨RX4, "sheet", "(III)I"⟩
abbrev cX4_lose : ByteArray := prog_1_method_50_code
def yX4_lose : MethodName := ⟨RX4, "lose", "(I)I"⟩
abbrev cX4_put : ByteArray := prog_1_method_51_code
def yX4_put : MethodName := ⟨RX4, "put", "(IIII)I"⟩
abbrev cX4_get : ByteArray := prog_1_method_52_code
def yX4_get : MethodName := ⟨RX4, "get", "(III)I"⟩
abbrev cX4_findingAt : ByteArray := prog_1_method_53_code
def yX4_findingAt : MethodName := ⟨RX4, "findingAt", "(LRelayRace$Sheet;II)I"⟩
abbrev cX4_copy : ByteArray := prog_1_method_54_code
def yX4_copy : MethodName := ⟨RX4, "copy", "(IIIII)I"⟩
abbrev cX4_write : ByteArray := prog_1_method_55_code
def yX4_write : MethodName := ⟨RX4, "write", "(II)I"⟩
abbrev cX4_count : ByteArray := prog_1_method_56_code
def yX4_count : MethodName := ⟨RX4, "count", "(I)I"⟩
abbrev cX4_teamsHome : ByteArray := prog_1_method_57_code
def yX4_teamsHome : MethodName := ⟨RX4, "teamsHome", "()I"⟩
abbrev cX4_metresTogether : ByteArray := prog_1_method_58_code
def yX4_metresTogether : MethodName := ⟨RX4, "metresTogether", "()I"⟩
abbrev cX4_digest : ByteArray := prog_1_method_59_code
def yX4_digest : MethodName := ⟨RX4, "digest", "()J"⟩
abbrev cX4_digestMoments : ByteArray := prog_1_method_60_code
def yX4_digestMoments : MethodName := ⟨RX4, "digestMoments", "(JI)J"⟩
abbrev cX4_digestLegs : ByteArray := prog_1_method_61_code
def yX4_digestLegs : MethodName := ⟨RX4, "digestLegs", "(JI)J"⟩
abbrev cX4_digestPlans : ByteArray := prog_1_method_62_code
def yX4_digestPlans : MethodName := ⟨RX4, "digestPlans", "(JI)J"⟩
abbrev cX4_isTeam : ByteArray := prog_1_method_63_code
def yX4_isTeam : MethodName := ⟨RX4, "isTeam", "(I)Z"⟩
abbrev cX4_isLeg : ByteArray := prog_1_method_64_code
def yX4_isLeg : MethodName := ⟨RX4, "isLeg", "(I)Z"⟩
abbrev cX4_isMoment : ByteArray := prog_1_method_65_code
def yX4_isMoment : MethodName := ⟨RX4, "isMoment", "(I)Z"⟩
abbrev cX4_isNumber : ByteArray := prog_1_method_66_code
def yX4_isNumber : MethodName := ⟨RX4, "isNumber", "(I)Z"⟩
abbrev cX4_isEvent : ByteArray := prog_1_method_67_code
def yX4_isEvent : MethodName := ⟨RX4, "isEvent", "(III)Z"⟩
abbrev cX4_isEither : ByteArray := prog_1_method_68_code
def yX4_isEither : MethodName := ⟨RX4, "isEither", "(I)Z"⟩
abbrev cX4_isSheet : ByteArray := prog_1_method_69_code
def yX4_isSheet : MethodName := ⟨RX4, "isSheet", "(I)Z"⟩
abbrev cX4_isForm : ByteArray := prog_1_method_70_code
def yX4_isForm : MethodName := ⟨RX4, "isForm", "(I)Z"⟩
abbrev cX4_found : ByteArray := prog_1_method_71_code
def yX4_found : MethodName := ⟨RX4, "found", "(I)I"⟩
def RX5 : String := "RelayRaceModel"
def TX5 : u_T := fun k => match k with
  | 0 => ("RelayRaceModel", "typed", "I", false)
  | 1 => ("RelayRaceModel", "bytes", "[I", true)
  | 2 => ("RelayRaceModel", "teams", "I", false)
  | 3 => ("RelayRaceModel", "sorts", "[I", true)
  | 4 => ("RelayRaceModel", "paces", "[I", true)
  | 5 => ("RelayRaceModel", "longTold", "I", false)
  | 6 => ("RelayRaceModel", "events", "I", false)
  | 7 => ("RelayRaceModel", "eventKind", "[I", true)
  | 8 => ("RelayRaceModel", "eventAt", "[I", true)
  | 9 => ("RelayRaceModel", "eventNumber", "[I", true)
  | 10 => ("RelayRaceModel", "longNow", "I", false)
  | 11 => ("RelayRaceModel", "eventsNow", "I", false)
  | 12 => ("RelayRaceModel", "kindNow", "[I", true)
  | 13 => ("RelayRaceModel", "whenNow", "[I", true)
  | 14 => ("RelayRaceModel", "numberNow", "[I", true)
  | 15 => ("RelayRaceModel", "notEvents", "I", false)
  | 16 => ("RelayRaceModel", "runs4", "[I", true)
  | 17 => ("RelayRaceModel", "metres", "[I", true)
  | 18 => ("RelayRaceModel", "legNow", "[I", true)
  | 19 => ("RelayRaceModel", "ownMoments", "[I", true)
  | 20 => ("RelayRaceModel", "homeAt", "[I", true)
  | 21 => ("RelayRaceModel", "stoodNow", "[I", true)
  | 22 => ("RelayRaceModel", "lastedNow", "[I", true)
  | 23 => ("RelayRaceModel", "metresAt", "[I", true)
  | 24 => ("RelayRaceModel", "legAt", "[I", true)
  | 25 => ("RelayRaceModel", "rankAt", "[I", true)
  | 26 => ("RelayRaceModel", "planRow", "[I", true)
  | 27 => ("RelayRaceModel", "seens", "I", false)
  | 28 => ("RelayRaceModel", "seenAt", "[I", true)
  | 29 => ("RelayRaceModel", "seenTeam", "[I", true)
  | 30 => ("RelayRaceModel", "seenRank", "[I", true)
  | 31 => ("RelayRaceModel", "ranksBy", "[I", true)
  | 32 => ("RelayRaceModel", "isThere", "[Z", true)
  | 33 => ("RelayRaceModel", "forms", "[I", true)
  | 34 => ("RelayRaceModel", "sizes", "[I", true)
  | 35 => ("RelayRaceModel", "items", "[I", true)
  | 36 => ("RelayRaceModel", "moved", "[I", true)
  | _ => ("RelayRaceModel", "finding", "I", false)
def tyX5 : Nat → FieldType := fun k => match k with
  | 0 => .int
  | 1 => .array .int
  | 2 => .int
  | 3 => .array .int
  | 4 => .array .int
  | 5 => .int
  | 6 => .int
  | 7 => .array .int
  | 8 => .array .int
  | 9 => .array .int
  | 10 => .int
  | 11 => .int
  | 12 => .array .int
  | 13 => .array .int
  | 14 => .array .int
  | 15 => .int
  | 16 => .array .int
  | 17 => .array .int
  | 18 => .array .int
  | 19 => .array .int
  | 20 => .array .int
  | 21 => .array .int
  | 22 => .array .int
  | 23 => .array .int
  | 24 => .array .int
  | 25 => .array .int
  | 26 => .array .int
  | 27 => .int
  | 28 => .array .int
  | 29 => .array .int
  | 30 => .array .int
  | 31 => .array .int
  | 32 => .array .boolean
  | 33 => .array .int
  | 34 => .array .int
  | 35 => .array .int
  | 36 => .array .int
  | _ => .int
theorem nmX5 : ∀ a, a < 38 → ∀ b, b < 38 → a ≠ b → (TX5 a).2.1 ≠ (TX5 b).2.1 := by decide +kernel
theorem tyX5_ok : ∀ k, k < 38 → parseFieldDescriptor (TX5 k).2.2.1 = some (tyX5 k) := by decide +kernel
abbrev cX5_init : ByteArray := prog_7_method_1_code
def yX5_init : MethodName := ⟨RX5, "<init>", "()V"⟩
abbrev cX5_in : ByteArray := prog_7_method_3_code
def yX5_in : MethodName := ⟨RX5, "in", "(III)Z"⟩
abbrev cX5_isIn : ByteArray := prog_7_method_4_code
def yX5_isIn : MethodName := ⟨RX5, "isIn", "(II)Z"⟩
abbrev cX5_no : ByteArray := prog_7_method_5_code
def yX5_no : MethodName := ⟨RX5, "no", "(I)J"⟩
abbrev cX5_lowest : ByteArray := prog_7_method_6_code
def yX5_lowest : MethodName := ⟨RX5, "lowest", "(JJI)J"⟩
abbrev cX5_isMoment : ByteArray := prog_7_method_7_code
def yX5_isMoment : MethodName := ⟨RX5, "isMoment", "(I)Z"⟩
abbrev cX5_isFour : ByteArray := prog_7_method_8_code
def yX5_isFour : MethodName := ⟨RX5, "isFour", "(I)Z"⟩
abbrev cX5_isTwo : ByteArray := prog_7_method_9_code
def yX5_isTwo : MethodName := ⟨RX5, "isTwo", "(I)Z"⟩
abbrev cX5_isThree : ByteArray := prog_7_method_10_code
def yX5_isThree : MethodName := ⟨RX5, "isThree", "(I)Z"⟩
abbrev cX5_type : ByteArray := prog_7_method_11_code
def yX5_type : MethodName := ⟨RX5, "type", "(I)I"⟩
abbrev cX5_wipe : ByteArray := prog_7_method_12_code
def yX5_wipe : MethodName := ⟨RX5, "wipe", "()I"⟩
abbrev cX5_undo : ByteArray := prog_7_method_13_code
def yX5_undo : MethodName := ⟨RX5, "undo", "()I"⟩
abbrev cX5_byteAt : ByteArray := prog_7_method_14_code
def yX5_byteAt : MethodName := ⟨RX5, "byteAt", "(I)I"⟩
abbrev cX5_readsRunner : ByteArray := prog_7_method_15_code
def yX5_readsRunner : MethodName := ⟨RX5, "readsRunner", "(II)I"⟩
abbrev cX5_readsTeam : ByteArray := prog_7_method_16_code
def yX5_readsTeam : MethodName := ⟨RX5, "readsTeam", "(II)I"⟩
abbrev cX5_faultOf : ByteArray := prog_7_method_17_code
def yX5_faultOf : MethodName := ⟨RX5, "faultOf", "()I"⟩
abbrev cX5_reads : ByteArray := prog_7_method_18_code
def yX5_reads : MethodName := ⟨RX5, "reads", "()V"⟩
abbrev cX5_fault : ByteArray := prog_7_method_19_code
def yX5_fault : MethodName := ⟨RX5, "fault", "()I"⟩
abbrev cX5_isTeam : ByteArray := prog_7_method_20_code
def yX5_isTeam : MethodName := ⟨RX5, "isTeam", "(I)Z"⟩
abbrev cX5_runnerOf : ByteArray := prog_7_method_21_code
def yX5_runnerOf : MethodName := ⟨RX5, "runnerOf", "(III)I"⟩
abbrev cX5_runner : ByteArray := prog_7_method_22_code
def yX5_runner : MethodName := ⟨RX5, "runner", "(III)I"⟩
abbrev cX5_along : ByteArray := prog_7_method_23_code
def yX5_along : MethodName := ⟨RX5, "along", "(I)I"⟩
abbrev cX5_event : ByteArray := prog_7_method_24_code
def yX5_event : MethodName := ⟨RX5, "event", "(III)I"⟩
abbrev cX5_back : ByteArray := prog_7_method_25_code
def yX5_back : MethodName := ⟨RX5, "back", "()I"⟩
abbrev cX5_read : ByteArray := prog_7_method_26_code
def yX5_read : MethodName := ⟨RX5, "read", "(I)I"⟩
abbrev cX5_asTold : ByteArray := prog_7_method_27_code
def yX5_asTold : MethodName := ⟨RX5, "asTold", "()V"⟩
abbrev cX5_isRain : ByteArray := prog_7_method_28_code
def yX5_isRain : MethodName := ⟨RX5, "isRain", "(I)Z"⟩
abbrev cX5_stands : ByteArray := prog_7_method_29_code
def yX5_stands : MethodName := ⟨RX5, "stands", "(II)Z"⟩
abbrev cX5_stride : ByteArray := prog_7_method_30_code
def yX5_stride : MethodName := ⟨RX5, "stride", "(IIZ)I"⟩
abbrev cX5_goes : ByteArray := prog_7_method_31_code
def yX5_goes : MethodName := ⟨RX5, "goes", "(IIZ)V"⟩
abbrev cX5_isAhead : ByteArray := prog_7_method_32_code
def yX5_isAhead : MethodName := ⟨RX5, "isAhead", "(II)Z"⟩
abbrev cX5_goesBy : ByteArray := prog_7_method_33_code
def yX5_goesBy : MethodName := ⟨RX5, "goesBy", "(I)V"⟩
abbrev cX5_runs : ByteArray := prog_7_method_34_code
def yX5_runs : MethodName := ⟨RX5, "runs", "()V"⟩
abbrev cX5_runsTold : ByteArray := prog_7_method_35_code
def yX5_runsTold : MethodName := ⟨RX5, "runsTold", "()V"⟩
abbrev cX5_atOf : ByteArray := prog_7_method_36_code
def yX5_atOf : MethodName := ⟨RX5, "atOf", "(III)I"⟩
abbrev cX5_at : ByteArray := prog_7_method_37_code
def yX5_at : MethodName := ⟨RX5, "at", "(III)I"⟩
abbrev cX5_homeOf : ByteArray := prog_7_method_38_code
def yX5_homeOf : MethodName := ⟨RX5, "homeOf", "(I)I"⟩
abbrev cX5_home : ByteArray := prog_7_method_39_code
def yX5_home : MethodName := ⟨RX5, "home", "(I)I"⟩
abbrev cX5_lastedOf : ByteArray := prog_7_method_40_code
def yX5_lastedOf : MethodName := ⟨RX5, "lastedOf", "(II)I"⟩
abbrev cX5_lasted : ByteArray := prog_7_method_41_code
def yX5_lasted : MethodName := ⟨RX5, "lasted", "(II)I"⟩
abbrev cX5_wonNow : ByteArray := prog_7_method_42_code
def yX5_wonNow : MethodName := ⟨RX5, "wonNow", "()I"⟩
abbrev cX5_wonBy : ByteArray := prog_7_method_43_code
def yX5_wonBy : MethodName := ⟨RX5, "wonBy", "(I)I"⟩
abbrev cX5_wonOf : ByteArray := prog_7_method_44_code
def yX5_wonOf : MethodName := ⟨RX5, "wonOf", "(I)I"⟩
abbrev cX5_won : ByteArray := prog_7_method_45_code
def yX5_won : MethodName := ⟨RX5, "won", "(I)I"⟩
abbrev cX5_firstAt : ByteArray := prog_7_method_46_code
def yX5_firstAt : MethodName := ⟨RX5, "firstAt", "(I)I"⟩
abbrev cX5_changesOf : ByteArray := prog_7_method_47_code
def yX5_changesOf : MethodName := ⟨RX5, "changesOf", "()I"⟩
abbrev cX5_changes : ByteArray := prog_7_method_48_code
def yX5_changes : MethodName := ⟨RX5, "changes", "()I"⟩
abbrev cX5_leaderOf : ByteArray := prog_7_method_49_code
def yX5_leaderOf : MethodName := ⟨RX5, "leaderOf", "(I)I"⟩
abbrev cX5_leader : ByteArray := prog_7_method_50_code
def yX5_leader : MethodName := ⟨RX5, "leader", "(I)I"⟩
abbrev cX5_stoodOf : ByteArray := prog_7_method_51_code
def yX5_stoodOf : MethodName := ⟨RX5, "stoodOf", "(I)I"⟩
abbrev cX5_stood : ByteArray := prog_7_method_52_code
def yX5_stood : MethodName := ⟨RX5, "stood", "(I)I"⟩
abbrev cX5_puts : ByteArray := prog_7_method_53_code
def yX5_puts : MethodName := ⟨RX5, "puts", "(II)V"⟩
abbrev cX5_isRow : ByteArray := prog_7_method_54_code
def yX5_isRow : MethodName := ⟨RX5, "isRow", "(I)Z"⟩
abbrev cX5_orderOf : ByteArray := prog_7_method_55_code
def yX5_orderOf : MethodName := ⟨RX5, "orderOf", "(II)I"⟩
abbrev cX5_order : ByteArray := prog_7_method_56_code
def yX5_order : MethodName := ⟨RX5, "order", "(II)I"⟩
abbrev cX5_trainOf : ByteArray := prog_7_method_57_code
def yX5_trainOf : MethodName := ⟨RX5, "trainOf", "(II)I"⟩
abbrev cX5_train : ByteArray := prog_7_method_58_code
def yX5_train : MethodName := ⟨RX5, "train", "(II)I"⟩
abbrev cX5_fitOf : ByteArray := prog_7_method_59_code
def yX5_fitOf : MethodName := ⟨RX5, "fitOf", "(I)I"⟩
abbrev cX5_fit : ByteArray := prog_7_method_60_code
def yX5_fit : MethodName := ⟨RX5, "fit", "(I)I"⟩
abbrev cX5_isSpared : ByteArray := prog_7_method_61_code
def yX5_isSpared : MethodName := ⟨RX5, "isSpared", "(I)Z"⟩
abbrev cX5_spareBy : ByteArray := prog_7_method_62_code
def yX5_spareBy : MethodName := ⟨RX5, "spareBy", "()I"⟩
abbrev cX5_ofRow : ByteArray := prog_7_method_63_code
def yX5_ofRow : MethodName := ⟨RX5, "ofRow", "(II)I"⟩
abbrev cX5_spare : ByteArray := prog_7_method_64_code
def yX5_spare : MethodName := ⟨RX5, "spare", "(I)I"⟩
abbrev cX5_seen : ByteArray := prog_7_method_65_code
def yX5_seen : MethodName := ⟨RX5, "seen", "(III)I"⟩
abbrev cX5_forget : ByteArray := prog_7_method_66_code
def yX5_forget : MethodName := ⟨RX5, "forget", "()I"⟩
abbrev cX5_isSeen : ByteArray := prog_7_method_67_code
def yX5_isSeen : MethodName := ⟨RX5, "isSeen", "()Z"⟩
abbrev cX5_neverNow : ByteArray := prog_7_method_68_code
def yX5_neverNow : MethodName := ⟨RX5, "neverNow", "()I"⟩
abbrev cX5_never : ByteArray := prog_7_method_69_code
def yX5_never : MethodName := ⟨RX5, "never", "()I"⟩
abbrev cX5_pacesBy : ByteArray := prog_7_method_70_code
def yX5_pacesBy : MethodName := ⟨RX5, "pacesBy", "(I)I"⟩
abbrev cX5_sortsBy : ByteArray := prog_7_method_71_code
def yX5_sortsBy : MethodName := ⟨RX5, "sortsBy", "(I)I"⟩
abbrev cX5_was : ByteArray := prog_7_method_72_code
def yX5_was : MethodName := ⟨RX5, "was", "(III)I"⟩
abbrev cX5_askOf : ByteArray := prog_7_method_73_code
def yX5_askOf : MethodName := ⟨RX5, "askOf", "(I)I"⟩
abbrev cX5_ask : ByteArray := prog_7_method_74_code
def yX5_ask : MethodName := ⟨RX5, "ask", "(II)I"⟩
abbrev cX5_chanceOf : ByteArray := prog_7_method_75_code
def yX5_chanceOf : MethodName := ⟨RX5, "chanceOf", "(III)J"⟩
abbrev cX5_chance : ByteArray := prog_7_method_76_code
def yX5_chance : MethodName := ⟨RX5, "chance", "(III)J"⟩
abbrev cX5_yearsOf : ByteArray := prog_7_method_77_code
def yX5_yearsOf : MethodName := ⟨RX5, "yearsOf", "(III)I"⟩
abbrev cX5_years : ByteArray := prog_7_method_78_code
def yX5_years : MethodName := ⟨RX5, "years", "(III)I"⟩
abbrev cX5_meets : ByteArray := prog_7_method_79_code
def yX5_meets : MethodName := ⟨RX5, "meets", "(I)I"⟩
abbrev cX5_isSheet : ByteArray := prog_7_method_80_code
def yX5_isSheet : MethodName := ⟨RX5, "isSheet", "(I)Z"⟩
abbrev cX5_sheet : ByteArray := prog_7_method_81_code
def yX5_sheet : MethodName := ⟨RX5, "sheet", "(III)I"⟩
abbrev cX5_lose : ByteArray := prog_7_method_82_code
def yX5_lose : MethodName := ⟨RX5, "lose", "(I)I"⟩
abbrev cX5_lacks : ByteArray := prog_7_method_83_code
def yX5_lacks : MethodName := ⟨RX5, "lacks", "(III)I"⟩
abbrev cX5_keep : ByteArray := prog_7_method_84_code
def yX5_keep : MethodName := ⟨RX5, "keep", "(III)V"⟩
abbrev cX5_put : ByteArray := prog_7_method_85_code
def yX5_put : MethodName := ⟨RX5, "put", "(IIII)I"⟩
abbrev cX5_get : ByteArray := prog_7_method_86_code
def yX5_get : MethodName := ⟨RX5, "get", "(III)I"⟩
abbrev cX5_copy : ByteArray := prog_7_method_87_code
def yX5_copy : MethodName := ⟨RX5, "copy", "(IIIII)I"⟩
abbrev cX5_write : ByteArray := prog_7_method_88_code
def yX5_write : MethodName := ⟨RX5, "write", "(II)I"⟩
abbrev cX5_homesOf : ByteArray := prog_7_method_89_code
def yX5_homesOf : MethodName := ⟨RX5, "homesOf", "()I"⟩
abbrev cX5_allMetres : ByteArray := prog_7_method_90_code
def yX5_allMetres : MethodName := ⟨RX5, "allMetres", "()I"⟩
abbrev cX5_teamsOf : ByteArray := prog_7_method_91_code
def yX5_teamsOf : MethodName := ⟨RX5, "teamsOf", "()I"⟩
abbrev cX5_count : ByteArray := prog_7_method_92_code
def yX5_count : MethodName := ⟨RX5, "count", "(I)I"⟩
abbrev cX5_atDigest : ByteArray := prog_7_method_93_code
def yX5_atDigest : MethodName := ⟨RX5, "atDigest", "(JII)J"⟩
abbrev cX5_legDigest : ByteArray := prog_7_method_94_code
def yX5_legDigest : MethodName := ⟨RX5, "legDigest", "(JII)J"⟩
abbrev cX5_teamDigest : ByteArray := prog_7_method_95_code
def yX5_teamDigest : MethodName := ⟨RX5, "teamDigest", "(JI)J"⟩
abbrev cX5_digest : ByteArray := prog_7_method_96_code
def yX5_digest : MethodName := ⟨RX5, "digest", "()J"⟩
def RJ6 : String := "java/lang/Integer"
def TJ6 : u_T := fun k => match k with
  | _ => ("", "", "", false)
def tyJ6 : Nat → FieldType := fun k => match k with
  | _ => .int
theorem nmJ6 : ∀ a, a < 0 → ∀ b, b < 0 → a ≠ b → (TJ6 a).2.1 ≠ (TJ6 b).2.1 := by decide +kernel
theorem tyJ6_ok : ∀ k, k < 0 → parseFieldDescriptor (TJ6 k).2.2.1 = some (tyJ6 k) := by decide +kernel
abbrev cJ6_bitCount_0f7a4 : ByteArray := prog_8_method_49_code
def yJ6_bitCount_0f7a4 : MethodName := ⟨RJ6, "bitCount", "(I)I"⟩
def RJ13 : String := "java/lang/Long"
def TJ13 : u_T := fun k => match k with
  | _ => ("", "", "", false)
def tyJ13 : Nat → FieldType := fun k => match k with
  | _ => .int
theorem nmJ13 : ∀ a, a < 0 → ∀ b, b < 0 → a ≠ b → (TJ13 a).2.1 ≠ (TJ13 b).2.1 := by decide +kernel
theorem tyJ13_ok : ∀ k, k < 0 → parseFieldDescriptor (TJ13 k).2.2.1 = some (tyJ13 k) := by decide +kernel
abbrev cJ13_bitCount_95d88 : ByteArray := prog_9_method_50_code
def yJ13_bitCount_95d88 : MethodName := ⟨RJ13, "bitCount", "(J)I"⟩
def RJ9 : String := "java/lang/Math"
def TJ9 : u_T := fun k => match k with
  | _ => ("", "", "", false)
def tyJ9 : Nat → FieldType := fun k => match k with
  | _ => .int
theorem nmJ9 : ∀ a, a < 0 → ∀ b, b < 0 → a ≠ b → (TJ9 a).2.1 ≠ (TJ9 b).2.1 := by decide +kernel
theorem tyJ9_ok : ∀ k, k < 0 → parseFieldDescriptor (TJ9 k).2.2.1 = some (tyJ9 k) := by decide +kernel
abbrev cJ9_max_7cf53 : ByteArray := prog_10_method_65_code
def yJ9_max_7cf53 : MethodName := ⟨RJ9, "max", "(II)I"⟩
abbrev cJ9_min_7cf53 : ByteArray := prog_10_method_69_code
def yJ9_min_7cf53 : MethodName := ⟨RJ9, "min", "(II)I"⟩
def RJ10 : String := "java/lang/System"
def TJ10 : u_T := fun k => match k with
  | _ => ("", "", "", false)
def tyJ10 : Nat → FieldType := fun k => match k with
  | _ => .int
theorem nmJ10 : ∀ a, a < 0 → ∀ b, b < 0 → a ≠ b → (TJ10 a).2.1 ≠ (TJ10 b).2.1 := by decide +kernel
theorem tyJ10_ok : ∀ k, k < 0 → parseFieldDescriptor (TJ10 k).2.2.1 = some (tyJ10 k) := by decide +kernel
def RJ7 : String := "java/util/Arrays"
def TJ7 : u_T := fun k => match k with
  | _ => ("", "", "", false)
def tyJ7 : Nat → FieldType := fun k => match k with
  | _ => .int
theorem nmJ7 : ∀ a, a < 0 → ∀ b, b < 0 → a ≠ b → (TJ7 a).2.1 ≠ (TJ7 b).2.1 := by decide +kernel
theorem tyJ7_ok : ∀ k, k < 0 → parseFieldDescriptor (TJ7 k).2.2.1 = some (tyJ7 k) := by decide +kernel
abbrev cJ7_rangeCheck_23922 : ByteArray := prog_12_method_30_code
def yJ7_rangeCheck_23922 : MethodName := ⟨RJ7, "rangeCheck", "(III)V"⟩
abbrev cJ7_fill_d0a16 : ByteArray := prog_12_method_101_code
def yJ7_fill_d0a16 : MethodName := ⟨RJ7, "fill", "([JJ)V"⟩
abbrev cJ7_fill_53178 : ByteArray := prog_12_method_103_code
def yJ7_fill_53178 : MethodName := ⟨RJ7, "fill", "([II)V"⟩
abbrev cJ7_fill_fda19 : ByteArray := prog_12_method_104_code
def yJ7_fill_fda19 : MethodName := ⟨RJ7, "fill", "([IIII)V"⟩
def RL : String := "RelayRaceLaw"
end
section
/-! THE ABSTRACT MACHINE. Values: an int, a long (mathematical numbers), a place (a cell by its number), nothing known. The world: the number in each slot of each place; which place is what never changes once both objects are made. A block of instructions is read as what it takes that it goes well (ab_wp, ab_wb); Ev is the least such reading of a body with its jumps; Sm (later part) of methods by their number, calls inside calls at most d deep. -/
abbrev ab_V : Type := Int ⊕ (Int ⊕ Option Nat)
abbrev ab_W : Type := Nat → Nat → Int
abbrev ab_I : Type := Instr × List Nat × Int
abbrev vI (x : Int) : ab_V := Sum.inl x
abbrev vL (x : Int) : ab_V := Sum.inr (Sum.inl x)
abbrev vR (p : Nat) : ab_V := Sum.inr (Sum.inr (some p))
abbrev vX : ab_V := Sum.inr (Sum.inr none)
def ab_r32 (x : Int) : Prop := -2147483648 ≤ x ∧ x < 2147483648
def ab_r64 (x : Int) : Prop := -9223372036854775808 ≤ x ∧ x < 9223372036854775808
/-- the shape of a place: an object (its class's number; of each field nothing, or the place that it names for ever), or an array (0 int, 1 long, 2 boolean, 3 references; its length; the places that it names) -/
abbrev ab_Sh : Type := (Nat × List (Option Nat)) ⊕ (Nat × Nat × List Nat)
abbrev shA (n : Nat) : ab_Sh := .inr (0, n, [])
def ab_shp : List ab_Sh := [
  .inl (4, [some 1, some 3, some 7, some 11, some 15, some 21, some 27, none, some 28, some 29, some 30, none, none]),
  .inl (2, [some 2, none]), shA 35,
  .inl (3, [some 4, some 5, some 6, none]), shA 8, shA 8, shA 8,
  .inl (3, [some 8, some 9, some 10, none]), shA 8, shA 8, shA 8,
  .inl (3, [some 12, some 13, some 14, none]), shA 8, shA 8, shA 8,
  .inl (0, [some 16, some 17, some 18, some 19, some 20, none, none, none]), shA 16, shA 16, .inr (1, 4, []), shA 192, shA 16,
  .inl (0, [some 22, some 23, some 24, some 25, some 26, none, none, none]), shA 16, shA 16, .inr (1, 4, []), shA 192, shA 16,
  shA 1024, shA 5, shA 192, .inr (3, 4, [31, 33, 35, 37]),
  .inl (1, [some 32, none, none, none]), shA 60, .inl (1, [some 34, none, none, none]), shA 60, .inl (1, [some 36, none, none, none]), shA 60, .inl (1, [some 38, none, none, none]), shA 60,
  .inl (5, [none, some 40, none, some 41, some 42, none, none, some 43, some 44, some 45, none, none, some 46, some 47, some 48, none, some 49, some 50, some 51, some 52, some 53, some 54, some 55, some 56, some 57, some 58, some 59, none, some 60, some 61, some 62, some 63, some 64, some 65, some 66, some 67, some 68, none]),
  shA 35, shA 20, shA 20, shA 8, shA 8, shA 8, shA 8, shA 8, shA 8, shA 16, shA 4, shA 4, shA 4, shA 4, shA 4, shA 16, shA 192, shA 192, shA 192, shA 2, shA 8, shA 8, shA 8, shA 480, .inr (2, 4, []), shA 4, shA 4, shA 240, shA 60]
/-- the field k of the object at a place of class ci: nothing but a number, or a place -/
def ab_fld (ci p k : Nat) : Option (Option Nat) := match ab_shp[p]? with
  | some (.inl (c, fs)) => if c = ci then fs[k]? else none
  | _ => none
def ab_ci (p : Nat) : Option Nat := match ab_shp[p]? with
  | some (.inl (c, _)) => some c
  | _ => none
/-- an array of a kind: its length -/
def ab_arr (kd p : Nat) : Option Nat := match ab_shp[p]? with
  | some (.inr (k, n, _)) => if k = kd then some n else none
  | _ => none
def ab_refs (p : Nat) : Option (List Nat) := match ab_shp[p]? with
  | some (.inr (3, _, rs)) => some rs
  | _ => none
/-- arrays that nobody writes: 100 the moments of the digest, 101 the script -/
def ab_ro (Ls p : Nat) : Option Nat := if p = 100 then some 5 else if p = 101 then some Ls else none
def ab_len (Ls p : Nat) : Option Nat := match ab_shp[p]? with
  | some (.inr (_, n, _)) => some n
  | _ => ab_ro Ls p
def ab_ild (Ls p : Nat) : Option Nat := match ab_arr 0 p with
  | some n => some n
  | none => ab_ro Ls p
-- numbers
def iW (x : Int) : Int := Int.bmod x 4294967296
def lW (x : Int) : Int := Int.bmod x 18446744073709551616
def i_div (x y : Int) : Int := (Int32.ofInt x / Int32.ofInt y).toInt
def i_rem (x y : Int) : Int := (Int32.ofInt x - Int32.ofInt x / Int32.ofInt y * Int32.ofInt y).toInt
def l_div (x y : Int) : Int := (Int64.ofInt x / Int64.ofInt y).toInt
def l_rem (x y : Int) : Int := (Int64.ofInt x - Int64.ofInt x / Int64.ofInt y * Int64.ofInt y).toInt
def i_and (x y : Int) : Int := (Int32.ofInt x &&& Int32.ofInt y).toInt
def i_or (x y : Int) : Int := (Int32.ofInt x ||| Int32.ofInt y).toInt
def i_xor (x y : Int) : Int := (Int32.ofInt x ^^^ Int32.ofInt y).toInt
def i_shl (x y : Int) : Int := (Int32.ofInt x <<< (Int32.ofInt y &&& 31)).toInt
def i_shr (x y : Int) : Int := (Int32.ofInt x >>> (Int32.ofInt y &&& 31)).toInt
def i_ushr (x y : Int) : Int := ((Int32.ofInt x).toUInt32 >>> ((Int32.ofInt y).toUInt32 &&& Int32.toUInt32 31)).toInt32.toInt
def l_and (x y : Int) : Int := (Int64.ofInt x &&& Int64.ofInt y).toInt
def l_or (x y : Int) : Int := (Int64.ofInt x ||| Int64.ofInt y).toInt
def l_shl (x y : Int) : Int := (Int64.ofInt x <<< ((Int32.ofInt y).toInt64 &&& 63)).toInt
def l_shr (x y : Int) : Int := (Int64.ofInt x >>> ((Int32.ofInt y).toInt64 &&& 63)).toInt
def l_ushr (x y : Int) : Int := ((Int64.ofInt x).toUInt64 >>> ((Int32.ofInt y).toInt64.toUInt64 &&& Int64.toUInt64 63)).toInt64.toInt
def i_2b (x : Int) : Int := (Int32.ofInt x).toInt8.toInt32.toInt
def i_2s (x : Int) : Int := (Int32.ofInt x).toInt16.toInt32.toInt
def l_cmp (x y : Int) : Int := if y < x then 1 else if x = y then 0 else -1
def ab_cH (c : ClassFile.Cond) (x y : Int) : Prop := match c with
  | .eq => x = y
  | .ne => ¬ x = y
  | .lt => x < y
  | .ge => y ≤ x
  | .gt => y < x
  | .le => x ≤ y
-- the world
def ab_up (w : ab_W) (p i : Nat) (v : Int) : ab_W := fun q j => if q = p then (if j = i then v else w q j) else w q j
def ab_cp (w : ab_W) (p q sp dp n : Nat) : ab_W := fun r j => if r = q then (if dp ≤ j ∧ j < dp + n then w p (sp + (j - dp)) else w q j) else w r j
-- locals
def ab_kl (x : ab_V) (n : Nat) : ab_V := match n with
  | 0 => (match x with | .inr (.inl _) => vX | x => x)
  | _ + 1 => x
def ab_st : List ab_V → Nat → ab_V → List ab_V
  | [], _, _ => []
  | _ :: L, 0, v => v :: L
  | x :: L, n + 1, v => ab_kl x n :: ab_st L n v
def ab_stl (L : List ab_V) (n : Nat) (v : ab_V) : List ab_V := ab_st (ab_st L (n + 1) vX) n v
def ab_gI (L : List ab_V) (n : Nat) (f : Int → Prop) : Prop := match L[n]? with
  | some (.inl x) => f x
  | _ => False
def ab_gL (L : List ab_V) (n : Nat) (f : Int → Prop) : Prop := match L[n]? with
  | some (.inr (.inl x)) => f x
  | _ => False
def ab_gR (L : List ab_V) (n : Nat) (f : Nat → Prop) : Prop := match L[n]? with
  | some (.inr (.inr (some p))) => f p
  | _ => False
-- the stack
def ab_pI (S : List ab_V) (f : Int → List ab_V → Prop) : Prop := match S with
  | .inl x :: S => f x S
  | _ => False
def ab_pL (S : List ab_V) (f : Int → List ab_V → Prop) : Prop := match S with
  | .inr (.inl x) :: S => f x S
  | _ => False
def ab_pR (S : List ab_V) (f : Nat → List ab_V → Prop) : Prop := match S with
  | .inr (.inr (some p)) :: S => f p S
  | _ => False
def ab_pII (S : List ab_V) (f : Int → Int → List ab_V → Prop) : Prop := match S with
  | .inl y :: .inl x :: S => f x y S
  | _ => False
def ab_pLL (S : List ab_V) (f : Int → Int → List ab_V → Prop) : Prop := match S with
  | .inr (.inl y) :: .inr (.inl x) :: S => f x y S
  | _ => False
def ab_pIL (S : List ab_V) (f : Int → Int → List ab_V → Prop) : Prop := match S with
  | .inl y :: .inr (.inl x) :: S => f x y S
  | _ => False
/-- an index above an array -/
def ab_pIR (S : List ab_V) (f : Nat → Int → List ab_V → Prop) : Prop := match S with
  | .inl i :: .inr (.inr (some p)) :: S => f p i S
  | _ => False
def ab_few (S : List ab_V) : Prop := match S with
  | [] => True
  | [_] => True
  | [_, _] => True
  | [_, _, _] => True
  | [_, _, _, _] => True
  | _ => False
def ab_tk : Nat → List ab_V → List ab_V → Option (List ab_V × List ab_V)
  | 0, acc, S => some (acc, S)
  | n + 1, acc, v :: S => ab_tk n (v :: acc) S
  | _ + 1, _, [] => none
def ab_rp (r : Option ab_V) (S : List ab_V) : List ab_V := match r with
  | none => S
  | some v => v :: S
def ab_rc (as : List ab_V) (ci : Nat) : Prop := match as with
  | .inr (.inr (some p)) :: _ => ab_ci p = some ci
  | _ => False
def ab_bool (x : Int) : Prop := x = 0 ∨ x = 1
section AbWp
variable (Ls : Nat) (C : Nat → List ab_V → ab_W → (Option ab_V → ab_W → Prop) → Prop) (J : Nat → List ab_V → List ab_V → ab_W → Prop) (Rt : Option ab_V → ab_W → Prop)
def ab_call (ex : List Nat) (S : List ab_V) (w : ab_W) (virt : Bool) (K : List ab_V → ab_W → Prop) : Prop := match ex with
  | [m, n, ci] => (match ab_tk n [] S with
    | some (as, S') => (virt = true → ab_rc as ci) ∧ ab_few S' ∧ C m as w (fun r w' => K (ab_rp r S') w')
    | none => False)
  | _ => False
def ab_copy (S : List ab_V) (w : ab_W) (K : List ab_V → ab_W → Prop) : Prop := match S with
  | .inl n :: .inl dp :: .inr (.inr (some q)) :: .inl sp :: .inr (.inr (some p)) :: S' => ab_few S' ∧ C 999 [] w (fun _ _ => True) ∧ (∃ kd a b, (kd = 0 ∨ kd = 1) ∧ ab_arr kd p = some a ∧ ab_arr kd q = some b ∧ 0 ≤ sp ∧ 0 ≤ dp ∧ 0 ≤ n ∧ sp + n ≤ a ∧ dp + n ≤ b) ∧ K S' (ab_cp w p q sp.toNat dp.toNat n.toNat)
  | _ => False
def ab_sw (lo : Int) (bs : List Nat) (d : Nat) (x : Int) : Nat := if lo ≤ x then (bs[(x - lo).toNat]?).getD d else d
def ab_lsw : List (Int × Int) → List Nat → Nat → Int → Nat
  | (a, _) :: ps, b :: bs, d, x => if x = a then b else ab_lsw ps bs d x
  | _, _, d, _ => d
def ab_wp (K : List ab_V → List ab_V → ab_W → Prop) (op : Instr) (ex : List Nat) (z : Int) (L S : List ab_V) (w : ab_W) : Prop :=
  match op with
  | .iconst n => K L (vI n :: S) w
  | .bipush n => K L (vI n :: S) w
  | .sipush n => K L (vI n :: S) w
  | .lconst n => K L (vL (n.val : Int) :: S) w
  | .ldc _ => K L (vI z :: S) w
  | .ldc_w _ => K L (vI z :: S) w
  | .ldc2_w _ => K L (vL z :: S) w
  | .iload n => ab_gI L n fun x => K L (vI x :: S) w
  | .iload_n n => ab_gI L n.val fun x => K L (vI x :: S) w
  | .lload n => ab_gL L n fun x => K L (vL x :: S) w
  | .lload_n n => ab_gL L n.val fun x => K L (vL x :: S) w
  | .aload n => ab_gR L n fun p => K L (vR p :: S) w
  | .aload_n n => ab_gR L n.val fun p => K L (vR p :: S) w
  | .istore n => ab_pI S fun x S => K (ab_st L n (vI x)) S w
  | .istore_n n => ab_pI S fun x S => K (ab_st L n.val (vI x)) S w
  | .lstore n => ab_pL S fun x S => K (ab_stl L n (vL x)) S w
  | .lstore_n n => ab_pL S fun x S => K (ab_stl L n.val (vL x)) S w
  | .astore n => ab_pR S fun p S => K (ab_st L n (vR p)) S w
  | .astore_n n => ab_pR S fun p S => K (ab_st L n.val (vR p)) S w
  | .iinc n c => ab_gI L n fun x => K (ab_st L n (vI (iW (x + c)))) S w
  | .iadd => ab_pII S fun x y S => K L (vI (iW (x + y)) :: S) w
  | .isub => ab_pII S fun x y S => K L (vI (iW (x - y)) :: S) w
  | .imul => ab_pII S fun x y S => K L (vI (iW (x * y)) :: S) w
  | .idiv => ab_pII S fun x y S => y ≠ 0 ∧ K L (vI (i_div x y) :: S) w
  | .irem => ab_pII S fun x y S => y ≠ 0 ∧ K L (vI (i_rem x y) :: S) w
  | .iand => ab_pII S fun x y S => K L (vI (i_and x y) :: S) w
  | .ior => ab_pII S fun x y S => K L (vI (i_or x y) :: S) w
  | .ixor => ab_pII S fun x y S => K L (vI (i_xor x y) :: S) w
  | .ishl => ab_pII S fun x y S => K L (vI (i_shl x y) :: S) w
  | .ishr => ab_pII S fun x y S => K L (vI (i_shr x y) :: S) w
  | .iushr => ab_pII S fun x y S => K L (vI (i_ushr x y) :: S) w
  | .ladd => ab_pLL S fun x y S => K L (vL (lW (x + y)) :: S) w
  | .lsub => ab_pLL S fun x y S => K L (vL (lW (x - y)) :: S) w
  | .lmul => ab_pLL S fun x y S => K L (vL (lW (x * y)) :: S) w
  | .ldiv => ab_pLL S fun x y S => y ≠ 0 ∧ K L (vL (l_div x y) :: S) w
  | .lrem => ab_pLL S fun x y S => y ≠ 0 ∧ K L (vL (l_rem x y) :: S) w
  | .land => ab_pLL S fun x y S => K L (vL (l_and x y) :: S) w
  | .lor => ab_pLL S fun x y S => K L (vL (l_or x y) :: S) w
  | .lshl => ab_pIL S fun x y S => K L (vL (l_shl x y) :: S) w
  | .lshr => ab_pIL S fun x y S => K L (vL (l_shr x y) :: S) w
  | .lushr => ab_pIL S fun x y S => K L (vL (l_ushr x y) :: S) w
  | .i2l => ab_pI S fun x S => K L (vL x :: S) w
  | .l2i => ab_pL S fun x S => K L (vI (iW x) :: S) w
  | .i2b => ab_pI S fun x S => K L (vI (i_2b x) :: S) w
  | .i2s => ab_pI S fun x S => K L (vI (i_2s x) :: S) w
  | .lcmp => ab_pLL S fun x y S => K L (vI (l_cmp x y) :: S) w
  | .dup => (match S with | .inl x :: S => K L (vI x :: vI x :: S) w | .inr (.inr (some p)) :: S => K L (vR p :: vR p :: S) w | _ => False)
  | .dup2 => ab_pIR S fun p i S => K L (vI i :: vR p :: vI i :: vR p :: S) w
  | .ifCond c _ => ab_pI S fun x S => (ab_cH c x 0 → J (ex.headD 0) L S w) ∧ (¬ ab_cH c x 0 → K L S w)
  | .if_icmp c _ => ab_pII S fun x y S => (ab_cH c x y → J (ex.headD 0) L S w) ∧ (¬ ab_cH c x y → K L S w)
  | .goto _ => J (ex.headD 0) L S w
  | .tableswitch _ lo _ _ => ab_pI S fun x S => J (ab_sw lo ex.tail (ex.headD 0) x) L S w
  | .lookupswitch _ ps => ab_pI S fun x S => J (ab_lsw ps.toList ex.tail (ex.headD 0) x) L S w
  | .ireturn => (match S with | [.inl x] => (ex = [1] → ab_bool x) ∧ Rt (some (vI x)) w | _ => False)
  | .lreturn => (match S with | [.inr (.inl x)] => Rt (some (vL x)) w | _ => False)
  | .return_ => (match S with | [] => Rt none w | _ => False)
  | .getfield _ => ab_pR S fun p S => (match ab_fld (ex.headD 0) p (ex.tail.headD 0) with
    | some none => K L (vI (w p (ex.tail.headD 0)) :: S) w
    | some (some q) => K L (vR q :: S) w
    | none => False)
  | .putfield _ => (match S with
    | .inl x :: .inr (.inr (some p)) :: S => ab_fld (ex.headD 0) p (ex.tail.headD 0) = some none ∧ (ex.tail.tail = [1] → ab_bool x) ∧ K L S (ab_up w p (ex.tail.headD 0) x)
    | _ => False)
  | .getstatic _ => K L (vR 100 :: S) w
  | .iaload => ab_pIR S fun p i S => (match ab_ild Ls p with
    | some n => (0 ≤ i ∧ i < (n : Int)) ∧ K L (vI (w p i.toNat) :: S) w
    | none => False)
  | .laload => ab_pIR S fun p i S => (match ab_arr 1 p with
    | some n => (0 ≤ i ∧ i < (n : Int)) ∧ K L (vL (w p i.toNat) :: S) w
    | none => False)
  | .baload => ab_pIR S fun p i S => (match ab_arr 2 p with
    | some n => (0 ≤ i ∧ i < (n : Int)) ∧ K L (vI (w p i.toNat) :: S) w
    | none => False)
  | .aaload => ab_pIR S fun p i S => (match ab_refs p with
    | some rs => (match rs[i.toNat]? with | some q => 0 ≤ i ∧ K L (vR q :: S) w | none => False)
    | none => False)
  | .iastore => (match S with
    | .inl x :: .inl i :: .inr (.inr (some p)) :: S => (match ab_arr 0 p with
      | some n => (0 ≤ i ∧ i < (n : Int)) ∧ K L S (ab_up w p i.toNat x)
      | none => False)
    | _ => False)
  | .lastore => (match S with
    | .inr (.inl x) :: .inl i :: .inr (.inr (some p)) :: S => (match ab_arr 1 p with
      | some n => (0 ≤ i ∧ i < (n : Int)) ∧ K L S (ab_up w p i.toNat x)
      | none => False)
    | _ => False)
  | .bastore => (match S with
    | .inl x :: .inl i :: .inr (.inr (some p)) :: S => (match ab_arr 2 p with
      | some n => (0 ≤ i ∧ i < (n : Int)) ∧ ab_bool x ∧ K L S (ab_up w p i.toNat x)
      | none => False)
    | _ => False)
  | .arraylength => ab_pR S fun p S => (match ab_len Ls p with
    | some n => K L (vI (n : Int) :: S) w
    | none => False)
  | .invokevirtual _ => ab_call C ex S w true (fun S w => K L S w)
  | .invokestatic _ => if ex = [] then ab_copy C S w (fun S w => K L S w) else ab_call C ex S w false (fun S w => K L S w)
  | _ => False
/-- a block: its instructions; behind the last one the next block -/
def ab_wb (nx : Nat) : List ab_I → List ab_V → List ab_V → ab_W → Prop
  | [], L, S, w => J nx L S w
  | i :: is, L, S, w => ab_wp Ls C J Rt (ab_wb nx is) i.1 i.2.1 i.2.2 L S w
def ab_at (bl : List (List ab_I)) (b : Nat) (L S : List ab_V) (w : ab_W) : Prop := match bl[b]? with
  | some is => ab_wb Ls C J Rt (b + 1) is L S w
  | none => False
end AbWp
end
section
theorem ab_gI_mono {L : List ab_V} {n : Nat} {f g : Int → Prop} (h : ∀ x, f x → g x) : ab_gI L n f → ab_gI L n g := by
  unfold ab_gI; split
  · exact h _
  · exact id
theorem ab_gL_mono {L : List ab_V} {n : Nat} {f g : Int → Prop} (h : ∀ x, f x → g x) : ab_gL L n f → ab_gL L n g := by
  unfold ab_gL; split
  · exact h _
  · exact id
theorem ab_gR_mono {L : List ab_V} {n : Nat} {f g : Nat → Prop} (h : ∀ x, f x → g x) : ab_gR L n f → ab_gR L n g := by
  unfold ab_gR; split
  · exact h _
  · exact id
theorem ab_pI_mono {S : List ab_V} {f g : Int → List ab_V → Prop} (h : ∀ x S, f x S → g x S) : ab_pI S f → ab_pI S g := by
  unfold ab_pI; split
  · exact h _ _
  · exact id
theorem ab_pL_mono {S : List ab_V} {f g : Int → List ab_V → Prop} (h : ∀ x S, f x S → g x S) : ab_pL S f → ab_pL S g := by
  unfold ab_pL; split
  · exact h _ _
  · exact id
theorem ab_pR_mono {S : List ab_V} {f g : Nat → List ab_V → Prop} (h : ∀ x S, f x S → g x S) : ab_pR S f → ab_pR S g := by
  unfold ab_pR; split
  · exact h _ _
  · exact id
theorem ab_pII_mono {S : List ab_V} {f g : Int → Int → List ab_V → Prop} (h : ∀ x y S, f x y S → g x y S) : ab_pII S f → ab_pII S g := by
  unfold ab_pII; split
  · exact h _ _ _
  · exact id
theorem ab_pLL_mono {S : List ab_V} {f g : Int → Int → List ab_V → Prop} (h : ∀ x y S, f x y S → g x y S) : ab_pLL S f → ab_pLL S g := by
  unfold ab_pLL; split
  · exact h _ _ _
  · exact id
theorem ab_pIL_mono {S : List ab_V} {f g : Int → Int → List ab_V → Prop} (h : ∀ x y S, f x y S → g x y S) : ab_pIL S f → ab_pIL S g := by
  unfold ab_pIL; split
  · exact h _ _ _
  · exact id
theorem ab_pIR_mono {S : List ab_V} {f g : Nat → Int → List ab_V → Prop} (h : ∀ x y S, f x y S → g x y S) : ab_pIR S f → ab_pIR S g := by
  unfold ab_pIR; split
  · exact h _ _ _
  · exact id
theorem ab_and_mono {A B B' : Prop} (h : B → B') : A ∧ B → A ∧ B' := fun q => ⟨q.1, h q.2⟩
theorem ab_br_mono {c A A' B B' : Prop} (h : A → A') (h2 : B → B') : (c → A) ∧ (¬ c → B) → (c → A') ∧ (¬ c → B') := fun q => ⟨fun x => h (q.1 x), fun x => h2 (q.2 x)⟩
section AbMono
variable {Ls : Nat} {C C' : Nat → List ab_V → ab_W → (Option ab_V → ab_W → Prop) → Prop} {J J' : Nat → List ab_V → List ab_V → ab_W → Prop} {Rt Rt' : Option ab_V → ab_W → Prop}
theorem ab_call_mono {ex : List Nat} {S : List ab_V} {w : ab_W} {virt : Bool} {K K' : List ab_V → ab_W → Prop} (hC : ∀ m as w (q q' : Option ab_V → ab_W → Prop), (∀ r w', q r w' → q' r w') → C m as w q → C' m as w q') (hK : ∀ S w, K S w → K' S w) : ab_call C ex S w virt K → ab_call C' ex S w virt K' := by
  unfold ab_call
  split
  · split
    · exact fun q => ⟨q.1, q.2.1, hC _ _ _ _ _ (fun r w' => hK _ _) q.2.2⟩
    · exact id
  · exact id
theorem ab_copy_mono {S : List ab_V} {w : ab_W} {K K' : List ab_V → ab_W → Prop} (hC : ∀ m as w (q q' : Option ab_V → ab_W → Prop), (∀ r w', q r w' → q' r w') → C m as w q → C' m as w q') (hK : ∀ S w, K S w → K' S w) : ab_copy C S w K → ab_copy C' S w K' := by
  unfold ab_copy
  split
  · exact fun q => ⟨q.1, hC _ _ _ _ _ (fun _ _ z => z) q.2.1, q.2.2.1, hK _ _ q.2.2.2⟩
  · exact id
theorem ab_wp_mono {K K' : List ab_V → List ab_V → ab_W → Prop} (hC : ∀ m as w (q q' : Option ab_V → ab_W → Prop), (∀ r w', q r w' → q' r w') → C m as w q → C' m as w q') (hJ : ∀ b L S w, J b L S w → J' b L S w) (hR : ∀ r w, Rt r w → Rt' r w) (hK : ∀ L S w, K L S w → K' L S w)
    {op : Instr} {ex : List Nat} {z : Int} {L S : List ab_V} {w : ab_W} : ab_wp Ls C J Rt K op ex z L S w → ab_wp Ls C' J' Rt' K' op ex z L S w := by
  cases op <;> dsimp only [ab_wp] <;> first
    | exact id
    | exact hK _ _ _
    | exact ab_gI_mono fun _ => hK _ _ _
    | exact ab_gL_mono fun _ => hK _ _ _
    | exact ab_gR_mono fun _ => hK _ _ _
    | exact ab_pI_mono fun _ _ => hK _ _ _
    | exact ab_pL_mono fun _ _ => hK _ _ _
    | exact ab_pR_mono fun _ _ => hK _ _ _
    | exact ab_pII_mono fun _ _ _ => hK _ _ _
    | exact ab_pLL_mono fun _ _ _ => hK _ _ _
    | exact ab_pIL_mono fun _ _ _ => hK _ _ _
    | exact ab_pIR_mono fun _ _ _ => hK _ _ _
    | exact ab_pII_mono fun _ _ _ => ab_and_mono (hK _ _ _)
    | exact ab_pLL_mono fun _ _ _ => ab_and_mono (hK _ _ _)
    | exact ab_pI_mono fun _ _ => ab_br_mono (hJ _ _ _ _) (hK _ _ _)
    | exact ab_pII_mono fun _ _ _ => ab_br_mono (hJ _ _ _ _) (hK _ _ _)
    | exact hJ _ _ _ _
    | exact ab_pI_mono fun _ _ => hJ _ _ _ _
    | exact ab_call_mono hC (hK _)
    | (split
       · exact ab_copy_mono hC (hK _)
       · exact ab_call_mono hC (hK _))
    | (split
       · exact hK _ _ _
       · exact hK _ _ _
       · exact id)
    | (split
       · exact ab_and_mono (hR _ _)
       · exact id)
    | (split
       · exact hR _ _
       · exact id)
    | (refine ab_pR_mono fun _ _ => ?_
       split
       · exact hK _ _ _
       · exact hK _ _ _
       · exact id)
    | (refine ab_pR_mono fun _ _ => ?_
       split
       · exact hK _ _ _
       · exact id)
    | (refine ab_pIR_mono fun _ _ _ => ?_
       split
       · exact ab_and_mono (hK _ _ _)
       · exact id)
    | (refine ab_pIR_mono fun _ _ _ => ?_
       split
       · split
         · exact ab_and_mono (hK _ _ _)
         · exact id
       · exact id)
    | (split
       · exact ab_and_mono (ab_and_mono (hK _ _ _))
       · exact id)
    | (split
       · split
         · exact ab_and_mono (hK _ _ _)
         · exact id
       · exact id)
    | (split
       · split
         · exact ab_and_mono (ab_and_mono (hK _ _ _))
         · exact id
       · exact id)
theorem ab_wb_mono (hC : ∀ m as w (q q' : Option ab_V → ab_W → Prop), (∀ r w', q r w' → q' r w') → C m as w q → C' m as w q') (hJ : ∀ b L S w, J b L S w → J' b L S w) (hR : ∀ r w, Rt r w → Rt' r w) {nx : Nat} : ∀ (is : List ab_I) (L S : List ab_V) (w : ab_W), ab_wb Ls C J Rt nx is L S w → ab_wb Ls C' J' Rt' nx is L S w := by
  intro is
  induction is with
  | nil => exact fun L S w => hJ _ _ _ _
  | cons i is ih => exact fun L S w => ab_wp_mono hC hJ hR ih
theorem ab_at_mono {bl : List (List ab_I)} {b : Nat} {L S : List ab_V} {w : ab_W} (hC : ∀ m as w (q q' : Option ab_V → ab_W → Prop), (∀ r w', q r w' → q' r w') → C m as w q → C' m as w q') (hJ : ∀ b L S w, J b L S w → J' b L S w) (hR : ∀ r w, Rt r w → Rt' r w) : ab_at Ls C J Rt bl b L S w → ab_at Ls C' J' Rt' bl b L S w := by
  unfold ab_at
  split
  · exact ab_wb_mono hC hJ hR _ _ _ _
  · exact id
end AbMono
/-- the calls are read so that more may be asked of what comes out -/
def ab_Cm (C : Nat → List ab_V → ab_W → (Option ab_V → ab_W → Prop) → Prop) : Prop := ∀ m as w (q q' : Option ab_V → ab_W → Prop), (∀ r w', q r w' → q' r w') → C m as w q → C m as w q'
/-- from block b on the body comes to its end, and there Rt holds -/
def Ev (Ls : Nat) (C : Nat → List ab_V → ab_W → (Option ab_V → ab_W → Prop) → Prop) (Rt : Option ab_V → ab_W → Prop) (bl : List (List ab_I)) (b : Nat) (L S : List ab_V) (w : ab_W) : Prop :=
  ∀ P : Nat → List ab_V → List ab_V → ab_W → Prop, (∀ b L S w, ab_at Ls C P Rt bl b L S w → P b L S w) → P b L S w
section EvLaws
variable {Ls : Nat} {C C' : Nat → List ab_V → ab_W → (Option ab_V → ab_W → Prop) → Prop} {Rt Rt' : Option ab_V → ab_W → Prop} {bl : List (List ab_I)}
theorem Ev.fold (hC : ab_Cm C) {b : Nat} {L S : List ab_V} {w : ab_W} (h : ab_at Ls C (Ev Ls C Rt bl) Rt bl b L S w) : Ev Ls C Rt bl b L S w :=
  fun P hP => hP _ _ _ _ (ab_at_mono hC (fun _ _ _ _ q => q P hP) (fun _ _ q => q) h)
theorem Ev.unfold (hC : ab_Cm C) {b : Nat} {L S : List ab_V} {w : ab_W} (h : Ev Ls C Rt bl b L S w) : ab_at Ls C (Ev Ls C Rt bl) Rt bl b L S w :=
  h (fun b L S w => ab_at Ls C (Ev Ls C Rt bl) Rt bl b L S w) (fun _ _ _ _ q => ab_at_mono hC (fun _ _ _ _ q => Ev.fold hC q) (fun _ _ q => q) q)
theorem Ev.mono (hC : ∀ m as w (q q' : Option ab_V → ab_W → Prop), (∀ r w', q r w' → q' r w') → C m as w q → C' m as w q') (hR : ∀ r w, Rt r w → Rt' r w) {b : Nat} {L S : List ab_V} {w : ab_W} (h : Ev Ls C Rt bl b L S w) : Ev Ls C' Rt' bl b L S w :=
  fun P hP => h P (fun _ _ _ _ q => hP _ _ _ _ (ab_at_mono hC (fun _ _ _ _ z => z) hR q))
end EvLaws
end
section
/-! numbers: the machine's and the mathematical ones -/
theorem ab_bm32 {x : Int} (h1 : -2147483648 ≤ x) (h2 : x < 2147483648) : Int.bmod x 4294967296 = x := by
  rw [Int.bmod_def]
  split <;> rename_i h <;> omega
theorem ab_bm64 {x : Int} (h1 : -9223372036854775808 ≤ x) (h2 : x < 9223372036854775808) : Int.bmod x 18446744073709551616 = x := by
  rw [Int.bmod_def]
  split <;> rename_i h <;> omega
theorem ab_bm8 {x : Int} (h1 : -128 ≤ x) (h2 : x < 128) : Int.bmod x 256 = x := by
  rw [Int.bmod_def]
  split <;> rename_i h <;> omega
theorem ab_bm16 {x : Int} (h1 : -32768 ≤ x) (h2 : x < 32768) : Int.bmod x 65536 = x := by
  rw [Int.bmod_def]
  split <;> rename_i h <;> omega
theorem ab_ti {x : Int} (h : ab_r32 x) : (Int32.ofInt x).toInt = x := by
  rw [Int32.toInt_ofInt]
  obtain ⟨h1, h2⟩ := h
  exact ab_bm32 (by omega) (by omega)
theorem ab_tl {x : Int} (h : ab_r64 x) : (Int64.ofInt x).toInt = x := by
  rw [Int64.toInt_ofInt]
  obtain ⟨h1, h2⟩ := h
  exact ab_bm64 (by omega) (by omega)
theorem ab_oi (a : Int32) : Int32.ofInt a.toInt = a := Int32.ofInt_toInt a
theorem ab_ol (a : Int64) : Int64.ofInt a.toInt = a := Int64.ofInt_toInt a
theorem iW_eq (x : Int) : iW x = (Int32.ofInt x).toInt := by rw [Int32.toInt_ofInt]; rfl
theorem lW_eq (x : Int) : lW x = (Int64.ofInt x).toInt := by rw [Int64.toInt_ofInt]; rfl
theorem iW_o (x : Int) : Int32.ofInt (iW x) = Int32.ofInt x := by rw [iW_eq, ab_oi]
theorem lW_o (x : Int) : Int64.ofInt (lW x) = Int64.ofInt x := by rw [lW_eq, ab_ol]
theorem iW_id {x : Int} (h1 : -2147483648 ≤ x) (h2 : x < 2147483648) : iW x = x := ab_bm32 h1 h2
theorem lW_id {x : Int} (h1 : -9223372036854775808 ≤ x) (h2 : x < 9223372036854775808) : lW x = x := ab_bm64 h1 h2
theorem ab_ri (a : Int32) : ab_r32 a.toInt := ⟨Int32.le_toInt a, Int32.toInt_lt a⟩
theorem ab_rl (a : Int64) : ab_r64 a.toInt := ⟨Int64.le_toInt a, Int64.toInt_lt a⟩
theorem iW_r (x : Int) : ab_r32 (iW x) := by rw [iW_eq]; exact ab_ri _
theorem lW_r (x : Int) : ab_r64 (lW x) := by rw [lW_eq]; exact ab_rl _
theorem ab_eq32 {x y : Int} (hx : ab_r32 x) (hy : ab_r32 y) : Int32.ofInt x = Int32.ofInt y ↔ x = y := by
  constructor
  · intro h
    have := congrArg Int32.toInt h
    rwa [ab_ti hx, ab_ti hy] at this
  · intro h; rw [h]
theorem ab_lt32 {x y : Int} (hx : ab_r32 x) (hy : ab_r32 y) : Int32.ofInt x < Int32.ofInt y ↔ x < y := by
  rw [Int32.lt_iff_toInt_lt, ab_ti hx, ab_ti hy]
theorem ab_le32 {x y : Int} (hx : ab_r32 x) (hy : ab_r32 y) : Int32.ofInt x ≤ Int32.ofInt y ↔ x ≤ y := by
  rw [Int32.le_iff_toInt_le, ab_ti hx, ab_ti hy]
theorem ab_eq64 {x y : Int} (hx : ab_r64 x) (hy : ab_r64 y) : Int64.ofInt x = Int64.ofInt y ↔ x = y := by
  constructor
  · intro h
    have := congrArg Int64.toInt h
    rwa [ab_tl hx, ab_tl hy] at this
  · intro h; rw [h]
theorem ab_lt64 {x y : Int} (hx : ab_r64 x) (hy : ab_r64 y) : Int64.ofInt x < Int64.ofInt y ↔ x < y := by
  rw [Int64.lt_iff_toInt_lt, ab_tl hx, ab_tl hy]
theorem ab_z32 : (0 : Int32) = Int32.ofInt 0 := by decide +kernel
theorem ab_z64 : (0 : Int64) = Int64.ofInt 0 := by decide +kernel
theorem ab_r0 : ab_r32 0 := by unfold ab_r32; omega
theorem ab_clamp {i : Int} (h : ab_r32 i) : (Int32.ofInt i).toNatClampNeg = i.toNat := by
  show (Int32.ofInt i).toInt.toNat = _
  rw [ab_ti h]
theorem ab_in {i : Int} {n : Nat} (hr : ab_r32 i) (h0 : 0 ≤ i) (h : i < (n : Int)) : vp_in (Int32.ofInt i) n := by
  intro q
  rcases q with q | q
  · rw [ab_z32, ab_lt32 hr ab_r0] at q
    omega
  · rw [ab_clamp hr] at q
    omega
theorem ab_ofNat (n : Nat) : Int32.ofNat n = Int32.ofInt (n : Int) := by
  apply Int32.toInt_inj.mp
  rw [Int32.toInt_ofInt]
  simp [Int32.toInt_ofNat']
theorem ab_bip {n : Int} (h1 : -128 ≤ n) (h2 : n ≤ 127) : (Int8.ofInt n).toInt32 = Int32.ofInt n := by
  apply Int32.toInt_inj.mp
  rw [Int8.toInt_toInt32, Int8.toInt_ofInt, ab_ti ⟨by omega, by omega⟩]
  exact ab_bm8 (by omega) (by omega)
theorem ab_sip {n : Int} (h1 : -32768 ≤ n) (h2 : n ≤ 32767) : (Int16.ofInt n).toInt32 = Int32.ofInt n := by
  apply Int32.toInt_inj.mp
  rw [Int16.toInt_toInt32, Int16.toInt_ofInt, ab_ti ⟨by omega, by omega⟩]
  exact ab_bm16 (by omega) (by omega)
theorem ab_i2l {x : Int} (h : ab_r32 x) : (Int32.ofInt x).toInt64 = Int64.ofInt x := by
  apply Int64.toInt_inj.mp
  rw [Int32.toInt_toInt64, ab_ti h, ab_tl ⟨by have := h.1; omega, by have := h.2; omega⟩]
theorem ab_l2i {x : Int} (h : ab_r64 x) : (Int64.ofInt x).toInt32 = Int32.ofInt (iW x) := by
  apply Int32.toInt_inj.mp
  rw [Int64.toInt_toInt32, ab_tl h, iW_o, Int32.toInt_ofInt]
theorem ab_lcm {x y : Int} (hx : ab_r64 x) (hy : ab_r64 y) : lg_cmp (Int64.ofInt x) (Int64.ofInt y) = Int32.ofInt (l_cmp x y) := by
  unfold lg_cmp l_cmp
  by_cases h1 : y < x
  · rw [if_pos (show Int64.ofInt x > Int64.ofInt y from (ab_lt64 hy hx).mpr h1), if_pos h1]; decide +kernel
  · rw [if_neg (fun q : Int64.ofInt x > Int64.ofInt y => h1 ((ab_lt64 hy hx).mp q)), if_neg h1]
    by_cases h2 : x = y
    · rw [if_pos ((ab_eq64 hx hy).mpr h2), if_pos h2]; decide +kernel
    · rw [if_neg (fun q => h2 ((ab_eq64 hx hy).mp q)), if_neg h2]; decide +kernel
theorem ab_lcr (x y : Int) : ab_r32 (l_cmp x y) := by
  unfold l_cmp ab_r32
  split
  · omega
  · split <;> omega
end
section
/-! the abstract world and the machine's heap -/
def ab_c (ad : Nat → Nat) (v : ab_V) : Value := match v with
  | .inl x => .int (Int32.ofInt x)
  | .inr (.inl x) => .long (Int64.ofInt x)
  | .inr (.inr (some p)) => .ref (ad p)
  | .inr (.inr none) => .null
def ab_ok (v : ab_V) : Prop := match v with
  | .inl x => ab_r32 x
  | .inr (.inl x) => ab_r64 x
  | .inr (.inr _) => True
def ab_fv (ad : Nat → Nat) (w : ab_W) (k i : Nat) (f : Option Nat) : Value := match f with
  | none => .int (Int32.ofInt (w k i))
  | some j => .ref (ad j)
def ab_cell (ad : Nat → Nat) (cA : Nat → ClassId) (w : ab_W) (k : Nat) (sh : ab_Sh) : va_E := match sh with
  | .inl (ci, fs) => .inr (ci, fs.mapIdx (ab_fv ad w k))
  | .inr (0, n, _) => .inl (cA 0, n, .inl (fun i => Int32.ofInt (w k i)))
  | .inr (1, n, _) => .inl (cA 1, n, .inr (.inl (fun i => Int64.ofInt (w k i))))
  | .inr (2, n, _) => .inl (cA 2, n, .inl (fun i => Int32.ofInt (w k i)))
  | .inr (_, n, rs) => .inl (cA 3, n, .inr (.inr (.inr (.inr (fun i => (rs[i]?).map ad)))))
def ab_ws (ad : Nat → Nat) (cA : Nat → ClassId) (w : ab_W) : va_W := ab_shp.mapIdx (fun k sh => (ad k, ab_cell ad cA w k sh))
theorem ab_ws_get {ad : Nat → Nat} {cA : Nat → ClassId} {w : ab_W} {k : Nat} {sh : ab_Sh} (h : ab_shp[k]? = some sh) : (ab_ws ad cA w)[k]? = some (ad k, ab_cell ad cA w k sh) := by
  unfold ab_ws
  rw [List.getElem?_mapIdx, h]
  rfl
theorem ab_ws_of {ad : Nat → Nat} {cA : Nat → ClassId} {w : ab_W} {k : Nat} {q : Nat × va_E} (h : (ab_ws ad cA w)[k]? = some q) : ∃ sh, ab_shp[k]? = some sh ∧ q = (ad k, ab_cell ad cA w k sh) := by
  unfold ab_ws at h
  rw [List.getElem?_mapIdx] at h
  cases hs : ab_shp[k]? with
  | none => rw [hs] at h; cases h
  | some sh =>
    rw [hs] at h
    exact ⟨sh, rfl, (Option.some.inj h).symm⟩
theorem ab_cell_eq {ad : Nat → Nat} {cA : Nat → ClassId} {w w' : ab_W} {k : Nat} (h : w' k = w k) (sh : ab_Sh) : ab_cell ad cA w' k sh = ab_cell ad cA w k sh := by
  have hf : ab_fv ad w' k = ab_fv ad w k := by
    funext i f
    cases f <;> simp [ab_fv, h]
  unfold ab_cell
  rw [h, hf]
theorem ab_ws_set {ad : Nat → Nat} {cA : Nat → ClassId} {w w' : ab_W} {k : Nat} {sh : ab_Sh} {e : va_E} (hk : ab_shp[k]? = some sh) (he : e = ab_cell ad cA w' k sh) (h : ∀ j, j ≠ k → w' j = w j) : (ab_ws ad cA w).set k (ad k, e) = ab_ws ad cA w' := by
  apply List.ext_getElem?
  intro j
  have hl : k < (ab_ws ad cA w).length := (List.getElem?_eq_some_iff.mp (ab_ws_get (ad := ad) (cA := cA) (w := w) hk)).1
  by_cases hj : j = k
  · subst hj
    rw [List.getElem?_set_self hl, ab_ws_get hk, he]
  · rw [List.getElem?_set_ne (Ne.symm hj)]
    cases hs : ab_shp[j]? with
    | none =>
      unfold ab_ws
      rw [List.getElem?_mapIdx, List.getElem?_mapIdx, hs]
      rfl
    | some s2 =>
      rw [ab_ws_get hs, ab_ws_get hs, ab_cell_eq (h j hj)]
theorem ab_up_ne {w : ab_W} {p i : Nat} {v : Int} {j : Nat} (h : j ≠ p) : ab_up w p i v j = w j := by
  funext q
  simp [ab_up, h]
theorem ab_cp_ne {w : ab_W} {p q sp dp n j : Nat} (h : j ≠ q) : ab_cp w p q sp dp n j = w j := by
  funext r
  simp [ab_cp, h]
-- what a shape says
theorem ab_fld_of {ci p k : Nat} {f : Option Nat} (h : ab_fld ci p k = some f) : ∃ fs, ab_shp[p]? = some (.inl (ci, fs)) ∧ fs[k]? = some f := by
  unfold ab_fld at h
  split at h
  next c fs e =>
    split at h
    next hc => subst hc; exact ⟨fs, e, h⟩
    next => cases h
  next => cases h
theorem ab_ci_of {p ci : Nat} (h : ab_ci p = some ci) : ∃ fs, ab_shp[p]? = some (.inl (ci, fs)) := by
  unfold ab_ci at h
  split at h
  next c fs e => cases h; exact ⟨fs, e⟩
  next => cases h
theorem ab_arr_of {kd p n : Nat} (h : ab_arr kd p = some n) : ∃ rs, ab_shp[p]? = some (.inr (kd, n, rs)) := by
  unfold ab_arr at h
  split at h
  next k m rs e =>
    split at h
    next hc => subst hc; cases h; exact ⟨rs, e⟩
    next => cases h
  next => cases h
theorem ab_refs_of {p : Nat} {rs : List Nat} (h : ab_refs p = some rs) : ∃ n, ab_shp[p]? = some (.inr (3, n, rs)) := by
  unfold ab_refs at h
  split at h
  next n rs' e => cases h; exact ⟨n, e⟩
  next => cases h
theorem ab_ro_of {Ls p n : Nat} (h : ab_ro Ls p = some n) : (p = 100 ∧ n = 5) ∨ (p = 101 ∧ n = Ls) := by
  unfold ab_ro at h
  split at h
  next e => cases h; exact Or.inl ⟨e, rfl⟩
  next =>
    split at h
    next e => cases h; exact Or.inr ⟨e, rfl⟩
    next => cases h
theorem ab_ild_of {Ls p n : Nat} (h : ab_ild Ls p = some n) : ab_arr 0 p = some n ∨ ab_ro Ls p = some n := by
  unfold ab_ild at h
  split at h
  next m e => cases h; exact Or.inl e
  next => exact Or.inr h
theorem ab_len_of {Ls p n : Nat} (h : ab_len Ls p = some n) : (∃ kd rs, ab_shp[p]? = some (.inr (kd, n, rs))) ∨ ab_ro Ls p = some n := by
  unfold ab_len at h
  split at h
  next k m rs e => cases h; exact Or.inl ⟨k, rs, e⟩
  next => exact Or.inr h
theorem ab_shp_small : ∀ (p : Nat) (kd n : Nat) (rs : List Nat), ab_shp[p]? = some (.inr (kd, n, rs)) → n ≤ 1024 := by
  have h : ∀ sh ∈ ab_shp, (match sh with | .inl _ => True | .inr (_, n, _) => n ≤ 1024 : Prop) := by
    unfold ab_shp
    simp only [List.forall_mem_cons, List.not_mem_nil, false_implies, implies_true, and_true, true_and, shA]
    decide
  intro p kd n rs hp
  exact h _ (List.mem_of_getElem? hp)
theorem ab_shp_69 {p : Nat} {sh : ab_Sh} (h : ab_shp[p]? = some sh) : p < 69 := (List.getElem?_eq_some_iff.mp h).1
/-- cells may be written: those of the two objects, and new ones -/
def ab_A (ad : Nat → Nat) (sz : Nat) : Nat → Prop := fun q => (∃ k, k < 69 ∧ q = ad k) ∨ sz ≤ q
def ab_inj (ad : Nat → Nat) : Prop := ∀ i j, i < 69 → j < 69 → ad i = ad j → i = j
theorem ab_ws_D {ad : Nat → Nat} {cA : Nat → ClassId} {w : ab_W} {sz : Nat} (h : ab_inj ad) : va_D (ab_A ad sz) (ab_ws ad cA w) := by
  refine ⟨fun i j x y hi hj hxy => ?_, fun k q hq => ?_⟩
  · obtain ⟨s1, e1, rfl⟩ := ab_ws_of hi
    obtain ⟨s2, e2, rfl⟩ := ab_ws_of hj
    exact h i j (ab_shp_69 e1) (ab_shp_69 e2) hxy
  · obtain ⟨s1, e1, rfl⟩ := ab_ws_of hq
    exact Or.inl ⟨k, ab_shp_69 e1, rfl⟩
-- the locals
theorem ab_st_len : ∀ (L : List ab_V) (n : Nat) (v : ab_V), (ab_st L n v).length = L.length
  | [], _, _ => rfl
  | _ :: _, 0, _ => rfl
  | _ :: L, n + 1, v => by
    show (ab_st L n v).length + 1 = L.length + 1
    rw [ab_st_len L n v]
theorem ab_st_get : ∀ (L : List ab_V) (n : Nat) (v : ab_V) (k : Nat) (v' : ab_V), (ab_st L n v)[k]? = some v' → v' ≠ vX → (k = n ∧ v' = v) ∨ (k ≠ n ∧ L[k]? = some v' ∧ ¬ (k + 1 = n ∧ ∃ x, v' = vL x))
  | [], _, _, k, v', h, _ => by simp [ab_st] at h
  | y :: L, 0, v, 0, v', h, _ => Or.inl ⟨rfl, (Option.some.inj h).symm⟩
  | y :: L, 0, v, k + 1, v', h, _ => Or.inr ⟨by omega, h, fun q => by omega⟩
  | y :: L, n + 1, v, 0, v', h, hx => by
    have h1 : ab_kl y n = v' := Option.some.inj h
    cases n with
    | zero =>
      rcases y with y | y | y
      · have h2 : v' = .inl y := h1.symm
        subst h2
        exact Or.inr ⟨by omega, rfl, fun q => by obtain ⟨-, x, hx⟩ := q; cases hx⟩
      · exact absurd h1.symm hx
      · have h2 : v' = .inr (.inr y) := h1.symm
        subst h2
        exact Or.inr ⟨by omega, rfl, fun q => by obtain ⟨-, x, hx⟩ := q; cases hx⟩
    | succ n =>
      have h2 : v' = y := h1.symm
      subst h2
      exact Or.inr ⟨by omega, rfl, fun q => by omega⟩
  | y :: L, n + 1, v, k + 1, v', h, hx => by
    rcases ab_st_get L n v k v' h hx with ⟨a, b⟩ | ⟨a, b, c⟩
    · exact Or.inl ⟨by omega, b⟩
    · exact Or.inr ⟨by omega, b, fun q => c ⟨by omega, q.2⟩⟩
theorem ab_st_ok : ∀ (L : List ab_V) (n : Nat) (v : ab_V), (∀ x ∈ L, ab_ok x) → ab_ok v → ∀ x ∈ ab_st L n v, ab_ok x
  | [], _, _, _, _, x, h => by simp [ab_st] at h
  | y :: L, 0, v, hL, hv, x, h => by
    rcases List.mem_cons.mp h with rfl | h
    · exact hv
    · exact hL x (List.mem_cons_of_mem _ h)
  | y :: L, n + 1, v, hL, hv, x, h => by
    rcases List.mem_cons.mp h with rfl | h
    · have hy := hL y List.mem_cons_self
      cases n with
      | zero =>
        rcases y with y | y | y
        · exact hy
        · trivial
        · trivial
      | succ n => exact hy
    · exact ab_st_ok L n v (fun z hz => hL z (List.mem_cons_of_mem _ hz)) hv x h
def ab_lp (ad : Nat → Nat) (L : List ab_V) : List (Nat × Value) := (List.range L.length).filterMap (fun k => match L[k]? with
  | some v => if v = vX then none else some (k, ab_c ad v)
  | none => none)
theorem ab_lp_mem {ad : Nat → Nat} {L : List ab_V} {q : Nat × Value} : q ∈ ab_lp ad L ↔ ∃ v, L[q.1]? = some v ∧ v ≠ vX ∧ q.2 = ab_c ad v := by
  unfold ab_lp
  rw [List.mem_filterMap]
  constructor
  · rintro ⟨k, hk, h⟩
    split at h
    next v e =>
      split at h
      next => cases h
      next hv =>
        cases h
        exact ⟨v, e, hv, rfl⟩
    next => cases h
  · rintro ⟨v, h1, h2, h3⟩
    refine ⟨q.1, List.mem_range.mpr (List.getElem?_eq_some_iff.mp h1).1, ?_⟩
    rw [h1]
    simp only [if_neg h2]
    rw [← h3]
/-- the frame's locals are those of the abstract machine -/
def ab_lr (ad : Nat → Nat) (nL : Nat) (L : List ab_V) (ls : Array Slot) : Prop := L.length = nL ∧ lv_has ls nL (ab_lp ad L) ∧ ∀ v ∈ L, ab_ok v
theorem ab_lr.at {ad : Nat → Nat} {nL : Nat} {L : List ab_V} {ls : Array Slot} (h : ab_lr ad nL L ls) {k : Nat} {v : ab_V} (hk : L[k]? = some v) (hv : v ≠ vX) : ls[k]? = some (.val (ab_c ad v)) :=
  h.2.1.2.2 (k, ab_c ad v) (ab_lp_mem.mpr ⟨v, hk, hv, rfl⟩)
theorem ab_c_cat {ad : Nat → Nat} {v : ab_V} : (ab_c ad v).category = 2 ↔ ∃ x, v = vL x := by
  rcases v with y | y | (_ | y)
  · exact ⟨fun h => (by cases h), fun ⟨x, h⟩ => (by cases h)⟩
  · exact ⟨fun _ => ⟨y, rfl⟩, fun _ => rfl⟩
  · exact ⟨fun h => (by cases h), fun ⟨x, h⟩ => (by cases h)⟩
  · exact ⟨fun h => (by cases h), fun ⟨x, h⟩ => (by cases h)⟩
theorem ab_lr.st {ad : Nat → Nat} {nL : Nat} {L : List ab_V} {ls ls' : Array Slot} {n : Nat} {v : ab_V} (h : ab_lr ad nL L ls) (hv : ab_ok v) (h2 : lv_has ls' nL ((n, ab_c ad v) :: (ab_lp ad L).filter (fun q => !(q.1 == n) && !(q.1 + 1 == n && q.2.category == 2)))) : ab_lr ad nL (ab_st L n v) ls' := by
  refine ⟨(ab_st_len L n v).trans h.1, ⟨h2.1, h2.2.1, fun q hq => ?_⟩, ab_st_ok L n v h.2.2 hv⟩
  obtain ⟨v', e1, e2, e3⟩ := ab_lp_mem.mp hq
  apply h2.2.2
  rcases ab_st_get L n v q.1 v' e1 e2 with ⟨a, b⟩ | ⟨a, b, c⟩
  · rw [← b, ← a, ← e3]
    exact List.mem_cons_self
  · apply List.mem_cons_of_mem
    rw [List.mem_filter]
    refine ⟨ab_lp_mem.mpr ⟨v', b, e2, e3⟩, ?_⟩
    simp only [Bool.and_eq_true, Bool.not_eq_true', beq_eq_false_iff_ne, ne_eq, Bool.and_eq_false_iff]
    refine ⟨a, ?_⟩
    by_cases hz : q.1 + 1 = n
    · refine Or.inr fun hc => c ⟨hz, ?_⟩
      rw [e3] at hc
      exact ab_c_cat.mp hc
    · exact Or.inl hz
theorem ab_lr.stl {ad : Nat → Nat} {nL : Nat} {L : List ab_V} {ls ls' : Array Slot} {n : Nat} {v : ab_V} (h : ab_lr ad nL L ls) (hv : ab_ok v) (h2 : lv_has ls' nL ((n, ab_c ad v) :: (ab_lp ad L).filter (fun q => !(q.1 == n) && (!(q.1 == n + 1) && !(q.1 + 1 == n && q.2.category == 2))))) : ab_lr ad nL (ab_stl L n v) ls' := by
  have hok : ∀ x ∈ ab_stl L n v, ab_ok x := ab_st_ok _ n v (ab_st_ok L (n + 1) vX h.2.2 trivial) hv
  refine ⟨((ab_st_len _ n v).trans (ab_st_len L _ _)).trans h.1, ⟨h2.1, h2.2.1, fun q hq => ?_⟩, hok⟩
  obtain ⟨v', e1, e2, e3⟩ := ab_lp_mem.mp hq
  apply h2.2.2
  rcases ab_st_get _ n v q.1 v' e1 e2 with ⟨a, b⟩ | ⟨a, b, c⟩
  · rw [← b, ← a, ← e3]
    exact List.mem_cons_self
  · rcases ab_st_get L (n + 1) vX q.1 v' b e2 with ⟨a2, b2⟩ | ⟨a2, b2, c2⟩
    · exact absurd b2 e2
    · apply List.mem_cons_of_mem
      rw [List.mem_filter]
      refine ⟨ab_lp_mem.mpr ⟨v', b2, e2, e3⟩, ?_⟩
      simp only [Bool.and_eq_true, Bool.not_eq_true', beq_eq_false_iff_ne, ne_eq, Bool.and_eq_false_iff]
      refine ⟨a, a2, ?_⟩
      by_cases hz : q.1 + 1 = n
      · refine Or.inr fun hc => c ⟨hz, ?_⟩
        rw [e3] at hc
        exact ab_c_cat.mp hc
      · exact Or.inl hz
-- what the readings of locals and stack say
theorem ab_gI_of {L : List ab_V} {n : Nat} {f : Int → Prop} (h : ab_gI L n f) : ∃ x, L[n]? = some (vI x) ∧ f x := by
  unfold ab_gI at h
  split at h
  next x e => exact ⟨x, e, h⟩
  next => exact h.elim
theorem ab_gL_of {L : List ab_V} {n : Nat} {f : Int → Prop} (h : ab_gL L n f) : ∃ x, L[n]? = some (vL x) ∧ f x := by
  unfold ab_gL at h
  split at h
  next x e => exact ⟨x, e, h⟩
  next => exact h.elim
theorem ab_gR_of {L : List ab_V} {n : Nat} {f : Nat → Prop} (h : ab_gR L n f) : ∃ x, L[n]? = some (vR x) ∧ f x := by
  unfold ab_gR at h
  split at h
  next x e => exact ⟨x, e, h⟩
  next => exact h.elim
theorem ab_pI_of {S : List ab_V} {f : Int → List ab_V → Prop} (h : ab_pI S f) : ∃ x S', S = vI x :: S' ∧ f x S' := by
  unfold ab_pI at h
  split at h
  next x S' => exact ⟨x, S', rfl, h⟩
  next => exact h.elim
theorem ab_pL_of {S : List ab_V} {f : Int → List ab_V → Prop} (h : ab_pL S f) : ∃ x S', S = vL x :: S' ∧ f x S' := by
  unfold ab_pL at h
  split at h
  next x S' => exact ⟨x, S', rfl, h⟩
  next => exact h.elim
theorem ab_pR_of {S : List ab_V} {f : Nat → List ab_V → Prop} (h : ab_pR S f) : ∃ x S', S = vR x :: S' ∧ f x S' := by
  unfold ab_pR at h
  split at h
  next x S' => exact ⟨x, S', rfl, h⟩
  next => exact h.elim
theorem ab_pII_of {S : List ab_V} {f : Int → Int → List ab_V → Prop} (h : ab_pII S f) : ∃ x y S', S = vI y :: vI x :: S' ∧ f x y S' := by
  unfold ab_pII at h
  split at h
  next y x S' => exact ⟨x, y, S', rfl, h⟩
  next => exact h.elim
theorem ab_pLL_of {S : List ab_V} {f : Int → Int → List ab_V → Prop} (h : ab_pLL S f) : ∃ x y S', S = vL y :: vL x :: S' ∧ f x y S' := by
  unfold ab_pLL at h
  split at h
  next y x S' => exact ⟨x, y, S', rfl, h⟩
  next => exact h.elim
theorem ab_pIL_of {S : List ab_V} {f : Int → Int → List ab_V → Prop} (h : ab_pIL S f) : ∃ x y S', S = vI y :: vL x :: S' ∧ f x y S' := by
  unfold ab_pIL at h
  split at h
  next y x S' => exact ⟨x, y, S', rfl, h⟩
  next => exact h.elim
theorem ab_pIR_of {S : List ab_V} {f : Nat → Int → List ab_V → Prop} (h : ab_pIR S f) : ∃ p i S', S = vI i :: vR p :: S' ∧ f p i S' := by
  unfold ab_pIR at h
  split at h
  next i p S' => exact ⟨p, i, S', rfl, h⟩
  next => exact h.elim
theorem ab_tk_of : ∀ (n : Nat) (acc S as S' : List ab_V), ab_tk n acc S = some (as, S') → ∃ bs, bs.length = n ∧ as = bs.reverse ++ acc ∧ S = bs ++ S'
  | 0, acc, S, as, S', h => by cases h; exact ⟨[], rfl, rfl, rfl⟩
  | n + 1, acc, [], as, S', h => by cases h
  | n + 1, acc, v :: S, as, S', h => by
    obtain ⟨bs, h1, h2, h3⟩ := ab_tk_of n (v :: acc) S as S' h
    exact ⟨v :: bs, by simp [h1], by simp [h2], by simp [h3]⟩
theorem ab_few_of {ad : Nat → Nat} {S : List ab_V} (h : ab_few S) : ((S.map (ab_c ad)).map fun v => v.category).sum ≤ 8 := by
  have hc : ∀ v : Value, v.category ≤ 2 := fun v => by rcases lv_cat v with h | h <;> omega
  unfold ab_few at h
  split at h
  · simp
  · rename_i a
    have := hc (ab_c ad a)
    simp only [List.map_cons, List.map_nil, List.sum_cons, List.sum_nil]
    omega
  · rename_i a b
    have := hc (ab_c ad a); have := hc (ab_c ad b)
    simp only [List.map_cons, List.map_nil, List.sum_cons, List.sum_nil]
    omega
  · rename_i a b c
    have := hc (ab_c ad a); have := hc (ab_c ad b); have := hc (ab_c ad c)
    simp only [List.map_cons, List.map_nil, List.sum_cons, List.sum_nil]
    omega
  · rename_i a b c d
    have := hc (ab_c ad a); have := hc (ab_c ad b); have := hc (ab_c ad c); have := hc (ab_c ad d)
    simp only [List.map_cons, List.map_nil, List.sum_cons, List.sum_nil]
    omega
  · exact h.elim
end
section
/-! what is asked of the printed bodies, and the contract of a method in the words of the abstract machine -/
abbrev ab_cl : List vw_C := [(RX0, TX0, 8), (RX1, TX1, 4), (RX2, TX2, 2), (RX3, TX3, 4), (RX4, TX4, 13), (RX5, TX5, 38)]
def ab_tys (cA : Nat → ClassId) : List (ClassId × FieldType) := [(cA 0, .int), (cA 1, .long), (cA 2, .boolean), (cA 3, .object RX1)]
def ab_TB : List Cond := lw_tbl.filter goodWord
/-- a method: its name, code, locals, answer, parameters, whether it is static -/
abbrev ab_M : Type := MethodName × ByteArray × Nat × Option FieldType × Nat × Bool
def ab_cw (r : ab_M) : Cond := Cond.code r.1 r.2.1 r.2.2.1 r.2.2.2.1
def ab_mok (r : ab_M) : Prop := ab_cw r ∈ ab_TB ∧ Cond.initialized r.1.cls ∈ ab_TB ∧ (r.1.cls ≠ "java/lang/invoke/MethodHandle" ∧ r.1.cls ≠ "java/lang/invoke/VarHandle" ∧ (parseMethodDescriptor r.1.desc).map (fun d => d.parameters.length) = some r.2.2.2.2.1) ∧ r.2.2.1 ≤ 23 ∧ plainName r.1.cls = true ∧
  (r.2.2.2.2.2 = true → Cond.static r.1 ∈ ab_TB) ∧ (r.2.2.2.2.2 = false → Cond.instanceMethod r.1 ∈ ab_TB ∧ Cond.selects r.1.cls r.1 r.1 ∈ ab_TB)
def ab_ln (op : Instr) : Nat := match op with
  | .tableswitch _ _ _ _ => 0
  | .lookupswitch _ _ => 0
  | .bipush _ => 2
  | .sipush _ => 3
  | .ldc _ => 2
  | .ldc_w _ => 3
  | .ldc2_w _ => 3
  | .iload _ => 2
  | .lload _ => 2
  | .aload _ => 2
  | .istore _ => 2
  | .lstore _ => 2
  | .astore _ => 2
  | .iinc _ _ => 3
  | .ifCond _ _ => 3
  | .if_icmp _ _ => 3
  | .goto _ => 3
  | .getfield _ => 3
  | .putfield _ => 3
  | .getstatic _ => 3
  | .invokevirtual _ => 3
  | .invokestatic _ => 3
  | _ => 1
def ab_stop (op : Instr) : Bool := match op with
  | .tableswitch _ _ _ _ => true
  | .lookupswitch _ _ => true
  | .goto _ => true
  | .ireturn => true
  | .lreturn => true
  | .return_ => true
  | .athrow => true
  | _ => false
def ab_ck (mt : Nat → Option ab_M) (own : String) (rt : Option FieldType) (nL : Nat) (pcs : List Nat) (pc : Nat) (op : Instr) (ex : List Nat) (z : Int) : Prop := match op with
  | .iconst n => ab_r32 n
  | .bipush n => -128 ≤ n ∧ n ≤ 127
  | .sipush n => -32768 ≤ n ∧ n ≤ 32767
  | .ldc i => ab_r32 z ∧ Cond.constant own i (Int32.ofInt z) ∈ ab_TB
  | .ldc_w i => ab_r32 z ∧ Cond.constant own i (Int32.ofInt z) ∈ ab_TB
  | .ldc2_w i => ab_r64 z ∧ Cond.constantLong own i (Int64.ofInt z) ∈ ab_TB
  | .istore n => n < nL
  | .istore_n n => n.val < nL
  | .astore n => n < nL
  | .astore_n n => n.val < nL
  | .lstore n => n + 1 < nL
  | .lstore_n n => n.val + 1 < nL
  | .iinc n c => n < nL ∧ ab_r32 c
  | .ifCond _ off => ∃ t : Nat, pcs[ex.headD 0]? = some t ∧ (pc : Int) + off = (t : Int)
  | .if_icmp _ off => ∃ t : Nat, pcs[ex.headD 0]? = some t ∧ (pc : Int) + off = (t : Int)
  | .goto off => ∃ t : Nat, pcs[ex.headD 0]? = some t ∧ (pc : Int) + off = (t : Int)
  | .tableswitch d lo hi offs => (∃ t : Nat, pcs[ex.headD 0]? = some t ∧ (pc : Int) + d = (t : Int)) ∧ hi = lo + offs.size - 1 ∧ ex.tail.length = offs.size ∧ ∀ (j b : Nat) (off : Int), ex.tail[j]? = some b → offs[j]? = some off → ∃ t : Nat, pcs[b]? = some t ∧ (pc : Int) + off = (t : Int)
  | .lookupswitch d ps => (∃ t : Nat, pcs[ex.headD 0]? = some t ∧ (pc : Int) + d = (t : Int)) ∧ (ps.toList.zip (ps.toList.drop 1)).all (fun (a, next) => a.1 < next.1) = true ∧ ex.tail.length = ps.toList.length ∧ ∀ (j b : Nat) (q : Int × Int), ex.tail[j]? = some b → ps.toList[j]? = some q → ∃ t : Nat, pcs[b]? = some t ∧ (pc : Int) + q.2 = (t : Int)
  | .ireturn => (rt = some .int ∧ ex = [0]) ∨ (rt = some .boolean ∧ ex = [1])
  | .lreturn => rt = some .long
  | .return_ => rt = none
  | .getfield i => ∃ (ci k : Nat) (C : String) (T : u_T) (N : Nat), ex = [ci, k] ∧ ab_cl[ci]? = some (C, T, N) ∧ k < N ∧ Cond.fieldLink own i (T k).1 (T k).2.1 (T k).2.2.1 ∈ ab_TB
  | .putfield i => ∃ (ci k b : Nat) (C : String) (T : u_T) (N : Nat), ex = [ci, k, b] ∧ ab_cl[ci]? = some (C, T, N) ∧ k < N ∧ Cond.fieldLink own i (T k).1 (T k).2.1 (T k).2.2.1 ∈ ab_TB ∧ (T k).2.2.2 = false ∧ ((b = 0 ∧ (T k).2.2.1 = "I") ∨ (b = 1 ∧ (T k).2.2.1 = "Z"))
  | .getstatic i => Cond.fieldLink own i "RelayRace" "DIGEST_MOMENTS" "[I" ∈ ab_TB
  | .invokevirtual i => ∃ (k n ci : Nat) (r : ab_M) (q : vw_C), ex = [k, n, ci] ∧ mt k = some r ∧ r.2.2.2.2.2 = false ∧ n = r.2.2.2.2.1 + 1 ∧ Cond.methodLink own i r.1 ∈ ab_TB ∧ ab_cl[ci]? = some q ∧ q.1 = r.1.cls
  | .invokestatic i => (ex = [] ∧ Cond.methodLink own i arraycopyName ∈ ab_TB) ∨ ∃ (k n ci : Nat) (r : ab_M), ex = [k, n, ci] ∧ mt k = some r ∧ r.2.2.2.2.2 = true ∧ n = r.2.2.2.2.1 ∧ Cond.methodLink own i r.1 ∈ ab_TB
  | _ => True
/-- a block from pc on; behind its last instruction, if that goes on, block nx -/
def ab_ckb (mt : Nat → Option ab_M) (own : String) (cc : ByteArray) (rt : Option FieldType) (nL : Nat) (pcs : List Nat) (nx : Nat) : Nat → List ab_I → Prop
  | pc, [] => pcs[nx]? = some pc
  | pc, i :: is => i.1 = .athrow ∨ ∃ n, decode cc pc = .ok (i.1, n) ∧ (ab_ln i.1 = 0 ∨ n = ab_ln i.1) ∧ ab_ck mt own rt nL pcs pc i.1 i.2.1 i.2.2 ∧ (ab_stop i.1 = true ∨ ab_ckb mt own cc rt nL pcs nx (pc + ab_ln i.1) is)
def ab_ckm (mt : Nat → Option ab_M) (own : String) (cc : ByteArray) (rt : Option FieldType) (nL : Nat) (pcs : List Nat) (bl : List (List ab_I)) : Prop :=
  pcs[0]? = some 0 ∧ ∀ (b : Nat) (is : List ab_I), bl[b]? = some is → ∃ pc, pcs[b]? = some pc ∧ ab_ckb mt own cc rt nL pcs (b + 1) pc is
def ab_okW (w : ab_W) : Prop := ∀ p i, ab_r64 (w p i) ∧ (ab_arr 1 p = none → ab_r32 (w p i))
def ab_okO (r : Option ab_V) : Prop := ∀ v, r = some v → ab_ok v
def ab_X (ad : Nat → Nat) (Ls : Nat) (w : ab_W) (A : Nat → Prop) (U : State) (H : Heap) : Prop :=
  va_X (ad 100) 5 (fun i => Int32.ofInt (w 100 i)) U H ∧ ad 100 < H.size ∧ ¬ A (ad 100) ∧ va_X (ad 101) Ls (fun i => Int32.ofInt (w 101 i)) U H ∧ ad 101 < H.size ∧ ¬ A (ad 101) ∧ va_Z "RelayRace" "DIGEST_MOMENTS" "[I" (.ref (ad 100)) A U H ∧ Ls ≤ 3072
theorem ab_X.moved {ad : Nat → Nat} {Ls : Nat} {w : ab_W} {A : Nat → Prop} {u U : State} {H : Heap} (hvm : u.vm.Alike U.vm) (h : ab_X ad Ls w A u H) : ab_X ad Ls w A U H :=
  ⟨h.1.moved hvm, h.2.1, h.2.2.1, h.2.2.2.1.moved hvm, h.2.2.2.2.1, h.2.2.2.2.2.1, h.2.2.2.2.2.2.1.moved hvm, h.2.2.2.2.2.2.2⟩
def ab_B (ad : Nat → Nat) (cA : Nat → ClassId) (D : va_G) (Ls : Nat) (w : ab_W) (sz : Nat) (U : State) : Prop :=
  U.heap.size = sz ∧ va_P D ab_cl (ab_ws ad cA w) U.heap ∧ va_K D ab_cl (ab_tys cA) U ∧ ab_inj ad ∧ ab_okW w ∧ ab_X ad Ls w (ab_A ad sz) U U.heap
def ab_Pc (ad : Nat → Nat) (cA : Nat → ClassId) (D : va_G) (Ls : Nat) (as : List ab_V) (w : ab_W) (sz : Nat) : Array Value → State → Prop := va_Pc (as.map (ab_c ad)) (ab_B ad cA D Ls w sz)
def ab_Qc (ad : Nat → Nat) (cA : Nat → ClassId) (D : va_G) (w : ab_W) (sz : Nat) (post : Option ab_V → ab_W → Prop) : Array Value → State → Outcome → State → Prop := fun _ st oc t =>
  (∃ (r : Option ab_V) (w' : ab_W), oc = .returned (r.map (ab_c ad)) ∧ post r w' ∧ ab_okO r ∧ va_P D ab_cl (ab_ws ad cA w') t.heap ∧ ab_okW w' ∧ ∀ p, 100 ≤ p → w' p = w p) ∧ va_F (ab_A ad sz) st t
theorem ab_Pc_blind {ad : Nat → Nat} {cA : Nat → ClassId} {D : va_G} {Ls : Nat} {as : List ab_V} {w : ab_W} {sz : Nat} : FrameBlind (ab_Pc ad cA D Ls as w sz) := by
  intro a U g mk q
  obtain ⟨q0, q1, qP, qK, qi, qo, qX⟩ := q
  exact ⟨q0, q1, qP, va_K.moved (u := U) (U := U.calling g mk a) (Vm.Alike.refl U.vm) qK, qi, qo, ab_X.moved (u := U) (U := U.calling g mk a) (Vm.Alike.refl U.vm) qX⟩
/-- what stands still while a body runs -/
def ab_ctx (p : Program) (s : State) (m : MethodId) (args : Array Value) (c : Code) (cc : ByteArray) (nL : Nat) (own : String) (ad : Nat → Nat) (cA : Nat → ClassId) (D : va_G) (Ls : Nat) (w0 : ab_W) : Prop :=
  p.tables.exec = Jvm.exec ∧ c.code = cc ∧ c.maxLocals = nL ∧ s.vm.findClass own = some m.cls ∧ (∀ w ∈ ab_TB, w.before args s = true) ∧ va_K D ab_cl (ab_tys cA) s ∧ ab_inj ad ∧ ab_X ad Ls w0 (ab_A ad s.heap.size) s s.heap
/-- the heap holds the world -/
def ab_rel (ad : Nat → Nat) (cA : Nat → ClassId) (D : va_G) (s : State) (w0 w : ab_W) (H : Heap) (locs : List Loc) : Prop :=
  va_P D ab_cl (ab_ws ad cA w) H ∧ va_S (ab_A ad s.heap.size) s.heap H locs ∧ (∀ p, 100 ≤ p → w p = w0 p) ∧ ab_okW w
/-- from here on, with these locals, this stack and this world, the machine comes to a state with Q -/
def ab_G (p : Program) (l : Launch) (e : Env) (R : Room) (s : State) (m : MethodId) (args : Array Value) (below : List Frame) (meth : Method) (c : Code) (Q : State → Prop) (cells slots : Nat) (ad : Nat → Nat) (cA : Nat → ClassId) (D : va_G) (w0 : ab_W) (nL pc : Nat) (L S : List ab_V) (w : ab_W) : Prop :=
  ∀ (ls : Array Slot) (H : Heap) (locs : List Loc), ab_lr ad nL L ls → (∀ v ∈ S, ab_ok v) → ab_rel ad cA D s w0 w H locs → W p l e R s m args below meth c H locs cells slots Q (F0 m pc ls (S.map (ab_c ad)))
theorem ab_lay : ∀ (ci : Nat) (C : String) (T : u_T) (N : Nat), ab_cl[ci]? = some (C, T, N) → ∀ w ∈ u_ws C T N, w ∈ ab_TB := by
  have h0 : ∀ w ∈ u_ws RX0 TX0 8, w ∈ ab_TB := by decide +kernel
  have h1 : ∀ w ∈ u_ws RX1 TX1 4, w ∈ ab_TB := by decide +kernel
  have h2 : ∀ w ∈ u_ws RX2 TX2 2, w ∈ ab_TB := by decide +kernel
  have h3 : ∀ w ∈ u_ws RX3 TX3 4, w ∈ ab_TB := by decide +kernel
  have h4 : ∀ w ∈ u_ws RX4 TX4 13, w ∈ ab_TB := by decide +kernel
  have h5 : ∀ w ∈ u_ws RX5 TX5 38, w ∈ ab_TB := by decide +kernel
  intro ci C T N h
  match ci, h with
  | 0, h => cases h; exact h0
  | 1, h => cases h; exact h1
  | 2, h => cases h; exact h2
  | 3, h => cases h; exact h3
  | 4, h => cases h; exact h4
  | 5, h => cases h; exact h5
  | k + 6, h => simp [ab_cl] at h
theorem ab_typ : ∀ (ci : Nat) (C : String) (T : u_T) (N : Nat), ab_cl[ci]? = some (C, T, N) → ∃ ty0 : Nat → FieldType, (∀ k, k < N → parseFieldDescriptor (T k).2.2.1 = some (ty0 k)) ∧ ∀ a, a < N → ∀ b, b < N → a ≠ b → (T a).2.1 ≠ (T b).2.1 := by
  intro ci C T N h
  match ci, h with
  | 0, h => cases h; exact ⟨_, tyX0_ok, nmX0⟩
  | 1, h => cases h; exact ⟨_, tyX1_ok, nmX1⟩
  | 2, h => cases h; exact ⟨_, tyX2_ok, nmX2⟩
  | 3, h => cases h; exact ⟨_, tyX3_ok, nmX3⟩
  | 4, h => cases h; exact ⟨_, tyX4_ok, nmX4⟩
  | 5, h => cases h; exact ⟨_, tyX5_ok, nmX5⟩
  | k + 6, h => simp [ab_cl] at h
theorem ab_sys : Cond.native arraycopyName ∈ ab_TB ∧ Cond.static arraycopyName ∈ ab_TB ∧ Cond.initialized "java/lang/System" ∈ ab_TB := by decide +kernel
end
section
/-! each instruction of the abstract machine is the machine's own -/
section Steps8
variable {p : Program} {l : Launch} {e : Env} {R : Room} {s : State} {m : MethodId} {args : Array Value} {below : List Frame} {meth : Method} {c : Code} {Q : State → Prop} {cells slots : Nat} {cc : ByteArray} {own : String} {nL : Nat} {rt : Option FieldType}
variable {ad : Nat → Nat} {cA : Nat → ClassId} {D : va_G} {Ls : Nat} {w0 : ab_W} {mt : Nat → Option ab_M} {pcs : List Nat} {rm : Room}
theorem ab_ti2 {a b : Int32} {pc : Nat} {ls : Array Slot} {rest : List Value} {H : Heap} {locs : List Loc} (h : a = b) (k : W p l e R s m args below meth c H locs cells slots Q (F0 m pc ls (.int b :: rest))) : W p l e R s m args below meth c H locs cells slots Q (F0 m pc ls (.int a :: rest)) := h ▸ k
theorem ab_tl2 {a b : Int64} {pc : Nat} {ls : Array Slot} {rest : List Value} {H : Heap} {locs : List Loc} (h : a = b) (k : W p l e R s m args below meth c H locs cells slots Q (F0 m pc ls (.long b :: rest))) : W p l e R s m args below meth c H locs cells slots Q (F0 m pc ls (.long a :: rest)) := h ▸ k
theorem ab_fv_set {w : ab_W} {q k : Nat} {x : Int} {fs : List (Option Nat)} (h : fs[k]? = some none) : (fs.mapIdx (ab_fv ad w q)).set k (.int (Int32.ofInt x)) = fs.mapIdx (ab_fv ad (ab_up w q k x) q) := by
  apply List.ext_getElem?
  intro j
  have hl : k < (fs.mapIdx (ab_fv ad w q)).length := by
    rw [List.length_mapIdx]
    exact (List.getElem?_eq_some_iff.mp h).1
  by_cases hj : j = k
  · subst hj
    rw [List.getElem?_set_self hl, List.getElem?_mapIdx, h]
    simp [ab_fv, ab_up]
  · rw [List.getElem?_set_ne (Ne.symm hj), List.getElem?_mapIdx, List.getElem?_mapIdx]
    cases hf : fs[j]? with
    | none => rfl
    | some f =>
      cases f with
      | none => simp [ab_fv, ab_up, hj]
      | some z => rfl
theorem ab_okW_up {w : ab_W} {q i : Nat} {x : Int} (h : ab_okW w) (h1 : ab_r64 x) (h2 : ab_arr 1 q = none → ab_r32 x) : ab_okW (ab_up w q i x) := by
  intro p j
  unfold ab_up
  by_cases hp : p = q
  · subst hp
    rw [if_pos rfl]
    by_cases hj : j = i
    · rw [if_pos hj]; exact ⟨h1, h2⟩
    · rw [if_neg hj]; exact h p j
  · rw [if_neg hp]; exact h p j
theorem ab_r3264 {x : Int} (h : ab_r32 x) : ab_r64 x := by
  obtain ⟨h1, h2⟩ := h
  exact ⟨by omega, by omega⟩
theorem ab_rel_up {w : ab_W} {H1 : Heap} {locs1 : List Loc} {q i : Nat} {x : Int} (hq : q < 69) (hro : ∀ p, 100 ≤ p → w p = w0 p) (hok : ab_okW (ab_up w q i x)) (hP : va_P D ab_cl (ab_ws ad cA (ab_up w q i x)) H1) (hS : va_S (ab_A ad s.heap.size) s.heap H1 locs1) : ab_rel ad cA D s w0 (ab_up w q i x) H1 locs1 :=
  ⟨hP, hS, fun p hp => by rw [ab_up_ne (by omega)]; exact hro p hp, hok⟩
theorem ab_cons_ok {v : ab_V} {S : List ab_V} (h : ab_ok v) (hS : ∀ x ∈ S, ab_ok x) : ∀ x ∈ v :: S, ab_ok x := fun x hx => by
  rcases List.mem_cons.mp hx with rfl | hx
  · exact h
  · exact hS x hx
theorem ab_tail_ok {v : ab_V} {S : List ab_V} (hS : ∀ x ∈ v :: S, ab_ok x) : ∀ x ∈ S, ab_ok x := fun x hx => hS x (List.mem_cons_of_mem _ hx)
/-- behind a call -/
theorem ab_behind {H : Heap} {locs : List Loc} {pc : Nat} {ls : Array Slot} {st0 : List Value} {S : List ab_V} {w : ab_W} {post : Option ab_V → ab_W → Prop} {a : Array Value}
    (hr : va_Run p l e R s m args below meth c H locs cells slots 0 0 (F0 m pc ls st0) (S.map (ab_c ad)) (ab_Qc ad cA D w H.size post a) (ab_A ad H.size)) (hS : va_S (ab_A ad s.heap.size) s.heap H locs)
    (kk : ∀ (r : Option ab_V) (w' : ab_W) (H1 : Heap) (locs1 : List Loc), post r w' → ab_okO r → va_P D ab_cl (ab_ws ad cA w') H1 → ab_okW w' → (∀ p, 100 ≤ p → w' p = w p) → va_S (ab_A ad s.heap.size) s.heap H1 locs1 → W p l e R s m args below meth c H1 locs1 cells slots Q (F0 m (pc + 3) ls ((ab_rp r S).map (ab_c ad)))) : W p l e R s m args below meth c H locs cells slots Q (F0 m pc ls st0) := by
  have hA : ∀ q, q < H.size → ab_A ad H.size q → ab_A ad s.heap.size q := fun q h1 h2 => by
    rcases h2 with h2 | h2
    · exact Or.inl h2
    · omega
  have hf : ∀ q, ab_A ad H.size q → ab_A ad s.heap.size q := fun q h2 => by
    rcases h2 with h2 | h2
    · exact Or.inl h2
    · exact Or.inr (Nat.le_trans hS.1 h2)
  intro T hT X
  obtain ⟨v, st₀, t, T', L, h0, X', hL, e1, e2, ⟨⟨r, w', hv, hp, hok, hP, hW, hro⟩, hz, hk⟩, st⟩ := hr T hT X
  cases hv
  rw [h0] at hz hk
  obtain ⟨t2, a1, b1⟩ := kk r w' T'.heap (locs ++ L) hp hok (by rw [e1]; exact hP) hW hro
    ⟨Nat.le_trans hS.1 (by rw [e1]; exact hz), fun q h1 h2 => by rw [e1, hk q (Nat.lt_of_lt_of_le h1 hS.1) (fun z => h2 (hA q (Nat.lt_of_lt_of_le h1 hS.1) z))]; exact hS.2.1 q h1 h2, fun q hq => by
      rcases List.mem_append.mp hq with h | h
      · exact hS.2.2 q h
      · exact hf _ (hL q h)⟩ T' rfl X'
  refine ⟨t2, st t2 ?_, b1⟩
  have e3 : (r.map (ab_c ad)).toList ++ S.map (ab_c ad) = (ab_rp r S).map (ab_c ad) := by cases r <;> rfl
  show Steps p.tables e below (T'.setTop (F0 m (pc + 3) ls ((r.map (ab_c ad)).toList ++ S.map (ab_c ad)))) t2
  rw [e3]
  exact a1
/-- the callee's start out of the caller's state -/
theorem ab_pre {H : Heap} {locs : List Loc} {w : ab_W} {as : List ab_V} (hKK : va_K D ab_cl (ab_tys cA) s) (hinj : ab_inj ad) (hX : ab_X ad Ls w0 (ab_A ad s.heap.size) s s.heap) (hw : ab_rel ad cA D s w0 w H locs) : ∀ U : State, U.heap = H → s.WarmedH U.vm → ab_Pc ad cA D Ls as w H.size (as.map (ab_c ad)).toArray U := by
  intro U hU hW
  obtain ⟨hP, hS, hro, hok⟩ := hw
  obtain ⟨x1, x2, x3, x4, x5, x6, x7, x8⟩ := hX
  have hnA : ∀ q, q < s.heap.size → ¬ ab_A ad s.heap.size q → q < H.size ∧ ¬ ab_A ad H.size q := by
    intro q h1 h2
    refine ⟨Nat.lt_of_lt_of_le h1 hS.1, fun z => ?_⟩
    rcases z with z | z
    · exact h2 (Or.inl z)
    · exact absurd (Nat.le_trans hS.1 z) (by omega)
  refine ⟨rfl, by rw [hU], by rw [hU]; exact hP, va_K.moved hW.alike hKK, hinj, hok, ?_⟩
  rw [hU]
  refine ⟨?_, (hnA _ x2 x3).1, (hnA _ x2 x3).2, ?_, (hnA _ x5 x6).1, (hnA _ x5 x6).2, ?_, x8⟩
  · rw [hro 100 (by omega)]
    exact (x1.kept (hS.2.1 _ x2 x3)).moved hW.alike
  · rw [hro 101 (by omega)]
    exact (x4.kept (hS.2.1 _ x5 x6)).moved hW.alike
  · obtain ⟨cf, kf, fi, f, a, cell, h1, h2, h3, h4, h5, h6, h7, h8⟩ := x7
    have ha : a < s.heap.size := (Array.getElem?_eq_some_iff.mp h5).1
    exact va_Z.moved hW.alike ⟨cf, kf, fi, f, a, cell, h1, h2, h3, h4, by rw [hS.2.1 a ha h8]; exact h5, h6, h7, (hnA a ha h8).2⟩
end Steps8
theorem ab_refs_len {q n : Nat} {rs : List Nat} (h : ab_refs q = some rs) (e : ab_shp[q]? = some (.inr (3, n, rs))) : rs.length = n := by
  have hh : ∀ sh ∈ ab_shp, (match sh with | .inr (3, n, rs) => rs.length = n | _ => True : Prop) := by
    unfold ab_shp
    simp only [List.forall_mem_cons, List.not_mem_nil, false_implies, implies_true, and_true, true_and, shA]
    decide
  exact hh _ (List.mem_of_getElem? e)
theorem ab_lcst (k : Fin 2) : Int64.ofNat k.val = Int64.ofInt (k.val : Int) := by revert k; decide +kernel
theorem ab_rc_of {as : List ab_V} {ci : Nat} (h : ab_rc as ci) : ∃ pl as', as = vR pl :: as' ∧ ab_ci pl = some ci := by
  unfold ab_rc at h
  split at h
  · exact ⟨_, _, rfl, h⟩
  · exact h.elim
end
section
/-! one instruction, whichever it is -/
section Step9
variable {p : Program} {l : Launch} {e : Env} {R : Room} {s : State} {m : MethodId} {args : Array Value} {below : List Frame} {meth : Method} {c : Code} {Q : State → Prop} {cells slots : Nat} {cc : ByteArray} {own : String} {nL : Nat} {rt : Option FieldType}
variable {ad : Nat → Nat} {cA : Nat → ClassId} {D : va_G} {Ls : Nat} {w0 : ab_W} {mt : Nat → Option ab_M} {pcs : List Nat} {rm : Room}
variable {C : Nat → List ab_V → ab_W → (Option ab_V → ab_W → Prop) → Prop} {J : Nat → List ab_V → List ab_V → ab_W → Prop} {Rt : Option ab_V → ab_W → Prop}
theorem ab_goodTB {r : ab_M} (h : ab_cw r ∈ ab_TB) : GoodIn ab_TB (ab_cw r :: ab_TB) := by
  intro w hw
  have hm : w ∈ ab_TB := by
    rcases List.mem_cons.mp hw with rfl | hw
    · exact h
    · exact hw
  exact ⟨hm, good_of_word (List.mem_filter.mp hm).2⟩
theorem ab_lsw_ok {pc : Nat} {d : Int} {db : Nat} (x : Int) : ∀ (ps : List (Int × Int)) (bs : List Nat), bs.length = ps.length → (∃ t : Nat, pcs[db]? = some t ∧ (pc : Int) + d = (t : Int)) → (∀ (j b : Nat) (q : Int × Int), bs[j]? = some b → ps[j]? = some q → ∃ t : Nat, pcs[b]? = some t ∧ (pc : Int) + q.2 = (t : Int)) →
    ∃ t : Nat, pcs[ab_lsw ps bs db x]? = some t ∧ (pc : Int) + Op.lookupswitch.offset ps d x = (t : Int)
  | [], bs, _, hd, _ => by
    have : ab_lsw [] bs db x = db := by unfold ab_lsw; rfl
    rw [this]; exact hd
  | (a, o) :: ps, [], h, _, _ => by simp at h
  | (a, o) :: ps, b :: bs, h, hd, hq => by
    rw [Op.lookupswitch.offset_cons]
    show ∃ t : Nat, pcs[if x = a then b else ab_lsw ps bs db x]? = some t ∧ _
    by_cases hx : x = a
    · rw [if_pos hx, if_pos hx.symm]
      exact hq 0 b (a, o) rfl rfl
    · rw [if_neg hx, if_neg (fun q => hx q.symm)]
      exact ab_lsw_ok x ps bs (by simpa using h) hd (fun j b' q h1 h2 => hq (j + 1) b' q h1 h2)
/-- what is asked of calls: the room is there, and the method's contract -/
def ab_hC (l : Launch) (R rm : Room) (ad : Nat → Nat) (cA : Nat → ClassId) (D : va_G) (Ls : Nat) (mt : Nat → Option ab_M) (C : Nat → List ab_V → ab_W → (Option ab_V → ab_W → Prop) → Prop) : Prop :=
  ∀ (k : Nat) (as : List ab_V) (w : ab_W) (post : Option ab_V → ab_W → Prop), C k as w post → (rm.frames + 1 ≤ R.frames ∧ 42 + rm.locals ≤ R.locals ∧ rm.cells = 0 ∧ rm.slots = 0) ∧ ((∀ v ∈ as, ab_ok v) → ∀ r, mt k = some r → ab_mok r ∧ ∀ sz, Met l r.1 (ab_cw r :: ab_TB) rm (ab_Pc ad cA D Ls as w sz) (ab_Qc ad cA D w sz post) 0 0 (ab_A ad sz))
def ab_hR (p : Program) (l : Launch) (e : Env) (R : Room) (s : State) (m : MethodId) (args : Array Value) (below : List Frame) (meth : Method) (c : Code) (Q : State → Prop) (cells slots : Nat) (cc : ByteArray) (rt : Option FieldType) (ad : Nat → Nat) (cA : Nat → ClassId) (D : va_G) (w0 : ab_W) (Rt : Option ab_V → ab_W → Prop) : Prop :=
  ∀ (pc : Nat) (w : ab_W) (ls : Array Slot) (H : Heap) (locs : List Loc), ab_rel ad cA D s w0 w H locs →
    (∀ (ex : List Nat) (x : Int), decode cc pc = .ok (.ireturn, 1) → ((rt = some .int ∧ ex = [0]) ∨ (rt = some .boolean ∧ ex = [1])) → Rt (some (vI x)) w → ab_r32 x → (ex = [1] → ab_bool x) → W p l e R s m args below meth c H locs cells slots Q (F0 m pc ls [.int (Int32.ofInt x)])) ∧
    (∀ x : Int, decode cc pc = .ok (.lreturn, 1) → rt = some .long → Rt (some (vL x)) w → ab_r64 x → W p l e R s m args below meth c H locs cells slots Q (F0 m pc ls [.long (Int64.ofInt x)])) ∧
    (decode cc pc = .ok (.return_, 1) → rt = none → Rt none w → W p l e R s m args below meth c H locs cells slots Q (F0 m pc ls []))
theorem ab_step (X : ab_ctx p s m args c cc nL own ad cA D Ls w0) (hcs : cells ≤ R.cells ∧ slots ≤ R.slots) (hC : ab_hC l R rm ad cA D Ls mt C) (hR : ab_hR p l e R s m args below meth c Q cells slots cc rt ad cA D w0 Rt) {pc : Nat} {op : Instr} {ex : List Nat} {z : Int}
    (hJ : ∀ (b t : Nat) (L S : List ab_V) (w : ab_W), pcs[b]? = some t → J b L S w → ab_G p l e R s m args below meth c Q cells slots ad cA D w0 nL t L S w)
    {K : List ab_V → List ab_V → ab_W → Prop} (hK : ab_stop op = false → ∀ (L S : List ab_V) (w : ab_W), K L S w → ab_G p l e R s m args below meth c Q cells slots ad cA D w0 nL (pc + ab_ln op) L S w)
    {n : Nat} (hdg : decode cc pc = .ok (op, n)) (hn : ab_ln op = 0 ∨ n = ab_ln op) (hck : ab_ck mt own rt nL pcs pc op ex z) {L S : List ab_V} {w : ab_W} (h : ab_wp Ls C J Rt K op ex z L S w) : ab_G p l e R s m args below meth c Q cells slots ad cA D w0 nL pc L S w := by
  intro ls H locs hl hS hw
  obtain ⟨hx, hb, hml, hown, hts, hKK, hinj, hX⟩ := X
  have hw' := hw
  obtain ⟨hP, hSS, hro, hok⟩ := hw'
  have hD : va_D (ab_A ad s.heap.size) (ab_ws ad cA w) := ab_ws_D hinj
  cases op <;> first | exact h.elim | skip
  case iconst k =>
    have hd := hn.resolve_left (by intro z; cases z)
    subst hd
    refine lv_iconst hx hb hdg rfl ?_
    exact hK rfl _ _ _ h ls H locs hl (ab_cons_ok hck hS) hw
  case bipush k =>
    have hd := hn.resolve_left (by intro z; cases z)
    subst hd
    refine lv_bipush hx hb hdg (ab_bip hck.1 hck.2) ?_
    exact hK rfl _ _ _ h ls H locs hl (ab_cons_ok (show ab_r32 k from ⟨by have := hck.1; omega, by have := hck.2; omega⟩) hS) hw
  case sipush k =>
    have hd := hn.resolve_left (by intro z; cases z)
    subst hd
    refine lv_sipush hx hb hdg (ab_sip hck.1 hck.2) ?_
    exact hK rfl _ _ _ h ls H locs hl (ab_cons_ok (show ab_r32 k from ⟨by have := hck.1; omega, by have := hck.2; omega⟩) hS) hw
  case lconst k =>
    have hd := hn.resolve_left (by intro z; cases z)
    subst hd
    refine lv_lconst hx hb hdg (v := Int64.ofInt (k.val : Int)) (ab_lcst k) ?_
    exact hK rfl _ _ _ h ls H locs hl (ab_cons_ok (show ab_r64 (k.val : Int) from ⟨by omega, by have := k.isLt; omega⟩) hS) hw
  case ldc k =>
    have hd := hn.resolve_left (by intro z; cases z)
    subst hd
    refine lv_ldc hx hb hown (hts _ hck.2) hdg ?_
    exact hK rfl _ _ _ h ls H locs hl (ab_cons_ok hck.1 hS) hw
  case ldc_w k =>
    have hd := hn.resolve_left (by intro z; cases z)
    subst hd
    refine lv_ldcw hx hb hown (hts _ hck.2) hdg ?_
    exact hK rfl _ _ _ h ls H locs hl (ab_cons_ok hck.1 hS) hw
  case ldc2_w k =>
    have hd := hn.resolve_left (by intro z; cases z)
    subst hd
    refine lv_ldc2 hx hb hown (hts _ hck.2) hdg ?_
    exact hK rfl _ _ _ h ls H locs hl (ab_cons_ok hck.1 hS) hw
  case iload k =>
    have hd := hn.resolve_left (by intro z; cases z)
    subst hd
    replace h := ab_gI_of h
    obtain ⟨x, e1, h⟩ := h
    refine lv_iload hx hb hdg (hl.at e1 (by intro q; cases q)) ?_
    exact hK rfl _ _ _ h ls H locs hl (ab_cons_ok (hl.2.2 _ (List.mem_of_getElem? e1)) hS) hw
  case iload_n k =>
    have hd := hn.resolve_left (by intro z; cases z)
    subst hd
    replace h := ab_gI_of h
    obtain ⟨x, e1, h⟩ := h
    refine lv_iload_n hx hb hdg rfl (hl.at e1 (by intro q; cases q)) ?_
    exact hK rfl _ _ _ h ls H locs hl (ab_cons_ok (hl.2.2 _ (List.mem_of_getElem? e1)) hS) hw
  case lload k =>
    have hd := hn.resolve_left (by intro z; cases z)
    subst hd
    replace h := ab_gL_of h
    obtain ⟨x, e1, h⟩ := h
    refine lv_lload hx hb hdg (hl.at e1 (by intro q; cases q)) ?_
    exact hK rfl _ _ _ h ls H locs hl (ab_cons_ok (hl.2.2 _ (List.mem_of_getElem? e1)) hS) hw
  case lload_n k =>
    have hd := hn.resolve_left (by intro z; cases z)
    subst hd
    replace h := ab_gL_of h
    obtain ⟨x, e1, h⟩ := h
    refine lv_lload_n hx hb hdg rfl (hl.at e1 (by intro q; cases q)) ?_
    exact hK rfl _ _ _ h ls H locs hl (ab_cons_ok (hl.2.2 _ (List.mem_of_getElem? e1)) hS) hw
  case aload k =>
    have hd := hn.resolve_left (by intro z; cases z)
    subst hd
    replace h := ab_gR_of h
    obtain ⟨x, e1, h⟩ := h
    refine lv_aload hx hb hdg (hl.at e1 (by intro q; cases q)) ?_
    exact hK rfl _ _ _ h ls H locs hl (ab_cons_ok (hl.2.2 _ (List.mem_of_getElem? e1)) hS) hw
  case aload_n k =>
    have hd := hn.resolve_left (by intro z; cases z)
    subst hd
    replace h := ab_gR_of h
    obtain ⟨x, e1, h⟩ := h
    refine lv_aload_n hx hb hdg rfl (hl.at e1 (by intro q; cases q)) ?_
    exact hK rfl _ _ _ h ls H locs hl (ab_cons_ok (hl.2.2 _ (List.mem_of_getElem? e1)) hS) hw
  case istore k =>
    have hd := hn.resolve_left (by intro z; cases z)
    subst hd
    replace h := ab_pI_of h
    obtain ⟨x, S', rfl, h⟩ := h
    refine lv_istore hx hb hdg hl.2.1 hck rfl (fun ls' hl' => ?_)
    exact hK rfl _ _ _ h ls' H locs (hl.st (v := vI x) (hS _ List.mem_cons_self) hl') (ab_tail_ok hS) hw
  case istore_n k =>
    have hd := hn.resolve_left (by intro z; cases z)
    subst hd
    replace h := ab_pI_of h
    obtain ⟨x, S', rfl, h⟩ := h
    refine lv_istore_n hx hb hdg rfl hl.2.1 hck rfl (fun ls' hl' => ?_)
    exact hK rfl _ _ _ h ls' H locs (hl.st (v := vI x) (hS _ List.mem_cons_self) hl') (ab_tail_ok hS) hw
  case astore k =>
    have hd := hn.resolve_left (by intro z; cases z)
    subst hd
    replace h := ab_pR_of h
    obtain ⟨x, S', rfl, h⟩ := h
    refine lv_astore hx hb hdg hl.2.1 hck rfl (fun ls' hl' => ?_)
    exact hK rfl _ _ _ h ls' H locs (hl.st (v := vR x) (hS _ List.mem_cons_self) hl') (ab_tail_ok hS) hw
  case astore_n k =>
    have hd := hn.resolve_left (by intro z; cases z)
    subst hd
    replace h := ab_pR_of h
    obtain ⟨x, S', rfl, h⟩ := h
    refine lv_astore_n hx hb hdg rfl hl.2.1 hck rfl (fun ls' hl' => ?_)
    exact hK rfl _ _ _ h ls' H locs (hl.st (v := vR x) (hS _ List.mem_cons_self) hl') (ab_tail_ok hS) hw
  case lstore k =>
    have hd := hn.resolve_left (by intro z; cases z)
    subst hd
    replace h := ab_pL_of h
    obtain ⟨x, S', rfl, h⟩ := h
    refine lv_lstore hx hb hdg hl.2.1 hck rfl (fun ls' hl' => ?_)
    exact hK rfl _ _ _ h ls' H locs (hl.stl (v := vL x) (hS _ List.mem_cons_self) hl') (ab_tail_ok hS) hw
  case lstore_n k =>
    have hd := hn.resolve_left (by intro z; cases z)
    subst hd
    replace h := ab_pL_of h
    obtain ⟨x, S', rfl, h⟩ := h
    refine lv_lstore_n hx hb hdg rfl hl.2.1 hck rfl (fun ls' hl' => ?_)
    exact hK rfl _ _ _ h ls' H locs (hl.stl (v := vL x) (hS _ List.mem_cons_self) hl') (ab_tail_ok hS) hw
  case iinc k c =>
    have hd := hn.resolve_left (by intro z; cases z)
    subst hd
    replace h := ab_gI_of h
    obtain ⟨x, e1, h⟩ := h
    have hm : (k, Value.int (Int32.ofInt x)) ∈ ab_lp ad L := ab_lp_mem.mpr ⟨vI x, e1, (by intro q; cases q), rfl⟩
    obtain ⟨j, hj⟩ := List.getElem?_of_mem hm
    refine lv_iinc (v := Int32.ofInt (iW (x + c))) hx hb hdg hl.2.1 hj (by rw [iW_o, Int32.ofInt_add]) hck.1 rfl (fun ls' hl' => ?_)
    exact hK rfl _ _ _ h ls' H locs (hl.st (v := vI (iW (x + c))) (iW_r _) hl') hS hw
  case iadd =>
    have hd := hn.resolve_left (by intro z; cases z)
    subst hd
    replace h := ab_pII_of h
    obtain ⟨x, y, S', rfl, h⟩ := h
    refine lv_iadd hx hb hdg (ab_ti2 (b := Int32.ofInt (iW (x + y))) (by rw [iW_o, Int32.ofInt_add]) ?_)
    exact hK rfl _ _ _ h ls H locs hl (ab_cons_ok (iW_r _) (ab_tail_ok (ab_tail_ok hS))) hw
  case isub =>
    have hd := hn.resolve_left (by intro z; cases z)
    subst hd
    replace h := ab_pII_of h
    obtain ⟨x, y, S', rfl, h⟩ := h
    refine lv_isub hx hb hdg (ab_ti2 (b := Int32.ofInt (iW (x - y))) (by rw [iW_o, Int32.ofInt_sub]) ?_)
    exact hK rfl _ _ _ h ls H locs hl (ab_cons_ok (iW_r _) (ab_tail_ok (ab_tail_ok hS))) hw
  case imul =>
    have hd := hn.resolve_left (by intro z; cases z)
    subst hd
    replace h := ab_pII_of h
    obtain ⟨x, y, S', rfl, h⟩ := h
    refine lv_imul hx hb hdg (ab_ti2 (b := Int32.ofInt (iW (x * y))) (by rw [iW_o, Int32.ofInt_mul]) ?_)
    exact hK rfl _ _ _ h ls H locs hl (ab_cons_ok (iW_r _) (ab_tail_ok (ab_tail_ok hS))) hw
  case ladd =>
    have hd := hn.resolve_left (by intro z; cases z)
    subst hd
    replace h := ab_pLL_of h
    obtain ⟨x, y, S', rfl, h⟩ := h
    refine lv_ladd hx hb hdg (ab_tl2 (b := Int64.ofInt (lW (x + y))) (by rw [lW_o, Int64.ofInt_add]) ?_)
    exact hK rfl _ _ _ h ls H locs hl (ab_cons_ok (lW_r _) (ab_tail_ok (ab_tail_ok hS))) hw
  case lsub =>
    have hd := hn.resolve_left (by intro z; cases z)
    subst hd
    replace h := ab_pLL_of h
    obtain ⟨x, y, S', rfl, h⟩ := h
    refine lv_lsub hx hb hdg (ab_tl2 (b := Int64.ofInt (lW (x - y))) (by rw [lW_o, Int64.ofInt_sub]) ?_)
    exact hK rfl _ _ _ h ls H locs hl (ab_cons_ok (lW_r _) (ab_tail_ok (ab_tail_ok hS))) hw
  case lmul =>
    have hd := hn.resolve_left (by intro z; cases z)
    subst hd
    replace h := ab_pLL_of h
    obtain ⟨x, y, S', rfl, h⟩ := h
    refine lv_lmul hx hb hdg (ab_tl2 (b := Int64.ofInt (lW (x * y))) (by rw [lW_o, Int64.ofInt_mul]) ?_)
    exact hK rfl _ _ _ h ls H locs hl (ab_cons_ok (lW_r _) (ab_tail_ok (ab_tail_ok hS))) hw
  case idiv =>
    have hd := hn.resolve_left (by intro z; cases z)
    subst hd
    replace h := ab_pII_of h
    obtain ⟨x, y, S', rfl, h0, h⟩ := h
    refine lv_idiv hx hb hdg (by rw [ab_z32, ab_eq32 (hS _ List.mem_cons_self) ab_r0]; exact h0) (ab_ti2 (ab_oi _).symm ?_)
    exact hK rfl _ _ _ h ls H locs hl (ab_cons_ok (ab_ri _) (ab_tail_ok (ab_tail_ok hS))) hw
  case irem =>
    have hd := hn.resolve_left (by intro z; cases z)
    subst hd
    replace h := ab_pII_of h
    obtain ⟨x, y, S', rfl, h0, h⟩ := h
    refine lv_irem hx hb hdg (by rw [ab_z32, ab_eq32 (hS _ List.mem_cons_self) ab_r0]; exact h0) (ab_ti2 (ab_oi _).symm ?_)
    exact hK rfl _ _ _ h ls H locs hl (ab_cons_ok (ab_ri _) (ab_tail_ok (ab_tail_ok hS))) hw
  case ldiv =>
    have hd := hn.resolve_left (by intro z; cases z)
    subst hd
    replace h := ab_pLL_of h
    obtain ⟨x, y, S', rfl, h0, h⟩ := h
    refine lv_ldiv hx hb hdg (by rw [ab_z64, ab_eq64 (hS _ List.mem_cons_self) (ab_r3264 ab_r0)]; exact h0) (ab_tl2 (ab_ol _).symm ?_)
    exact hK rfl _ _ _ h ls H locs hl (ab_cons_ok (ab_rl _) (ab_tail_ok (ab_tail_ok hS))) hw
  case lrem =>
    have hd := hn.resolve_left (by intro z; cases z)
    subst hd
    replace h := ab_pLL_of h
    obtain ⟨x, y, S', rfl, h0, h⟩ := h
    refine lv_lrem hx hb hdg (by rw [ab_z64, ab_eq64 (hS _ List.mem_cons_self) (ab_r3264 ab_r0)]; exact h0) (ab_tl2 (ab_ol _).symm ?_)
    exact hK rfl _ _ _ h ls H locs hl (ab_cons_ok (ab_rl _) (ab_tail_ok (ab_tail_ok hS))) hw
  case iand =>
    have hd := hn.resolve_left (by intro z; cases z)
    subst hd
    replace h := ab_pII_of h
    obtain ⟨x, y, S', rfl, h⟩ := h
    refine lv_iand hx hb hdg (ab_ti2 (ab_oi _).symm ?_)
    exact hK rfl _ _ _ h ls H locs hl (ab_cons_ok (ab_ri _) (ab_tail_ok (ab_tail_ok hS))) hw
  case ior =>
    have hd := hn.resolve_left (by intro z; cases z)
    subst hd
    replace h := ab_pII_of h
    obtain ⟨x, y, S', rfl, h⟩ := h
    refine lv_ior hx hb hdg (ab_ti2 (ab_oi _).symm ?_)
    exact hK rfl _ _ _ h ls H locs hl (ab_cons_ok (ab_ri _) (ab_tail_ok (ab_tail_ok hS))) hw
  case ixor =>
    have hd := hn.resolve_left (by intro z; cases z)
    subst hd
    replace h := ab_pII_of h
    obtain ⟨x, y, S', rfl, h⟩ := h
    refine lv_ixor hx hb hdg (ab_ti2 (ab_oi _).symm ?_)
    exact hK rfl _ _ _ h ls H locs hl (ab_cons_ok (ab_ri _) (ab_tail_ok (ab_tail_ok hS))) hw
  case ishl =>
    have hd := hn.resolve_left (by intro z; cases z)
    subst hd
    replace h := ab_pII_of h
    obtain ⟨x, y, S', rfl, h⟩ := h
    refine lv_ishl hx hb hdg (ab_ti2 (ab_oi _).symm ?_)
    exact hK rfl _ _ _ h ls H locs hl (ab_cons_ok (ab_ri _) (ab_tail_ok (ab_tail_ok hS))) hw
  case ishr =>
    have hd := hn.resolve_left (by intro z; cases z)
    subst hd
    replace h := ab_pII_of h
    obtain ⟨x, y, S', rfl, h⟩ := h
    refine lv_ishr hx hb hdg (ab_ti2 (ab_oi _).symm ?_)
    exact hK rfl _ _ _ h ls H locs hl (ab_cons_ok (ab_ri _) (ab_tail_ok (ab_tail_ok hS))) hw
  case iushr =>
    have hd := hn.resolve_left (by intro z; cases z)
    subst hd
    replace h := ab_pII_of h
    obtain ⟨x, y, S', rfl, h⟩ := h
    refine lv_iushr hx hb hdg rfl (ab_ti2 (ab_oi _).symm ?_)
    exact hK rfl _ _ _ h ls H locs hl (ab_cons_ok (ab_ri _) (ab_tail_ok (ab_tail_ok hS))) hw
  case land =>
    have hd := hn.resolve_left (by intro z; cases z)
    subst hd
    replace h := ab_pLL_of h
    obtain ⟨x, y, S', rfl, h⟩ := h
    refine lv_land hx hb hdg (ab_tl2 (ab_ol _).symm ?_)
    exact hK rfl _ _ _ h ls H locs hl (ab_cons_ok (ab_rl _) (ab_tail_ok (ab_tail_ok hS))) hw
  case lor =>
    have hd := hn.resolve_left (by intro z; cases z)
    subst hd
    replace h := ab_pLL_of h
    obtain ⟨x, y, S', rfl, h⟩ := h
    refine lv_lor hx hb hdg (ab_tl2 (ab_ol _).symm ?_)
    exact hK rfl _ _ _ h ls H locs hl (ab_cons_ok (ab_rl _) (ab_tail_ok (ab_tail_ok hS))) hw
  case lshl =>
    have hd := hn.resolve_left (by intro z; cases z)
    subst hd
    replace h := ab_pIL_of h
    obtain ⟨x, y, S', rfl, h⟩ := h
    refine lv_lshl hx hb hdg rfl (ab_tl2 (ab_ol _).symm ?_)
    exact hK rfl _ _ _ h ls H locs hl (ab_cons_ok (ab_rl _) (ab_tail_ok (ab_tail_ok hS))) hw
  case lshr =>
    have hd := hn.resolve_left (by intro z; cases z)
    subst hd
    replace h := ab_pIL_of h
    obtain ⟨x, y, S', rfl, h⟩ := h
    refine lv_lshr hx hb hdg rfl (ab_tl2 (ab_ol _).symm ?_)
    exact hK rfl _ _ _ h ls H locs hl (ab_cons_ok (ab_rl _) (ab_tail_ok (ab_tail_ok hS))) hw
  case lushr =>
    have hd := hn.resolve_left (by intro z; cases z)
    subst hd
    replace h := ab_pIL_of h
    obtain ⟨x, y, S', rfl, h⟩ := h
    refine lv_lushr hx hb hdg rfl (ab_tl2 (ab_ol _).symm ?_)
    exact hK rfl _ _ _ h ls H locs hl (ab_cons_ok (ab_rl _) (ab_tail_ok (ab_tail_ok hS))) hw
  case i2l =>
    have hd := hn.resolve_left (by intro z; cases z)
    subst hd
    replace h := ab_pI_of h
    obtain ⟨x, S', rfl, h⟩ := h
    refine lv_i2l hx hb hdg (ab_i2l (hS _ List.mem_cons_self)) ?_
    exact hK rfl _ _ _ h ls H locs hl (ab_cons_ok (ab_r3264 (hS _ List.mem_cons_self)) (ab_tail_ok hS)) hw
  case l2i =>
    have hd := hn.resolve_left (by intro z; cases z)
    subst hd
    replace h := ab_pL_of h
    obtain ⟨x, S', rfl, h⟩ := h
    refine lv_l2i hx hb hdg (ab_l2i (hS _ List.mem_cons_self)) ?_
    exact hK rfl _ _ _ h ls H locs hl (ab_cons_ok (iW_r _) (ab_tail_ok hS)) hw
  case i2b =>
    have hd := hn.resolve_left (by intro z; cases z)
    subst hd
    replace h := ab_pI_of h
    obtain ⟨x, S', rfl, h⟩ := h
    refine lv_i2b hx hb hdg rfl (ab_ti2 (ab_oi _).symm ?_)
    exact hK rfl _ _ _ h ls H locs hl (ab_cons_ok (ab_ri _) (ab_tail_ok hS)) hw
  case i2s =>
    have hd := hn.resolve_left (by intro z; cases z)
    subst hd
    replace h := ab_pI_of h
    obtain ⟨x, S', rfl, h⟩ := h
    refine lv_i2s hx hb hdg rfl (ab_ti2 (ab_oi _).symm ?_)
    exact hK rfl _ _ _ h ls H locs hl (ab_cons_ok (ab_ri _) (ab_tail_ok hS)) hw
  case lcmp =>
    have hd := hn.resolve_left (by intro z; cases z)
    subst hd
    replace h := ab_pLL_of h
    obtain ⟨x, y, S', rfl, h⟩ := h
    refine W.lcmp hx hb hdg (ab_ti2 (ab_lcm (hS _ (List.mem_cons_of_mem _ List.mem_cons_self)) (hS _ List.mem_cons_self)) ?_)
    exact hK rfl _ _ _ h ls H locs hl (ab_cons_ok (ab_lcr _ _) (ab_tail_ok (ab_tail_ok hS))) hw
  case dup =>
    have hd := hn.resolve_left (by intro z; cases z)
    subst hd
    dsimp only [ab_wp] at h
    split at h
    · rename_i x S'
      refine lv_dup (va := .int (Int32.ofInt x)) hx hb hdg rfl ?_
      exact hK rfl _ _ _ h ls H locs hl (ab_cons_ok (hS _ List.mem_cons_self) hS) hw
    · rename_i x S'
      refine lv_dup (va := .ref (ad x)) hx hb hdg rfl ?_
      exact hK rfl _ _ _ h ls H locs hl (ab_cons_ok (hS _ List.mem_cons_self) hS) hw
    · exact h.elim
  case dup2 =>
    have hd := hn.resolve_left (by intro z; cases z)
    subst hd
    replace h := ab_pIR_of h
    obtain ⟨q, i, S', rfl, h⟩ := h
    refine lv_dup2_11 (va := .int (Int32.ofInt i)) (vb := .ref (ad q)) hx hb hdg rfl rfl ?_
    exact hK rfl _ _ _ h ls H locs hl (ab_cons_ok (hS _ List.mem_cons_self) (ab_cons_ok (v := vR q) trivial hS)) hw
  case ifCond k off =>
    have hd := hn.resolve_left (by intro z; cases z)
    subst hd
    replace h := ab_pI_of h
    obtain ⟨x, S', rfl, h⟩ := h
    obtain ⟨t, ht1, ht2⟩ := hck
    have hxr : ab_r32 x := hS _ List.mem_cons_self
    cases k
    · have hi := ab_eq32 hxr ab_r0
      rw [← ab_z32] at hi
      refine lv_if_eq hx hb hdg ht2 (fun q => ?_) (fun q => ?_)
      · exact hJ _ _ _ _ _ ht1 (h.1 (hi.mp q)) ls H locs hl (ab_tail_ok hS) hw
      · exact hK rfl _ _ _ (h.2 (fun z => q (hi.mpr z))) ls H locs hl (ab_tail_ok hS) hw
    · have hi := ab_eq32 hxr ab_r0
      rw [← ab_z32] at hi
      refine lv_if_ne hx hb hdg ht2 (fun q => ?_) (fun q => ?_)
      · exact hJ _ _ _ _ _ ht1 (h.1 (fun z => q (hi.mpr z))) ls H locs hl (ab_tail_ok hS) hw
      · exact hK rfl _ _ _ (h.2 (fun z => z (hi.mp q))) ls H locs hl (ab_tail_ok hS) hw
    · have hi := ab_lt32 hxr ab_r0
      rw [← ab_z32] at hi
      refine lv_if_lt hx hb hdg ht2 (fun q => ?_) (fun q => ?_)
      · exact hJ _ _ _ _ _ ht1 (h.1 (hi.mp q)) ls H locs hl (ab_tail_ok hS) hw
      · exact hK rfl _ _ _ (h.2 (fun z => q (hi.mpr z))) ls H locs hl (ab_tail_ok hS) hw
    · have hi := ab_le32 ab_r0 hxr
      rw [← ab_z32] at hi
      refine lv_if_ge hx hb hdg ht2 (fun q => ?_) (fun q => ?_)
      · exact hJ _ _ _ _ _ ht1 (h.1 (hi.mp q)) ls H locs hl (ab_tail_ok hS) hw
      · exact hK rfl _ _ _ (h.2 (fun z => q (hi.mpr z))) ls H locs hl (ab_tail_ok hS) hw
    · have hi := ab_lt32 ab_r0 hxr
      rw [← ab_z32] at hi
      refine lv_if_gt hx hb hdg ht2 (fun q => ?_) (fun q => ?_)
      · exact hJ _ _ _ _ _ ht1 (h.1 (hi.mp q)) ls H locs hl (ab_tail_ok hS) hw
      · exact hK rfl _ _ _ (h.2 (fun z => q (hi.mpr z))) ls H locs hl (ab_tail_ok hS) hw
    · have hi := ab_le32 hxr ab_r0
      rw [← ab_z32] at hi
      refine lv_if_le hx hb hdg ht2 (fun q => ?_) (fun q => ?_)
      · exact hJ _ _ _ _ _ ht1 (h.1 (hi.mp q)) ls H locs hl (ab_tail_ok hS) hw
      · exact hK rfl _ _ _ (h.2 (fun z => q (hi.mpr z))) ls H locs hl (ab_tail_ok hS) hw
  case if_icmp k off =>
    have hd := hn.resolve_left (by intro z; cases z)
    subst hd
    replace h := ab_pII_of h
    obtain ⟨x, y, S', rfl, h⟩ := h
    obtain ⟨t, ht1, ht2⟩ := hck
    have hxr : ab_r32 x := hS _ (List.mem_cons_of_mem _ List.mem_cons_self)
    have hyr : ab_r32 y := hS _ List.mem_cons_self
    cases k
    · have hi := ab_eq32 hxr hyr
      refine lv_icmp_eq hx hb hdg ht2 (fun q => ?_) (fun q => ?_)
      · exact hJ _ _ _ _ _ ht1 (h.1 (hi.mp q)) ls H locs hl (ab_tail_ok (ab_tail_ok hS)) hw
      · exact hK rfl _ _ _ (h.2 (fun z => q (hi.mpr z))) ls H locs hl (ab_tail_ok (ab_tail_ok hS)) hw
    · have hi := ab_eq32 hxr hyr
      refine lv_icmp_ne hx hb hdg ht2 (fun q => ?_) (fun q => ?_)
      · exact hJ _ _ _ _ _ ht1 (h.1 (fun z => q (hi.mpr z))) ls H locs hl (ab_tail_ok (ab_tail_ok hS)) hw
      · exact hK rfl _ _ _ (h.2 (fun z => z (hi.mp q))) ls H locs hl (ab_tail_ok (ab_tail_ok hS)) hw
    · have hi := ab_lt32 hxr hyr
      refine lv_icmp_lt hx hb hdg ht2 (fun q => ?_) (fun q => ?_)
      · exact hJ _ _ _ _ _ ht1 (h.1 (hi.mp q)) ls H locs hl (ab_tail_ok (ab_tail_ok hS)) hw
      · exact hK rfl _ _ _ (h.2 (fun z => q (hi.mpr z))) ls H locs hl (ab_tail_ok (ab_tail_ok hS)) hw
    · have hi := ab_le32 hyr hxr
      refine lv_icmp_ge hx hb hdg ht2 (fun q => ?_) (fun q => ?_)
      · exact hJ _ _ _ _ _ ht1 (h.1 (hi.mp q)) ls H locs hl (ab_tail_ok (ab_tail_ok hS)) hw
      · exact hK rfl _ _ _ (h.2 (fun z => q (hi.mpr z))) ls H locs hl (ab_tail_ok (ab_tail_ok hS)) hw
    · have hi := ab_lt32 hyr hxr
      refine lv_icmp_gt hx hb hdg ht2 (fun q => ?_) (fun q => ?_)
      · exact hJ _ _ _ _ _ ht1 (h.1 (hi.mp q)) ls H locs hl (ab_tail_ok (ab_tail_ok hS)) hw
      · exact hK rfl _ _ _ (h.2 (fun z => q (hi.mpr z))) ls H locs hl (ab_tail_ok (ab_tail_ok hS)) hw
    · have hi := ab_le32 hxr hyr
      refine lv_icmp_le hx hb hdg ht2 (fun q => ?_) (fun q => ?_)
      · exact hJ _ _ _ _ _ ht1 (h.1 (hi.mp q)) ls H locs hl (ab_tail_ok (ab_tail_ok hS)) hw
      · exact hK rfl _ _ _ (h.2 (fun z => q (hi.mpr z))) ls H locs hl (ab_tail_ok (ab_tail_ok hS)) hw
  case goto off =>
    have hd := hn.resolve_left (by intro z; cases z)
    subst hd
    obtain ⟨t, ht1, ht2⟩ := hck
    exact lv_goto hx hb hdg ht2 (hJ _ _ _ _ _ ht1 h ls H locs hl hS hw)
  case tableswitch d lo hi offs =>
    replace h := ab_pI_of h
    obtain ⟨x, S', rfl, h⟩ := h
    obtain ⟨⟨t, ht1, ht2⟩, hhi, hlen, hall⟩ := hck
    have hxr : ab_r32 x := hS _ List.mem_cons_self
    by_cases ho : x < lo ∨ hi < x
    · have hd : ab_sw lo ex.tail (ex.headD 0) x = ex.headD 0 := by
        unfold ab_sw
        by_cases hlo : lo ≤ x
        · rw [if_pos hlo, List.getElem?_eq_none (by omega)]; rfl
        · rw [if_neg hlo]
      rw [hd] at h
      exact lv_tableOut hx hb hdg (by rw [ab_ti hxr]; exact ho) ht2 (hJ _ _ _ _ _ ht1 h ls H locs hl (ab_tail_ok hS) hw)
    · have hj : (x - lo).toNat < ex.tail.length := by omega
      have hb' : ex.tail[(x - lo).toNat]? = some ex.tail[(x - lo).toNat] := List.getElem?_eq_getElem hj
      have ho' : offs[(x - lo).toNat]? = some (offs[(x - lo).toNat]'(by omega)) := Array.getElem?_eq_getElem _
      obtain ⟨t2, hq1, hq2⟩ := hall _ _ _ hb' ho'
      have hd : ab_sw lo ex.tail (ex.headD 0) x = ex.tail[(x - lo).toNat] := by
        unfold ab_sw
        rw [if_pos (by omega), hb']; rfl
      rw [hd] at h
      exact lv_tableIn hx hb hdg (by rw [ab_ti hxr]; omega) (by rw [ab_ti hxr]; omega) (by rw [ab_ti hxr]; exact ho') hq2 (hJ _ _ _ _ _ hq1 h ls H locs hl (ab_tail_ok hS) hw)
  case lookupswitch d ps =>
    replace h := ab_pI_of h
    obtain ⟨x, S', rfl, h⟩ := h
    obtain ⟨hdf, hsort, hlen, hall⟩ := hck
    have hxr : ab_r32 x := hS _ List.mem_cons_self
    obtain ⟨t2, hq1, hq2⟩ := ab_lsw_ok (pcs := pcs) (pc := pc) (d := d) (db := ex.headD 0) x ps.toList ex.tail hlen hdf hall
    exact lv_lookup hx hb hdg hsort (by rw [ab_ti hxr]) hq2 (hJ _ _ _ _ _ hq1 h ls H locs hl (ab_tail_ok hS) hw)
  case ireturn =>
    have hd := hn.resolve_left (by intro z; cases z)
    subst hd
    dsimp only [ab_wp] at h
    split at h
    · rename_i x
      exact (hR pc w ls H locs hw).1 ex x hdg hck h.2 (hS _ List.mem_cons_self) h.1
    · exact h.elim
  case lreturn =>
    have hd := hn.resolve_left (by intro z; cases z)
    subst hd
    dsimp only [ab_wp] at h
    split at h
    · rename_i x
      exact (hR pc w ls H locs hw).2.1 x hdg hck h (hS _ List.mem_cons_self)
    · exact h.elim
  case return_ =>
    have hd := hn.resolve_left (by intro z; cases z)
    subst hd
    dsimp only [ab_wp] at h
    split at h
    · exact (hR pc w ls H locs hw).2.2 hdg hck h
    · exact h.elim
  case getfield i =>
    have hd := hn.resolve_left (by intro z; cases z)
    subst hd
    replace h := ab_pR_of h
    obtain ⟨q, S', rfl, h⟩ := h
    obtain ⟨ci, k, Cn, T, N, rfl, hc, hk, hlink⟩ := hck
    dsimp only [List.headD, List.tail] at h
    split at h
    · rename_i hf
      obtain ⟨fs, e1, e2⟩ := ab_fld_of hf
      refine va_get (v := .int (Int32.ofInt (w q k))) hx hb hts (ab_lay ci Cn T N hc) hown hKK hP q (ab_ws_get e1) hc k hk (hts _ hlink) (fun _ z => z) (by rw [List.getElem?_mapIdx, e2]; rfl) hdg ?_
      exact hK rfl _ _ _ h ls H locs hl (ab_cons_ok (show ab_r32 (w q k) from (hok q k).2 (by unfold ab_arr; rw [e1])) (ab_tail_ok hS)) hw
    · rename_i j hf
      obtain ⟨fs, e1, e2⟩ := ab_fld_of hf
      refine va_get (v := .ref (ad j)) hx hb hts (ab_lay ci Cn T N hc) hown hKK hP q (ab_ws_get e1) hc k hk (hts _ hlink) (fun _ z => z) (by rw [List.getElem?_mapIdx, e2]; rfl) hdg ?_
      exact hK rfl _ _ _ h ls H locs hl (ab_cons_ok (v := vR j) trivial (ab_tail_ok hS)) hw
    · exact h.elim
  case putfield i =>
    have hd := hn.resolve_left (by intro z; cases z)
    subst hd
    dsimp only [ab_wp] at h
    split at h
    · rename_i x q S'
      obtain ⟨ci, k, b, Cn, T, N, rfl, hc, hk, hlink, hfin, hty⟩ := hck
      dsimp only [List.headD, List.tail] at h
      obtain ⟨hf, hbo, h⟩ := h
      obtain ⟨fs, e1, e2⟩ := ab_fld_of hf
      obtain ⟨ty0, ht0, hnm⟩ := ab_typ ci Cn T N hc
      have hxr : ab_r32 x := hS _ List.mem_cons_self
      have hnum : ∃ ty, parseFieldDescriptor (T k).2.2.1 = some ty ∧ narrow ty (.int (Int32.ofInt x)) = .int (Int32.ofInt x) ∧ fits ty (.int (Int32.ofInt x)) = true := by
        rcases hty with ⟨rfl, hty⟩ | ⟨rfl, hty⟩
        · rw [hty]
          exact ⟨.int, by decide +kernel, vp_nar_int _, rfl⟩
        · rw [hty]
          refine ⟨.boolean, by decide +kernel, ?_⟩
          rcases hbo rfl with rfl | rfl <;> exact ⟨by decide +kernel, by decide +kernel⟩
      obtain ⟨ty, hd1, hd2, hd3⟩ := hnum
      refine va_put hx hb hts (ab_lay ci Cn T N hc) ty0 ht0 hnm hown hKK hP hD hSS q (ab_ws_get e1) hc k hk (hts _ hlink) (fun _ z => z) hfin hd1 hd2 hd3 (by rw [List.length_mapIdx]; exact (List.getElem?_eq_some_iff.mp e2).1) hdg (fun H1 locs1 hP1 hD1 hS1 => ?_)
      have he : (ab_ws ad cA w).set q (ad q, .inr (ci, (fs.mapIdx (ab_fv ad w q)).set k (.int (Int32.ofInt x)))) = ab_ws ad cA (ab_up w q k x) := ab_ws_set e1 (by rw [ab_fv_set e2]; rfl) (fun j hj => ab_up_ne hj)
      have hP2 : va_P D ab_cl (ab_ws ad cA (ab_up w q k x)) H1 := by rw [← he]; exact hP1
      exact hK rfl _ _ _ h ls H1 locs1 hl (ab_tail_ok (ab_tail_ok hS)) (ab_rel_up (ab_shp_69 e1) hro (ab_okW_up hok (ab_r3264 hxr) (fun _ => hxr)) hP2 hS1)
    · exact h.elim
  case getstatic i =>
    have hd := hn.resolve_left (by intro z; cases z)
    subst hd
    refine va_gets (v := .ref (ad 100)) hx hb hX.2.2.2.2.2.2.1 hSS hown (hts _ hck) (fun _ z => z) hdg ?_
    exact hK rfl _ _ _ h ls H locs hl (ab_cons_ok (v := vR 100) trivial hS) hw
  case iaload =>
    have hd := hn.resolve_left (by intro z; cases z)
    subst hd
    replace h := ab_pIR_of h
    obtain ⟨q, i, S', rfl, h⟩ := h
    have hir : ab_r32 i := hS _ List.mem_cons_self
    split at h
    · rename_i n' hf
      obtain ⟨⟨hi0, hin⟩, h⟩ := h
      have hcl := ab_clamp hir
      rcases ab_ild_of hf with hf | hf
      · obtain ⟨rs, e1⟩ := ab_arr_of hf
        refine va_iald hx hb hKK hP q 0 (ab_ws_get e1) rfl (ab_in hir hi0 hin) hdg ?_
        rw [hcl]
        exact hK rfl _ _ _ h ls H locs hl (ab_cons_ok (show ab_r32 (w q i.toNat) from (hok q _).2 (by unfold ab_arr; rw [e1]; rfl)) (ab_tail_ok (ab_tail_ok hS))) hw
      · rcases ab_ro_of hf with ⟨rfl, rfl⟩ | ⟨rfl, rfl⟩
        · refine va_sld hx hb hX.1 hX.2.1 hX.2.2.1 hSS (ab_in hir hi0 hin) hdg ?_
          rw [hcl, ← hro 100 (by omega)]
          exact hK rfl _ _ _ h ls H locs hl (ab_cons_ok (show ab_r32 (w 100 i.toNat) from (hok 100 _).2 rfl) (ab_tail_ok (ab_tail_ok hS))) hw
        · refine va_sld hx hb hX.2.2.2.1 hX.2.2.2.2.1 hX.2.2.2.2.2.1 hSS (ab_in hir hi0 hin) hdg ?_
          rw [hcl, ← hro 101 (by omega)]
          exact hK rfl _ _ _ h ls H locs hl (ab_cons_ok (show ab_r32 (w 101 i.toNat) from (hok 101 _).2 rfl) (ab_tail_ok (ab_tail_ok hS))) hw
    · exact h.elim
  case laload =>
    have hd := hn.resolve_left (by intro z; cases z)
    subst hd
    replace h := ab_pIR_of h
    obtain ⟨q, i, S', rfl, h⟩ := h
    have hir : ab_r32 i := hS _ List.mem_cons_self
    split at h
    · rename_i n' hf
      obtain ⟨⟨hi0, hin⟩, h⟩ := h
      have hcl := ab_clamp hir
      obtain ⟨rs, e1⟩ := ab_arr_of hf
      refine va_lald hx hb hKK hP q 1 (ab_ws_get e1) rfl (ab_in hir hi0 hin) hdg ?_
      rw [hcl]
      exact hK rfl _ _ _ h ls H locs hl (ab_cons_ok (show ab_r64 (w q i.toNat) from (hok q _).1) (ab_tail_ok (ab_tail_ok hS))) hw
    · exact h.elim
  case baload =>
    have hd := hn.resolve_left (by intro z; cases z)
    subst hd
    replace h := ab_pIR_of h
    obtain ⟨q, i, S', rfl, h⟩ := h
    have hir : ab_r32 i := hS _ List.mem_cons_self
    split at h
    · rename_i n' hf
      obtain ⟨⟨hi0, hin⟩, h⟩ := h
      have hcl := ab_clamp hir
      obtain ⟨rs, e1⟩ := ab_arr_of hf
      refine va_zald hx hb hKK hP q 2 (ab_ws_get e1) rfl (ab_in hir hi0 hin) hdg ?_
      rw [hcl]
      exact hK rfl _ _ _ h ls H locs hl (ab_cons_ok (show ab_r32 (w q i.toNat) from (hok q _).2 (by unfold ab_arr; rw [e1]; rfl)) (ab_tail_ok (ab_tail_ok hS))) hw
    · exact h.elim
  case aaload =>
    have hd := hn.resolve_left (by intro z; cases z)
    subst hd
    replace h := ab_pIR_of h
    obtain ⟨q, i, S', rfl, h⟩ := h
    have hir : ab_r32 i := hS _ List.mem_cons_self
    split at h
    · rename_i rs hf
      split at h
      · rename_i r hr
        obtain ⟨hi0, h⟩ := h
        have hcl := ab_clamp hir
        obtain ⟨n', e1⟩ := ab_refs_of hf
        have hlen := ab_refs_len hf e1
        refine va_aldq (C := RX1) hx hb hKK hP q 3 (ab_ws_get e1) rfl (ab_in hir hi0 (by have := (List.getElem?_eq_some_iff.mp hr).1; omega)) hdg ?_
        rw [hcl, hr]
        exact hK rfl _ _ _ h ls H locs hl (ab_cons_ok (v := vR r) trivial (ab_tail_ok (ab_tail_ok hS))) hw
      · exact h.elim
    · exact h.elim
  case iastore =>
    have hd := hn.resolve_left (by intro z; cases z)
    subst hd
    dsimp only [ab_wp] at h
    split at h
    · rename_i x i q S'
      split at h
      · rename_i n' hf
        obtain ⟨⟨hi0, hin⟩, h⟩ := h
        have hxr : ab_r32 x := hS _ List.mem_cons_self
        have hir : ab_r32 i := hS _ (List.mem_cons_of_mem _ List.mem_cons_self)
        have hcl := ab_clamp hir
        obtain ⟨rs, e1⟩ := ab_arr_of hf
        refine va_iast hx hb hKK hP hD hSS q 0 (ab_ws_get e1) rfl (ab_in hir hi0 hin) hdg (fun H1 locs1 hP1 hD1 hS1 => ?_)
        have he : (ab_ws ad cA w).set q (ad q, .inl (cA 0, n', .inl (upd (fun i => Int32.ofInt (w q i)) (Int32.ofInt i).toNatClampNeg (Int32.ofInt x)))) = ab_ws ad cA (ab_up w q i.toNat x) := by
          refine ab_ws_set e1 ?_ (fun j hj => ab_up_ne hj)
          rw [hcl]
          dsimp only [ab_cell]
          congr 4
          funext j
          by_cases hj : j = i.toNat <;> simp [upd, ab_up, hj]
        rw [he] at hP1
        exact hK rfl _ _ _ h ls H1 locs1 hl (ab_tail_ok (ab_tail_ok (ab_tail_ok hS))) (ab_rel_up (ab_shp_69 e1) hro (ab_okW_up hok (ab_r3264 hxr) (fun _ => hxr)) hP1 hS1)
      · exact h.elim
    · exact h.elim
  case lastore =>
    have hd := hn.resolve_left (by intro z; cases z)
    subst hd
    dsimp only [ab_wp] at h
    split at h
    · rename_i x i q S'
      split at h
      · rename_i n' hf
        obtain ⟨⟨hi0, hin⟩, h⟩ := h
        have hxr : ab_r64 x := hS _ List.mem_cons_self
        have hir : ab_r32 i := hS _ (List.mem_cons_of_mem _ List.mem_cons_self)
        have hcl := ab_clamp hir
        obtain ⟨rs, e1⟩ := ab_arr_of hf
        refine va_last hx hb hKK hP hD hSS q 1 (ab_ws_get e1) rfl (ab_in hir hi0 hin) hdg (fun H1 locs1 hP1 hD1 hS1 => ?_)
        have he : (ab_ws ad cA w).set q (ad q, .inl (cA 1, n', .inr (.inl (vp_updL (fun i => Int64.ofInt (w q i)) (Int32.ofInt i).toNatClampNeg (Int64.ofInt x))))) = ab_ws ad cA (ab_up w q i.toNat x) := by
          refine ab_ws_set e1 ?_ (fun j hj => ab_up_ne hj)
          rw [hcl]
          dsimp only [ab_cell]
          congr 5
          funext j
          by_cases hj : j = i.toNat <;> simp [vp_updL, ab_up, hj]
        rw [he] at hP1
        exact hK rfl _ _ _ h ls H1 locs1 hl (ab_tail_ok (ab_tail_ok (ab_tail_ok hS))) (ab_rel_up (ab_shp_69 e1) hro (ab_okW_up hok hxr (fun z => by unfold ab_arr at z; rw [e1] at z; cases z)) hP1 hS1)
      · exact h.elim
    · exact h.elim
  case bastore =>
    have hd := hn.resolve_left (by intro z; cases z)
    subst hd
    dsimp only [ab_wp] at h
    split at h
    · rename_i x i q S'
      split at h
      · rename_i n' hf
        obtain ⟨⟨hi0, hin⟩, hbo, h⟩ := h
        have hxr : ab_r32 x := hS _ List.mem_cons_self
        have hir : ab_r32 i := hS _ (List.mem_cons_of_mem _ List.mem_cons_self)
        have hcl := ab_clamp hir
        obtain ⟨rs, e1⟩ := ab_arr_of hf
        refine va_zast hx hb hKK hP hD hSS q 2 (ab_ws_get e1) rfl (ab_in hir hi0 hin) hdg (fun H1 locs1 hP1 hD1 hS1 => ?_)
        have he : (ab_ws ad cA w).set q (ad q, .inl (cA 2, n', .inl (upd (fun i => Int32.ofInt (w q i)) (Int32.ofInt i).toNatClampNeg (vp_nar .boolean (Int32.ofInt x))))) = ab_ws ad cA (ab_up w q i.toNat x) := by
          refine ab_ws_set e1 ?_ (fun j hj => ab_up_ne hj)
          rw [show vp_nar .boolean (Int32.ofInt x) = Int32.ofInt x from by rcases hbo with rfl | rfl <;> decide +kernel]; rw [hcl]
          dsimp only [ab_cell]
          congr 4
          funext j
          by_cases hj : j = i.toNat <;> simp [upd, ab_up, hj]
        rw [he] at hP1
        exact hK rfl _ _ _ h ls H1 locs1 hl (ab_tail_ok (ab_tail_ok (ab_tail_ok hS))) (ab_rel_up (ab_shp_69 e1) hro (ab_okW_up hok (ab_r3264 hxr) (fun _ => hxr)) hP1 hS1)
      · exact h.elim
    · exact h.elim
  case arraylength =>
    have hd := hn.resolve_left (by intro z; cases z)
    subst hd
    replace h := ab_pR_of h
    obtain ⟨q, S', rfl, h⟩ := h
    split at h
    · rename_i n' hf
      rcases ab_len_of hf with ⟨kd, rs, e1⟩ | hf
      · have hsm := ab_shp_small q kd n' rs e1
        have hgo : W p l e R s m args below meth c H locs cells slots Q (F0 m (pc + 1) ls (.int (Int32.ofInt (n' : Int)) :: S'.map (ab_c ad))) := hK rfl _ _ _ h ls H locs hl (ab_cons_ok (show ab_r32 (n' : Int) from ⟨by omega, by omega⟩) (ab_tail_ok hS)) hw
        match kd, e1 with
        | 0, e1 => exact va_alen hx hb hKK hP q 0 (ab_ws_get e1) (ty := .int) rfl (ab_ofNat n') hdg hgo
        | 1, e1 => exact va_alen hx hb hKK hP q 1 (ab_ws_get e1) (ty := .long) rfl (ab_ofNat n') hdg hgo
        | 2, e1 => exact va_alen hx hb hKK hP q 2 (ab_ws_get e1) (ty := .boolean) rfl (ab_ofNat n') hdg hgo
        | kd + 3, e1 => exact va_alen hx hb hKK hP q 3 (ab_ws_get e1) (ty := .object RX1) rfl (ab_ofNat n') hdg hgo
      · have hLs := hX.2.2.2.2.2.2.2
        rcases ab_ro_of hf with ⟨rfl, rfl⟩ | ⟨rfl, rfl⟩
        · refine va_slen hx hb hX.1 hX.2.1 hX.2.2.1 hSS hdg (ab_ti2 (ab_ofNat 5) ?_)
          exact hK rfl _ _ _ h ls H locs hl (ab_cons_ok (show ab_r32 ((5 : Nat) : Int) from ⟨by omega, by omega⟩) (ab_tail_ok hS)) hw
        · refine va_slen hx hb hX.2.2.2.1 hX.2.2.2.2.1 hX.2.2.2.2.2.1 hSS hdg (ab_ti2 (ab_ofNat _) ?_)
          exact hK rfl _ _ _ h ls H locs hl (ab_cons_ok (show ab_r32 ((n' : Nat) : Int) from ⟨by omega, by omega⟩) (ab_tail_ok hS)) hw
    · exact h.elim
  case invokevirtual i =>
    have hd := hn.resolve_left (by intro z; cases z)
    subst hd
    obtain ⟨k, n', ci, r, q, rfl, hmt, hst, rfl, hlink, hc, hq⟩ := hck
    dsimp only [ab_wp, ab_call] at h
    split at h
    · rename_i as S' htk
      obtain ⟨hrc, hfew, h⟩ := h
      obtain ⟨bs, hb1, hb2, rfl⟩ := ab_tk_of _ _ _ _ _ htk
      rw [List.append_nil] at hb2
      have hokA : ∀ v ∈ as, ab_ok v := fun v hv => hS v (List.mem_append_left _ (by rw [hb2] at hv; exact List.mem_reverse.mp hv))
      have hokS : ∀ v ∈ S', ab_ok v := fun v hv => hS v (List.mem_append_right _ hv)
      obtain ⟨⟨hR1, hR2, hR3, hR4⟩, hM⟩ := hC _ _ _ _ h
      obtain ⟨⟨m1, m2, m3, m4, m5, m6, m7⟩, hM⟩ := hM hokA r hmt
      obtain ⟨m8, m9⟩ := m7 hst
      replace hrc := ab_rc_of (hrc rfl)
      obtain ⟨pl, as', rfl, hrc⟩ := hrc
      · obtain ⟨fs, e1⟩ := ab_ci_of hrc
        have hcb : CallW R s args own r.1.cls i r.1 r.2.1 r.2.2.1 r.2.2.2.1 (ab_cw r :: ab_TB) rm 0 0 r.2.2.2.2.1 := ⟨callB_of r.2.2.2.2.1 hts (ab_goodTB m1) rfl hR3 hR4 (hts _ m2) (hts _ hlink) m3 ⟨hR1, by omega⟩, hts _ m8, hts _ m9⟩
        have hbs : bs = as'.reverse ++ [vR pl] := by
          have := congrArg List.reverse hb2
          simpa using this.symm
        have hrec := va_recv hKK hP hc (ab_ws_get e1)
        rw [hq] at hrec
        refine ab_behind (S := S') (va_runV (As := as'.map (ab_c ad)) (b := ad pl) ⟨hx, hb, hml, hown, hts⟩ (hM H.size) hcb ⟨ab_Pc_blind, hrec, ab_pre hKK hinj hX hw⟩ rfl (by rw [List.length_map]; have := congrArg List.length hbs; simp at this; omega) hl.2.1.1 (by subst hbs; show List.map _ _ = _; simp [ab_c]) (lv_room (ab_few_of hfew)) hdg ⟨hcs.1, hcs.2⟩) hSS (fun r1 w1 H1 locs1 hpost hok1 hP1 hW1 hro1 hS1 => ?_)
        refine hK rfl _ _ _ hpost ls H1 locs1 hl (fun v hv => ?_) ⟨hP1, hS1, fun p hp => (hro1 p hp).trans (hro p hp), hW1⟩
        cases r1 with
        | none => exact hokS v hv
        | some v1 =>
          rcases List.mem_cons.mp hv with rfl | hv
          · exact hok1 _ rfl
          · exact hokS v hv
    · exact h.elim
  case invokestatic i =>
    have hd := hn.resolve_left (by intro z; cases z)
    subst hd
    rcases hck with ⟨rfl, hlink⟩ | ⟨k, n', ci, r, rfl, hmt, hst, rfl, hlink⟩
    · dsimp only [ab_wp] at h
      rw [if_pos rfl] at h
      unfold ab_copy at h
      split at h
      · rename_i n1 dp q sp p0 S'
        obtain ⟨hfew, hc0, ⟨kd, a, b, hkd, ha, hb', h1, h2, h3, h4, h5⟩, h⟩ := h
        obtain ⟨⟨hR1, hR2, hR3, hR4⟩, -⟩ := hC _ _ _ _ hc0
        have hnr : ab_r32 n1 := hS _ List.mem_cons_self
        have hdr : ab_r32 dp := hS _ (List.mem_cons_of_mem _ List.mem_cons_self)
        have hsr : ab_r32 sp := hS _ (List.mem_cons_of_mem _ (List.mem_cons_of_mem _ (List.mem_cons_of_mem _ List.mem_cons_self)))
        have hokS : ∀ v ∈ S', ab_ok v := ab_tail_ok (ab_tail_ok (ab_tail_ok (ab_tail_ok (ab_tail_ok hS))))
        have nn : ∀ {y : Int}, ab_r32 y → 0 ≤ y → ¬ Int32.ofInt y < 0 := fun hy h0 z => by
          rw [ab_z32, ab_lt32 hy ab_r0] at z; omega
        have hwd : ((S'.map (ab_c ad)).map fun v => v.category).sum + (nativeFrameWords "java/lang/System" "arraycopy" 5 + 11) ≤ R.locals := by
          have := ab_few_of (ad := ad) hfew
          have e7 : nativeFrameWords "java/lang/System" "arraycopy" 5 = 7 := by decide +kernel
          omega
        have hsz : c.maxLocals = ls.size := hml.trans hl.2.1.1.symm
        have c1 := ab_clamp hnr
        have c2 := ab_clamp hdr
        have c3 := ab_clamp hsr
        obtain ⟨ws1, ws2, ws3⟩ := ab_sys
        have hcpW : ab_okW (ab_cp w p0 q sp.toNat dp.toNat n1.toNat) := by
          intro r j
          unfold ab_cp
          by_cases hr : r = q
          · subst hr
            rw [if_pos rfl]
            by_cases hj : dp.toNat ≤ j ∧ j < dp.toNat + n1.toNat
            · rw [if_pos hj]
              refine ⟨(hok p0 _).1, fun z => ?_⟩
              refine (hok p0 _).2 ?_
              rcases hkd with rfl | rfl
              · obtain ⟨rs, e1⟩ := ab_arr_of ha
                unfold ab_arr; rw [e1]; rfl
              · rw [hb'] at z; cases z
            · rw [if_neg hj]; exact hok r j
          · rw [if_neg hr]; exact hok r j
        rcases hkd with rfl | rfl
        · obtain ⟨rs, e1⟩ := ab_arr_of ha
          obtain ⟨rs2, e2⟩ := ab_arr_of hb'
          refine va_copyi (ty := .int) hx hb hsz hown (hts _ hlink) (hts _ ws1) (hts _ ws2) (hts _ ws3) hKK hP hD hSS p0 q 0 0 (ab_ws_get e1) (ab_ws_get e2) rfl rfl rfl (nn hsr h1) (nn hdr h2) (nn hnr h3) (by rw [c1, c3]; omega) (by rw [c1, c2]; omega) (fun _ _ => rfl) (by omega) hwd hdg (fun H1 locs1 hP1 hD1 hS1 => ?_)
          have he : (ab_ws ad cA w).set q (ad q, .inl (cA 0, b, .inl (va_cpy (fun i => Int32.ofInt (w p0 i)) (fun i => Int32.ofInt (w q i)) (Int32.ofInt sp).toNatClampNeg (Int32.ofInt dp).toNatClampNeg (Int32.ofInt n1).toNatClampNeg))) = ab_ws ad cA (ab_cp w p0 q sp.toNat dp.toNat n1.toNat) := by
            refine ab_ws_set e2 ?_ (fun j hj => ab_cp_ne hj)
            rw [c1, c2, c3]
            dsimp only [ab_cell]
            congr 4
            funext j
            unfold va_cpy ab_cp
            rw [if_pos rfl]
            split <;> rfl
          rw [he] at hP1
          exact hK rfl _ _ _ h ls H1 locs1 hl hokS ⟨hP1, hS1, fun p hp => by rw [ab_cp_ne (by have := ab_shp_69 e2; omega)]; exact hro p hp, hcpW⟩
        · obtain ⟨rs, e1⟩ := ab_arr_of ha
          obtain ⟨rs2, e2⟩ := ab_arr_of hb'
          refine va_copyl (ty := .long) hx hb hsz hown (hts _ hlink) (hts _ ws1) (hts _ ws2) (hts _ ws3) hKK hP hD hSS p0 q 1 1 (ab_ws_get e1) (ab_ws_get e2) rfl rfl rfl (nn hsr h1) (nn hdr h2) (nn hnr h3) (by rw [c1, c3]; omega) (by rw [c1, c2]; omega) (fun _ _ => rfl) (by omega) hwd hdg (fun H1 locs1 hP1 hD1 hS1 => ?_)
          have he : (ab_ws ad cA w).set q (ad q, .inl (cA 1, b, .inr (.inl (va_cpy (fun i => Int64.ofInt (w p0 i)) (fun i => Int64.ofInt (w q i)) (Int32.ofInt sp).toNatClampNeg (Int32.ofInt dp).toNatClampNeg (Int32.ofInt n1).toNatClampNeg)))) = ab_ws ad cA (ab_cp w p0 q sp.toNat dp.toNat n1.toNat) := by
            refine ab_ws_set e2 ?_ (fun j hj => ab_cp_ne hj)
            rw [c1, c2, c3]
            dsimp only [ab_cell]
            congr 5
            funext j
            unfold va_cpy ab_cp
            rw [if_pos rfl]
            split <;> rfl
          rw [he] at hP1
          exact hK rfl _ _ _ h ls H1 locs1 hl hokS ⟨hP1, hS1, fun p hp => by rw [ab_cp_ne (by have := ab_shp_69 e2; omega)]; exact hro p hp, hcpW⟩
      · exact h.elim
    · dsimp only [ab_wp] at h
      rw [if_neg (by simp)] at h
      unfold ab_call at h
      dsimp only at h
      split at h
      · rename_i as S' htk
        obtain ⟨-, hfew, h⟩ := h
        obtain ⟨bs, hb1, hb2, rfl⟩ := ab_tk_of _ _ _ _ _ htk
        rw [List.append_nil] at hb2
        have hokA : ∀ v ∈ as, ab_ok v := fun v hv => hS v (List.mem_append_left _ (by rw [hb2] at hv; exact List.mem_reverse.mp hv))
        have hokS : ∀ v ∈ S', ab_ok v := fun v hv => hS v (List.mem_append_right _ hv)
        obtain ⟨⟨hR1, hR2, hR3, hR4⟩, hM⟩ := hC _ _ _ _ h
        obtain ⟨⟨m1, m2, m3, m4, m5, m6, m7⟩, hM⟩ := hM hokA r hmt
        have hcb : CallB R s args own i r.1 r.2.1 r.2.2.1 r.2.2.2.1 (ab_cw r :: ab_TB) rm 0 0 r.2.2.2.2.1 ∧ (Cond.static r.1).before args s = true := ⟨callB_of r.2.2.2.2.1 hts (ab_goodTB m1) rfl hR3 hR4 (hts _ m2) (hts _ hlink) m3 ⟨hR1, by omega⟩, hts _ (m6 hst)⟩
        have hbs : bs = as.reverse := by
          have := congrArg List.reverse hb2
          simpa using this.symm
        refine ab_behind (S := S') (va_runS (As := as.map (ab_c ad)) ⟨hx, hb, hml, hown, hts⟩ (hM H.size) hcb ⟨ab_Pc_blind, ab_pre hKK hinj hX hw⟩ rfl (by rw [List.length_map]; have := congrArg List.length hbs; simp at this; omega) hl.2.1.1 (by subst hbs; show List.map _ _ = _; simp) (lv_room (ab_few_of hfew)) hdg ⟨hcs.1, hcs.2⟩) hSS (fun r1 w1 H1 locs1 hpost hok1 hP1 hW1 hro1 hS1 => ?_)
        refine hK rfl _ _ _ hpost ls H1 locs1 hl (fun v hv => ?_) ⟨hP1, hS1, fun p hp => (hro1 p hp).trans (hro p hp), hW1⟩
        cases r1 with
        | none => exact hokS v hv
        | some v1 =>
          rcases List.mem_cons.mp hv with rfl | hv
          · exact hok1 _ rfl
          · exact hokS v hv
      · exact h.elim
end Step9
end
section
/-! blocks, bodies, methods -/
section Body10
variable {p : Program} {l : Launch} {e : Env} {R : Room} {s : State} {m : MethodId} {args : Array Value} {below : List Frame} {meth : Method} {c : Code} {Q : State → Prop} {cells slots : Nat} {cc : ByteArray} {own : String} {nL : Nat} {rt : Option FieldType}
variable {ad : Nat → Nat} {cA : Nat → ClassId} {D : va_G} {Ls : Nat} {w0 : ab_W} {mt : Nat → Option ab_M} {pcs : List Nat} {rm : Room}
variable {C : Nat → List ab_V → ab_W → (Option ab_V → ab_W → Prop) → Prop} {J : Nat → List ab_V → List ab_V → ab_W → Prop} {Rt : Option ab_V → ab_W → Prop}
theorem ab_blk (X : ab_ctx p s m args c cc nL own ad cA D Ls w0) (hcs : cells ≤ R.cells ∧ slots ≤ R.slots) (hC : ab_hC l R rm ad cA D Ls mt C) (hR : ab_hR p l e R s m args below meth c Q cells slots cc rt ad cA D w0 Rt)
    (hJ : ∀ (b t : Nat) (L S : List ab_V) (w : ab_W), pcs[b]? = some t → J b L S w → ab_G p l e R s m args below meth c Q cells slots ad cA D w0 nL t L S w) (nx : Nat) :
    ∀ (is : List ab_I) (pc : Nat) (L S : List ab_V) (w : ab_W), ab_ckb mt own cc rt nL pcs nx pc is → ab_wb Ls C J Rt nx is L S w → ab_G p l e R s m args below meth c Q cells slots ad cA D w0 nL pc L S w := by
  intro is
  induction is with
  | nil => exact fun pc L S w h1 h2 => hJ nx pc L S w h1 h2
  | cons i is ih =>
    intro pc L S w h1 h2
    obtain ⟨op, ex, z⟩ := i
    rcases h1 with h1 | ⟨n, hdg, hn, hck, hnext⟩
    · have h3 : ab_wp Ls C J Rt (ab_wb Ls C J Rt nx is) op ex z L S w := h2
      have h1 : op = .athrow := h1
      rw [h1] at h3
      exact h3.elim
    · refine ab_step X hcs hC hR (pcs := pcs) (mt := mt) (rt := rt) hJ (K := ab_wb Ls C J Rt nx is) (fun hst L S w hk => ?_) hdg hn hck h2
      rcases hnext with hs | hnext
      · have hs : ab_stop op = true := hs
        rw [hst] at hs; cases hs
      · exact ih _ L S w hnext hk
theorem ab_bdy (X : ab_ctx p s m args c cc nL own ad cA D Ls w0) (hcs : cells ≤ R.cells ∧ slots ≤ R.slots) (hC : ab_hC l R rm ad cA D Ls mt C) (hR : ab_hR p l e R s m args below meth c Q cells slots cc rt ad cA D w0 Rt) {bl : List (List ab_I)} (hck : ab_ckm mt own cc rt nL pcs bl) {b t : Nat} {L S : List ab_V} {w : ab_W} (hb : pcs[b]? = some t) (h : Ev Ls C Rt bl b L S w) : ab_G p l e R s m args below meth c Q cells slots ad cA D w0 nL t L S w := by
  refine h (fun b L S w => ∀ t, pcs[b]? = some t → ab_G p l e R s m args below meth c Q cells slots ad cA D w0 nL t L S w) ?_ t hb
  intro b L S w hat t ht
  unfold ab_at at hat
  split at hat
  · rename_i is hbl
    obtain ⟨pc, hpc, hckb⟩ := hck.2 b is hbl
    cases ht.symm.trans hpc
    exact ab_blk X hcs hC hR (fun b t L S w h1 h2 => h2 t h1) (b + 1) is t L S w hckb hat
  · exact hat.elim
end Body10
-- the locals at a method's entry
def ab_il : List ab_V → List ab_V
  | [] => []
  | .inr (.inl x) :: vs => vL x :: vX :: ab_il vs
  | .inl x :: vs => vI x :: ab_il vs
  | .inr (.inr x) :: vs => .inr (.inr x) :: ab_il vs
def ab_init (nL : Nat) (as : List ab_V) : List ab_V := ab_il as ++ List.replicate (nL - (ab_il as).length) vX
theorem ab_il_len (ad : Nat → Nat) : ∀ as : List ab_V, (lg_sl (as.map (ab_c ad))).length = (ab_il as).length
  | [] => rfl
  | .inl x :: vs => by
    have e : lg_sl ((Sum.inl x :: vs : List ab_V).map (ab_c ad)) = [Slot.val (.int (Int32.ofInt x))] ++ lg_sl (vs.map (ab_c ad)) := rfl
    rw [e, List.length_append, ab_il_len ad vs]
    show 1 + _ = (ab_il vs).length + 1
    omega
  | .inr (.inl x) :: vs => by
    have e : lg_sl ((Sum.inr (Sum.inl x) :: vs : List ab_V).map (ab_c ad)) = [Slot.val (.long (Int64.ofInt x)), Slot.second] ++ lg_sl (vs.map (ab_c ad)) := rfl
    rw [e, List.length_append, ab_il_len ad vs]
    show 2 + _ = (ab_il vs).length + 1 + 1
    omega
  | .inr (.inr (some x)) :: vs => by
    have e : lg_sl ((Sum.inr (Sum.inr (some x)) :: vs : List ab_V).map (ab_c ad)) = [Slot.val (.ref (ad x))] ++ lg_sl (vs.map (ab_c ad)) := rfl
    rw [e, List.length_append, ab_il_len ad vs]
    show 1 + _ = (ab_il vs).length + 1
    omega
  | .inr (.inr none) :: vs => by
    have e : lg_sl ((Sum.inr (Sum.inr none) :: vs : List ab_V).map (ab_c ad)) = [Slot.val .null] ++ lg_sl (vs.map (ab_c ad)) := rfl
    rw [e, List.length_append, ab_il_len ad vs]
    show 1 + _ = (ab_il vs).length + 1
    omega
theorem ab_il_mem (ad : Nat → Nat) : ∀ (as : List ab_V) (i k : Nat) (v : ab_V), (ab_il as)[k]? = some v → v ≠ vX → (i + k, ab_c ad v) ∈ lv_args i (as.map (ab_c ad))
  | [], i, k, v, h, _ => by simp [ab_il] at h
  | .inl x :: vs, i, 0, v, h, _ => by
    cases (Option.some.inj h)
    exact List.mem_cons_self
  | .inl x :: vs, i, k + 1, v, h, hv => by
    have := ab_il_mem ad vs (i + 1) k v h hv
    apply List.mem_cons_of_mem
    show (i + (k + 1), ab_c ad v) ∈ lv_args (if (Value.int (Int32.ofInt x)).category = 2 then i + 2 else i + 1) (vs.map (ab_c ad))
    rw [if_neg (by simp [Value.category]), show i + (k + 1) = i + 1 + k by omega]
    exact this
  | .inr (.inl x) :: vs, i, 0, v, h, _ => by
    cases (Option.some.inj h)
    exact List.mem_cons_self
  | .inr (.inl x) :: vs, i, 1, v, h, hv => absurd (Option.some.inj h).symm hv
  | .inr (.inl x) :: vs, i, k + 2, v, h, hv => by
    have := ab_il_mem ad vs (i + 2) k v h hv
    apply List.mem_cons_of_mem
    show (i + (k + 2), ab_c ad v) ∈ lv_args (if (Value.long (Int64.ofInt x)).category = 2 then i + 2 else i + 1) (vs.map (ab_c ad))
    rw [if_pos (by simp [Value.category]), show i + (k + 2) = i + 2 + k by omega]
    exact this
  | .inr (.inr (some x)) :: vs, i, 0, v, h, _ => by
    cases (Option.some.inj h)
    exact List.mem_cons_self
  | .inr (.inr (some x)) :: vs, i, k + 1, v, h, hv => by
    have := ab_il_mem ad vs (i + 1) k v h hv
    apply List.mem_cons_of_mem
    show (i + (k + 1), ab_c ad v) ∈ lv_args (if (Value.ref (ad x)).category = 2 then i + 2 else i + 1) (vs.map (ab_c ad))
    rw [if_neg (by simp [Value.category]), show i + (k + 1) = i + 1 + k by omega]
    exact this
  | .inr (.inr none) :: vs, i, 0, v, h, hv => absurd (Option.some.inj h).symm hv
  | .inr (.inr none) :: vs, i, k + 1, v, h, hv => by
    have := ab_il_mem ad vs (i + 1) k v h hv
    apply List.mem_cons_of_mem
    show (i + (k + 1), ab_c ad v) ∈ lv_args (if (Value.null).category = 2 then i + 2 else i + 1) (vs.map (ab_c ad))
    rw [if_neg (by simp [Value.category]), show i + (k + 1) = i + 1 + k by omega]
    exact this
theorem ab_il_ok : ∀ (as : List ab_V), (∀ v ∈ as, ab_ok v) → ∀ v ∈ ab_il as, ab_ok v
  | [], _, v, h => by simp [ab_il] at h
  | .inl x :: vs, ha, v, h => by
    rcases List.mem_cons.mp h with rfl | h
    · exact ha _ List.mem_cons_self
    · exact ab_il_ok vs (ab_tail_ok ha) v h
  | .inr (.inl x) :: vs, ha, v, h => by
    rcases List.mem_cons.mp h with rfl | h
    · exact ha _ List.mem_cons_self
    · rcases List.mem_cons.mp h with rfl | h
      · trivial
      · exact ab_il_ok vs (ab_tail_ok ha) v h
  | .inr (.inr x) :: vs, ha, v, h => by
    rcases List.mem_cons.mp h with rfl | h
    · trivial
    · exact ab_il_ok vs (ab_tail_ok ha) v h
theorem ab_entry {ad : Nat → Nat} {nL : Nat} {as : List ab_V} (hlen : (ab_il as).length ≤ nL) (hok : ∀ v ∈ as, ab_ok v) : ab_lr ad nL (ab_init nL as) (lg_sl (as.map (ab_c ad)) ++ List.replicate (nL - (lg_sl (as.map (ab_c ad))).length) Slot.unset).toArray := by
  have hl := lv_entry (as.map (ab_c ad)) (n := nL) (by rw [ab_il_len]; exact hlen)
  refine ⟨by unfold ab_init; rw [List.length_append, List.length_replicate]; omega, ⟨hl.1, hl.2.1, fun q hq => ?_⟩, fun v hv => ?_⟩
  · obtain ⟨v, e1, e2, e3⟩ := ab_lp_mem.mp hq
    unfold ab_init at e1
    by_cases hk : q.1 < (ab_il as).length
    · rw [List.getElem?_append_left hk] at e1
      have := ab_il_mem ad as 0 q.1 v e1 e2
      rw [Nat.zero_add, ← e3] at this
      exact hl.2.2 q this
    · rw [List.getElem?_append_right (by omega)] at e1
      exact absurd (List.eq_of_mem_replicate (List.mem_of_getElem? e1)) e2
  · unfold ab_init at hv
    rcases List.mem_append.mp hv with hv | hv
    · exact ab_il_ok as hok v hv
    · rw [List.eq_of_mem_replicate hv]
      trivial
def ab_rm (d : Nat) : Room := { frames := d, cells := 0, slots := 0, locals := 42 * d }
/-- a method's body, read by the abstract machine, gives its contract -/
theorem ab_met {l : Launch} {ad : Nat → Nat} {cA : Nat → ClassId} {D : va_G} {Ls : Nat} {mt : Nat → Option ab_M} {C : Nat → List ab_V → ab_W → (Option ab_V → ab_W → Prop) → Prop} {d : Nat} {rm : Room} {r : ab_M} {pcs : List Nat} {bl : List (List ab_I)} {as : List ab_V} {w : ab_W} {post : Option ab_V → ab_W → Prop}
    (hC : ab_hC l (ab_rm d) rm ad cA D Ls mt C) (hm : ab_mok r) (hck : ab_ckm mt r.1.cls r.2.1 r.2.2.2.1 r.2.2.1 pcs bl) (hlen : (ab_il as).length ≤ r.2.2.1) (hokA : ∀ v ∈ as, ab_ok v) (h : Ev Ls C post bl 0 (ab_init r.2.2.1 as) [] w) (sz : Nat) :
    Met l r.1 (ab_cw r :: ab_TB) (ab_rm d) (ab_Pc ad cA D Ls as w sz) (ab_Qc ad cA D w sz post) 0 0 (ab_A ad sz) := by
  refine Met.ofW (cc := r.2.1) (maxL := r.2.2.1) (ret := r.2.2.2.1) hm.2.2.2.2.1 rfl ?_
  intro p e s m args below meth c s₁ B hml hv
  obtain ⟨rfl, hsz, hP, hK, hinj, hok, hX⟩ := hv
  have hx := B.exec
  have hb := B.bytes
  have hr := B.returns
  have hts := atoms_spec (ws := ab_cw r :: ab_TB) B.pre
  have hown : s.vm.findClass r.1.cls = some m.cls := findClass_of_methodNamed B.named
  have hlocks := B.notSynchronized
  subst hsz
  rw [lg_entry_eq]
  have hctx : ab_ctx p s m (as.map (ab_c ad)).toArray c r.2.1 r.2.2.1 r.1.cls ad cA D Ls w := ⟨hx, hb, hml, hown, fun w hw => hts w (List.mem_cons_of_mem _ hw), hK, hinj, hX⟩
  refine ab_bdy (rm := rm) (mt := mt) (rt := r.2.2.2.1) (pcs := pcs) (bl := bl) (L := ab_init r.2.2.1 as) (S := []) (w := w) (C := C) (Rt := post) hctx ⟨Nat.zero_le _, Nat.zero_le _⟩ hC ?_ hck hck.1 h _ _ _ (ab_entry hlen hokA) (fun v hv => by cases hv) ⟨hP, va_S.rf, fun _ _ => rfl, hok⟩
  intro pc w' ls H locs hw
  obtain ⟨hP', hS', hro', hok'⟩ := hw
  refine ⟨fun ex x hdg hrt hpost hxr hbo => ?_, fun x hdg hrt hpost hxr => ?_, fun hdg hrt hpost => ?_⟩
  · have hn : ∃ ty, r.2.2.2.1 = some ty ∧ narrow ty (.int (Int32.ofInt x)) = .int (Int32.ofInt x) := by
      rcases hrt with ⟨h1, h2⟩ | ⟨h1, h2⟩
      · exact ⟨.int, h1, vp_nar_int _⟩
      · refine ⟨.boolean, h1, ?_⟩
        rcases hbo h2 with rfl | rfl <;> decide +kernel
    obtain ⟨ty, h1, h2⟩ := hn
    exact W.zret hx hb (hr.trans h1) h2 (fun t ht hW => ⟨⟨some (vI x), w', rfl, hpost, fun v hv => by cases hv; exact hxr, by rw [ht]; exact hP', hok', hro'⟩, hS'.F ht⟩) hS'.2.2 hdg
  · exact W.lret hx hb (hr.trans hrt) (fun t ht hW => ⟨⟨some (vL x), w', rfl, hpost, fun v hv => by cases hv; exact hxr, by rw [ht]; exact hP', hok', hro'⟩, hS'.F ht⟩) hS'.2.2 hdg
  · exact W.vret hx hb (hr.trans hrt) (fun t ht hW => ⟨⟨none, w', rfl, hpost, fun v hv => (by cases hv), by rw [ht]; exact hP', hok', hro'⟩, hS'.F ht⟩) hS'.2.2 hdg
/-- a method by its number, its calls at most d deep -/
def ab_Sm (Ls : Nat) (mt : Nat → Option ab_M) (bd : Nat → Option (List Nat × List (List ab_I))) : Nat → Nat → List ab_V → ab_W → (Option ab_V → ab_W → Prop) → Prop
  | 0, _, _, _, _ => False
  | d + 1, k, as, w, post => match mt k, bd k with
    | some r, some b => (ab_il as).length ≤ r.2.2.1 ∧ Ev Ls (ab_Sm Ls mt bd d) post b.2 0 (ab_init r.2.2.1 as) [] w
    | _, _ => k = 999 ∧ post none w
theorem ab_Sm_mono {Ls : Nat} {mt : Nat → Option ab_M} {bd : Nat → Option (List Nat × List (List ab_I))} : ∀ d, ab_Cm (ab_Sm Ls mt bd d)
  | 0, _, _, _, _, _, _, h => h
  | d + 1, k, as, w, q, q', hq, h => by
    unfold ab_Sm at h ⊢
    split at h
    · exact ⟨h.1, h.2.mono (ab_Sm_mono d) hq⟩
    · exact ⟨h.1, hq _ _ h.2⟩
theorem ab_snd {l : Launch} {ad : Nat → Nat} {cA : Nat → ClassId} {D : va_G} {Ls : Nat} {mt : Nat → Option ab_M} {bd : Nat → Option (List Nat × List (List ab_I))} (hok : ∀ k r b, mt k = some r → bd k = some b → ab_mok r ∧ ab_ckm mt r.1.cls r.2.1 r.2.2.2.1 r.2.2.1 b.1 b.2) (hbd : ∀ k r, mt k = some r → ∃ b, bd k = some b) :
    ∀ d, ab_hC l (ab_rm (d + 1)) (ab_rm d) ad cA D Ls mt (ab_Sm Ls mt bd (d + 1)) ∧ ab_hC l (ab_rm d) (ab_rm (d - 1)) ad cA D Ls mt (ab_Sm Ls mt bd d) := by
  intro d
  induction d with
  | zero =>
    have h0 : ab_hC l (ab_rm 0) (ab_rm (0 - 1)) ad cA D Ls mt (ab_Sm Ls mt bd 0) := fun k as w post h => h.elim
    refine ⟨fun k as w post h => ⟨⟨Nat.le_refl _, Nat.le_refl _, rfl, rfl⟩, fun hokA r hr => ?_⟩, h0⟩
    obtain ⟨b, hb⟩ := hbd k r hr
    obtain ⟨h1, h2⟩ := hok k r b hr hb
    unfold ab_Sm at h
    rw [hr, hb] at h
    exact ⟨h1, fun sz => ab_met h0 h1 h2 h.1 hokA h.2 sz⟩
  | succ d ih =>
    refine ⟨fun k as w post h => ⟨⟨Nat.le_refl _, Nat.le_of_eq (by show 42 + 42 * (d + 1) = 42 * (d + 1 + 1); omega), rfl, rfl⟩, fun hokA r hr => ?_⟩, ih.1⟩
    obtain ⟨b, hb⟩ := hbd k r hr
    obtain ⟨h1, h2⟩ := hok k r b hr hb
    unfold ab_Sm at h
    rw [hr, hb] at h
    exact ⟨h1, fun sz => ab_met ih.1 h1 h2 h.1 hokA h.2 sz⟩
end
