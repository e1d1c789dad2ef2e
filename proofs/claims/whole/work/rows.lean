section
-- ===== PART A: goes FIRST, ahead of the names: the tables' words, and 'selects' of the private methods out of them =====
/-- a private method of a class that the tables say can be made, by its rows of tables_1 -/
def lw_okq (q : MethodName × Nat) : Prop := (q.1.cls ≠ "java/lang/invoke/MethodHandle" ∧ q.1.cls ≠ "java/lang/invoke/VarHandle") ∧ Cond.instantiable q.1.cls q.2 ∈ tables_1 ∧ Cond.privateMethod q.1 ∈ tables_1 ∧ Cond.instanceMethod q.1 ∈ tables_1
theorem lw_p0 : lw_okq (⟨"RelayRace$Text", "goesOn", "(I)Z"⟩, 2) := ⟨⟨by decide +kernel, by decide +kernel⟩, List.mem_of_getElem? (i := 21) (by decide +kernel), List.mem_of_getElem? (i := 181) (by decide +kernel), List.mem_of_getElem? (i := 182) (by decide +kernel)⟩
theorem lw_p1 : lw_okq (⟨"RelayRace", "runTold", "()V"⟩, 13) := ⟨⟨by decide +kernel, by decide +kernel⟩, List.mem_of_getElem? (i := 13) (by decide +kernel), List.mem_of_getElem? (i := 190) (by decide +kernel), List.mem_of_getElem? (i := 191) (by decide +kernel)⟩
theorem lw_p2 : lw_okq (⟨"RelayRace", "everyEvent", "()I"⟩, 13) := ⟨⟨by decide +kernel, by decide +kernel⟩, List.mem_of_getElem? (i := 13) (by decide +kernel), List.mem_of_getElem? (i := 194) (by decide +kernel), List.mem_of_getElem? (i := 195) (by decide +kernel)⟩
theorem lw_p3 : lw_okq (⟨"RelayRace$Race", "befall", "(III)V"⟩, 8) := ⟨⟨by decide +kernel, by decide +kernel⟩, List.mem_of_getElem? (i := 64) (by decide +kernel), List.mem_of_getElem? (i := 205) (by decide +kernel), List.mem_of_getElem? (i := 206) (by decide +kernel)⟩
theorem lw_p4 : lw_okq (⟨"RelayRace$Race", "stride", "(III)I"⟩, 8) := ⟨⟨by decide +kernel, by decide +kernel⟩, List.mem_of_getElem? (i := 64) (by decide +kernel), List.mem_of_getElem? (i := 224) (by decide +kernel), List.mem_of_getElem? (i := 225) (by decide +kernel)⟩
theorem lw_p5 : lw_okq (⟨"RelayRace", "isTeam", "(I)Z"⟩, 13) := ⟨⟨by decide +kernel, by decide +kernel⟩, List.mem_of_getElem? (i := 13) (by decide +kernel), List.mem_of_getElem? (i := 248) (by decide +kernel), List.mem_of_getElem? (i := 249) (by decide +kernel)⟩
theorem lw_p6 : lw_okq (⟨"RelayRace", "found", "(I)I"⟩, 13) := ⟨⟨by decide +kernel, by decide +kernel⟩, List.mem_of_getElem? (i := 13) (by decide +kernel), List.mem_of_getElem? (i := 290) (by decide +kernel), List.mem_of_getElem? (i := 291) (by decide +kernel)⟩
theorem lw_p7 : lw_okq (⟨"RelayRace", "momentsAhead", "(I)I"⟩, 13) := ⟨⟨by decide +kernel, by decide +kernel⟩, List.mem_of_getElem? (i := 13) (by decide +kernel), List.mem_of_getElem? (i := 352) (by decide +kernel), List.mem_of_getElem? (i := 353) (by decide +kernel)⟩
theorem lw_p8 : lw_okq (⟨"RelayRace", "findOrder", "(I)V"⟩, 13) := ⟨⟨by decide +kernel, by decide +kernel⟩, List.mem_of_getElem? (i := 13) (by decide +kernel), List.mem_of_getElem? (i := 374) (by decide +kernel), List.mem_of_getElem? (i := 375) (by decide +kernel)⟩
theorem lw_p9 : lw_okq (⟨"RelayRace", "tryOrder", "(IIII)V"⟩, 13) := ⟨⟨by decide +kernel, by decide +kernel⟩, List.mem_of_getElem? (i := 13) (by decide +kernel), List.mem_of_getElem? (i := 388) (by decide +kernel), List.mem_of_getElem? (i := 389) (by decide +kernel)⟩
theorem lw_p10 : lw_okq (⟨"RelayRace", "prepareStandings", "()V"⟩, 13) := ⟨⟨by decide +kernel, by decide +kernel⟩, List.mem_of_getElem? (i := 13) (by decide +kernel), List.mem_of_getElem? (i := 415) (by decide +kernel), List.mem_of_getElem? (i := 416) (by decide +kernel)⟩
theorem lw_p11 : lw_okq (⟨"RelayRace", "winnerWith", "(I)I"⟩, 13) := ⟨⟨by decide +kernel, by decide +kernel⟩, List.mem_of_getElem? (i := 13) (by decide +kernel), List.mem_of_getElem? (i := 419) (by decide +kernel), List.mem_of_getElem? (i := 420) (by decide +kernel)⟩
theorem lw_p12 : lw_okq (⟨"RelayRace", "standingWith", "(II)I"⟩, 13) := ⟨⟨by decide +kernel, by decide +kernel⟩, List.mem_of_getElem? (i := 13) (by decide +kernel), List.mem_of_getElem? (i := 423) (by decide +kernel), List.mem_of_getElem? (i := 424) (by decide +kernel)⟩
theorem lw_p13 : lw_okq (⟨"RelayRace", "eventsTouching", "(I)I"⟩, 13) := ⟨⟨by decide +kernel, by decide +kernel⟩, List.mem_of_getElem? (i := 13) (by decide +kernel), List.mem_of_getElem? (i := 427) (by decide +kernel), List.mem_of_getElem? (i := 428) (by decide +kernel)⟩
theorem lw_p14 : lw_okq (⟨"RelayRace", "possiblePaces", "(II)I"⟩, 13) := ⟨⟨by decide +kernel, by decide +kernel⟩, List.mem_of_getElem? (i := 13) (by decide +kernel), List.mem_of_getElem? (i := 456) (by decide +kernel), List.mem_of_getElem? (i := 457) (by decide +kernel)⟩
theorem lw_p15 : lw_okq (⟨"RelayRace", "possibleSorts", "(II)I"⟩, 13) := ⟨⟨by decide +kernel, by decide +kernel⟩, List.mem_of_getElem? (i := 13) (by decide +kernel), List.mem_of_getElem? (i := 460) (by decide +kernel), List.mem_of_getElem? (i := 461) (by decide +kernel)⟩
def lw_privs_1 : List (MethodName × Nat) := [(⟨"RelayRace$Text", "goesOn", "(I)Z"⟩, 2), (⟨"RelayRace", "runTold", "()V"⟩, 13), (⟨"RelayRace", "everyEvent", "()I"⟩, 13), (⟨"RelayRace$Race", "befall", "(III)V"⟩, 8), (⟨"RelayRace$Race", "stride", "(III)I"⟩, 8), (⟨"RelayRace", "isTeam", "(I)Z"⟩, 13), (⟨"RelayRace", "found", "(I)I"⟩, 13), (⟨"RelayRace", "momentsAhead", "(I)I"⟩, 13), (⟨"RelayRace", "findOrder", "(I)V"⟩, 13), (⟨"RelayRace", "tryOrder", "(IIII)V"⟩, 13), (⟨"RelayRace", "prepareStandings", "()V"⟩, 13), (⟨"RelayRace", "winnerWith", "(I)I"⟩, 13), (⟨"RelayRace", "standingWith", "(II)I"⟩, 13), (⟨"RelayRace", "eventsTouching", "(I)I"⟩, 13), (⟨"RelayRace", "possiblePaces", "(II)I"⟩, 13), (⟨"RelayRace", "possibleSorts", "(II)I"⟩, 13)]
theorem lw_r1 : ∀ q ∈ lw_privs_1, lw_okq q := List.forall_mem_cons.mpr ⟨lw_p0, List.forall_mem_cons.mpr ⟨lw_p1, List.forall_mem_cons.mpr ⟨lw_p2, List.forall_mem_cons.mpr ⟨lw_p3, List.forall_mem_cons.mpr ⟨lw_p4, List.forall_mem_cons.mpr ⟨lw_p5, List.forall_mem_cons.mpr ⟨lw_p6, List.forall_mem_cons.mpr ⟨lw_p7, List.forall_mem_cons.mpr ⟨lw_p8, List.forall_mem_cons.mpr ⟨lw_p9, List.forall_mem_cons.mpr ⟨lw_p10, List.forall_mem_cons.mpr ⟨lw_p11, List.forall_mem_cons.mpr ⟨lw_p12, List.forall_mem_cons.mpr ⟨lw_p13, List.forall_mem_cons.mpr ⟨lw_p14, List.forall_mem_cons.mpr ⟨lw_p15, fun _ h => absurd h List.not_mem_nil⟩⟩⟩⟩⟩⟩⟩⟩⟩⟩⟩⟩⟩⟩⟩⟩
theorem lw_p16 : lw_okq (⟨"RelayRace", "countRanks", "(I)V"⟩, 13) := ⟨⟨by decide +kernel, by decide +kernel⟩, List.mem_of_getElem? (i := 13) (by decide +kernel), List.mem_of_getElem? (i := 468) (by decide +kernel), List.mem_of_getElem? (i := 469) (by decide +kernel)⟩
theorem lw_p17 : lw_okq (⟨"RelayRace", "mostAlike", "(I)I"⟩, 13) := ⟨⟨by decide +kernel, by decide +kernel⟩, List.mem_of_getElem? (i := 13) (by decide +kernel), List.mem_of_getElem? (i := 472) (by decide +kernel), List.mem_of_getElem? (i := 473) (by decide +kernel)⟩
theorem lw_p18 : lw_okq (⟨"RelayRace", "weight", "(II)J"⟩, 13) := ⟨⟨by decide +kernel, by decide +kernel⟩, List.mem_of_getElem? (i := 13) (by decide +kernel), List.mem_of_getElem? (i := 488) (by decide +kernel), List.mem_of_getElem? (i := 489) (by decide +kernel)⟩
theorem lw_p19 : lw_okq (⟨"RelayRace", "sharedTwos", "(J)I"⟩, 13) := ⟨⟨by decide +kernel, by decide +kernel⟩, List.mem_of_getElem? (i := 13) (by decide +kernel), List.mem_of_getElem? (i := 492) (by decide +kernel), List.mem_of_getElem? (i := 493) (by decide +kernel)⟩
theorem lw_p20 : lw_okq (⟨"RelayRace", "drawEvents", "(II)V"⟩, 13) := ⟨⟨by decide +kernel, by decide +kernel⟩, List.mem_of_getElem? (i := 13) (by decide +kernel), List.mem_of_getElem? (i := 500) (by decide +kernel), List.mem_of_getElem? (i := 501) (by decide +kernel)⟩
theorem lw_p21 : lw_okq (⟨"RelayRace", "teamsHome", "()I"⟩, 13) := ⟨⟨by decide +kernel, by decide +kernel⟩, List.mem_of_getElem? (i := 13) (by decide +kernel), List.mem_of_getElem? (i := 557) (by decide +kernel), List.mem_of_getElem? (i := 558) (by decide +kernel)⟩
theorem lw_p22 : lw_okq (⟨"RelayRace", "metresTogether", "()I"⟩, 13) := ⟨⟨by decide +kernel, by decide +kernel⟩, List.mem_of_getElem? (i := 13) (by decide +kernel), List.mem_of_getElem? (i := 562) (by decide +kernel), List.mem_of_getElem? (i := 563) (by decide +kernel)⟩
theorem lw_p23 : lw_okq (⟨"RelayRace", "digestMoments", "(JI)J"⟩, 13) := ⟨⟨by decide +kernel, by decide +kernel⟩, List.mem_of_getElem? (i := 13) (by decide +kernel), List.mem_of_getElem? (i := 574) (by decide +kernel), List.mem_of_getElem? (i := 575) (by decide +kernel)⟩
theorem lw_p24 : lw_okq (⟨"RelayRace", "digestLegs", "(JI)J"⟩, 13) := ⟨⟨by decide +kernel, by decide +kernel⟩, List.mem_of_getElem? (i := 13) (by decide +kernel), List.mem_of_getElem? (i := 581) (by decide +kernel), List.mem_of_getElem? (i := 582) (by decide +kernel)⟩
theorem lw_p25 : lw_okq (⟨"RelayRace", "digestPlans", "(JI)J"⟩, 13) := ⟨⟨by decide +kernel, by decide +kernel⟩, List.mem_of_getElem? (i := 13) (by decide +kernel), List.mem_of_getElem? (i := 589) (by decide +kernel), List.mem_of_getElem? (i := 590) (by decide +kernel)⟩
theorem lw_p26 : lw_okq (⟨"RelayRaceModel", "faultOf", "()I"⟩, 38) := ⟨⟨by decide +kernel, by decide +kernel⟩, List.mem_of_getElem? (i := 603) (by decide +kernel), List.mem_of_getElem? (i := 744) (by decide +kernel), List.mem_of_getElem? (i := 745) (by decide +kernel)⟩
theorem lw_p27 : lw_okq (⟨"RelayRaceModel", "readsTeam", "(II)I"⟩, 38) := ⟨⟨by decide +kernel, by decide +kernel⟩, List.mem_of_getElem? (i := 603) (by decide +kernel), List.mem_of_getElem? (i := 748) (by decide +kernel), List.mem_of_getElem? (i := 749) (by decide +kernel)⟩
theorem lw_p28 : lw_okq (⟨"RelayRaceModel", "readsRunner", "(II)I"⟩, 38) := ⟨⟨by decide +kernel, by decide +kernel⟩, List.mem_of_getElem? (i := 603) (by decide +kernel), List.mem_of_getElem? (i := 752) (by decide +kernel), List.mem_of_getElem? (i := 753) (by decide +kernel)⟩
theorem lw_p29 : lw_okq (⟨"RelayRaceModel", "byteAt", "(I)I"⟩, 38) := ⟨⟨by decide +kernel, by decide +kernel⟩, List.mem_of_getElem? (i := 603) (by decide +kernel), List.mem_of_getElem? (i := 756) (by decide +kernel), List.mem_of_getElem? (i := 757) (by decide +kernel)⟩
theorem lw_p30 : lw_okq (⟨"RelayRaceModel", "isTeam", "(I)Z"⟩, 38) := ⟨⟨by decide +kernel, by decide +kernel⟩, List.mem_of_getElem? (i := 603) (by decide +kernel), List.mem_of_getElem? (i := 764) (by decide +kernel), List.mem_of_getElem? (i := 765) (by decide +kernel)⟩
theorem lw_p31 : lw_okq (⟨"RelayRaceModel", "reads", "()V"⟩, 38) := ⟨⟨by decide +kernel, by decide +kernel⟩, List.mem_of_getElem? (i := 603) (by decide +kernel), List.mem_of_getElem? (i := 768) (by decide +kernel), List.mem_of_getElem? (i := 769) (by decide +kernel)⟩
def lw_privs_2 : List (MethodName × Nat) := [(⟨"RelayRace", "countRanks", "(I)V"⟩, 13), (⟨"RelayRace", "mostAlike", "(I)I"⟩, 13), (⟨"RelayRace", "weight", "(II)J"⟩, 13), (⟨"RelayRace", "sharedTwos", "(J)I"⟩, 13), (⟨"RelayRace", "drawEvents", "(II)V"⟩, 13), (⟨"RelayRace", "teamsHome", "()I"⟩, 13), (⟨"RelayRace", "metresTogether", "()I"⟩, 13), (⟨"RelayRace", "digestMoments", "(JI)J"⟩, 13), (⟨"RelayRace", "digestLegs", "(JI)J"⟩, 13), (⟨"RelayRace", "digestPlans", "(JI)J"⟩, 13), (⟨"RelayRaceModel", "faultOf", "()I"⟩, 38), (⟨"RelayRaceModel", "readsTeam", "(II)I"⟩, 38), (⟨"RelayRaceModel", "readsRunner", "(II)I"⟩, 38), (⟨"RelayRaceModel", "byteAt", "(I)I"⟩, 38), (⟨"RelayRaceModel", "isTeam", "(I)Z"⟩, 38), (⟨"RelayRaceModel", "reads", "()V"⟩, 38)]
theorem lw_r2 : ∀ q ∈ lw_privs_2, lw_okq q := List.forall_mem_cons.mpr ⟨lw_p16, List.forall_mem_cons.mpr ⟨lw_p17, List.forall_mem_cons.mpr ⟨lw_p18, List.forall_mem_cons.mpr ⟨lw_p19, List.forall_mem_cons.mpr ⟨lw_p20, List.forall_mem_cons.mpr ⟨lw_p21, List.forall_mem_cons.mpr ⟨lw_p22, List.forall_mem_cons.mpr ⟨lw_p23, List.forall_mem_cons.mpr ⟨lw_p24, List.forall_mem_cons.mpr ⟨lw_p25, List.forall_mem_cons.mpr ⟨lw_p26, List.forall_mem_cons.mpr ⟨lw_p27, List.forall_mem_cons.mpr ⟨lw_p28, List.forall_mem_cons.mpr ⟨lw_p29, List.forall_mem_cons.mpr ⟨lw_p30, List.forall_mem_cons.mpr ⟨lw_p31, fun _ h => absurd h List.not_mem_nil⟩⟩⟩⟩⟩⟩⟩⟩⟩⟩⟩⟩⟩⟩⟩⟩
theorem lw_p32 : lw_okq (⟨"RelayRaceModel", "runnerOf", "(III)I"⟩, 38) := ⟨⟨by decide +kernel, by decide +kernel⟩, List.mem_of_getElem? (i := 603) (by decide +kernel), List.mem_of_getElem? (i := 778) (by decide +kernel), List.mem_of_getElem? (i := 779) (by decide +kernel)⟩
theorem lw_p33 : lw_okq (⟨"RelayRaceModel", "meets", "(I)I"⟩, 38) := ⟨⟨by decide +kernel, by decide +kernel⟩, List.mem_of_getElem? (i := 603) (by decide +kernel), List.mem_of_getElem? (i := 807) (by decide +kernel), List.mem_of_getElem? (i := 808) (by decide +kernel)⟩
theorem lw_p34 : lw_okq (⟨"RelayRaceModel", "atOf", "(III)I"⟩, 38) := ⟨⟨by decide +kernel, by decide +kernel⟩, List.mem_of_getElem? (i := 603) (by decide +kernel), List.mem_of_getElem? (i := 816) (by decide +kernel), List.mem_of_getElem? (i := 817) (by decide +kernel)⟩
theorem lw_p35 : lw_okq (⟨"RelayRaceModel", "runsTold", "()V"⟩, 38) := ⟨⟨by decide +kernel, by decide +kernel⟩, List.mem_of_getElem? (i := 603) (by decide +kernel), List.mem_of_getElem? (i := 820) (by decide +kernel), List.mem_of_getElem? (i := 821) (by decide +kernel)⟩
theorem lw_p36 : lw_okq (⟨"RelayRaceModel", "asTold", "()V"⟩, 38) := ⟨⟨by decide +kernel, by decide +kernel⟩, List.mem_of_getElem? (i := 603) (by decide +kernel), List.mem_of_getElem? (i := 824) (by decide +kernel), List.mem_of_getElem? (i := 825) (by decide +kernel)⟩
theorem lw_p37 : lw_okq (⟨"RelayRaceModel", "runs", "()V"⟩, 38) := ⟨⟨by decide +kernel, by decide +kernel⟩, List.mem_of_getElem? (i := 603) (by decide +kernel), List.mem_of_getElem? (i := 828) (by decide +kernel), List.mem_of_getElem? (i := 829) (by decide +kernel)⟩
theorem lw_p38 : lw_okq (⟨"RelayRaceModel", "goesBy", "(I)V"⟩, 38) := ⟨⟨by decide +kernel, by decide +kernel⟩, List.mem_of_getElem? (i := 603) (by decide +kernel), List.mem_of_getElem? (i := 832) (by decide +kernel), List.mem_of_getElem? (i := 833) (by decide +kernel)⟩
theorem lw_p39 : lw_okq (⟨"RelayRaceModel", "isRain", "(I)Z"⟩, 38) := ⟨⟨by decide +kernel, by decide +kernel⟩, List.mem_of_getElem? (i := 603) (by decide +kernel), List.mem_of_getElem? (i := 836) (by decide +kernel), List.mem_of_getElem? (i := 837) (by decide +kernel)⟩
theorem lw_p40 : lw_okq (⟨"RelayRaceModel", "goes", "(IIZ)V"⟩, 38) := ⟨⟨by decide +kernel, by decide +kernel⟩, List.mem_of_getElem? (i := 603) (by decide +kernel), List.mem_of_getElem? (i := 843) (by decide +kernel), List.mem_of_getElem? (i := 844) (by decide +kernel)⟩
theorem lw_p41 : lw_okq (⟨"RelayRaceModel", "stands", "(II)Z"⟩, 38) := ⟨⟨by decide +kernel, by decide +kernel⟩, List.mem_of_getElem? (i := 603) (by decide +kernel), List.mem_of_getElem? (i := 847) (by decide +kernel), List.mem_of_getElem? (i := 848) (by decide +kernel)⟩
theorem lw_p42 : lw_okq (⟨"RelayRaceModel", "stride", "(IIZ)I"⟩, 38) := ⟨⟨by decide +kernel, by decide +kernel⟩, List.mem_of_getElem? (i := 603) (by decide +kernel), List.mem_of_getElem? (i := 851) (by decide +kernel), List.mem_of_getElem? (i := 852) (by decide +kernel)⟩
theorem lw_p43 : lw_okq (⟨"RelayRaceModel", "isAhead", "(II)Z"⟩, 38) := ⟨⟨by decide +kernel, by decide +kernel⟩, List.mem_of_getElem? (i := 603) (by decide +kernel), List.mem_of_getElem? (i := 855) (by decide +kernel), List.mem_of_getElem? (i := 856) (by decide +kernel)⟩
theorem lw_p44 : lw_okq (⟨"RelayRaceModel", "homeOf", "(I)I"⟩, 38) := ⟨⟨by decide +kernel, by decide +kernel⟩, List.mem_of_getElem? (i := 603) (by decide +kernel), List.mem_of_getElem? (i := 863) (by decide +kernel), List.mem_of_getElem? (i := 864) (by decide +kernel)⟩
theorem lw_p45 : lw_okq (⟨"RelayRaceModel", "lastedOf", "(II)I"⟩, 38) := ⟨⟨by decide +kernel, by decide +kernel⟩, List.mem_of_getElem? (i := 603) (by decide +kernel), List.mem_of_getElem? (i := 871) (by decide +kernel), List.mem_of_getElem? (i := 872) (by decide +kernel)⟩
theorem lw_p46 : lw_okq (⟨"RelayRaceModel", "wonOf", "(I)I"⟩, 38) := ⟨⟨by decide +kernel, by decide +kernel⟩, List.mem_of_getElem? (i := 603) (by decide +kernel), List.mem_of_getElem? (i := 879) (by decide +kernel), List.mem_of_getElem? (i := 880) (by decide +kernel)⟩
theorem lw_p47 : lw_okq (⟨"RelayRaceModel", "wonBy", "(I)I"⟩, 38) := ⟨⟨by decide +kernel, by decide +kernel⟩, List.mem_of_getElem? (i := 603) (by decide +kernel), List.mem_of_getElem? (i := 883) (by decide +kernel), List.mem_of_getElem? (i := 884) (by decide +kernel)⟩
def lw_privs_3 : List (MethodName × Nat) := [(⟨"RelayRaceModel", "runnerOf", "(III)I"⟩, 38), (⟨"RelayRaceModel", "meets", "(I)I"⟩, 38), (⟨"RelayRaceModel", "atOf", "(III)I"⟩, 38), (⟨"RelayRaceModel", "runsTold", "()V"⟩, 38), (⟨"RelayRaceModel", "asTold", "()V"⟩, 38), (⟨"RelayRaceModel", "runs", "()V"⟩, 38), (⟨"RelayRaceModel", "goesBy", "(I)V"⟩, 38), (⟨"RelayRaceModel", "isRain", "(I)Z"⟩, 38), (⟨"RelayRaceModel", "goes", "(IIZ)V"⟩, 38), (⟨"RelayRaceModel", "stands", "(II)Z"⟩, 38), (⟨"RelayRaceModel", "stride", "(IIZ)I"⟩, 38), (⟨"RelayRaceModel", "isAhead", "(II)Z"⟩, 38), (⟨"RelayRaceModel", "homeOf", "(I)I"⟩, 38), (⟨"RelayRaceModel", "lastedOf", "(II)I"⟩, 38), (⟨"RelayRaceModel", "wonOf", "(I)I"⟩, 38), (⟨"RelayRaceModel", "wonBy", "(I)I"⟩, 38)]
theorem lw_r3 : ∀ q ∈ lw_privs_3, lw_okq q := List.forall_mem_cons.mpr ⟨lw_p32, List.forall_mem_cons.mpr ⟨lw_p33, List.forall_mem_cons.mpr ⟨lw_p34, List.forall_mem_cons.mpr ⟨lw_p35, List.forall_mem_cons.mpr ⟨lw_p36, List.forall_mem_cons.mpr ⟨lw_p37, List.forall_mem_cons.mpr ⟨lw_p38, List.forall_mem_cons.mpr ⟨lw_p39, List.forall_mem_cons.mpr ⟨lw_p40, List.forall_mem_cons.mpr ⟨lw_p41, List.forall_mem_cons.mpr ⟨lw_p42, List.forall_mem_cons.mpr ⟨lw_p43, List.forall_mem_cons.mpr ⟨lw_p44, List.forall_mem_cons.mpr ⟨lw_p45, List.forall_mem_cons.mpr ⟨lw_p46, List.forall_mem_cons.mpr ⟨lw_p47, fun _ h => absurd h List.not_mem_nil⟩⟩⟩⟩⟩⟩⟩⟩⟩⟩⟩⟩⟩⟩⟩⟩
theorem lw_p48 : lw_okq (⟨"RelayRaceModel", "wonNow", "()I"⟩, 38) := ⟨⟨by decide +kernel, by decide +kernel⟩, List.mem_of_getElem? (i := 603) (by decide +kernel), List.mem_of_getElem? (i := 887) (by decide +kernel), List.mem_of_getElem? (i := 888) (by decide +kernel)⟩
theorem lw_p49 : lw_okq (⟨"RelayRaceModel", "changesOf", "()I"⟩, 38) := ⟨⟨by decide +kernel, by decide +kernel⟩, List.mem_of_getElem? (i := 603) (by decide +kernel), List.mem_of_getElem? (i := 895) (by decide +kernel), List.mem_of_getElem? (i := 896) (by decide +kernel)⟩
theorem lw_p50 : lw_okq (⟨"RelayRaceModel", "firstAt", "(I)I"⟩, 38) := ⟨⟨by decide +kernel, by decide +kernel⟩, List.mem_of_getElem? (i := 603) (by decide +kernel), List.mem_of_getElem? (i := 899) (by decide +kernel), List.mem_of_getElem? (i := 900) (by decide +kernel)⟩
theorem lw_p51 : lw_okq (⟨"RelayRaceModel", "leaderOf", "(I)I"⟩, 38) := ⟨⟨by decide +kernel, by decide +kernel⟩, List.mem_of_getElem? (i := 603) (by decide +kernel), List.mem_of_getElem? (i := 907) (by decide +kernel), List.mem_of_getElem? (i := 908) (by decide +kernel)⟩
theorem lw_p52 : lw_okq (⟨"RelayRaceModel", "stoodOf", "(I)I"⟩, 38) := ⟨⟨by decide +kernel, by decide +kernel⟩, List.mem_of_getElem? (i := 603) (by decide +kernel), List.mem_of_getElem? (i := 915) (by decide +kernel), List.mem_of_getElem? (i := 916) (by decide +kernel)⟩
theorem lw_p53 : lw_okq (⟨"RelayRaceModel", "orderOf", "(II)I"⟩, 38) := ⟨⟨by decide +kernel, by decide +kernel⟩, List.mem_of_getElem? (i := 603) (by decide +kernel), List.mem_of_getElem? (i := 923) (by decide +kernel), List.mem_of_getElem? (i := 924) (by decide +kernel)⟩
theorem lw_p54 : lw_okq (⟨"RelayRaceModel", "puts", "(II)V"⟩, 38) := ⟨⟨by decide +kernel, by decide +kernel⟩, List.mem_of_getElem? (i := 603) (by decide +kernel), List.mem_of_getElem? (i := 930) (by decide +kernel), List.mem_of_getElem? (i := 931) (by decide +kernel)⟩
theorem lw_p55 : lw_okq (⟨"RelayRaceModel", "trainOf", "(II)I"⟩, 38) := ⟨⟨by decide +kernel, by decide +kernel⟩, List.mem_of_getElem? (i := 603) (by decide +kernel), List.mem_of_getElem? (i := 938) (by decide +kernel), List.mem_of_getElem? (i := 939) (by decide +kernel)⟩
theorem lw_p56 : lw_okq (⟨"RelayRaceModel", "fitOf", "(I)I"⟩, 38) := ⟨⟨by decide +kernel, by decide +kernel⟩, List.mem_of_getElem? (i := 603) (by decide +kernel), List.mem_of_getElem? (i := 946) (by decide +kernel), List.mem_of_getElem? (i := 947) (by decide +kernel)⟩
theorem lw_p57 : lw_okq (⟨"RelayRaceModel", "spareBy", "()I"⟩, 38) := ⟨⟨by decide +kernel, by decide +kernel⟩, List.mem_of_getElem? (i := 603) (by decide +kernel), List.mem_of_getElem? (i := 954) (by decide +kernel), List.mem_of_getElem? (i := 955) (by decide +kernel)⟩
theorem lw_p58 : lw_okq (⟨"RelayRaceModel", "isSpared", "(I)Z"⟩, 38) := ⟨⟨by decide +kernel, by decide +kernel⟩, List.mem_of_getElem? (i := 603) (by decide +kernel), List.mem_of_getElem? (i := 958) (by decide +kernel), List.mem_of_getElem? (i := 959) (by decide +kernel)⟩
theorem lw_p59 : lw_okq (⟨"RelayRaceModel", "ofRow", "(II)I"⟩, 38) := ⟨⟨by decide +kernel, by decide +kernel⟩, List.mem_of_getElem? (i := 603) (by decide +kernel), List.mem_of_getElem? (i := 962) (by decide +kernel), List.mem_of_getElem? (i := 963) (by decide +kernel)⟩
theorem lw_p60 : lw_okq (⟨"RelayRaceModel", "neverNow", "()I"⟩, 38) := ⟨⟨by decide +kernel, by decide +kernel⟩, List.mem_of_getElem? (i := 603) (by decide +kernel), List.mem_of_getElem? (i := 978) (by decide +kernel), List.mem_of_getElem? (i := 979) (by decide +kernel)⟩
theorem lw_p61 : lw_okq (⟨"RelayRaceModel", "isSeen", "()Z"⟩, 38) := ⟨⟨by decide +kernel, by decide +kernel⟩, List.mem_of_getElem? (i := 603) (by decide +kernel), List.mem_of_getElem? (i := 982) (by decide +kernel), List.mem_of_getElem? (i := 983) (by decide +kernel)⟩
theorem lw_p62 : lw_okq (⟨"RelayRaceModel", "pacesBy", "(I)I"⟩, 38) := ⟨⟨by decide +kernel, by decide +kernel⟩, List.mem_of_getElem? (i := 603) (by decide +kernel), List.mem_of_getElem? (i := 990) (by decide +kernel), List.mem_of_getElem? (i := 991) (by decide +kernel)⟩
theorem lw_p63 : lw_okq (⟨"RelayRaceModel", "sortsBy", "(I)I"⟩, 38) := ⟨⟨by decide +kernel, by decide +kernel⟩, List.mem_of_getElem? (i := 603) (by decide +kernel), List.mem_of_getElem? (i := 994) (by decide +kernel), List.mem_of_getElem? (i := 995) (by decide +kernel)⟩
def lw_privs_4 : List (MethodName × Nat) := [(⟨"RelayRaceModel", "wonNow", "()I"⟩, 38), (⟨"RelayRaceModel", "changesOf", "()I"⟩, 38), (⟨"RelayRaceModel", "firstAt", "(I)I"⟩, 38), (⟨"RelayRaceModel", "leaderOf", "(I)I"⟩, 38), (⟨"RelayRaceModel", "stoodOf", "(I)I"⟩, 38), (⟨"RelayRaceModel", "orderOf", "(II)I"⟩, 38), (⟨"RelayRaceModel", "puts", "(II)V"⟩, 38), (⟨"RelayRaceModel", "trainOf", "(II)I"⟩, 38), (⟨"RelayRaceModel", "fitOf", "(I)I"⟩, 38), (⟨"RelayRaceModel", "spareBy", "()I"⟩, 38), (⟨"RelayRaceModel", "isSpared", "(I)Z"⟩, 38), (⟨"RelayRaceModel", "ofRow", "(II)I"⟩, 38), (⟨"RelayRaceModel", "neverNow", "()I"⟩, 38), (⟨"RelayRaceModel", "isSeen", "()Z"⟩, 38), (⟨"RelayRaceModel", "pacesBy", "(I)I"⟩, 38), (⟨"RelayRaceModel", "sortsBy", "(I)I"⟩, 38)]
theorem lw_r4 : ∀ q ∈ lw_privs_4, lw_okq q := List.forall_mem_cons.mpr ⟨lw_p48, List.forall_mem_cons.mpr ⟨lw_p49, List.forall_mem_cons.mpr ⟨lw_p50, List.forall_mem_cons.mpr ⟨lw_p51, List.forall_mem_cons.mpr ⟨lw_p52, List.forall_mem_cons.mpr ⟨lw_p53, List.forall_mem_cons.mpr ⟨lw_p54, List.forall_mem_cons.mpr ⟨lw_p55, List.forall_mem_cons.mpr ⟨lw_p56, List.forall_mem_cons.mpr ⟨lw_p57, List.forall_mem_cons.mpr ⟨lw_p58, List.forall_mem_cons.mpr ⟨lw_p59, List.forall_mem_cons.mpr ⟨lw_p60, List.forall_mem_cons.mpr ⟨lw_p61, List.forall_mem_cons.mpr ⟨lw_p62, List.forall_mem_cons.mpr ⟨lw_p63, fun _ h => absurd h List.not_mem_nil⟩⟩⟩⟩⟩⟩⟩⟩⟩⟩⟩⟩⟩⟩⟩⟩
theorem lw_p64 : lw_okq (⟨"RelayRaceModel", "askOf", "(I)I"⟩, 38) := ⟨⟨by decide +kernel, by decide +kernel⟩, List.mem_of_getElem? (i := 603) (by decide +kernel), List.mem_of_getElem? (i := 1002) (by decide +kernel), List.mem_of_getElem? (i := 1003) (by decide +kernel)⟩
theorem lw_p65 : lw_okq (⟨"RelayRaceModel", "chanceOf", "(III)J"⟩, 38) := ⟨⟨by decide +kernel, by decide +kernel⟩, List.mem_of_getElem? (i := 603) (by decide +kernel), List.mem_of_getElem? (i := 1010) (by decide +kernel), List.mem_of_getElem? (i := 1011) (by decide +kernel)⟩
theorem lw_p66 : lw_okq (⟨"RelayRaceModel", "yearsOf", "(III)I"⟩, 38) := ⟨⟨by decide +kernel, by decide +kernel⟩, List.mem_of_getElem? (i := 603) (by decide +kernel), List.mem_of_getElem? (i := 1025) (by decide +kernel), List.mem_of_getElem? (i := 1026) (by decide +kernel)⟩
theorem lw_p67 : lw_okq (⟨"RelayRaceModel", "lacks", "(III)I"⟩, 38) := ⟨⟨by decide +kernel, by decide +kernel⟩, List.mem_of_getElem? (i := 603) (by decide +kernel), List.mem_of_getElem? (i := 1042) (by decide +kernel), List.mem_of_getElem? (i := 1043) (by decide +kernel)⟩
theorem lw_p68 : lw_okq (⟨"RelayRaceModel", "keep", "(III)V"⟩, 38) := ⟨⟨by decide +kernel, by decide +kernel⟩, List.mem_of_getElem? (i := 603) (by decide +kernel), List.mem_of_getElem? (i := 1046) (by decide +kernel), List.mem_of_getElem? (i := 1047) (by decide +kernel)⟩
theorem lw_p69 : lw_okq (⟨"RelayRaceModel", "teamsOf", "()I"⟩, 38) := ⟨⟨by decide +kernel, by decide +kernel⟩, List.mem_of_getElem? (i := 603) (by decide +kernel), List.mem_of_getElem? (i := 1067) (by decide +kernel), List.mem_of_getElem? (i := 1068) (by decide +kernel)⟩
theorem lw_p70 : lw_okq (⟨"RelayRaceModel", "homesOf", "()I"⟩, 38) := ⟨⟨by decide +kernel, by decide +kernel⟩, List.mem_of_getElem? (i := 603) (by decide +kernel), List.mem_of_getElem? (i := 1071) (by decide +kernel), List.mem_of_getElem? (i := 1072) (by decide +kernel)⟩
theorem lw_p71 : lw_okq (⟨"RelayRaceModel", "allMetres", "()I"⟩, 38) := ⟨⟨by decide +kernel, by decide +kernel⟩, List.mem_of_getElem? (i := 603) (by decide +kernel), List.mem_of_getElem? (i := 1075) (by decide +kernel), List.mem_of_getElem? (i := 1076) (by decide +kernel)⟩
theorem lw_p72 : lw_okq (⟨"RelayRaceModel", "teamDigest", "(JI)J"⟩, 38) := ⟨⟨by decide +kernel, by decide +kernel⟩, List.mem_of_getElem? (i := 603) (by decide +kernel), List.mem_of_getElem? (i := 1086) (by decide +kernel), List.mem_of_getElem? (i := 1087) (by decide +kernel)⟩
theorem lw_p73 : lw_okq (⟨"RelayRaceModel", "atDigest", "(JII)J"⟩, 38) := ⟨⟨by decide +kernel, by decide +kernel⟩, List.mem_of_getElem? (i := 603) (by decide +kernel), List.mem_of_getElem? (i := 1090) (by decide +kernel), List.mem_of_getElem? (i := 1091) (by decide +kernel)⟩
theorem lw_p74 : lw_okq (⟨"RelayRaceModel", "legDigest", "(JII)J"⟩, 38) := ⟨⟨by decide +kernel, by decide +kernel⟩, List.mem_of_getElem? (i := 603) (by decide +kernel), List.mem_of_getElem? (i := 1094) (by decide +kernel), List.mem_of_getElem? (i := 1095) (by decide +kernel)⟩
def lw_privs_5 : List (MethodName × Nat) := [(⟨"RelayRaceModel", "askOf", "(I)I"⟩, 38), (⟨"RelayRaceModel", "chanceOf", "(III)J"⟩, 38), (⟨"RelayRaceModel", "yearsOf", "(III)I"⟩, 38), (⟨"RelayRaceModel", "lacks", "(III)I"⟩, 38), (⟨"RelayRaceModel", "keep", "(III)V"⟩, 38), (⟨"RelayRaceModel", "teamsOf", "()I"⟩, 38), (⟨"RelayRaceModel", "homesOf", "()I"⟩, 38), (⟨"RelayRaceModel", "allMetres", "()I"⟩, 38), (⟨"RelayRaceModel", "teamDigest", "(JI)J"⟩, 38), (⟨"RelayRaceModel", "atDigest", "(JII)J"⟩, 38), (⟨"RelayRaceModel", "legDigest", "(JII)J"⟩, 38)]
theorem lw_r5 : ∀ q ∈ lw_privs_5, lw_okq q := List.forall_mem_cons.mpr ⟨lw_p64, List.forall_mem_cons.mpr ⟨lw_p65, List.forall_mem_cons.mpr ⟨lw_p66, List.forall_mem_cons.mpr ⟨lw_p67, List.forall_mem_cons.mpr ⟨lw_p68, List.forall_mem_cons.mpr ⟨lw_p69, List.forall_mem_cons.mpr ⟨lw_p70, List.forall_mem_cons.mpr ⟨lw_p71, List.forall_mem_cons.mpr ⟨lw_p72, List.forall_mem_cons.mpr ⟨lw_p73, List.forall_mem_cons.mpr ⟨lw_p74, fun _ h => absurd h List.not_mem_nil⟩⟩⟩⟩⟩⟩⟩⟩⟩⟩⟩
def lw_privs : List (MethodName × Nat) := lw_privs_1 ++ (lw_privs_2 ++ (lw_privs_3 ++ (lw_privs_4 ++ (lw_privs_5))))
def lw_tbl : List Cond := k2_sels lw_privs ++ tables_1
theorem lw_privs_ok : ∀ q ∈ lw_privs, lw_okq q := by
  show ∀ q ∈ lw_privs_1 ++ (lw_privs_2 ++ (lw_privs_3 ++ (lw_privs_4 ++ (lw_privs_5)))), lw_okq q
  exact List.forall_mem_append.mpr ⟨lw_r1, List.forall_mem_append.mpr ⟨lw_r2, List.forall_mem_append.mpr ⟨lw_r3, List.forall_mem_append.mpr ⟨lw_r4, lw_r5⟩⟩⟩⟩
-- ===== end of PART A; then your names; then what follows =====
end
section
def RX0 : String := "RelayRace$Race"
def TX0 : u_T := fun k => match k with
  | 0 => ("RelayRace$Race", "sorts", "[I", true)
  | 1 => ("RelayRace$Race", "paces", "[I", true)
  | 2 => ("RelayRace$Race", "stops", "[J", true)
  | 3 => ("RelayRace$Race", "metres", "[I", true)
  | 4 => ("RelayRace$Race", "ends", "[I", true)
  | 5 => ("RelayRace$Race", "teams", "I", false)
  | 6 => ("RelayRace$Race", "legLength", "I", false)
  | _ => ("RelayRace$Race", "rainFrom", "I", false)
def tyX0 : Nat → FieldType := fun k => match k with
  | 0 => .array .int
  | 1 => .array .int
  | 2 => .array .long
  | 3 => .array .int
  | 4 => .array .int
  | 5 => .int
  | 6 => .int
  | _ => .int
theorem nmX0 : ∀ a, a < 8 → ∀ b, b < 8 → a ≠ b → (TX0 a).2.1 ≠ (TX0 b).2.1 := by decide +kernel
theorem tyX0_ok : ∀ k, k < 8 → parseFieldDescriptor (TX0 k).2.2.1 = some (tyX0 k) := by decide +kernel
abbrev cX0_init : ByteArray := prog_2_method_1_code
def yX0_init : MethodName := ⟨RX0, "<init>", "()V"⟩
abbrev cX0_takeText : ByteArray := prog_2_method_2_code
def yX0_takeText : MethodName := ⟨RX0, "takeText", "(LRelayRace$Text;)V"⟩
abbrev cX0_takeRace : ByteArray := prog_2_method_3_code
def yX0_takeRace : MethodName := ⟨RX0, "takeRace", "(LRelayRace$Race;)V"⟩
abbrev cX0_takeRunner : ByteArray := prog_2_method_4_code
def yX0_takeRunner : MethodName := ⟨RX0, "takeRunner", "(LRelayRace$Race;III)V"⟩
abbrev cX0_setConditions : ByteArray := prog_2_method_5_code
def yX0_setConditions : MethodName := ⟨RX0, "setConditions", "(ILRelayRace$Triples;I)V"⟩
abbrev cX0_befall : ByteArray := prog_2_method_6_code
def yX0_befall : MethodName := ⟨RX0, "befall", "(III)V"⟩
abbrev cX0_runAll : ByteArray := prog_2_method_7_code
def yX0_runAll : MethodName := ⟨RX0, "runAll", "()V"⟩
abbrev cX0_runTeam : ByteArray := prog_2_method_8_code
def yX0_runTeam : MethodName := ⟨RX0, "runTeam", "(I)V"⟩
abbrev cX0_stride : ByteArray := prog_2_method_9_code
def yX0_stride : MethodName := ⟨RX0, "stride", "(III)I"⟩
abbrev cX0_metresAt : ByteArray := prog_2_method_10_code
def yX0_metresAt : MethodName := ⟨RX0, "metresAt", "(II)I"⟩
abbrev cX0_homeOf : ByteArray := prog_2_method_11_code
def yX0_homeOf : MethodName := ⟨RX0, "homeOf", "(I)I"⟩
abbrev cX0_legAt : ByteArray := prog_2_method_12_code
def yX0_legAt : MethodName := ⟨RX0, "legAt", "(II)I"⟩
abbrev cX0_stoodOf : ByteArray := prog_2_method_13_code
def yX0_stoodOf : MethodName := ⟨RX0, "stoodOf", "(I)I"⟩
abbrev cX0_standingAt : ByteArray := prog_2_method_14_code
def yX0_standingAt : MethodName := ⟨RX0, "standingAt", "(II)I"⟩
abbrev cX0_rankAt : ByteArray := prog_2_method_15_code
def yX0_rankAt : MethodName := ⟨RX0, "rankAt", "(II)I"⟩
abbrev cX0_foremostAt : ByteArray := prog_2_method_16_code
def yX0_foremostAt : MethodName := ⟨RX0, "foremostAt", "(I)I"⟩
abbrev cX0_winner : ByteArray := prog_2_method_17_code
def yX0_winner : MethodName := ⟨RX0, "winner", "()I"⟩
abbrev cX0_comesOutAs : ByteArray := prog_2_method_18_code
def yX0_comesOutAs : MethodName := ⟨RX0, "comesOutAs", "(LRelayRace$Triples;)Z"⟩
def RX1 : String := "RelayRace$Sheet"
def TX1 : u_T := fun k => match k with
  | 0 => ("RelayRace$Sheet", "items", "[I", true)
  | 1 => ("RelayRace$Sheet", "lost", "Z", false)
  | 2 => ("RelayRace$Sheet", "form", "I", false)
  | _ => ("RelayRace$Sheet", "size", "I", false)
def tyX1 : Nat → FieldType := fun k => match k with
  | 0 => .array .int
  | 1 => .boolean
  | 2 => .int
  | _ => .int
theorem nmX1 : ∀ a, a < 4 → ∀ b, b < 4 → a ≠ b → (TX1 a).2.1 ≠ (TX1 b).2.1 := by decide +kernel
theorem tyX1_ok : ∀ k, k < 4 → parseFieldDescriptor (TX1 k).2.2.1 = some (tyX1 k) := by decide +kernel
abbrev cX1_init : ByteArray := prog_3_method_1_code
def yX1_init : MethodName := ⟨RX1, "<init>", "()V"⟩
abbrev cX1_begin : ByteArray := prog_3_method_2_code
def yX1_begin : MethodName := ⟨RX1, "begin", "(II)V"⟩
abbrev cX1_store : ByteArray := prog_3_method_3_code
def yX1_store : MethodName := ⟨RX1, "store", "(II)V"⟩
abbrev cX1_hasItems : ByteArray := prog_3_method_4_code
def yX1_hasItems : MethodName := ⟨RX1, "hasItems", "(II)Z"⟩
def RX2 : String := "RelayRace$Text"
def TX2 : u_T := fun k => match k with
  | 0 => ("RelayRace$Text", "bytes", "[I", true)
  | _ => ("RelayRace$Text", "length", "I", false)
def tyX2 : Nat → FieldType := fun k => match k with
  | 0 => .array .int
  | _ => .int
theorem nmX2 : ∀ a, a < 2 → ∀ b, b < 2 → a ≠ b → (TX2 a).2.1 ≠ (TX2 b).2.1 := by decide +kernel
theorem tyX2_ok : ∀ k, k < 2 → parseFieldDescriptor (TX2 k).2.2.1 = some (tyX2 k) := by decide +kernel
abbrev cX2_init : ByteArray := prog_4_method_1_code
def yX2_init : MethodName := ⟨RX2, "<init>", "()V"⟩
abbrev cX2_append : ByteArray := prog_4_method_2_code
def yX2_append : MethodName := ⟨RX2, "append", "(I)V"⟩
abbrev cX2_firstFault : ByteArray := prog_4_method_3_code
def yX2_firstFault : MethodName := ⟨RX2, "firstFault", "()I"⟩
abbrev cX2_goesOn : ByteArray := prog_4_method_4_code
def yX2_goesOn : MethodName := ⟨RX2, "goesOn", "(I)Z"⟩
abbrev cX2_sortAt : ByteArray := prog_4_method_5_code
def yX2_sortAt : MethodName := ⟨RX2, "sortAt", "(I)I"⟩
def RX3 : String := "RelayRace$Triples"
def TX3 : u_T := fun k => match k with
  | 0 => ("RelayRace$Triples", "first", "[I", true)
  | 1 => ("RelayRace$Triples", "second", "[I", true)
  | 2 => ("RelayRace$Triples", "third", "[I", true)
  | _ => ("RelayRace$Triples", "size", "I", false)
def tyX3 : Nat → FieldType := fun k => match k with
  | 0 => .array .int
  | 1 => .array .int
  | 2 => .array .int
  | _ => .int
theorem nmX3 : ∀ a, a < 4 → ∀ b, b < 4 → a ≠ b → (TX3 a).2.1 ≠ (TX3 b).2.1 := by decide +kernel
theorem tyX3_ok : ∀ k, k < 4 → parseFieldDescriptor (TX3 k).2.2.1 = some (tyX3 k) := by decide +kernel
abbrev cX3_init : ByteArray := prog_5_method_1_code
def yX3_init : MethodName := ⟨RX3, "<init>", "()V"⟩
abbrev cX3_append : ByteArray := prog_5_method_2_code
def yX3_append : MethodName := ⟨RX3, "append", "(III)V"⟩
def RX4 : String := "RelayRace"
def TX4 : u_T := fun k => match k with
  | 0 => ("RelayRace", "text", "LRelayRace$Text;", true)
  | 1 => ("RelayRace", "events", "LRelayRace$Triples;", true)
  | 2 => ("RelayRace", "sightings", "LRelayRace$Triples;", true)
  | 3 => ("RelayRace", "drawn", "LRelayRace$Triples;", true)
  | 4 => ("RelayRace", "told", "LRelayRace$Race;", true)
  | 5 => ("RelayRace", "trial", "LRelayRace$Race;", true)
  | 6 => ("RelayRace", "standings", "[I", true)
  | 7 => ("RelayRace", "standingsOld", "Z", false)
  | 8 => ("RelayRace", "plan", "[I", true)
  | 9 => ("RelayRace", "alike", "[I", true)
  | 10 => ("RelayRace", "sheets", "[LRelayRace$Sheet;", true)
  | 11 => ("RelayRace", "legLength", "I", false)
  | _ => ("RelayRace", "latestFinding", "I", false)
def tyX4 : Nat → FieldType := fun k => match k with
  | 0 => .object "RelayRace$Text"
  | 1 => .object "RelayRace$Triples"
  | 2 => .object "RelayRace$Triples"
  | 3 => .object "RelayRace$Triples"
  | 4 => .object "RelayRace$Race"
  | 5 => .object "RelayRace$Race"
  | 6 => .array .int
  | 7 => .boolean
  | 8 => .array .int
  | 9 => .array .int
  | 10 => .array (.object "RelayRace$Sheet")
  | 11 => .int
  | _ => .int
theorem nmX4 : ∀ a, a < 13 → ∀ b, b < 13 → a ≠ b → (TX4 a).2.1 ≠ (TX4 b).2.1 := by decide +kernel
theorem tyX4_ok : ∀ k, k < 13 → parseFieldDescriptor (TX4 k).2.2.1 = some (tyX4 k) := by decide +kernel
abbrev cX4_init : ByteArray := prog_1_method_1_code
def yX4_init : MethodName := ⟨RX4, "<init>", "()V"⟩
abbrev cX4_type : ByteArray := prog_1_method_2_code
def yX4_type : MethodName := ⟨RX4, "type", "(I)I"⟩
abbrev cX4_wipe : ByteArray := prog_1_method_3_code
def yX4_wipe : MethodName := ⟨RX4, "wipe", "()I"⟩
abbrev cX4_undo : ByteArray := prog_1_method_4_code
def yX4_undo : MethodName := ⟨RX4, "undo", "()I"⟩
abbrev cX4_fault : ByteArray := prog_1_method_5_code
def yX4_fault : MethodName := ⟨RX4, "fault", "()I"⟩
abbrev cX4_runner : ByteArray := prog_1_method_6_code
def yX4_runner : MethodName := ⟨RX4, "runner", "(III)I"⟩
abbrev cX4_along : ByteArray := prog_1_method_7_code
def yX4_along : MethodName := ⟨RX4, "along", "(I)I"⟩
abbrev cX4_event : ByteArray := prog_1_method_8_code
def yX4_event : MethodName := ⟨RX4, "event", "(III)I"⟩
abbrev cX4_back : ByteArray := prog_1_method_9_code
def yX4_back : MethodName := ⟨RX4, "back", "()I"⟩
abbrev cX4_read : ByteArray := prog_1_method_10_code
def yX4_read : MethodName := ⟨RX4, "read", "(I)I"⟩
abbrev cX4_runTold : ByteArray := prog_1_method_11_code
def yX4_runTold : MethodName := ⟨RX4, "runTold", "()V"⟩
abbrev cX4_everyEvent : ByteArray := prog_1_method_12_code
def yX4_everyEvent : MethodName := ⟨RX4, "everyEvent", "()I"⟩
abbrev cX4_at : ByteArray := prog_1_method_13_code
def yX4_at : MethodName := ⟨RX4, "at", "(III)I"⟩
abbrev cX4_home : ByteArray := prog_1_method_14_code
def yX4_home : MethodName := ⟨RX4, "home", "(I)I"⟩
abbrev cX4_lasted : ByteArray := prog_1_method_15_code
def yX4_lasted : MethodName := ⟨RX4, "lasted", "(II)I"⟩
abbrev cX4_won : ByteArray := prog_1_method_16_code
def yX4_won : MethodName := ⟨RX4, "won", "(I)I"⟩
abbrev cX4_winnerOf : ByteArray := prog_1_method_17_code
def yX4_winnerOf : MethodName := ⟨RX4, "winnerOf", "(LRelayRace$Race;I)I"⟩
abbrev cX4_changes : ByteArray := prog_1_method_18_code
def yX4_changes : MethodName := ⟨RX4, "changes", "()I"⟩
abbrev cX4_leader : ByteArray := prog_1_method_19_code
def yX4_leader : MethodName := ⟨RX4, "leader", "(I)I"⟩
abbrev cX4_momentsAhead : ByteArray := prog_1_method_20_code
def yX4_momentsAhead : MethodName := ⟨RX4, "momentsAhead", "(I)I"⟩
abbrev cX4_stood : ByteArray := prog_1_method_21_code
def yX4_stood : MethodName := ⟨RX4, "stood", "(I)I"⟩
abbrev cX4_order : ByteArray := prog_1_method_22_code
def yX4_order : MethodName := ⟨RX4, "order", "(II)I"⟩
abbrev cX4_findOrder : ByteArray := prog_1_method_23_code
def yX4_findOrder : MethodName := ⟨RX4, "findOrder", "(I)V"⟩
abbrev cX4_tryOrder : ByteArray := prog_1_method_24_code
def yX4_tryOrder : MethodName := ⟨RX4, "tryOrder", "(IIII)V"⟩
abbrev cX4_train : ByteArray := prog_1_method_25_code
def yX4_train : MethodName := ⟨RX4, "train", "(II)I"⟩
abbrev cX4_isSooner : ByteArray := prog_1_method_26_code
def yX4_isSooner : MethodName := ⟨RX4, "isSooner", "(II)Z"⟩
abbrev cX4_fit : ByteArray := prog_1_method_27_code
def yX4_fit : MethodName := ⟨RX4, "fit", "(I)I"⟩
abbrev cX4_spare : ByteArray := prog_1_method_28_code
def yX4_spare : MethodName := ⟨RX4, "spare", "(I)I"⟩
abbrev cX4_spared : ByteArray := prog_1_method_29_code
def yX4_spared : MethodName := ⟨RX4, "spared", "(IIII)I"⟩
abbrev cX4_prepareStandings : ByteArray := prog_1_method_30_code
def yX4_prepareStandings : MethodName := ⟨RX4, "prepareStandings", "()V"⟩
abbrev cX4_winnerWith : ByteArray := prog_1_method_31_code
def yX4_winnerWith : MethodName := ⟨RX4, "winnerWith", "(I)I"⟩
abbrev cX4_standingWith : ByteArray := prog_1_method_32_code
def yX4_standingWith : MethodName := ⟨RX4, "standingWith", "(II)I"⟩
abbrev cX4_eventsTouching : ByteArray := prog_1_method_33_code
def yX4_eventsTouching : MethodName := ⟨RX4, "eventsTouching", "(I)I"⟩
abbrev cX4_seen : ByteArray := prog_1_method_34_code
def yX4_seen : MethodName := ⟨RX4, "seen", "(III)I"⟩
abbrev cX4_forget : ByteArray := prog_1_method_35_code
def yX4_forget : MethodName := ⟨RX4, "forget", "()I"⟩
abbrev cX4_never : ByteArray := prog_1_method_36_code
def yX4_never : MethodName := ⟨RX4, "never", "()I"⟩
abbrev cX4_was : ByteArray := prog_1_method_37_code
def yX4_was : MethodName := ⟨RX4, "was", "(III)I"⟩
abbrev cX4_possiblePaces : ByteArray := prog_1_method_38_code
def yX4_possiblePaces : MethodName := ⟨RX4, "possiblePaces", "(II)I"⟩
abbrev cX4_possibleSorts : ByteArray := prog_1_method_39_code
def yX4_possibleSorts : MethodName := ⟨RX4, "possibleSorts", "(II)I"⟩
abbrev cX4_ask : ByteArray := prog_1_method_40_code
def yX4_ask : MethodName := ⟨RX4, "ask", "(II)I"⟩
abbrev cX4_countRanks : ByteArray := prog_1_method_41_code
def yX4_countRanks : MethodName := ⟨RX4, "countRanks", "(I)V"⟩
abbrev cX4_mostAlike : ByteArray := prog_1_method_42_code
def yX4_mostAlike : MethodName := ⟨RX4, "mostAlike", "(I)I"⟩
abbrev cX4_chance : ByteArray := prog_1_method_43_code
def yX4_chance : MethodName := ⟨RX4, "chance", "(III)J"⟩
abbrev cX4_sharedTwos : ByteArray := prog_1_method_44_code
def yX4_sharedTwos : MethodName := ⟨RX4, "sharedTwos", "(J)I"⟩
abbrev cX4_weight : ByteArray := prog_1_method_45_code
def yX4_weight : MethodName := ⟨RX4, "weight", "(II)J"⟩
abbrev cX4_years : ByteArray := prog_1_method_46_code
def yX4_years : MethodName := ⟨RX4, "years", "(III)I"⟩
abbrev cX4_drawEvents : ByteArray := prog_1_method_47_code
def yX4_drawEvents : MethodName := ⟨RX4, "drawEvents", "(II)V"⟩
abbrev cX4_nextSeed : ByteArray := prog_1_method_48_code
def yX4_nextSeed : MethodName := ⟨RX4, "nextSeed", "(I)I"⟩
abbrev cX4_sheet : ByteArray := prog_1_method_49_code
def yX4_sheet : MethodName := ⟨RX4, "sheet", "(III)I"⟩
abbrev cX4_lose : ByteArray := prog_1_method_50_code
def yX4_lose : MethodName := ⟨RX4, "lose", "(I)I"⟩
abbrev cX4_put : ByteArray := prog_1_method_51_code
def yX4_put : MethodName := ⟨RX4, "put", "(IIII)I"⟩
abbrev cX4_get : ByteArray := prog_1_method_52_code
def yX4_get : MethodName := ⟨RX4, "get", "(III)I"⟩
abbrev cX4_findingAt : ByteArray := prog_1_method_53_code
def yX4_findingAt : MethodName := ⟨RX4, "findingAt", "(LRelayRace$Sheet;II)I"⟩
abbrev cX4_copy : ByteArray := prog_1_method_54_code
def yX4_copy : MethodName := ⟨RX4, "copy", "(IIIII)I"⟩
abbrev cX4_write : ByteArray := prog_1_method_55_code
def yX4_write : MethodName := ⟨RX4, "write", "(II)I"⟩
abbrev cX4_count : ByteArray := prog_1_method_56_code
def yX4_count : MethodName := ⟨RX4, "count", "(I)I"⟩
abbrev cX4_teamsHome : ByteArray := prog_1_method_57_code
def yX4_teamsHome : MethodName := ⟨RX4, "teamsHome", "()I"⟩
abbrev cX4_metresTogether : ByteArray := prog_1_method_58_code
def yX4_metresTogether : MethodName := ⟨RX4, "metresTogether", "()I"⟩
abbrev cX4_digest : ByteArray := prog_1_method_59_code
def yX4_digest : MethodName := ⟨RX4, "digest", "()J"⟩
abbrev cX4_digestMoments : ByteArray := prog_1_method_60_code
def yX4_digestMoments : MethodName := ⟨RX4, "digestMoments", "(JI)J"⟩
abbrev cX4_digestLegs : ByteArray := prog_1_method_61_code
def yX4_digestLegs : MethodName := ⟨RX4, "digestLegs", "(JI)J"⟩
abbrev cX4_digestPlans : ByteArray := prog_1_method_62_code
def yX4_digestPlans : MethodName := ⟨RX4, "digestPlans", "(JI)J"⟩
abbrev cX4_isTeam : ByteArray := prog_1_method_63_code
def yX4_isTeam : MethodName := ⟨RX4, "isTeam", "(I)Z"⟩
abbrev cX4_isLeg : ByteArray := prog_1_method_64_code
def yX4_isLeg : MethodName := ⟨RX4, "isLeg", "(I)Z"⟩
abbrev cX4_isMoment : ByteArray := prog_1_method_65_code
def yX4_isMoment : MethodName := ⟨RX4, "isMoment", "(I)Z"⟩
abbrev cX4_isNumber : ByteArray := prog_1_method_66_code
def yX4_isNumber : MethodName := ⟨RX4, "isNumber", "(I)Z"⟩
abbrev cX4_isEvent : ByteArray := prog_1_method_67_code
def yX4_isEvent : MethodName := ⟨RX4, "isEvent", "(III)Z"⟩
abbrev cX4_isEither : ByteArray := prog_1_method_68_code
def yX4_isEither : MethodName := ⟨RX4, "isEither", "(I)Z"⟩
abbrev cX4_isSheet : ByteArray := prog_1_method_69_code
def yX4_isSheet : MethodName := ⟨RX4, "isSheet", "(I)Z"⟩
abbrev cX4_isForm : ByteArray := prog_1_method_70_code
def yX4_isForm : MethodName := ⟨RX4, "isForm", "(I)Z"⟩
abbrev cX4_found : ByteArray := prog_1_method_71_code
def yX4_found : MethodName := ⟨RX4, "found", "(I)I"⟩
def RX5 : String := "RelayRaceModel"
def TX5 : u_T := fun k => match k with
  | 0 => ("RelayRaceModel", "typed", "I", false)
  | 1 => ("RelayRaceModel", "bytes", "[I", true)
  | 2 => ("RelayRaceModel", "teams", "I", false)
  | 3 => ("RelayRaceModel", "sorts", "[I", true)
  | 4 => ("RelayRaceModel", "paces", "[I", true)
  | 5 => ("RelayRaceModel", "longTold", "I", false)
  | 6 => ("RelayRaceModel", "events", "I", false)
  | 7 => ("RelayRaceModel", "eventKind", "[I", true)
  | 8 => ("RelayRaceModel", "eventAt", "[I", true)
  | 9 => ("RelayRaceModel", "eventNumber", "[I", true)
  | 10 => ("RelayRaceModel", "longNow", "I", false)
  | 11 => ("RelayRaceModel", "eventsNow", "I", false)
  | 12 => ("RelayRaceModel", "kindNow", "[I", true)
  | 13 => ("RelayRaceModel", "whenNow", "[I", true)
  | 14 => ("RelayRaceModel", "numberNow", "[I", true)
  | 15 => ("RelayRaceModel", "notEvents", "I", false)
  | 16 => ("RelayRaceModel", "runs4", "[I", true)
  | 17 => ("RelayRaceModel", "metres", "[I", true)
  | 18 => ("RelayRaceModel", "legNow", "[I", true)
  | 19 => ("RelayRaceModel", "ownMoments", "[I", true)
  | 20 => ("RelayRaceModel", "homeAt", "[I", true)
  | 21 => ("RelayRaceModel", "stoodNow", "[I", true)
  | 22 => ("RelayRaceModel", "lastedNow", "[I", true)
  | 23 => ("RelayRaceModel", "metresAt", "[I", true)
  | 24 => ("RelayRaceModel", "legAt", "[I", true)
  | 25 => ("RelayRaceModel", "rankAt", "[I", true)
  | 26 => ("RelayRaceModel", "planRow", "[I", true)
  | 27 => ("RelayRaceModel", "seens", "I", false)
  | 28 => ("RelayRaceModel", "seenAt", "[I", true)
  | 29 => ("RelayRaceModel", "seenTeam", "[I", true)
  | 30 => ("RelayRaceModel", "seenRank", "[I", true)
  | 31 => ("RelayRaceModel", "ranksBy", "[I", true)
  | 32 => ("RelayRaceModel", "isThere", "[Z", true)
  | 33 => ("RelayRaceModel", "forms", "[I", true)
  | 34 => ("RelayRaceModel", "sizes", "[I", true)
  | 35 => ("RelayRaceModel", "items", "[I", true)
  | 36 => ("RelayRaceModel", "moved", "[I", true)
  | _ => ("RelayRaceModel", "finding", "I", false)
def tyX5 : Nat → FieldType := fun k => match k with
  | 0 => .int
  | 1 => .array .int
  | 2 => .int
  | 3 => .array .int
  | 4 => .array .int
  | 5 => .int
  | 6 => .int
  | 7 => .array .int
  | 8 => .array .int
  | 9 => .array .int
  | 10 => .int
  | 11 => .int
  | 12 => .array .int
  | 13 => .array .int
  | 14 => .array .int
  | 15 => .int
  | 16 => .array .int
  | 17 => .array .int
  | 18 => .array .int
  | 19 => .array .int
  | 20 => .array .int
  | 21 => .array .int
  | 22 => .array .int
  | 23 => .array .int
  | 24 => .array .int
  | 25 => .array .int
  | 26 => .array .int
  | 27 => .int
  | 28 => .array .int
  | 29 => .array .int
  | 30 => .array .int
  | 31 => .array .int
  | 32 => .array .boolean
  | 33 => .array .int
  | 34 => .array .int
  | 35 => .array .int
  | 36 => .array .int
  | _ => .int
theorem nmX5 : ∀ a, a < 38 → ∀ b, b < 38 → a ≠ b → (TX5 a).2.1 ≠ (TX5 b).2.1 := by decide +kernel
theorem tyX5_ok : ∀ k, k < 38 → parseFieldDescriptor (TX5 k).2.2.1 = some (tyX5 k) := by decide +kernel
abbrev cX5_init : ByteArray := prog_7_method_1_code
def yX5_init : MethodName := ⟨RX5, "<init>", "()V"⟩
abbrev cX5_in : ByteArray := prog_7_method_3_code
def yX5_in : MethodName := ⟨RX5, "in", "(III)Z"⟩
abbrev cX5_isIn : ByteArray := prog_7_method_4_code
def yX5_isIn : MethodName := ⟨RX5, "isIn", "(II)Z"⟩
abbrev cX5_no : ByteArray := prog_7_method_5_code
def yX5_no : MethodName := ⟨RX5, "no", "(I)J"⟩
abbrev cX5_lowest : ByteArray := prog_7_method_6_code
def yX5_lowest : MethodName := ⟨RX5, "lowest", "(JJI)J"⟩
abbrev cX5_isMoment : ByteArray := prog_7_method_7_code
def yX5_isMoment : MethodName := ⟨RX5, "isMoment", "(I)Z"⟩
abbrev cX5_isFour : ByteArray := prog_7_method_8_code
def yX5_isFour : MethodName := ⟨RX5, "isFour", "(I)Z"⟩
abbrev cX5_isTwo : ByteArray := prog_7_method_9_code
def yX5_isTwo : MethodName := ⟨RX5, "isTwo", "(I)Z"⟩
abbrev cX5_isThree : ByteArray := prog_7_method_10_code
def yX5_isThree : MethodName := ⟨RX5, "isThree", "(I)Z"⟩
abbrev cX5_type : ByteArray := prog_7_method_11_code
def yX5_type : MethodName := ⟨RX5, "type", "(I)I"⟩
abbrev cX5_wipe : ByteArray := prog_7_method_12_code
def yX5_wipe : MethodName := ⟨RX5, "wipe", "()I"⟩
abbrev cX5_undo : ByteArray := prog_7_method_13_code
def yX5_undo : MethodName := ⟨RX5, "undo", "()I"⟩
abbrev cX5_byteAt : ByteArray := prog_7_method_14_code
def yX5_byteAt : MethodName := ⟨RX5, "byteAt", "(I)I"⟩
abbrev cX5_readsRunner : ByteArray := prog_7_method_15_code
def yX5_readsRunner : MethodName := ⟨RX5, "readsRunner", "(II)I"⟩
abbrev cX5_readsTeam : ByteArray := prog_7_method_16_code
def yX5_readsTeam : MethodName := ⟨RX5, "readsTeam", "(II)I"⟩
abbrev cX5_faultOf : ByteArray := prog_7_method_17_code
def yX5_faultOf : MethodName := ⟨RX5, "faultOf", "()I"⟩
abbrev cX5_reads : ByteArray := prog_7_method_18_code
def yX5_reads : MethodName := ⟨RX5, "reads", "()V"⟩
abbrev cX5_fault : ByteArray := prog_7_method_19_code
def yX5_fault : MethodName := ⟨RX5, "fault", "()I"⟩
abbrev cX5_isTeam : ByteArray := prog_7_method_20_code
def yX5_isTeam : MethodName := ⟨RX5, "isTeam", "(I)Z"⟩
abbrev cX5_runnerOf : ByteArray := prog_7_method_21_code
def yX5_runnerOf : MethodName := ⟨RX5, "runnerOf", "(III)I"⟩
abbrev cX5_runner : ByteArray := prog_7_method_22_code
def yX5_runner : MethodName := ⟨RX5, "runner", "(III)I"⟩
abbrev cX5_along : ByteArray := prog_7_method_23_code
def yX5_along : MethodName := ⟨RX5, "along", "(I)I"⟩
abbrev cX5_event : ByteArray := prog_7_method_24_code
def yX5_event : MethodName := ⟨RX5, "event", "(III)I"⟩
abbrev cX5_back : ByteArray := prog_7_method_25_code
def yX5_back : MethodName := ⟨RX5, "back", "()I"⟩
abbrev cX5_read : ByteArray := prog_7_method_26_code
def yX5_read : MethodName := ⟨RX5, "read", "(I)I"⟩
abbrev cX5_asTold : ByteArray := prog_7_method_27_code
def yX5_asTold : MethodName := ⟨RX5, "asTold", "()V"⟩
abbrev cX5_isRain : ByteArray := prog_7_method_28_code
def yX5_isRain : MethodName := ⟨RX5, "isRain", "(I)Z"⟩
abbrev cX5_stands : ByteArray := prog_7_method_29_code
def yX5_stands : MethodName := ⟨RX5, "stands", "(II)Z"⟩
abbrev cX5_stride : ByteArray := prog_7_method_30_code
def yX5_stride : MethodName := ⟨RX5, "stride", "(IIZ)I"⟩
abbrev cX5_goes : ByteArray := prog_7_method_31_code
def yX5_goes : MethodName := ⟨RX5, "goes", "(IIZ)V"⟩
abbrev cX5_isAhead : ByteArray := prog_7_method_32_code
def yX5_isAhead : MethodName := ⟨RX5, "isAhead", "(II)Z"⟩
abbrev cX5_goesBy : ByteArray := prog_7_method_33_code
def yX5_goesBy : MethodName := ⟨RX5, "goesBy", "(I)V"⟩
abbrev cX5_runs : ByteArray := prog_7_method_34_code
def yX5_runs : MethodName := ⟨RX5, "runs", "()V"⟩
abbrev cX5_runsTold : ByteArray := prog_7_method_35_code
def yX5_runsTold : MethodName := ⟨RX5, "runsTold", "()V"⟩
abbrev cX5_atOf : ByteArray := prog_7_method_36_code
def yX5_atOf : MethodName := ⟨RX5, "atOf", "(III)I"⟩
abbrev cX5_at : ByteArray := prog_7_method_37_code
def yX5_at : MethodName := ⟨RX5, "at", "(III)I"⟩
abbrev cX5_homeOf : ByteArray := prog_7_method_38_code
def yX5_homeOf : MethodName := ⟨RX5, "homeOf", "(I)I"⟩
abbrev cX5_home : ByteArray := prog_7_method_39_code
def yX5_home : MethodName := ⟨RX5, "home", "(I)I"⟩
abbrev cX5_lastedOf : ByteArray := prog_7_method_40_code
def yX5_lastedOf : MethodName := ⟨RX5, "lastedOf", "(II)I"⟩
abbrev cX5_lasted : ByteArray := prog_7_method_41_code
def yX5_lasted : MethodName := ⟨RX5, "lasted", "(II)I"⟩
abbrev cX5_wonNow : ByteArray := prog_7_method_42_code
def yX5_wonNow : MethodName := ⟨RX5, "wonNow", "()I"⟩
abbrev cX5_wonBy : ByteArray := prog_7_method_43_code
def yX5_wonBy : MethodName := ⟨RX5, "wonBy", "(I)I"⟩
abbrev cX5_wonOf : ByteArray := prog_7_method_44_code
def yX5_wonOf : MethodName := ⟨RX5, "wonOf", "(I)I"⟩
abbrev cX5_won : ByteArray := prog_7_method_45_code
def yX5_won : MethodName := ⟨RX5, "won", "(I)I"⟩
abbrev cX5_firstAt : ByteArray := prog_7_method_46_code
def yX5_firstAt : MethodName := ⟨RX5, "firstAt", "(I)I"⟩
abbrev cX5_changesOf : ByteArray := prog_7_method_47_code
def yX5_changesOf : MethodName := ⟨RX5, "changesOf", "()I"⟩
abbrev cX5_changes : ByteArray := prog_7_method_48_code
def yX5_changes : MethodName := ⟨RX5, "changes", "()I"⟩
abbrev cX5_leaderOf : ByteArray := prog_7_method_49_code
def yX5_leaderOf : MethodName := ⟨RX5, "leaderOf", "(I)I"⟩
abbrev cX5_leader : ByteArray := prog_7_method_50_code
def yX5_leader : MethodName := ⟨RX5, "leader", "(I)I"⟩
abbrev cX5_stoodOf : ByteArray := prog_7_method_51_code
def yX5_stoodOf : MethodName := ⟨RX5, "stoodOf", "(I)I"⟩
abbrev cX5_stood : ByteArray := prog_7_method_52_code
def yX5_stood : MethodName := ⟨RX5, "stood", "(I)I"⟩
abbrev cX5_puts : ByteArray := prog_7_method_53_code
def yX5_puts : MethodName := ⟨RX5, "puts", "(II)V"⟩
abbrev cX5_isRow : ByteArray := prog_7_method_54_code
def yX5_isRow : MethodName := ⟨RX5, "isRow", "(I)Z"⟩
abbrev cX5_orderOf : ByteArray := prog_7_method_55_code
def yX5_orderOf : MethodName := ⟨RX5, "orderOf", "(II)I"⟩
abbrev cX5_order : ByteArray := prog_7_method_56_code
def yX5_order : MethodName := ⟨RX5, "order", "(II)I"⟩
abbrev cX5_trainOf : ByteArray := prog_7_method_57_code
def yX5_trainOf : MethodName := ⟨RX5, "trainOf", "(II)I"⟩
abbrev cX5_train : ByteArray := prog_7_method_58_code
def yX5_train : MethodName := ⟨RX5, "train", "(II)I"⟩
abbrev cX5_fitOf : ByteArray := prog_7_method_59_code
def yX5_fitOf : MethodName := ⟨RX5, "fitOf", "(I)I"⟩
abbrev cX5_fit : ByteArray := prog_7_method_60_code
def yX5_fit : MethodName := ⟨RX5, "fit", "(I)I"⟩
abbrev cX5_isSpared : ByteArray := prog_7_method_61_code
def yX5_isSpared : MethodName := ⟨RX5, "isSpared", "(I)Z"⟩
abbrev cX5_spareBy : ByteArray := prog_7_method_62_code
def yX5_spareBy : MethodName := ⟨RX5, "spareBy", "()I"⟩
abbrev cX5_ofRow : ByteArray := prog_7_method_63_code
def yX5_ofRow : MethodName := ⟨RX5, "ofRow", "(II)I"⟩
abbrev cX5_spare : ByteArray := prog_7_method_64_code
def yX5_spare : MethodName := ⟨RX5, "spare", "(I)I"⟩
abbrev cX5_seen : ByteArray := prog_7_method_65_code
def yX5_seen : MethodName := ⟨RX5, "seen", "(III)I"⟩
abbrev cX5_forget : ByteArray := prog_7_method_66_code
def yX5_forget : MethodName := ⟨RX5, "forget", "()I"⟩
abbrev cX5_isSeen : ByteArray := prog_7_method_67_code
def yX5_isSeen : MethodName := ⟨RX5, "isSeen", "()Z"⟩
abbrev cX5_neverNow : ByteArray := prog_7_method_68_code
def yX5_neverNow : MethodName := ⟨RX5, "neverNow", "()I"⟩
abbrev cX5_never : ByteArray := prog_7_method_69_code
def yX5_never : MethodName := ⟨RX5, "never", "()I"⟩
abbrev cX5_pacesBy : ByteArray := prog_7_method_70_code
def yX5_pacesBy : MethodName := ⟨RX5, "pacesBy", "(I)I"⟩
abbrev cX5_sortsBy : ByteArray := prog_7_method_71_code
def yX5_sortsBy : MethodName := ⟨RX5, "sortsBy", "(I)I"⟩
abbrev cX5_was : ByteArray := prog_7_method_72_code
def yX5_was : MethodName := ⟨RX5, "was", "(III)I"⟩
abbrev cX5_askOf : ByteArray := prog_7_method_73_code
def yX5_askOf : MethodName := ⟨RX5, "askOf", "(I)I"⟩
abbrev cX5_ask : ByteArray := prog_7_method_74_code
def yX5_ask : MethodName := ⟨RX5, "ask", "(II)I"⟩
abbrev cX5_chanceOf : ByteArray := prog_7_method_75_code
def yX5_chanceOf : MethodName := ⟨RX5, "chanceOf", "(III)J"⟩
abbrev cX5_chance : ByteArray := prog_7_method_76_code
def yX5_chance : MethodName := ⟨RX5, "chance", "(III)J"⟩
abbrev cX5_yearsOf : ByteArray := prog_7_method_77_code
def yX5_yearsOf : MethodName := ⟨RX5, "yearsOf", "(III)I"⟩
abbrev cX5_years : ByteArray := prog_7_method_78_code
def yX5_years : MethodName := ⟨RX5, "years", "(III)I"⟩
abbrev cX5_meets : ByteArray := prog_7_method_79_code
def yX5_meets : MethodName := ⟨RX5, "meets", "(I)I"⟩
abbrev cX5_isSheet : ByteArray := prog_7_method_80_code
def yX5_isSheet : MethodName := ⟨RX5, "isSheet", "(I)Z"⟩
abbrev cX5_sheet : ByteArray := prog_7_method_81_code
def yX5_sheet : MethodName := ⟨RX5, "sheet", "(III)I"⟩
abbrev cX5_lose : ByteArray := prog_7_method_82_code
def yX5_lose : MethodName := ⟨RX5, "lose", "(I)I"⟩
abbrev cX5_lacks : ByteArray := prog_7_method_83_code
def yX5_lacks : MethodName := ⟨RX5, "lacks", "(III)I"⟩
abbrev cX5_keep : ByteArray := prog_7_method_84_code
def yX5_keep : MethodName := ⟨RX5, "keep", "(III)V"⟩
abbrev cX5_put : ByteArray := prog_7_method_85_code
def yX5_put : MethodName := ⟨RX5, "put", "(IIII)I"⟩
abbrev cX5_get : ByteArray := prog_7_method_86_code
def yX5_get : MethodName := ⟨RX5, "get", "(III)I"⟩
abbrev cX5_copy : ByteArray := prog_7_method_87_code
def yX5_copy : MethodName := ⟨RX5, "copy", "(IIIII)I"⟩
abbrev cX5_write : ByteArray := prog_7_method_88_code
def yX5_write : MethodName := ⟨RX5, "write", "(II)I"⟩
abbrev cX5_homesOf : ByteArray := prog_7_method_89_code
def yX5_homesOf : MethodName := ⟨RX5, "homesOf", "()I"⟩
abbrev cX5_allMetres : ByteArray := prog_7_method_90_code
def yX5_allMetres : MethodName := ⟨RX5, "allMetres", "()I"⟩
abbrev cX5_teamsOf : ByteArray := prog_7_method_91_code
def yX5_teamsOf : MethodName := ⟨RX5, "teamsOf", "()I"⟩
abbrev cX5_count : ByteArray := prog_7_method_92_code
def yX5_count : MethodName := ⟨RX5, "count", "(I)I"⟩
abbrev cX5_atDigest : ByteArray := prog_7_method_93_code
def yX5_atDigest : MethodName := ⟨RX5, "atDigest", "(JII)J"⟩
abbrev cX5_legDigest : ByteArray := prog_7_method_94_code
def yX5_legDigest : MethodName := ⟨RX5, "legDigest", "(JII)J"⟩
abbrev cX5_teamDigest : ByteArray := prog_7_method_95_code
def yX5_teamDigest : MethodName := ⟨RX5, "teamDigest", "(JI)J"⟩
abbrev cX5_digest : ByteArray := prog_7_method_96_code
def yX5_digest : MethodName := ⟨RX5, "digest", "()J"⟩
def RJ6 : String := "java/lang/Integer"
def TJ6 : u_T := fun k => match k with
  | _ => ("", "", "", false)
def tyJ6 : Nat → FieldType := fun k => match k with
  | _ => .int
theorem nmJ6 : ∀ a, a < 0 → ∀ b, b < 0 → a ≠ b → (TJ6 a).2.1 ≠ (TJ6 b).2.1 := by decide +kernel
theorem tyJ6_ok : ∀ k, k < 0 → parseFieldDescriptor (TJ6 k).2.2.1 = some (tyJ6 k) := by decide +kernel
abbrev cJ6_bitCount_0f7a4 : ByteArray := prog_8_method_49_code
def yJ6_bitCount_0f7a4 : MethodName := ⟨RJ6, "bitCount", "(I)I"⟩
def RJ13 : String := "java/lang/Long"
def TJ13 : u_T := fun k => match k with
  | _ => ("", "", "", false)
def tyJ13 : Nat → FieldType := fun k => match k with
  | _ => .int
theorem nmJ13 : ∀ a, a < 0 → ∀ b, b < 0 → a ≠ b → (TJ13 a).2.1 ≠ (TJ13 b).2.1 := by decide +kernel
theorem tyJ13_ok : ∀ k, k < 0 → parseFieldDescriptor (TJ13 k).2.2.1 = some (tyJ13 k) := by decide +kernel
abbrev cJ13_bitCount_95d88 : ByteArray := prog_9_method_50_code
def yJ13_bitCount_95d88 : MethodName := ⟨RJ13, "bitCount", "(J)I"⟩
def RJ9 : String := "java/lang/Math"
def TJ9 : u_T := fun k => match k with
  | _ => ("", "", "", false)
def tyJ9 : Nat → FieldType := fun k => match k with
  | _ => .int
theorem nmJ9 : ∀ a, a < 0 → ∀ b, b < 0 → a ≠ b → (TJ9 a).2.1 ≠ (TJ9 b).2.1 := by decide +kernel
theorem tyJ9_ok : ∀ k, k < 0 → parseFieldDescriptor (TJ9 k).2.2.1 = some (tyJ9 k) := by decide +kernel
abbrev cJ9_max_7cf53 : ByteArray := prog_10_method_65_code
def yJ9_max_7cf53 : MethodName := ⟨RJ9, "max", "(II)I"⟩
abbrev cJ9_min_7cf53 : ByteArray := prog_10_method_69_code
def yJ9_min_7cf53 : MethodName := ⟨RJ9, "min", "(II)I"⟩
def RJ10 : String := "java/lang/System"
def TJ10 : u_T := fun k => match k with
  | _ => ("", "", "", false)
def tyJ10 : Nat → FieldType := fun k => match k with
  | _ => .int
theorem nmJ10 : ∀ a, a < 0 → ∀ b, b < 0 → a ≠ b → (TJ10 a).2.1 ≠ (TJ10 b).2.1 := by decide +kernel
theorem tyJ10_ok : ∀ k, k < 0 → parseFieldDescriptor (TJ10 k).2.2.1 = some (tyJ10 k) := by decide +kernel
def RJ7 : String := "java/util/Arrays"
def TJ7 : u_T := fun k => match k with
  | _ => ("", "", "", false)
def tyJ7 : Nat → FieldType := fun k => match k with
  | _ => .int
theorem nmJ7 : ∀ a, a < 0 → ∀ b, b < 0 → a ≠ b → (TJ7 a).2.1 ≠ (TJ7 b).2.1 := by decide +kernel
theorem tyJ7_ok : ∀ k, k < 0 → parseFieldDescriptor (TJ7 k).2.2.1 = some (tyJ7 k) := by decide +kernel
abbrev cJ7_rangeCheck_23922 : ByteArray := prog_12_method_30_code
def yJ7_rangeCheck_23922 : MethodName := ⟨RJ7, "rangeCheck", "(III)V"⟩
abbrev cJ7_fill_d0a16 : ByteArray := prog_12_method_101_code
def yJ7_fill_d0a16 : MethodName := ⟨RJ7, "fill", "([JJ)V"⟩
abbrev cJ7_fill_53178 : ByteArray := prog_12_method_103_code
def yJ7_fill_53178 : MethodName := ⟨RJ7, "fill", "([II)V"⟩
abbrev cJ7_fill_fda19 : ByteArray := prog_12_method_104_code
def yJ7_fill_fda19 : MethodName := ⟨RJ7, "fill", "([IIII)V"⟩
def RL : String := "RelayRaceLaw"
end
section
/-! THE ABSTRACT MACHINE. Values: an int, a long (mathematical numbers), a place (a cell by its number), nothing known. The world: the number in each slot of each place; which place is what never changes once both objects are made. A block of instructions is read as what it takes that it goes well (ab_wp, ab_wb); Ev is the least such reading of a body with its jumps; Sm (later part) of methods by their number, calls inside calls at most d deep. -/
abbrev ab_V : Type := Int ⊕ (Int ⊕ Option Nat)
abbrev ab_W : Type := Nat → Int → Int
abbrev ab_I : Type := Instr × List Nat × Int
abbrev vI (x : Int) : ab_V := Sum.inl x
abbrev vL (x : Int) : ab_V := Sum.inr (Sum.inl x)
abbrev vR (p : Nat) : ab_V := Sum.inr (Sum.inr (some p))
abbrev vX : ab_V := Sum.inr (Sum.inr none)
def ab_r32 (x : Int) : Prop := -2147483648 ≤ x ∧ x < 2147483648
def ab_r64 (x : Int) : Prop := -9223372036854775808 ≤ x ∧ x < 9223372036854775808
/-- the shape of a place: an object (its class's number; of each field nothing, or the place that it names for ever), or an array (0 int, 1 long, 2 boolean, 3 references; its length; the places that it names) -/
abbrev ab_Sh : Type := (Nat × List (Option Nat)) ⊕ (Nat × Nat × List Nat)
abbrev shA (n : Nat) : ab_Sh := .inr (0, n, [])
def ab_shp : List ab_Sh := [
  .inl (4, [some 1, some 3, some 7, some 11, some 15, some 21, some 27, none, some 28, some 29, some 30, none, none]),
  .inl (2, [some 2, none]), shA 35,
  .inl (3, [some 4, some 5, some 6, none]), shA 8, shA 8, shA 8,
  .inl (3, [some 8, some 9, some 10, none]), shA 8, shA 8, shA 8,
  .inl (3, [some 12, some 13, some 14, none]), shA 8, shA 8, shA 8,
  .inl (0, [some 16, some 17, some 18, some 19, some 20, none, none, none]), shA 16, shA 16, .inr (1, 4, []), shA 192, shA 16,
  .inl (0, [some 22, some 23, some 24, some 25, some 26, none, none, none]), shA 16, shA 16, .inr (1, 4, []), shA 192, shA 16,
  shA 1024, shA 5, shA 192, .inr (3, 4, [31, 33, 35, 37]),
  .inl (1, [some 32, none, none, none]), shA 60, .inl (1, [some 34, none, none, none]), shA 60, .inl (1, [some 36, none, none, none]), shA 60, .inl (1, [some 38, none, none, none]), shA 60,
  .inl (5, [none, some 40, none, some 41, some 42, none, none, some 43, some 44, some 45, none, none, some 46, some 47, some 48, none, some 49, some 50, some 51, some 52, some 53, some 54, some 55, some 56, some 57, some 58, some 59, none, some 60, some 61, some 62, some 63, some 64, some 65, some 66, some 67, some 68, none]),
  shA 35, shA 20, shA 20, shA 8, shA 8, shA 8, shA 8, shA 8, shA 8, shA 16, shA 4, shA 4, shA 4, shA 4, shA 4, shA 16, shA 192, shA 192, shA 192, shA 2, shA 8, shA 8, shA 8, shA 480, .inr (2, 4, []), shA 4, shA 4, shA 240, shA 60]
/-- the field k of the object at a place of class ci: nothing but a number, or a place -/
def ab_fld (ci p k : Nat) : Option (Option Nat) := match ab_shp[p]? with
  | some (.inl (c, fs)) => if c = ci then fs[k]? else none
  | _ => none
def ab_ci (p : Nat) : Option Nat := match ab_shp[p]? with
  | some (.inl (c, _)) => some c
  | _ => none
/-- an array of a kind: its length -/
def ab_arr (kd p : Nat) : Option Nat := match ab_shp[p]? with
  | some (.inr (k, n, _)) => if k = kd then some n else none
  | _ => none
def ab_refs (p : Nat) : Option (List Nat) := match ab_shp[p]? with
  | some (.inr (3, _, rs)) => some rs
  | _ => none
/-- arrays that nobody writes: 100 the moments of the digest, 101 the script -/
def ab_ro (Ls p : Nat) : Option Nat := if p = 100 then some 5 else if p = 101 then some Ls else none
def ab_len (Ls p : Nat) : Option Nat := match ab_shp[p]? with
  | some (.inr (_, n, _)) => some n
  | _ => ab_ro Ls p
def ab_ild (Ls p : Nat) : Option Nat := match ab_arr 0 p with
  | some n => some n
  | none => ab_ro Ls p
-- numbers
def iW (x : Int) : Int := Int.bmod x 4294967296
def lW (x : Int) : Int := Int.bmod x 18446744073709551616
def i_div (x y : Int) : Int := (Int32.ofInt x / Int32.ofInt y).toInt
def i_rem (x y : Int) : Int := (Int32.ofInt x - Int32.ofInt x / Int32.ofInt y * Int32.ofInt y).toInt
def l_div (x y : Int) : Int := (Int64.ofInt x / Int64.ofInt y).toInt
def l_rem (x y : Int) : Int := (Int64.ofInt x - Int64.ofInt x / Int64.ofInt y * Int64.ofInt y).toInt
def i_and (x y : Int) : Int := (Int32.ofInt x &&& Int32.ofInt y).toInt
def i_or (x y : Int) : Int := (Int32.ofInt x ||| Int32.ofInt y).toInt
def i_xor (x y : Int) : Int := (Int32.ofInt x ^^^ Int32.ofInt y).toInt
def i_shl (x y : Int) : Int := (Int32.ofInt x <<< (Int32.ofInt y &&& 31)).toInt
def i_shr (x y : Int) : Int := (Int32.ofInt x >>> (Int32.ofInt y &&& 31)).toInt
def i_ushr (x y : Int) : Int := ((Int32.ofInt x).toUInt32 >>> ((Int32.ofInt y).toUInt32 &&& Int32.toUInt32 31)).toInt32.toInt
def l_and (x y : Int) : Int := (Int64.ofInt x &&& Int64.ofInt y).toInt
def l_or (x y : Int) : Int := (Int64.ofInt x ||| Int64.ofInt y).toInt
def l_shl (x y : Int) : Int := (Int64.ofInt x <<< ((Int32.ofInt y).toInt64 &&& 63)).toInt
def l_shr (x y : Int) : Int := (Int64.ofInt x >>> ((Int32.ofInt y).toInt64 &&& 63)).toInt
def l_ushr (x y : Int) : Int := ((Int64.ofInt x).toUInt64 >>> ((Int32.ofInt y).toInt64.toUInt64 &&& Int64.toUInt64 63)).toInt64.toInt
def i_2b (x : Int) : Int := (Int32.ofInt x).toInt8.toInt32.toInt
def i_2s (x : Int) : Int := (Int32.ofInt x).toInt16.toInt32.toInt
def i_max (x y : Int) : Int := if x < y then y else x
def i_min (x y : Int) : Int := if y < x then y else x
def l_cmp (x y : Int) : Int := if y < x then 1 else if x = y then 0 else -1
def ab_cH (c : ClassFile.Cond) (x y : Int) : Prop := match c with
  | .eq => x = y
  | .ne => ¬ x = y
  | .lt => x < y
  | .ge => y ≤ x
  | .gt => y < x
  | .le => x ≤ y
-- the world
def ab_up (w : ab_W) (p : Nat) (i v : Int) : ab_W := fun q j => if q = p then (if j = i then v else w q j) else w q j
def ab_cp (w : ab_W) (p q : Nat) (sp dp n : Int) : ab_W := fun r j => if r = q then (if dp ≤ j ∧ j < dp + n then w p (sp + (j - dp)) else w q j) else w r j
-- locals
def ab_kl (x : ab_V) (n : Nat) : ab_V := match n with
  | 0 => (match x with | .inr (.inl _) => vX | x => x)
  | _ + 1 => x
def ab_st : List ab_V → Nat → ab_V → List ab_V
  | [], _, _ => []
  | _ :: L, 0, v => v :: L
  | x :: L, n + 1, v => ab_kl x n :: ab_st L n v
def ab_stl (L : List ab_V) (n : Nat) (v : ab_V) : List ab_V := ab_st (ab_st L (n + 1) vX) n v
def ab_gI (L : List ab_V) (n : Nat) (f : Int → Prop) : Prop := match L[n]? with
  | some (.inl x) => f x
  | _ => False
def ab_gL (L : List ab_V) (n : Nat) (f : Int → Prop) : Prop := match L[n]? with
  | some (.inr (.inl x)) => f x
  | _ => False
def ab_gR (L : List ab_V) (n : Nat) (f : Nat → Prop) : Prop := match L[n]? with
  | some (.inr (.inr (some p))) => f p
  | _ => False
-- the stack
def ab_pI (S : List ab_V) (f : Int → List ab_V → Prop) : Prop := match S with
  | .inl x :: S => f x S
  | _ => False
def ab_pL (S : List ab_V) (f : Int → List ab_V → Prop) : Prop := match S with
  | .inr (.inl x) :: S => f x S
  | _ => False
def ab_pR (S : List ab_V) (f : Nat → List ab_V → Prop) : Prop := match S with
  | .inr (.inr (some p)) :: S => f p S
  | _ => False
def ab_pII (S : List ab_V) (f : Int → Int → List ab_V → Prop) : Prop := match S with
  | .inl y :: .inl x :: S => f x y S
  | _ => False
def ab_pLL (S : List ab_V) (f : Int → Int → List ab_V → Prop) : Prop := match S with
  | .inr (.inl y) :: .inr (.inl x) :: S => f x y S
  | _ => False
def ab_pIL (S : List ab_V) (f : Int → Int → List ab_V → Prop) : Prop := match S with
  | .inl y :: .inr (.inl x) :: S => f x y S
  | _ => False
/-- an index above an array -/
def ab_pIR (S : List ab_V) (f : Nat → Int → List ab_V → Prop) : Prop := match S with
  | .inl i :: .inr (.inr (some p)) :: S => f p i S
  | _ => False
def ab_few (S : List ab_V) : Prop := match S with
  | [] => True
  | [_] => True
  | [_, _] => True
  | [_, _, _] => True
  | [_, _, _, _] => True
  | _ => False
def ab_tk : Nat → List ab_V → List ab_V → Option (List ab_V × List ab_V)
  | 0, acc, S => some (acc, S)
  | n + 1, acc, v :: S => ab_tk n (v :: acc) S
  | _ + 1, _, [] => none
def ab_rp (r : Option ab_V) (S : List ab_V) : List ab_V := match r with
  | none => S
  | some v => v :: S
def ab_rc (as : List ab_V) (ci : Nat) : Prop := match as with
  | .inr (.inr (some p)) :: _ => ab_ci p = some ci
  | _ => False
def ab_bool (x : Int) : Prop := x = 0 ∨ x = 1
section AbWp
variable (Ls : Nat) (C : Nat → List ab_V → ab_W → (Option ab_V → ab_W → Prop) → Prop) (J : Nat → List ab_V → List ab_V → ab_W → Prop) (Rt : Option ab_V → ab_W → Prop)
def ab_call (ex : List Nat) (S : List ab_V) (w : ab_W) (virt : Bool) (K : List ab_V → ab_W → Prop) : Prop := match ex with
  | [m, n, ci] => (match ab_tk n [] S with
    | some (as, S') => (virt = true → ab_rc as ci) ∧ ab_few S' ∧ C m as w (fun r w' => K (ab_rp r S') w')
    | none => False)
  | _ => False
def ab_copy (S : List ab_V) (w : ab_W) (K : List ab_V → ab_W → Prop) : Prop := match S with
  | .inl n :: .inl dp :: .inr (.inr (some q)) :: .inl sp :: .inr (.inr (some p)) :: S' => ab_few S' ∧ C 999 [] w (fun _ _ => True) ∧ (∃ kd a b, (kd = 0 ∨ kd = 1) ∧ ab_arr kd p = some a ∧ ab_arr kd q = some b ∧ 0 ≤ sp ∧ 0 ≤ dp ∧ 0 ≤ n ∧ sp + n ≤ a ∧ dp + n ≤ b) ∧ K S' (ab_cp w p q sp dp n)
  | _ => False
def ab_mm (f : Int → Int → Int) (S : List ab_V) (w : ab_W) (K : List ab_V → ab_W → Prop) : Prop := match S with
  | .inl y :: .inl x :: S' => ab_few S' ∧ C 999 [] w (fun _ _ => True) ∧ K (vI (f x y) :: S') w
  | _ => False
def ab_sw (lo : Int) (bs : List Nat) (d : Nat) (x : Int) : Nat := if lo ≤ x then (bs[(x - lo).toNat]?).getD d else d
def ab_lsw : List (Int × Int) → List Nat → Nat → Int → Nat
  | (a, _) :: ps, b :: bs, d, x => if x = a then b else ab_lsw ps bs d x
  | _, _, d, _ => d
def ab_wp (K : List ab_V → List ab_V → ab_W → Prop) (op : Instr) (ex : List Nat) (z : Int) (L S : List ab_V) (w : ab_W) : Prop :=
  match op with
  | .iconst n => K L (vI n :: S) w
  | .bipush n => K L (vI n :: S) w
  | .sipush n => K L (vI n :: S) w
  | .lconst n => K L (vL (n.val : Int) :: S) w
  | .ldc _ => K L (vI z :: S) w
  | .ldc_w _ => K L (vI z :: S) w
  | .ldc2_w _ => K L (vL z :: S) w
  | .iload n => ab_gI L n fun x => K L (vI x :: S) w
  | .iload_n n => ab_gI L n.val fun x => K L (vI x :: S) w
  | .lload n => ab_gL L n fun x => K L (vL x :: S) w
  | .lload_n n => ab_gL L n.val fun x => K L (vL x :: S) w
  | .aload n => ab_gR L n fun p => K L (vR p :: S) w
  | .aload_n n => ab_gR L n.val fun p => K L (vR p :: S) w
  | .istore n => ab_pI S fun x S => K (ab_st L n (vI x)) S w
  | .istore_n n => ab_pI S fun x S => K (ab_st L n.val (vI x)) S w
  | .lstore n => ab_pL S fun x S => K (ab_stl L n (vL x)) S w
  | .lstore_n n => ab_pL S fun x S => K (ab_stl L n.val (vL x)) S w
  | .astore n => ab_pR S fun p S => K (ab_st L n (vR p)) S w
  | .astore_n n => ab_pR S fun p S => K (ab_st L n.val (vR p)) S w
  | .iinc n c => ab_gI L n fun x => K (ab_st L n (vI (iW (x + c)))) S w
  | .iadd => ab_pII S fun x y S => K L (vI (iW (x + y)) :: S) w
  | .isub => ab_pII S fun x y S => K L (vI (iW (x - y)) :: S) w
  | .imul => ab_pII S fun x y S => K L (vI (iW (x * y)) :: S) w
  | .idiv => ab_pII S fun x y S => y ≠ 0 ∧ K L (vI (i_div x y) :: S) w
  | .irem => ab_pII S fun x y S => y ≠ 0 ∧ K L (vI (i_rem x y) :: S) w
  | .iand => ab_pII S fun x y S => K L (vI (i_and x y) :: S) w
  | .ior => ab_pII S fun x y S => K L (vI (i_or x y) :: S) w
  | .ixor => ab_pII S fun x y S => K L (vI (i_xor x y) :: S) w
  | .ishl => ab_pII S fun x y S => K L (vI (i_shl x y) :: S) w
  | .ishr => ab_pII S fun x y S => K L (vI (i_shr x y) :: S) w
  | .iushr => ab_pII S fun x y S => K L (vI (i_ushr x y) :: S) w
  | .ladd => ab_pLL S fun x y S => K L (vL (lW (x + y)) :: S) w
  | .lsub => ab_pLL S fun x y S => K L (vL (lW (x - y)) :: S) w
  | .lmul => ab_pLL S fun x y S => K L (vL (lW (x * y)) :: S) w
  | .ldiv => ab_pLL S fun x y S => y ≠ 0 ∧ K L (vL (l_div x y) :: S) w
  | .lrem => ab_pLL S fun x y S => y ≠ 0 ∧ K L (vL (l_rem x y) :: S) w
  | .land => ab_pLL S fun x y S => K L (vL (l_and x y) :: S) w
  | .lor => ab_pLL S fun x y S => K L (vL (l_or x y) :: S) w
  | .lshl => ab_pIL S fun x y S => K L (vL (l_shl x y) :: S) w
  | .lshr => ab_pIL S fun x y S => K L (vL (l_shr x y) :: S) w
  | .lushr => ab_pIL S fun x y S => K L (vL (l_ushr x y) :: S) w
  | .i2l => ab_pI S fun x S => K L (vL x :: S) w
  | .l2i => ab_pL S fun x S => K L (vI (iW x) :: S) w
  | .i2b => ab_pI S fun x S => K L (vI (i_2b x) :: S) w
  | .i2s => ab_pI S fun x S => K L (vI (i_2s x) :: S) w
  | .lcmp => ab_pLL S fun x y S => K L (vI (l_cmp x y) :: S) w
  | .dup => (match S with | .inl x :: S => K L (vI x :: vI x :: S) w | .inr (.inr (some p)) :: S => K L (vR p :: vR p :: S) w | _ => False)
  | .dup2 => ab_pIR S fun p i S => K L (vI i :: vR p :: vI i :: vR p :: S) w
  | .ifCond c _ => ab_pI S fun x S => (ab_cH c x 0 → J (ex.headD 0) L S w) ∧ (¬ ab_cH c x 0 → K L S w)
  | .if_icmp c _ => ab_pII S fun x y S => (ab_cH c x y → J (ex.headD 0) L S w) ∧ (¬ ab_cH c x y → K L S w)
  | .goto _ => J (ex.headD 0) L S w
  | .tableswitch _ lo _ _ => ab_pI S fun x S => J (ab_sw lo ex.tail (ex.headD 0) x) L S w
  | .lookupswitch _ ps => ab_pI S fun x S => J (ab_lsw ps.toList ex.tail (ex.headD 0) x) L S w
  | .ireturn => (match S with | [.inl x] => (ex = [1] → ab_bool x) ∧ Rt (some (vI x)) w | _ => False)
  | .lreturn => (match S with | [.inr (.inl x)] => Rt (some (vL x)) w | _ => False)
  | .return_ => (match S with | [] => Rt none w | _ => False)
  | .getfield _ => ab_pR S fun p S => (match ab_fld (ex.headD 0) p (ex.tail.headD 0) with
    | some none => K L (vI (w p ((ex.tail.headD 0 : Nat) : Int)) :: S) w
    | some (some q) => K L (vR q :: S) w
    | none => False)
  | .putfield _ => (match S with
    | .inl x :: .inr (.inr (some p)) :: S => ab_fld (ex.headD 0) p (ex.tail.headD 0) = some none ∧ (ex.tail.tail = [1] → ab_bool x) ∧ K L S (ab_up w p ((ex.tail.headD 0 : Nat) : Int) x)
    | _ => False)
  | .getstatic _ => K L (vR 100 :: S) w
  | .iaload => ab_pIR S fun p i S => (match ab_ild Ls p with
    | some n => (0 ≤ i ∧ i < (n : Int)) ∧ K L (vI (w p i) :: S) w
    | none => False)
  | .laload => ab_pIR S fun p i S => (match ab_arr 1 p with
    | some n => (0 ≤ i ∧ i < (n : Int)) ∧ K L (vL (w p i) :: S) w
    | none => False)
  | .baload => ab_pIR S fun p i S => (match ab_arr 2 p with
    | some n => (0 ≤ i ∧ i < (n : Int)) ∧ K L (vI (w p i) :: S) w
    | none => False)
  | .aaload => ab_pIR S fun p i S => (match ab_refs p with
    | some rs => (match rs[i.toNat]? with | some q => 0 ≤ i ∧ K L (vR q :: S) w | none => False)
    | none => False)
  | .iastore => (match S with
    | .inl x :: .inl i :: .inr (.inr (some p)) :: S => (match ab_arr 0 p with
      | some n => (0 ≤ i ∧ i < (n : Int)) ∧ K L S (ab_up w p i x)
      | none => False)
    | _ => False)
  | .lastore => (match S with
    | .inr (.inl x) :: .inl i :: .inr (.inr (some p)) :: S => (match ab_arr 1 p with
      | some n => (0 ≤ i ∧ i < (n : Int)) ∧ K L S (ab_up w p i x)
      | none => False)
    | _ => False)
  | .bastore => (match S with
    | .inl x :: .inl i :: .inr (.inr (some p)) :: S => (match ab_arr 2 p with
      | some n => (0 ≤ i ∧ i < (n : Int)) ∧ ab_bool x ∧ K L S (ab_up w p i x)
      | none => False)
    | _ => False)
  | .arraylength => ab_pR S fun p S => (match ab_len Ls p with
    | some n => K L (vI (n : Int) :: S) w
    | none => False)
  | .invokevirtual _ => ab_call C ex S w true (fun S w => K L S w)
  | .invokestatic _ => if ex = [] then ab_copy C S w (fun S w => K L S w) else if ex = [1] then ab_mm C i_max S w (fun S w => K L S w) else if ex = [2] then ab_mm C i_min S w (fun S w => K L S w) else ab_call C ex S w false (fun S w => K L S w)
  | _ => False
/-- a block: its instructions; behind the last one the next block -/
def ab_wb (nx : Nat) : List ab_I → List ab_V → List ab_V → ab_W → Prop
  | [], L, S, w => J nx L S w
  | i :: is, L, S, w => ab_wp Ls C J Rt (ab_wb nx is) i.1 i.2.1 i.2.2 L S w
def ab_at (bl : List (List ab_I)) (b : Nat) (L S : List ab_V) (w : ab_W) : Prop := match bl[b]? with
  | some is => ab_wb Ls C J Rt (b + 1) is L S w
  | none => False
end AbWp
end
section
theorem ab_gI_mono {L : List ab_V} {n : Nat} {f g : Int → Prop} (h : ∀ x, f x → g x) : ab_gI L n f → ab_gI L n g := by
  unfold ab_gI; split
  · exact h _
  · exact id
theorem ab_gL_mono {L : List ab_V} {n : Nat} {f g : Int → Prop} (h : ∀ x, f x → g x) : ab_gL L n f → ab_gL L n g := by
  unfold ab_gL; split
  · exact h _
  · exact id
theorem ab_gR_mono {L : List ab_V} {n : Nat} {f g : Nat → Prop} (h : ∀ x, f x → g x) : ab_gR L n f → ab_gR L n g := by
  unfold ab_gR; split
  · exact h _
  · exact id
theorem ab_pI_mono {S : List ab_V} {f g : Int → List ab_V → Prop} (h : ∀ x S, f x S → g x S) : ab_pI S f → ab_pI S g := by
  unfold ab_pI; split
  · exact h _ _
  · exact id
theorem ab_pL_mono {S : List ab_V} {f g : Int → List ab_V → Prop} (h : ∀ x S, f x S → g x S) : ab_pL S f → ab_pL S g := by
  unfold ab_pL; split
  · exact h _ _
  · exact id
theorem ab_pR_mono {S : List ab_V} {f g : Nat → List ab_V → Prop} (h : ∀ x S, f x S → g x S) : ab_pR S f → ab_pR S g := by
  unfold ab_pR; split
  · exact h _ _
  · exact id
theorem ab_pII_mono {S : List ab_V} {f g : Int → Int → List ab_V → Prop} (h : ∀ x y S, f x y S → g x y S) : ab_pII S f → ab_pII S g := by
  unfold ab_pII; split
  · exact h _ _ _
  · exact id
theorem ab_pLL_mono {S : List ab_V} {f g : Int → Int → List ab_V → Prop} (h : ∀ x y S, f x y S → g x y S) : ab_pLL S f → ab_pLL S g := by
  unfold ab_pLL; split
  · exact h _ _ _
  · exact id
theorem ab_pIL_mono {S : List ab_V} {f g : Int → Int → List ab_V → Prop} (h : ∀ x y S, f x y S → g x y S) : ab_pIL S f → ab_pIL S g := by
  unfold ab_pIL; split
  · exact h _ _ _
  · exact id
theorem ab_pIR_mono {S : List ab_V} {f g : Nat → Int → List ab_V → Prop} (h : ∀ x y S, f x y S → g x y S) : ab_pIR S f → ab_pIR S g := by
  unfold ab_pIR; split
  · exact h _ _ _
  · exact id
theorem ab_and_mono {A B B' : Prop} (h : B → B') : A ∧ B → A ∧ B' := fun q => ⟨q.1, h q.2⟩
theorem ab_br_mono {c A A' B B' : Prop} (h : A → A') (h2 : B → B') : (c → A) ∧ (¬ c → B) → (c → A') ∧ (¬ c → B') := fun q => ⟨fun x => h (q.1 x), fun x => h2 (q.2 x)⟩
section AbMono
variable {Ls : Nat} {C C' : Nat → List ab_V → ab_W → (Option ab_V → ab_W → Prop) → Prop} {J J' : Nat → List ab_V → List ab_V → ab_W → Prop} {Rt Rt' : Option ab_V → ab_W → Prop}
theorem ab_call_mono {ex : List Nat} {S : List ab_V} {w : ab_W} {virt : Bool} {K K' : List ab_V → ab_W → Prop} (hC : ∀ m as w (q q' : Option ab_V → ab_W → Prop), (∀ r w', q r w' → q' r w') → C m as w q → C' m as w q') (hK : ∀ S w, K S w → K' S w) : ab_call C ex S w virt K → ab_call C' ex S w virt K' := by
  unfold ab_call
  split
  · split
    · exact fun q => ⟨q.1, q.2.1, hC _ _ _ _ _ (fun r w' => hK _ _) q.2.2⟩
    · exact id
  · exact id
theorem ab_copy_mono {S : List ab_V} {w : ab_W} {K K' : List ab_V → ab_W → Prop} (hC : ∀ m as w (q q' : Option ab_V → ab_W → Prop), (∀ r w', q r w' → q' r w') → C m as w q → C' m as w q') (hK : ∀ S w, K S w → K' S w) : ab_copy C S w K → ab_copy C' S w K' := by
  unfold ab_copy
  split
  · exact fun q => ⟨q.1, hC _ _ _ _ _ (fun _ _ z => z) q.2.1, q.2.2.1, hK _ _ q.2.2.2⟩
  · exact id
theorem ab_mm_mono {f : Int → Int → Int} {S : List ab_V} {w : ab_W} {K K' : List ab_V → ab_W → Prop} (hC : ∀ m as w (q q' : Option ab_V → ab_W → Prop), (∀ r w', q r w' → q' r w') → C m as w q → C' m as w q') (hK : ∀ S w, K S w → K' S w) : ab_mm C f S w K → ab_mm C' f S w K' := by
  unfold ab_mm
  split
  · exact fun q => ⟨q.1, hC _ _ _ _ _ (fun _ _ z => z) q.2.1, hK _ _ q.2.2⟩
  · exact id
theorem ab_wp_mono {K K' : List ab_V → List ab_V → ab_W → Prop} (hC : ∀ m as w (q q' : Option ab_V → ab_W → Prop), (∀ r w', q r w' → q' r w') → C m as w q → C' m as w q') (hJ : ∀ b L S w, J b L S w → J' b L S w) (hR : ∀ r w, Rt r w → Rt' r w) (hK : ∀ L S w, K L S w → K' L S w)
    {op : Instr} {ex : List Nat} {z : Int} {L S : List ab_V} {w : ab_W} : ab_wp Ls C J Rt K op ex z L S w → ab_wp Ls C' J' Rt' K' op ex z L S w := by
  cases op <;> dsimp only [ab_wp] <;> first
    | exact id
    | exact hK _ _ _
    | exact ab_gI_mono fun _ => hK _ _ _
    | exact ab_gL_mono fun _ => hK _ _ _
    | exact ab_gR_mono fun _ => hK _ _ _
    | exact ab_pI_mono fun _ _ => hK _ _ _
    | exact ab_pL_mono fun _ _ => hK _ _ _
    | exact ab_pR_mono fun _ _ => hK _ _ _
    | exact ab_pII_mono fun _ _ _ => hK _ _ _
    | exact ab_pLL_mono fun _ _ _ => hK _ _ _
    | exact ab_pIL_mono fun _ _ _ => hK _ _ _
    | exact ab_pIR_mono fun _ _ _ => hK _ _ _
    | exact ab_pII_mono fun _ _ _ => ab_and_mono (hK _ _ _)
    | exact ab_pLL_mono fun _ _ _ => ab_and_mono (hK _ _ _)
    | exact ab_pI_mono fun _ _ => ab_br_mono (hJ _ _ _ _) (hK _ _ _)
    | exact ab_pII_mono fun _ _ _ => ab_br_mono (hJ _ _ _ _) (hK _ _ _)
    | exact hJ _ _ _ _
    | exact ab_pI_mono fun _ _ => hJ _ _ _ _
    | exact ab_call_mono hC (hK _)
    | (split
       · exact ab_copy_mono hC (hK _)
       · split
         · exact ab_mm_mono hC (hK _)
         · split
           · exact ab_mm_mono hC (hK _)
           · exact ab_call_mono hC (hK _))
    | (split
       · exact hK _ _ _
       · exact hK _ _ _
       · exact id)
    | (split
       · exact ab_and_mono (hR _ _)
       · exact id)
    | (split
       · exact hR _ _
       · exact id)
    | (refine ab_pR_mono fun _ _ => ?_
       split
       · exact hK _ _ _
       · exact hK _ _ _
       · exact id)
    | (refine ab_pR_mono fun _ _ => ?_
       split
       · exact hK _ _ _
       · exact id)
    | (refine ab_pIR_mono fun _ _ _ => ?_
       split
       · exact ab_and_mono (hK _ _ _)
       · exact id)
    | (refine ab_pIR_mono fun _ _ _ => ?_
       split
       · split
         · exact ab_and_mono (hK _ _ _)
         · exact id
       · exact id)
    | (split
       · exact ab_and_mono (ab_and_mono (hK _ _ _))
       · exact id)
    | (split
       · split
         · exact ab_and_mono (hK _ _ _)
         · exact id
       · exact id)
    | (split
       · split
         · exact ab_and_mono (ab_and_mono (hK _ _ _))
         · exact id
       · exact id)
theorem ab_wb_mono (hC : ∀ m as w (q q' : Option ab_V → ab_W → Prop), (∀ r w', q r w' → q' r w') → C m as w q → C' m as w q') (hJ : ∀ b L S w, J b L S w → J' b L S w) (hR : ∀ r w, Rt r w → Rt' r w) {nx : Nat} : ∀ (is : List ab_I) (L S : List ab_V) (w : ab_W), ab_wb Ls C J Rt nx is L S w → ab_wb Ls C' J' Rt' nx is L S w := by
  intro is
  induction is with
  | nil => exact fun L S w => hJ _ _ _ _
  | cons i is ih => exact fun L S w => ab_wp_mono hC hJ hR ih
theorem ab_at_mono {bl : List (List ab_I)} {b : Nat} {L S : List ab_V} {w : ab_W} (hC : ∀ m as w (q q' : Option ab_V → ab_W → Prop), (∀ r w', q r w' → q' r w') → C m as w q → C' m as w q') (hJ : ∀ b L S w, J b L S w → J' b L S w) (hR : ∀ r w, Rt r w → Rt' r w) : ab_at Ls C J Rt bl b L S w → ab_at Ls C' J' Rt' bl b L S w := by
  unfold ab_at
  split
  · exact ab_wb_mono hC hJ hR _ _ _ _
  · exact id
end AbMono
/-- the calls are read so that more may be asked of what comes out -/
def ab_Cm (C : Nat → List ab_V → ab_W → (Option ab_V → ab_W → Prop) → Prop) : Prop := ∀ m as w (q q' : Option ab_V → ab_W → Prop), (∀ r w', q r w' → q' r w') → C m as w q → C m as w q'
/-- from block b on the body comes to its end, and there Rt holds -/
def Ev (Ls : Nat) (C : Nat → List ab_V → ab_W → (Option ab_V → ab_W → Prop) → Prop) (Rt : Option ab_V → ab_W → Prop) (bl : List (List ab_I)) (b : Nat) (L S : List ab_V) (w : ab_W) : Prop :=
  ∀ P : Nat → List ab_V → List ab_V → ab_W → Prop, (∀ b L S w, ab_at Ls C P Rt bl b L S w → P b L S w) → P b L S w
section EvLaws
variable {Ls : Nat} {C C' : Nat → List ab_V → ab_W → (Option ab_V → ab_W → Prop) → Prop} {Rt Rt' : Option ab_V → ab_W → Prop} {bl : List (List ab_I)}
theorem Ev.fold (hC : ab_Cm C) {b : Nat} {L S : List ab_V} {w : ab_W} (h : ab_at Ls C (Ev Ls C Rt bl) Rt bl b L S w) : Ev Ls C Rt bl b L S w :=
  fun P hP => hP _ _ _ _ (ab_at_mono hC (fun _ _ _ _ q => q P hP) (fun _ _ q => q) h)
theorem Ev.unfold (hC : ab_Cm C) {b : Nat} {L S : List ab_V} {w : ab_W} (h : Ev Ls C Rt bl b L S w) : ab_at Ls C (Ev Ls C Rt bl) Rt bl b L S w :=
  h (fun b L S w => ab_at Ls C (Ev Ls C Rt bl) Rt bl b L S w) (fun _ _ _ _ q => ab_at_mono hC (fun _ _ _ _ q => Ev.fold hC q) (fun _ _ q => q) q)
theorem Ev.mono (hC : ∀ m as w (q q' : Option ab_V → ab_W → Prop), (∀ r w', q r w' → q' r w') → C m as w q → C' m as w q') (hR : ∀ r w, Rt r w → Rt' r w) {b : Nat} {L S : List ab_V} {w : ab_W} (h : Ev Ls C Rt bl b L S w) : Ev Ls C' Rt' bl b L S w :=
  fun P hP => h P (fun _ _ _ _ q => hP _ _ _ _ (ab_at_mono hC (fun _ _ _ _ z => z) hR q))
end EvLaws
end
section
/-! numbers: the machine's and the mathematical ones -/
theorem ab_bm32 {x : Int} (h1 : -2147483648 ≤ x) (h2 : x < 2147483648) : Int.bmod x 4294967296 = x := by
  rw [Int.bmod_def]
  split <;> rename_i h <;> omega
theorem ab_bm64 {x : Int} (h1 : -9223372036854775808 ≤ x) (h2 : x < 9223372036854775808) : Int.bmod x 18446744073709551616 = x := by
  rw [Int.bmod_def]
  split <;> rename_i h <;> omega
theorem ab_bm8 {x : Int} (h1 : -128 ≤ x) (h2 : x < 128) : Int.bmod x 256 = x := by
  rw [Int.bmod_def]
  split <;> rename_i h <;> omega
theorem ab_bm16 {x : Int} (h1 : -32768 ≤ x) (h2 : x < 32768) : Int.bmod x 65536 = x := by
  rw [Int.bmod_def]
  split <;> rename_i h <;> omega
theorem ab_ti {x : Int} (h : ab_r32 x) : (Int32.ofInt x).toInt = x := by
  rw [Int32.toInt_ofInt]
  obtain ⟨h1, h2⟩ := h
  exact ab_bm32 (by omega) (by omega)
theorem ab_tl {x : Int} (h : ab_r64 x) : (Int64.ofInt x).toInt = x := by
  rw [Int64.toInt_ofInt]
  obtain ⟨h1, h2⟩ := h
  exact ab_bm64 (by omega) (by omega)
theorem ab_oi (a : Int32) : Int32.ofInt a.toInt = a := Int32.ofInt_toInt a
theorem ab_ol (a : Int64) : Int64.ofInt a.toInt = a := Int64.ofInt_toInt a
theorem iW_eq (x : Int) : iW x = (Int32.ofInt x).toInt := by rw [Int32.toInt_ofInt]; rfl
theorem lW_eq (x : Int) : lW x = (Int64.ofInt x).toInt := by rw [Int64.toInt_ofInt]; rfl
theorem iW_o (x : Int) : Int32.ofInt (iW x) = Int32.ofInt x := by rw [iW_eq, ab_oi]
theorem lW_o (x : Int) : Int64.ofInt (lW x) = Int64.ofInt x := by rw [lW_eq, ab_ol]
theorem iW_id {x : Int} (h1 : -2147483648 ≤ x) (h2 : x < 2147483648) : iW x = x := ab_bm32 h1 h2
theorem lW_id {x : Int} (h1 : -9223372036854775808 ≤ x) (h2 : x < 9223372036854775808) : lW x = x := ab_bm64 h1 h2
theorem ab_ri (a : Int32) : ab_r32 a.toInt := ⟨Int32.le_toInt a, Int32.toInt_lt a⟩
theorem ab_rl (a : Int64) : ab_r64 a.toInt := ⟨Int64.le_toInt a, Int64.toInt_lt a⟩
theorem iW_r (x : Int) : ab_r32 (iW x) := by rw [iW_eq]; exact ab_ri _
theorem lW_r (x : Int) : ab_r64 (lW x) := by rw [lW_eq]; exact ab_rl _
theorem ab_eq32 {x y : Int} (hx : ab_r32 x) (hy : ab_r32 y) : Int32.ofInt x = Int32.ofInt y ↔ x = y := by
  constructor
  · intro h
    have := congrArg Int32.toInt h
    rwa [ab_ti hx, ab_ti hy] at this
  · intro h; rw [h]
theorem ab_lt32 {x y : Int} (hx : ab_r32 x) (hy : ab_r32 y) : Int32.ofInt x < Int32.ofInt y ↔ x < y := by
  rw [Int32.lt_iff_toInt_lt, ab_ti hx, ab_ti hy]
theorem ab_le32 {x y : Int} (hx : ab_r32 x) (hy : ab_r32 y) : Int32.ofInt x ≤ Int32.ofInt y ↔ x ≤ y := by
  rw [Int32.le_iff_toInt_le, ab_ti hx, ab_ti hy]
theorem ab_eq64 {x y : Int} (hx : ab_r64 x) (hy : ab_r64 y) : Int64.ofInt x = Int64.ofInt y ↔ x = y := by
  constructor
  · intro h
    have := congrArg Int64.toInt h
    rwa [ab_tl hx, ab_tl hy] at this
  · intro h; rw [h]
theorem ab_lt64 {x y : Int} (hx : ab_r64 x) (hy : ab_r64 y) : Int64.ofInt x < Int64.ofInt y ↔ x < y := by
  rw [Int64.lt_iff_toInt_lt, ab_tl hx, ab_tl hy]
theorem ab_z32 : (0 : Int32) = Int32.ofInt 0 := by decide +kernel
theorem ab_z64 : (0 : Int64) = Int64.ofInt 0 := by decide +kernel
theorem ab_r0 : ab_r32 0 := by unfold ab_r32; omega
theorem ab_clamp {i : Int} (h : ab_r32 i) : (Int32.ofInt i).toNatClampNeg = i.toNat := by
  show (Int32.ofInt i).toInt.toNat = _
  rw [ab_ti h]
theorem ab_in {i : Int} {n : Nat} (hr : ab_r32 i) (h0 : 0 ≤ i) (h : i < (n : Int)) : vp_in (Int32.ofInt i) n := by
  intro q
  rcases q with q | q
  · rw [ab_z32, ab_lt32 hr ab_r0] at q
    omega
  · rw [ab_clamp hr] at q
    omega
theorem ab_ofNat (n : Nat) : Int32.ofNat n = Int32.ofInt (n : Int) := by
  apply Int32.toInt_inj.mp
  rw [Int32.toInt_ofInt]
  simp [Int32.toInt_ofNat']
theorem ab_bip {n : Int} (h1 : -128 ≤ n) (h2 : n ≤ 127) : (Int8.ofInt n).toInt32 = Int32.ofInt n := by
  apply Int32.toInt_inj.mp
  rw [Int8.toInt_toInt32, Int8.toInt_ofInt, ab_ti ⟨by omega, by omega⟩]
  exact ab_bm8 (by omega) (by omega)
theorem ab_sip {n : Int} (h1 : -32768 ≤ n) (h2 : n ≤ 32767) : (Int16.ofInt n).toInt32 = Int32.ofInt n := by
  apply Int32.toInt_inj.mp
  rw [Int16.toInt_toInt32, Int16.toInt_ofInt, ab_ti ⟨by omega, by omega⟩]
  exact ab_bm16 (by omega) (by omega)
theorem ab_i2l {x : Int} (h : ab_r32 x) : (Int32.ofInt x).toInt64 = Int64.ofInt x := by
  apply Int64.toInt_inj.mp
  rw [Int32.toInt_toInt64, ab_ti h, ab_tl ⟨by have := h.1; omega, by have := h.2; omega⟩]
theorem ab_l2i {x : Int} (h : ab_r64 x) : (Int64.ofInt x).toInt32 = Int32.ofInt (iW x) := by
  apply Int32.toInt_inj.mp
  rw [Int64.toInt_toInt32, ab_tl h, iW_o, Int32.toInt_ofInt]
theorem ab_lcm {x y : Int} (hx : ab_r64 x) (hy : ab_r64 y) : lg_cmp (Int64.ofInt x) (Int64.ofInt y) = Int32.ofInt (l_cmp x y) := by
  unfold lg_cmp l_cmp
  by_cases h1 : y < x
  · rw [if_pos (show Int64.ofInt x > Int64.ofInt y from (ab_lt64 hy hx).mpr h1), if_pos h1]; decide +kernel
  · rw [if_neg (fun q : Int64.ofInt x > Int64.ofInt y => h1 ((ab_lt64 hy hx).mp q)), if_neg h1]
    by_cases h2 : x = y
    · rw [if_pos ((ab_eq64 hx hy).mpr h2), if_pos h2]; decide +kernel
    · rw [if_neg (fun q => h2 ((ab_eq64 hx hy).mp q)), if_neg h2]; decide +kernel
theorem ab_lcr (x y : Int) : ab_r32 (l_cmp x y) := by
  unfold l_cmp ab_r32
  split
  · omega
  · split <;> omega
theorem ab_mx32 {x y : Int} (hx : ab_r32 x) (hy : ab_r32 y) : (if Int32.ofInt x < Int32.ofInt y then Int32.ofInt y else Int32.ofInt x) = Int32.ofInt (i_max x y) := by
  unfold i_max
  by_cases h : x < y
  · rw [if_pos ((ab_lt32 hx hy).mpr h), if_pos h]
  · rw [if_neg (fun q => h ((ab_lt32 hx hy).mp q)), if_neg h]
theorem ab_mn32 {x y : Int} (hx : ab_r32 x) (hy : ab_r32 y) : (if Int32.ofInt y < Int32.ofInt x then Int32.ofInt y else Int32.ofInt x) = Int32.ofInt (i_min x y) := by
  unfold i_min
  by_cases h : y < x
  · rw [if_pos ((ab_lt32 hy hx).mpr h), if_pos h]
  · rw [if_neg (fun q => h ((ab_lt32 hy hx).mp q)), if_neg h]
theorem ab_mxr {x y : Int} (hx : ab_r32 x) (hy : ab_r32 y) : ab_r32 (i_max x y) := by unfold i_max; split <;> assumption
theorem ab_mnr {x y : Int} (hx : ab_r32 x) (hy : ab_r32 y) : ab_r32 (i_min x y) := by unfold i_min; split <;> assumption
end
section
/-! the abstract world and the machine's heap -/
def ab_c (ad : Nat → Nat) (v : ab_V) : Value := match v with
  | .inl x => .int (Int32.ofInt x)
  | .inr (.inl x) => .long (Int64.ofInt x)
  | .inr (.inr (some p)) => .ref (ad p)
  | .inr (.inr none) => .null
def ab_ok (v : ab_V) : Prop := match v with
  | .inl x => ab_r32 x
  | .inr (.inl x) => ab_r64 x
  | .inr (.inr _) => True
def ab_fv (ad : Nat → Nat) (w : ab_W) (k i : Nat) (f : Option Nat) : Value := match f with
  | none => .int (Int32.ofInt (w k (i : Int)))
  | some j => .ref (ad j)
def ab_cell (ad : Nat → Nat) (cA : Nat → ClassId) (w : ab_W) (k : Nat) (sh : ab_Sh) : va_E := match sh with
  | .inl (ci, fs) => .inr (ci, fs.mapIdx (ab_fv ad w k))
  | .inr (0, n, _) => .inl (cA 0, n, .inl (fun i => Int32.ofInt (w k (i : Int))))
  | .inr (1, n, _) => .inl (cA 1, n, .inr (.inl (fun i => Int64.ofInt (w k (i : Int)))))
  | .inr (2, n, _) => .inl (cA 2, n, .inl (fun i => Int32.ofInt (w k (i : Int))))
  | .inr (_, n, rs) => .inl (cA 3, n, .inr (.inr (.inr (.inr (fun i => (rs[i]?).map ad)))))
def ab_ws (ad : Nat → Nat) (cA : Nat → ClassId) (w : ab_W) : va_W := ab_shp.mapIdx (fun k sh => (ad k, ab_cell ad cA w k sh))
theorem ab_ws_get {ad : Nat → Nat} {cA : Nat → ClassId} {w : ab_W} {k : Nat} {sh : ab_Sh} (h : ab_shp[k]? = some sh) : (ab_ws ad cA w)[k]? = some (ad k, ab_cell ad cA w k sh) := by
  unfold ab_ws
  rw [List.getElem?_mapIdx, h]
  rfl
theorem ab_ws_of {ad : Nat → Nat} {cA : Nat → ClassId} {w : ab_W} {k : Nat} {q : Nat × va_E} (h : (ab_ws ad cA w)[k]? = some q) : ∃ sh, ab_shp[k]? = some sh ∧ q = (ad k, ab_cell ad cA w k sh) := by
  unfold ab_ws at h
  rw [List.getElem?_mapIdx] at h
  cases hs : ab_shp[k]? with
  | none => rw [hs] at h; cases h
  | some sh =>
    rw [hs] at h
    exact ⟨sh, rfl, (Option.some.inj h).symm⟩
theorem ab_cell_eq {ad : Nat → Nat} {cA : Nat → ClassId} {w w' : ab_W} {k : Nat} (h : w' k = w k) (sh : ab_Sh) : ab_cell ad cA w' k sh = ab_cell ad cA w k sh := by
  have hf : ab_fv ad w' k = ab_fv ad w k := by
    funext i f
    cases f <;> simp [ab_fv, h]
  unfold ab_cell
  rw [h, hf]
theorem ab_ws_set {ad : Nat → Nat} {cA : Nat → ClassId} {w w' : ab_W} {k : Nat} {sh : ab_Sh} {e : va_E} (hk : ab_shp[k]? = some sh) (he : e = ab_cell ad cA w' k sh) (h : ∀ j, j ≠ k → w' j = w j) : (ab_ws ad cA w).set k (ad k, e) = ab_ws ad cA w' := by
  apply List.ext_getElem?
  intro j
  have hl : k < (ab_ws ad cA w).length := (List.getElem?_eq_some_iff.mp (ab_ws_get (ad := ad) (cA := cA) (w := w) hk)).1
  by_cases hj : j = k
  · subst hj
    rw [List.getElem?_set_self hl, ab_ws_get hk, he]
  · rw [List.getElem?_set_ne (Ne.symm hj)]
    cases hs : ab_shp[j]? with
    | none =>
      unfold ab_ws
      rw [List.getElem?_mapIdx, List.getElem?_mapIdx, hs]
      rfl
    | some s2 =>
      rw [ab_ws_get hs, ab_ws_get hs, ab_cell_eq (h j hj)]
theorem ab_up_ne {w : ab_W} {p : Nat} {i v : Int} {j : Nat} (h : j ≠ p) : ab_up w p i v j = w j := by
  funext q
  simp [ab_up, h]
theorem ab_cp_ne {w : ab_W} {p q : Nat} {sp dp n : Int} {j : Nat} (h : j ≠ q) : ab_cp w p q sp dp n j = w j := by
  funext r
  simp [ab_cp, h]
-- what a shape says
theorem ab_fld_of {ci p k : Nat} {f : Option Nat} (h : ab_fld ci p k = some f) : ∃ fs, ab_shp[p]? = some (.inl (ci, fs)) ∧ fs[k]? = some f := by
  unfold ab_fld at h
  split at h
  next c fs e =>
    split at h
    next hc => subst hc; exact ⟨fs, e, h⟩
    next => cases h
  next => cases h
theorem ab_ci_of {p ci : Nat} (h : ab_ci p = some ci) : ∃ fs, ab_shp[p]? = some (.inl (ci, fs)) := by
  unfold ab_ci at h
  split at h
  next c fs e => cases h; exact ⟨fs, e⟩
  next => cases h
theorem ab_arr_of {kd p n : Nat} (h : ab_arr kd p = some n) : ∃ rs, ab_shp[p]? = some (.inr (kd, n, rs)) := by
  unfold ab_arr at h
  split at h
  next k m rs e =>
    split at h
    next hc => subst hc; cases h; exact ⟨rs, e⟩
    next => cases h
  next => cases h
theorem ab_refs_of {p : Nat} {rs : List Nat} (h : ab_refs p = some rs) : ∃ n, ab_shp[p]? = some (.inr (3, n, rs)) := by
  unfold ab_refs at h
  split at h
  next n rs' e => cases h; exact ⟨n, e⟩
  next => cases h
theorem ab_ro_of {Ls p n : Nat} (h : ab_ro Ls p = some n) : (p = 100 ∧ n = 5) ∨ (p = 101 ∧ n = Ls) := by
  unfold ab_ro at h
  split at h
  next e => cases h; exact Or.inl ⟨e, rfl⟩
  next =>
    split at h
    next e => cases h; exact Or.inr ⟨e, rfl⟩
    next => cases h
theorem ab_ild_of {Ls p n : Nat} (h : ab_ild Ls p = some n) : ab_arr 0 p = some n ∨ ab_ro Ls p = some n := by
  unfold ab_ild at h
  split at h
  next m e => cases h; exact Or.inl e
  next => exact Or.inr h
theorem ab_len_of {Ls p n : Nat} (h : ab_len Ls p = some n) : (∃ kd rs, ab_shp[p]? = some (.inr (kd, n, rs))) ∨ ab_ro Ls p = some n := by
  unfold ab_len at h
  split at h
  next k m rs e => cases h; exact Or.inl ⟨k, rs, e⟩
  next => exact Or.inr h
theorem ab_shp_small : ∀ (p : Nat) (kd n : Nat) (rs : List Nat), ab_shp[p]? = some (.inr (kd, n, rs)) → n ≤ 1024 := by
  have h : ∀ sh ∈ ab_shp, (match sh with | .inl _ => True | .inr (_, n, _) => n ≤ 1024 : Prop) := by
    unfold ab_shp
    simp only [List.forall_mem_cons, List.not_mem_nil, false_implies, implies_true, and_true, true_and, shA]
    decide
  intro p kd n rs hp
  exact h _ (List.mem_of_getElem? hp)
theorem ab_shp_69 {p : Nat} {sh : ab_Sh} (h : ab_shp[p]? = some sh) : p < 69 := (List.getElem?_eq_some_iff.mp h).1
/-- cells may be written: those of the two objects, and new ones -/
def ab_A (ad : Nat → Nat) (sz : Nat) : Nat → Prop := fun q => (∃ k, k < 69 ∧ q = ad k) ∨ sz ≤ q
def ab_inj (ad : Nat → Nat) : Prop := ∀ i j, i < 69 → j < 69 → ad i = ad j → i = j
theorem ab_ws_D {ad : Nat → Nat} {cA : Nat → ClassId} {w : ab_W} {sz : Nat} (h : ab_inj ad) : va_D (ab_A ad sz) (ab_ws ad cA w) := by
  refine ⟨fun i j x y hi hj hxy => ?_, fun k q hq => ?_⟩
  · obtain ⟨s1, e1, rfl⟩ := ab_ws_of hi
    obtain ⟨s2, e2, rfl⟩ := ab_ws_of hj
    exact h i j (ab_shp_69 e1) (ab_shp_69 e2) hxy
  · obtain ⟨s1, e1, rfl⟩ := ab_ws_of hq
    exact Or.inl ⟨k, ab_shp_69 e1, rfl⟩
-- the locals
theorem ab_st_len : ∀ (L : List ab_V) (n : Nat) (v : ab_V), (ab_st L n v).length = L.length
  | [], _, _ => rfl
  | _ :: _, 0, _ => rfl
  | _ :: L, n + 1, v => by
    show (ab_st L n v).length + 1 = L.length + 1
    rw [ab_st_len L n v]
theorem ab_st_get : ∀ (L : List ab_V) (n : Nat) (v : ab_V) (k : Nat) (v' : ab_V), (ab_st L n v)[k]? = some v' → v' ≠ vX → (k = n ∧ v' = v) ∨ (k ≠ n ∧ L[k]? = some v' ∧ ¬ (k + 1 = n ∧ ∃ x, v' = vL x))
  | [], _, _, k, v', h, _ => by simp [ab_st] at h
  | y :: L, 0, v, 0, v', h, _ => Or.inl ⟨rfl, (Option.some.inj h).symm⟩
  | y :: L, 0, v, k + 1, v', h, _ => Or.inr ⟨by omega, h, fun q => by omega⟩
  | y :: L, n + 1, v, 0, v', h, hx => by
    have h1 : ab_kl y n = v' := Option.some.inj h
    cases n with
    | zero =>
      rcases y with y | y | y
      · have h2 : v' = .inl y := h1.symm
        subst h2
        exact Or.inr ⟨by omega, rfl, fun q => by obtain ⟨-, x, hx⟩ := q; cases hx⟩
      · exact absurd h1.symm hx
      · have h2 : v' = .inr (.inr y) := h1.symm
        subst h2
        exact Or.inr ⟨by omega, rfl, fun q => by obtain ⟨-, x, hx⟩ := q; cases hx⟩
    | succ n =>
      have h2 : v' = y := h1.symm
      subst h2
      exact Or.inr ⟨by omega, rfl, fun q => by omega⟩
  | y :: L, n + 1, v, k + 1, v', h, hx => by
    rcases ab_st_get L n v k v' h hx with ⟨a, b⟩ | ⟨a, b, c⟩
    · exact Or.inl ⟨by omega, b⟩
    · exact Or.inr ⟨by omega, b, fun q => c ⟨by omega, q.2⟩⟩
theorem ab_st_ok : ∀ (L : List ab_V) (n : Nat) (v : ab_V), (∀ x ∈ L, ab_ok x) → ab_ok v → ∀ x ∈ ab_st L n v, ab_ok x
  | [], _, _, _, _, x, h => by simp [ab_st] at h
  | y :: L, 0, v, hL, hv, x, h => by
    rcases List.mem_cons.mp h with rfl | h
    · exact hv
    · exact hL x (List.mem_cons_of_mem _ h)
  | y :: L, n + 1, v, hL, hv, x, h => by
    rcases List.mem_cons.mp h with rfl | h
    · have hy := hL y List.mem_cons_self
      cases n with
      | zero =>
        rcases y with y | y | y
        · exact hy
        · trivial
        · trivial
      | succ n => exact hy
    · exact ab_st_ok L n v (fun z hz => hL z (List.mem_cons_of_mem _ hz)) hv x h
def ab_lp (ad : Nat → Nat) (L : List ab_V) : List (Nat × Value) := (List.range L.length).filterMap (fun k => match L[k]? with
  | some v => if v = vX then none else some (k, ab_c ad v)
  | none => none)
theorem ab_lp_mem {ad : Nat → Nat} {L : List ab_V} {q : Nat × Value} : q ∈ ab_lp ad L ↔ ∃ v, L[q.1]? = some v ∧ v ≠ vX ∧ q.2 = ab_c ad v := by
  unfold ab_lp
  rw [List.mem_filterMap]
  constructor
  · rintro ⟨k, hk, h⟩
    split at h
    next v e =>
      split at h
      next => cases h
      next hv =>
        cases h
        exact ⟨v, e, hv, rfl⟩
    next => cases h
  · rintro ⟨v, h1, h2, h3⟩
    refine ⟨q.1, List.mem_range.mpr (List.getElem?_eq_some_iff.mp h1).1, ?_⟩
    rw [h1]
    simp only [if_neg h2]
    rw [← h3]
/-- the frame's locals are those of the abstract machine -/
def ab_lr (ad : Nat → Nat) (nL : Nat) (L : List ab_V) (ls : Array Slot) : Prop := L.length = nL ∧ lv_has ls nL (ab_lp ad L) ∧ ∀ v ∈ L, ab_ok v
theorem ab_lr.at {ad : Nat → Nat} {nL : Nat} {L : List ab_V} {ls : Array Slot} (h : ab_lr ad nL L ls) {k : Nat} {v : ab_V} (hk : L[k]? = some v) (hv : v ≠ vX) : ls[k]? = some (.val (ab_c ad v)) :=
  h.2.1.2.2 (k, ab_c ad v) (ab_lp_mem.mpr ⟨v, hk, hv, rfl⟩)
theorem ab_c_cat {ad : Nat → Nat} {v : ab_V} : (ab_c ad v).category = 2 ↔ ∃ x, v = vL x := by
  rcases v with y | y | (_ | y)
  · exact ⟨fun h => (by cases h), fun ⟨x, h⟩ => (by cases h)⟩
  · exact ⟨fun _ => ⟨y, rfl⟩, fun _ => rfl⟩
  · exact ⟨fun h => (by cases h), fun ⟨x, h⟩ => (by cases h)⟩
  · exact ⟨fun h => (by cases h), fun ⟨x, h⟩ => (by cases h)⟩
theorem ab_lr.st {ad : Nat → Nat} {nL : Nat} {L : List ab_V} {ls ls' : Array Slot} {n : Nat} {v : ab_V} (h : ab_lr ad nL L ls) (hv : ab_ok v) (h2 : lv_has ls' nL ((n, ab_c ad v) :: (ab_lp ad L).filter (fun q => !(q.1 == n) && !(q.1 + 1 == n && q.2.category == 2)))) : ab_lr ad nL (ab_st L n v) ls' := by
  refine ⟨(ab_st_len L n v).trans h.1, ⟨h2.1, h2.2.1, fun q hq => ?_⟩, ab_st_ok L n v h.2.2 hv⟩
  obtain ⟨v', e1, e2, e3⟩ := ab_lp_mem.mp hq
  apply h2.2.2
  rcases ab_st_get L n v q.1 v' e1 e2 with ⟨a, b⟩ | ⟨a, b, c⟩
  · rw [← b, ← a, ← e3]
    exact List.mem_cons_self
  · apply List.mem_cons_of_mem
    rw [List.mem_filter]
    refine ⟨ab_lp_mem.mpr ⟨v', b, e2, e3⟩, ?_⟩
    simp only [Bool.and_eq_true, Bool.not_eq_true', beq_eq_false_iff_ne, ne_eq, Bool.and_eq_false_iff]
    refine ⟨a, ?_⟩
    by_cases hz : q.1 + 1 = n
    · refine Or.inr fun hc => c ⟨hz, ?_⟩
      rw [e3] at hc
      exact ab_c_cat.mp hc
    · exact Or.inl hz
theorem ab_lr.stl {ad : Nat → Nat} {nL : Nat} {L : List ab_V} {ls ls' : Array Slot} {n : Nat} {v : ab_V} (h : ab_lr ad nL L ls) (hv : ab_ok v) (h2 : lv_has ls' nL ((n, ab_c ad v) :: (ab_lp ad L).filter (fun q => !(q.1 == n) && (!(q.1 == n + 1) && !(q.1 + 1 == n && q.2.category == 2))))) : ab_lr ad nL (ab_stl L n v) ls' := by
  have hok : ∀ x ∈ ab_stl L n v, ab_ok x := ab_st_ok _ n v (ab_st_ok L (n + 1) vX h.2.2 trivial) hv
  refine ⟨((ab_st_len _ n v).trans (ab_st_len L _ _)).trans h.1, ⟨h2.1, h2.2.1, fun q hq => ?_⟩, hok⟩
  obtain ⟨v', e1, e2, e3⟩ := ab_lp_mem.mp hq
  apply h2.2.2
  rcases ab_st_get _ n v q.1 v' e1 e2 with ⟨a, b⟩ | ⟨a, b, c⟩
  · rw [← b, ← a, ← e3]
    exact List.mem_cons_self
  · rcases ab_st_get L (n + 1) vX q.1 v' b e2 with ⟨a2, b2⟩ | ⟨a2, b2, c2⟩
    · exact absurd b2 e2
    · apply List.mem_cons_of_mem
      rw [List.mem_filter]
      refine ⟨ab_lp_mem.mpr ⟨v', b2, e2, e3⟩, ?_⟩
      simp only [Bool.and_eq_true, Bool.not_eq_true', beq_eq_false_iff_ne, ne_eq, Bool.and_eq_false_iff]
      refine ⟨a, a2, ?_⟩
      by_cases hz : q.1 + 1 = n
      · refine Or.inr fun hc => c ⟨hz, ?_⟩
        rw [e3] at hc
        exact ab_c_cat.mp hc
      · exact Or.inl hz
-- what the readings of locals and stack say
theorem ab_gI_of {L : List ab_V} {n : Nat} {f : Int → Prop} (h : ab_gI L n f) : ∃ x, L[n]? = some (vI x) ∧ f x := by
  unfold ab_gI at h
  split at h
  next x e => exact ⟨x, e, h⟩
  next => exact h.elim
theorem ab_gL_of {L : List ab_V} {n : Nat} {f : Int → Prop} (h : ab_gL L n f) : ∃ x, L[n]? = some (vL x) ∧ f x := by
  unfold ab_gL at h
  split at h
  next x e => exact ⟨x, e, h⟩
  next => exact h.elim
theorem ab_gR_of {L : List ab_V} {n : Nat} {f : Nat → Prop} (h : ab_gR L n f) : ∃ x, L[n]? = some (vR x) ∧ f x := by
  unfold ab_gR at h
  split at h
  next x e => exact ⟨x, e, h⟩
  next => exact h.elim
theorem ab_pI_of {S : List ab_V} {f : Int → List ab_V → Prop} (h : ab_pI S f) : ∃ x S', S = vI x :: S' ∧ f x S' := by
  unfold ab_pI at h
  split at h
  next x S' => exact ⟨x, S', rfl, h⟩
  next => exact h.elim
theorem ab_pL_of {S : List ab_V} {f : Int → List ab_V → Prop} (h : ab_pL S f) : ∃ x S', S = vL x :: S' ∧ f x S' := by
  unfold ab_pL at h
  split at h
  next x S' => exact ⟨x, S', rfl, h⟩
  next => exact h.elim
theorem ab_pR_of {S : List ab_V} {f : Nat → List ab_V → Prop} (h : ab_pR S f) : ∃ x S', S = vR x :: S' ∧ f x S' := by
  unfold ab_pR at h
  split at h
  next x S' => exact ⟨x, S', rfl, h⟩
  next => exact h.elim
theorem ab_pII_of {S : List ab_V} {f : Int → Int → List ab_V → Prop} (h : ab_pII S f) : ∃ x y S', S = vI y :: vI x :: S' ∧ f x y S' := by
  unfold ab_pII at h
  split at h
  next y x S' => exact ⟨x, y, S', rfl, h⟩
  next => exact h.elim
theorem ab_pLL_of {S : List ab_V} {f : Int → Int → List ab_V → Prop} (h : ab_pLL S f) : ∃ x y S', S = vL y :: vL x :: S' ∧ f x y S' := by
  unfold ab_pLL at h
  split at h
  next y x S' => exact ⟨x, y, S', rfl, h⟩
  next => exact h.elim
theorem ab_pIL_of {S : List ab_V} {f : Int → Int → List ab_V → Prop} (h : ab_pIL S f) : ∃ x y S', S = vI y :: vL x :: S' ∧ f x y S' := by
  unfold ab_pIL at h
  split at h
  next y x S' => exact ⟨x, y, S', rfl, h⟩
  next => exact h.elim
theorem ab_pIR_of {S : List ab_V} {f : Nat → Int → List ab_V → Prop} (h : ab_pIR S f) : ∃ p i S', S = vI i :: vR p :: S' ∧ f p i S' := by
  unfold ab_pIR at h
  split at h
  next i p S' => exact ⟨p, i, S', rfl, h⟩
  next => exact h.elim
theorem ab_tk_of : ∀ (n : Nat) (acc S as S' : List ab_V), ab_tk n acc S = some (as, S') → ∃ bs, bs.length = n ∧ as = bs.reverse ++ acc ∧ S = bs ++ S'
  | 0, acc, S, as, S', h => by cases h; exact ⟨[], rfl, rfl, rfl⟩
  | n + 1, acc, [], as, S', h => by cases h
  | n + 1, acc, v :: S, as, S', h => by
    obtain ⟨bs, h1, h2, h3⟩ := ab_tk_of n (v :: acc) S as S' h
    exact ⟨v :: bs, by simp [h1], by simp [h2], by simp [h3]⟩
theorem ab_few_of {ad : Nat → Nat} {S : List ab_V} (h : ab_few S) : ((S.map (ab_c ad)).map fun v => v.category).sum ≤ 8 := by
  have hc : ∀ v : Value, v.category ≤ 2 := fun v => by rcases lv_cat v with h | h <;> omega
  unfold ab_few at h
  split at h
  · simp
  · rename_i a
    have := hc (ab_c ad a)
    simp only [List.map_cons, List.map_nil, List.sum_cons, List.sum_nil]
    omega
  · rename_i a b
    have := hc (ab_c ad a); have := hc (ab_c ad b)
    simp only [List.map_cons, List.map_nil, List.sum_cons, List.sum_nil]
    omega
  · rename_i a b c
    have := hc (ab_c ad a); have := hc (ab_c ad b); have := hc (ab_c ad c)
    simp only [List.map_cons, List.map_nil, List.sum_cons, List.sum_nil]
    omega
  · rename_i a b c d
    have := hc (ab_c ad a); have := hc (ab_c ad b); have := hc (ab_c ad c); have := hc (ab_c ad d)
    simp only [List.map_cons, List.map_nil, List.sum_cons, List.sum_nil]
    omega
  · exact h.elim
end
section
/-! what is asked of the printed bodies, and the contract of a method in the words of the abstract machine -/
abbrev ab_cl : List vw_C := [(RX0, TX0, 8), (RX1, TX1, 4), (RX2, TX2, 2), (RX3, TX3, 4), (RX4, TX4, 13), (RX5, TX5, 38)]
def ab_tys (cA : Nat → ClassId) : List (ClassId × FieldType) := [(cA 0, .int), (cA 1, .long), (cA 2, .boolean), (cA 3, .object RX1)]
def ab_TB : List Cond := lw_tbl.filter goodWord
/-- a method: its name, code, locals, answer, parameters, whether it is static -/
abbrev ab_M : Type := MethodName × ByteArray × Nat × Option FieldType × Nat × Bool
def ab_cw (r : ab_M) : Cond := Cond.code r.1 r.2.1 r.2.2.1 r.2.2.2.1
def ab_mok (r : ab_M) : Prop := ab_cw r ∈ ab_TB ∧ Cond.initialized r.1.cls ∈ ab_TB ∧ (r.1.cls ≠ "java/lang/invoke/MethodHandle" ∧ r.1.cls ≠ "java/lang/invoke/VarHandle" ∧ (parseMethodDescriptor r.1.desc).map (fun d => d.parameters.length) = some r.2.2.2.2.1) ∧ r.2.2.1 ≤ 23 ∧ plainName r.1.cls = true ∧
  (r.2.2.2.2.2 = true → Cond.static r.1 ∈ ab_TB) ∧ (r.2.2.2.2.2 = false → Cond.instanceMethod r.1 ∈ ab_TB ∧ Cond.selects r.1.cls r.1 r.1 ∈ ab_TB)
def ab_ln (op : Instr) : Nat := match op with
  | .tableswitch _ _ _ _ => 0
  | .lookupswitch _ _ => 0
  | .bipush _ => 2
  | .sipush _ => 3
  | .ldc _ => 2
  | .ldc_w _ => 3
  | .ldc2_w _ => 3
  | .iload _ => 2
  | .lload _ => 2
  | .aload _ => 2
  | .istore _ => 2
  | .lstore _ => 2
  | .astore _ => 2
  | .iinc _ _ => 3
  | .ifCond _ _ => 3
  | .if_icmp _ _ => 3
  | .goto _ => 3
  | .getfield _ => 3
  | .putfield _ => 3
  | .getstatic _ => 3
  | .invokevirtual _ => 3
  | .invokestatic _ => 3
  | _ => 1
def ab_stop (op : Instr) : Bool := match op with
  | .tableswitch _ _ _ _ => true
  | .lookupswitch _ _ => true
  | .goto _ => true
  | .ireturn => true
  | .lreturn => true
  | .return_ => true
  | .athrow => true
  | _ => false
def ab_ck (mt : Nat → Option ab_M) (own : String) (rt : Option FieldType) (nL : Nat) (pcs : List Nat) (pc : Nat) (op : Instr) (ex : List Nat) (z : Int) : Prop := match op with
  | .iconst n => ab_r32 n
  | .bipush n => -128 ≤ n ∧ n ≤ 127
  | .sipush n => -32768 ≤ n ∧ n ≤ 32767
  | .ldc i => ab_r32 z ∧ Cond.constant own i (Int32.ofInt z) ∈ ab_TB
  | .ldc_w i => ab_r32 z ∧ Cond.constant own i (Int32.ofInt z) ∈ ab_TB
  | .ldc2_w i => ab_r64 z ∧ Cond.constantLong own i (Int64.ofInt z) ∈ ab_TB
  | .istore n => n < nL
  | .istore_n n => n.val < nL
  | .astore n => n < nL
  | .astore_n n => n.val < nL
  | .lstore n => n + 1 < nL
  | .lstore_n n => n.val + 1 < nL
  | .iinc n c => n < nL ∧ ab_r32 c
  | .ifCond _ off => ∃ t : Nat, pcs[ex.headD 0]? = some t ∧ (pc : Int) + off = (t : Int)
  | .if_icmp _ off => ∃ t : Nat, pcs[ex.headD 0]? = some t ∧ (pc : Int) + off = (t : Int)
  | .goto off => ∃ t : Nat, pcs[ex.headD 0]? = some t ∧ (pc : Int) + off = (t : Int)
  | .tableswitch d lo hi offs => (∃ t : Nat, pcs[ex.headD 0]? = some t ∧ (pc : Int) + d = (t : Int)) ∧ hi = lo + offs.size - 1 ∧ ex.tail.length = offs.size ∧ ∀ (j b : Nat) (off : Int), ex.tail[j]? = some b → offs[j]? = some off → ∃ t : Nat, pcs[b]? = some t ∧ (pc : Int) + off = (t : Int)
  | .lookupswitch d ps => (∃ t : Nat, pcs[ex.headD 0]? = some t ∧ (pc : Int) + d = (t : Int)) ∧ (ps.toList.zip (ps.toList.drop 1)).all (fun (a, next) => a.1 < next.1) = true ∧ ex.tail.length = ps.toList.length ∧ ∀ (j b : Nat) (q : Int × Int), ex.tail[j]? = some b → ps.toList[j]? = some q → ∃ t : Nat, pcs[b]? = some t ∧ (pc : Int) + q.2 = (t : Int)
  | .ireturn => (rt = some .int ∧ ex = [0]) ∨ (rt = some .boolean ∧ ex = [1])
  | .lreturn => rt = some .long
  | .return_ => rt = none
  | .getfield i => ∃ (ci k : Nat) (C : String) (T : u_T) (N : Nat), ex = [ci, k] ∧ ab_cl[ci]? = some (C, T, N) ∧ k < N ∧ Cond.fieldLink own i (T k).1 (T k).2.1 (T k).2.2.1 ∈ ab_TB
  | .putfield i => ∃ (ci k b : Nat) (C : String) (T : u_T) (N : Nat), ex = [ci, k, b] ∧ ab_cl[ci]? = some (C, T, N) ∧ k < N ∧ Cond.fieldLink own i (T k).1 (T k).2.1 (T k).2.2.1 ∈ ab_TB ∧ (T k).2.2.2 = false ∧ ((b = 0 ∧ (T k).2.2.1 = "I") ∨ (b = 1 ∧ (T k).2.2.1 = "Z"))
  | .getstatic i => Cond.fieldLink own i "RelayRace" "DIGEST_MOMENTS" "[I" ∈ ab_TB
  | .invokevirtual i => ∃ (k n ci : Nat) (r : ab_M) (q : vw_C), ex = [k, n, ci] ∧ mt k = some r ∧ r.2.2.2.2.2 = false ∧ n = r.2.2.2.2.1 + 1 ∧ Cond.methodLink own i r.1 ∈ ab_TB ∧ ab_cl[ci]? = some q ∧ q.1 = r.1.cls
  | .invokestatic i => (ex = [] ∧ Cond.methodLink own i arraycopyName ∈ ab_TB) ∨ (ex = [1] ∧ Cond.methodLink own i Lib.Math.max.name ∈ ab_TB) ∨ (ex = [2] ∧ Cond.methodLink own i Lib.Math.min.name ∈ ab_TB) ∨ ∃ (k n ci : Nat) (r : ab_M), ex = [k, n, ci] ∧ mt k = some r ∧ r.2.2.2.2.2 = true ∧ n = r.2.2.2.2.1 ∧ Cond.methodLink own i r.1 ∈ ab_TB
  | _ => True
/-- a block from pc on; behind its last instruction, if that goes on, block nx -/
def ab_ckb (mt : Nat → Option ab_M) (own : String) (cc : ByteArray) (rt : Option FieldType) (nL : Nat) (pcs : List Nat) (nx : Nat) : Nat → List ab_I → Prop
  | pc, [] => pcs[nx]? = some pc
  | pc, i :: is => i.1 = .athrow ∨ ∃ n, decode cc pc = .ok (i.1, n) ∧ (ab_ln i.1 = 0 ∨ n = ab_ln i.1) ∧ ab_ck mt own rt nL pcs pc i.1 i.2.1 i.2.2 ∧ (ab_stop i.1 = true ∨ ab_ckb mt own cc rt nL pcs nx (pc + ab_ln i.1) is)
def ab_ckm (mt : Nat → Option ab_M) (own : String) (cc : ByteArray) (rt : Option FieldType) (nL : Nat) (pcs : List Nat) (bl : List (List ab_I)) : Prop :=
  pcs[0]? = some 0 ∧ ∀ (b : Nat) (is : List ab_I), bl[b]? = some is → ∃ pc, pcs[b]? = some pc ∧ ab_ckb mt own cc rt nL pcs (b + 1) pc is
def ab_okW (w : ab_W) : Prop := ∀ p i, ab_r64 (w p i) ∧ (ab_arr 1 p = none → ab_r32 (w p i))
def ab_okO (r : Option ab_V) : Prop := ∀ v, r = some v → ab_ok v
def ab_X (ad : Nat → Nat) (Ls : Nat) (w : ab_W) (A : Nat → Prop) (U : State) (H : Heap) : Prop :=
  va_X (ad 100) 5 (fun i => Int32.ofInt (w 100 (i : Int))) U H ∧ ad 100 < H.size ∧ ¬ A (ad 100) ∧ va_X (ad 101) Ls (fun i => Int32.ofInt (w 101 (i : Int))) U H ∧ ad 101 < H.size ∧ ¬ A (ad 101) ∧ va_Z "RelayRace" "DIGEST_MOMENTS" "[I" (.ref (ad 100)) A U H ∧ Ls ≤ 3072
theorem ab_X.moved {ad : Nat → Nat} {Ls : Nat} {w : ab_W} {A : Nat → Prop} {u U : State} {H : Heap} (hvm : u.vm.Alike U.vm) (h : ab_X ad Ls w A u H) : ab_X ad Ls w A U H :=
  ⟨h.1.moved hvm, h.2.1, h.2.2.1, h.2.2.2.1.moved hvm, h.2.2.2.2.1, h.2.2.2.2.2.1, h.2.2.2.2.2.2.1.moved hvm, h.2.2.2.2.2.2.2⟩
def ab_B (ad : Nat → Nat) (cA : Nat → ClassId) (D : va_G) (Ls : Nat) (w : ab_W) (sz : Nat) (U : State) : Prop :=
  U.heap.size = sz ∧ va_P D ab_cl (ab_ws ad cA w) U.heap ∧ va_K D ab_cl (ab_tys cA) U ∧ ab_inj ad ∧ ab_okW w ∧ ab_X ad Ls w (ab_A ad sz) U U.heap
def ab_Pc (ad : Nat → Nat) (cA : Nat → ClassId) (D : va_G) (Ls : Nat) (as : List ab_V) (w : ab_W) (sz : Nat) : Array Value → State → Prop := va_Pc (as.map (ab_c ad)) (ab_B ad cA D Ls w sz)
def ab_Qc (ad : Nat → Nat) (cA : Nat → ClassId) (D : va_G) (w : ab_W) (sz : Nat) (post : Option ab_V → ab_W → Prop) : Array Value → State → Outcome → State → Prop := fun _ st oc t =>
  (∃ (r : Option ab_V) (w' : ab_W), oc = .returned (r.map (ab_c ad)) ∧ post r w' ∧ ab_okO r ∧ va_P D ab_cl (ab_ws ad cA w') t.heap ∧ ab_okW w' ∧ ∀ p, 100 ≤ p → w' p = w p) ∧ va_F (ab_A ad sz) st t
theorem ab_Pc_blind {ad : Nat → Nat} {cA : Nat → ClassId} {D : va_G} {Ls : Nat} {as : List ab_V} {w : ab_W} {sz : Nat} : FrameBlind (ab_Pc ad cA D Ls as w sz) := by
  intro a U g mk q
  obtain ⟨q0, q1, qP, qK, qi, qo, qX⟩ := q
  exact ⟨q0, q1, qP, va_K.moved (u := U) (U := U.calling g mk a) (Vm.Alike.refl U.vm) qK, qi, qo, ab_X.moved (u := U) (U := U.calling g mk a) (Vm.Alike.refl U.vm) qX⟩
/-- what stands still while a body runs -/
def ab_ctx (p : Program) (s : State) (m : MethodId) (args : Array Value) (c : Code) (cc : ByteArray) (nL : Nat) (own : String) (ad : Nat → Nat) (cA : Nat → ClassId) (D : va_G) (Ls : Nat) (w0 : ab_W) : Prop :=
  p.tables.exec = Jvm.exec ∧ c.code = cc ∧ c.maxLocals = nL ∧ s.vm.findClass own = some m.cls ∧ (∀ w ∈ ab_TB, w.before args s = true) ∧ va_K D ab_cl (ab_tys cA) s ∧ ab_inj ad ∧ ab_X ad Ls w0 (ab_A ad s.heap.size) s s.heap
/-- the heap holds the world -/
def ab_rel (ad : Nat → Nat) (cA : Nat → ClassId) (D : va_G) (s : State) (w0 w : ab_W) (H : Heap) (locs : List Loc) : Prop :=
  va_P D ab_cl (ab_ws ad cA w) H ∧ va_S (ab_A ad s.heap.size) s.heap H locs ∧ (∀ p, 100 ≤ p → w p = w0 p) ∧ ab_okW w
/-- from here on, with these locals, this stack and this world, the machine comes to a state with Q -/
def ab_G (p : Program) (l : Launch) (e : Env) (R : Room) (s : State) (m : MethodId) (args : Array Value) (below : List Frame) (meth : Method) (c : Code) (Q : State → Prop) (cells slots : Nat) (ad : Nat → Nat) (cA : Nat → ClassId) (D : va_G) (w0 : ab_W) (nL pc : Nat) (L S : List ab_V) (w : ab_W) : Prop :=
  ∀ (ls : Array Slot) (H : Heap) (locs : List Loc), ab_lr ad nL L ls → (∀ v ∈ S, ab_ok v) → ab_rel ad cA D s w0 w H locs → W p l e R s m args below meth c H locs cells slots Q (F0 m pc ls (S.map (ab_c ad)))
theorem ab_lay : ∀ (ci : Nat) (C : String) (T : u_T) (N : Nat), ab_cl[ci]? = some (C, T, N) → ∀ w ∈ u_ws C T N, w ∈ ab_TB := by
  have h0 : ∀ w ∈ u_ws RX0 TX0 8, w ∈ ab_TB := by decide +kernel
  have h1 : ∀ w ∈ u_ws RX1 TX1 4, w ∈ ab_TB := by decide +kernel
  have h2 : ∀ w ∈ u_ws RX2 TX2 2, w ∈ ab_TB := by decide +kernel
  have h3 : ∀ w ∈ u_ws RX3 TX3 4, w ∈ ab_TB := by decide +kernel
  have h4 : ∀ w ∈ u_ws RX4 TX4 13, w ∈ ab_TB := by decide +kernel
  have h5 : ∀ w ∈ u_ws RX5 TX5 38, w ∈ ab_TB := by decide +kernel
  intro ci C T N h
  match ci, h with
  | 0, h => cases h; exact h0
  | 1, h => cases h; exact h1
  | 2, h => cases h; exact h2
  | 3, h => cases h; exact h3
  | 4, h => cases h; exact h4
  | 5, h => cases h; exact h5
  | k + 6, h => simp [ab_cl] at h
theorem ab_typ : ∀ (ci : Nat) (C : String) (T : u_T) (N : Nat), ab_cl[ci]? = some (C, T, N) → ∃ ty0 : Nat → FieldType, (∀ k, k < N → parseFieldDescriptor (T k).2.2.1 = some (ty0 k)) ∧ ∀ a, a < N → ∀ b, b < N → a ≠ b → (T a).2.1 ≠ (T b).2.1 := by
  intro ci C T N h
  match ci, h with
  | 0, h => cases h; exact ⟨_, tyX0_ok, nmX0⟩
  | 1, h => cases h; exact ⟨_, tyX1_ok, nmX1⟩
  | 2, h => cases h; exact ⟨_, tyX2_ok, nmX2⟩
  | 3, h => cases h; exact ⟨_, tyX3_ok, nmX3⟩
  | 4, h => cases h; exact ⟨_, tyX4_ok, nmX4⟩
  | 5, h => cases h; exact ⟨_, tyX5_ok, nmX5⟩
  | k + 6, h => simp [ab_cl] at h
theorem ab_mth : Cond.static Lib.Math.max.name ∈ ab_TB ∧ Cond.static Lib.Math.min.name ∈ ab_TB ∧ Cond.initialized "java/lang/Math" ∈ ab_TB ∧ Cond.code Lib.Math.max.name Lib.Math.max.code 2 (some .int) ∈ ab_TB ∧ Cond.code Lib.Math.min.name Lib.Math.min.code 2 (some .int) ∈ ab_TB := by decide +kernel
theorem ab_sys : Cond.native arraycopyName ∈ ab_TB ∧ Cond.static arraycopyName ∈ ab_TB ∧ Cond.initialized "java/lang/System" ∈ ab_TB := by decide +kernel
end
section
/-! each instruction of the abstract machine is the machine's own -/
section Steps8
variable {p : Program} {l : Launch} {e : Env} {R : Room} {s : State} {m : MethodId} {args : Array Value} {below : List Frame} {meth : Method} {c : Code} {Q : State → Prop} {cells slots : Nat} {cc : ByteArray} {own : String} {nL : Nat} {rt : Option FieldType}
variable {ad : Nat → Nat} {cA : Nat → ClassId} {D : va_G} {Ls : Nat} {w0 : ab_W} {mt : Nat → Option ab_M} {pcs : List Nat} {rm : Room}
theorem ab_ti2 {a b : Int32} {pc : Nat} {ls : Array Slot} {rest : List Value} {H : Heap} {locs : List Loc} (h : a = b) (k : W p l e R s m args below meth c H locs cells slots Q (F0 m pc ls (.int b :: rest))) : W p l e R s m args below meth c H locs cells slots Q (F0 m pc ls (.int a :: rest)) := h ▸ k
theorem ab_tl2 {a b : Int64} {pc : Nat} {ls : Array Slot} {rest : List Value} {H : Heap} {locs : List Loc} (h : a = b) (k : W p l e R s m args below meth c H locs cells slots Q (F0 m pc ls (.long b :: rest))) : W p l e R s m args below meth c H locs cells slots Q (F0 m pc ls (.long a :: rest)) := h ▸ k
theorem ab_fv_set {w : ab_W} {q k : Nat} {x : Int} {fs : List (Option Nat)} (h : fs[k]? = some none) : (fs.mapIdx (ab_fv ad w q)).set k (.int (Int32.ofInt x)) = fs.mapIdx (ab_fv ad (ab_up w q (k : Int) x) q) := by
  apply List.ext_getElem?
  intro j
  have hl : k < (fs.mapIdx (ab_fv ad w q)).length := by
    rw [List.length_mapIdx]
    exact (List.getElem?_eq_some_iff.mp h).1
  by_cases hj : j = k
  · subst hj
    rw [List.getElem?_set_self hl, List.getElem?_mapIdx, h]
    simp [ab_fv, ab_up]
  · rw [List.getElem?_set_ne (Ne.symm hj), List.getElem?_mapIdx, List.getElem?_mapIdx]
    cases hf : fs[j]? with
    | none => rfl
    | some f =>
      cases f with
      | none =>
        have hj2 : ¬ (j : Int) = (k : Int) := by omega
        simp [ab_fv, ab_up, hj2]
      | some z => rfl
theorem ab_okW_up {w : ab_W} {q : Nat} {i x : Int} (h : ab_okW w) (h1 : ab_r64 x) (h2 : ab_arr 1 q = none → ab_r32 x) : ab_okW (ab_up w q i x) := by
  intro p j
  unfold ab_up
  by_cases hp : p = q
  · subst hp
    rw [if_pos rfl]
    by_cases hj : j = i
    · rw [if_pos hj]; exact ⟨h1, h2⟩
    · rw [if_neg hj]; exact h p j
  · rw [if_neg hp]; exact h p j
theorem ab_r3264 {x : Int} (h : ab_r32 x) : ab_r64 x := by
  obtain ⟨h1, h2⟩ := h
  exact ⟨by omega, by omega⟩
theorem ab_rel_up {w : ab_W} {H1 : Heap} {locs1 : List Loc} {q : Nat} {i x : Int} (hq : q < 69) (hro : ∀ p, 100 ≤ p → w p = w0 p) (hok : ab_okW (ab_up w q i x)) (hP : va_P D ab_cl (ab_ws ad cA (ab_up w q i x)) H1) (hS : va_S (ab_A ad s.heap.size) s.heap H1 locs1) : ab_rel ad cA D s w0 (ab_up w q i x) H1 locs1 :=
  ⟨hP, hS, fun p hp => by rw [ab_up_ne (by omega)]; exact hro p hp, hok⟩
theorem ab_cons_ok {v : ab_V} {S : List ab_V} (h : ab_ok v) (hS : ∀ x ∈ S, ab_ok x) : ∀ x ∈ v :: S, ab_ok x := fun x hx => by
  rcases List.mem_cons.mp hx with rfl | hx
  · exact h
  · exact hS x hx
theorem ab_tail_ok {v : ab_V} {S : List ab_V} (hS : ∀ x ∈ v :: S, ab_ok x) : ∀ x ∈ S, ab_ok x := fun x hx => hS x (List.mem_cons_of_mem _ hx)
/-- behind a call -/
theorem ab_behind {H : Heap} {locs : List Loc} {pc : Nat} {ls : Array Slot} {st0 : List Value} {S : List ab_V} {w : ab_W} {post : Option ab_V → ab_W → Prop} {a : Array Value}
    (hr : va_Run p l e R s m args below meth c H locs cells slots 0 0 (F0 m pc ls st0) (S.map (ab_c ad)) (ab_Qc ad cA D w H.size post a) (ab_A ad H.size)) (hS : va_S (ab_A ad s.heap.size) s.heap H locs)
    (kk : ∀ (r : Option ab_V) (w' : ab_W) (H1 : Heap) (locs1 : List Loc), post r w' → ab_okO r → va_P D ab_cl (ab_ws ad cA w') H1 → ab_okW w' → (∀ p, 100 ≤ p → w' p = w p) → va_S (ab_A ad s.heap.size) s.heap H1 locs1 → W p l e R s m args below meth c H1 locs1 cells slots Q (F0 m (pc + 3) ls ((ab_rp r S).map (ab_c ad)))) : W p l e R s m args below meth c H locs cells slots Q (F0 m pc ls st0) := by
  have hA : ∀ q, q < H.size → ab_A ad H.size q → ab_A ad s.heap.size q := fun q h1 h2 => by
    rcases h2 with h2 | h2
    · exact Or.inl h2
    · omega
  have hf : ∀ q, ab_A ad H.size q → ab_A ad s.heap.size q := fun q h2 => by
    rcases h2 with h2 | h2
    · exact Or.inl h2
    · exact Or.inr (Nat.le_trans hS.1 h2)
  intro T hT X
  obtain ⟨v, st₀, t, T', L, h0, X', hL, e1, e2, ⟨⟨r, w', hv, hp, hok, hP, hW, hro⟩, hz, hk⟩, st⟩ := hr T hT X
  cases hv
  rw [h0] at hz hk
  obtain ⟨t2, a1, b1⟩ := kk r w' T'.heap (locs ++ L) hp hok (by rw [e1]; exact hP) hW hro
    ⟨Nat.le_trans hS.1 (by rw [e1]; exact hz), fun q h1 h2 => by rw [e1, hk q (Nat.lt_of_lt_of_le h1 hS.1) (fun z => h2 (hA q (Nat.lt_of_lt_of_le h1 hS.1) z))]; exact hS.2.1 q h1 h2, fun q hq => by
      rcases List.mem_append.mp hq with h | h
      · exact hS.2.2 q h
      · exact hf _ (hL q h)⟩ T' rfl X'
  refine ⟨t2, st t2 ?_, b1⟩
  have e3 : (r.map (ab_c ad)).toList ++ S.map (ab_c ad) = (ab_rp r S).map (ab_c ad) := by cases r <;> rfl
  show Steps p.tables e below (T'.setTop (F0 m (pc + 3) ls ((r.map (ab_c ad)).toList ++ S.map (ab_c ad)))) t2
  rw [e3]
  exact a1
/-- the callee's start out of the caller's state -/
theorem ab_pre {H : Heap} {locs : List Loc} {w : ab_W} {as : List ab_V} (hKK : va_K D ab_cl (ab_tys cA) s) (hinj : ab_inj ad) (hX : ab_X ad Ls w0 (ab_A ad s.heap.size) s s.heap) (hw : ab_rel ad cA D s w0 w H locs) : ∀ U : State, U.heap = H → s.WarmedH U.vm → ab_Pc ad cA D Ls as w H.size (as.map (ab_c ad)).toArray U := by
  intro U hU hW
  obtain ⟨hP, hS, hro, hok⟩ := hw
  obtain ⟨x1, x2, x3, x4, x5, x6, x7, x8⟩ := hX
  have hnA : ∀ q, q < s.heap.size → ¬ ab_A ad s.heap.size q → q < H.size ∧ ¬ ab_A ad H.size q := by
    intro q h1 h2
    refine ⟨Nat.lt_of_lt_of_le h1 hS.1, fun z => ?_⟩
    rcases z with z | z
    · exact h2 (Or.inl z)
    · exact absurd (Nat.le_trans hS.1 z) (by omega)
  refine ⟨rfl, by rw [hU], by rw [hU]; exact hP, va_K.moved hW.alike hKK, hinj, hok, ?_⟩
  rw [hU]
  refine ⟨?_, (hnA _ x2 x3).1, (hnA _ x2 x3).2, ?_, (hnA _ x5 x6).1, (hnA _ x5 x6).2, ?_, x8⟩
  · rw [hro 100 (by omega)]
    exact (x1.kept (hS.2.1 _ x2 x3)).moved hW.alike
  · rw [hro 101 (by omega)]
    exact (x4.kept (hS.2.1 _ x5 x6)).moved hW.alike
  · obtain ⟨cf, kf, fi, f, a, cell, h1, h2, h3, h4, h5, h6, h7, h8⟩ := x7
    have ha : a < s.heap.size := (Array.getElem?_eq_some_iff.mp h5).1
    exact va_Z.moved hW.alike ⟨cf, kf, fi, f, a, cell, h1, h2, h3, h4, by rw [hS.2.1 a ha h8]; exact h5, h6, h7, (hnA a ha h8).2⟩
end Steps8
theorem ab_refs_len {q n : Nat} {rs : List Nat} (h : ab_refs q = some rs) (e : ab_shp[q]? = some (.inr (3, n, rs))) : rs.length = n := by
  have hh : ∀ sh ∈ ab_shp, (match sh with | .inr (3, n, rs) => rs.length = n | _ => True : Prop) := by
    unfold ab_shp
    simp only [List.forall_mem_cons, List.not_mem_nil, false_implies, implies_true, and_true, true_and, shA]
    decide
  exact hh _ (List.mem_of_getElem? e)
theorem ab_lcst (k : Fin 2) : Int64.ofNat k.val = Int64.ofInt (k.val : Int) := by revert k; decide +kernel
theorem ab_rc_of {as : List ab_V} {ci : Nat} (h : ab_rc as ci) : ∃ pl as', as = vR pl :: as' ∧ ab_ci pl = some ci := by
  unfold ab_rc at h
  split at h
  · exact ⟨_, _, rfl, h⟩
  · exact h.elim
end
section
/-! one instruction, whichever it is -/
section Step9
variable {p : Program} {l : Launch} {e : Env} {R : Room} {s : State} {m : MethodId} {args : Array Value} {below : List Frame} {meth : Method} {c : Code} {Q : State → Prop} {cells slots : Nat} {cc : ByteArray} {own : String} {nL : Nat} {rt : Option FieldType}
variable {ad : Nat → Nat} {cA : Nat → ClassId} {D : va_G} {Ls : Nat} {w0 : ab_W} {mt : Nat → Option ab_M} {pcs : List Nat} {rm : Room}
variable {C : Nat → List ab_V → ab_W → (Option ab_V → ab_W → Prop) → Prop} {J : Nat → List ab_V → List ab_V → ab_W → Prop} {Rt : Option ab_V → ab_W → Prop}
theorem ab_goodTB {r : ab_M} (h : ab_cw r ∈ ab_TB) : GoodIn ab_TB (ab_cw r :: ab_TB) := by
  intro w hw
  have hm : w ∈ ab_TB := by
    rcases List.mem_cons.mp hw with rfl | hw
    · exact h
    · exact hw
  exact ⟨hm, good_of_word (List.mem_filter.mp hm).2⟩
theorem ab_lsw_ok {pc : Nat} {d : Int} {db : Nat} (x : Int) : ∀ (ps : List (Int × Int)) (bs : List Nat), bs.length = ps.length → (∃ t : Nat, pcs[db]? = some t ∧ (pc : Int) + d = (t : Int)) → (∀ (j b : Nat) (q : Int × Int), bs[j]? = some b → ps[j]? = some q → ∃ t : Nat, pcs[b]? = some t ∧ (pc : Int) + q.2 = (t : Int)) →
    ∃ t : Nat, pcs[ab_lsw ps bs db x]? = some t ∧ (pc : Int) + Op.lookupswitch.offset ps d x = (t : Int)
  | [], bs, _, hd, _ => by
    have : ab_lsw [] bs db x = db := by unfold ab_lsw; rfl
    rw [this]; exact hd
  | (a, o) :: ps, [], h, _, _ => by simp at h
  | (a, o) :: ps, b :: bs, h, hd, hq => by
    rw [Op.lookupswitch.offset_cons]
    show ∃ t : Nat, pcs[if x = a then b else ab_lsw ps bs db x]? = some t ∧ _
    by_cases hx : x = a
    · rw [if_pos hx, if_pos hx.symm]
      exact hq 0 b (a, o) rfl rfl
    · rw [if_neg hx, if_neg (fun q => hx q.symm)]
      exact ab_lsw_ok x ps bs (by simpa using h) hd (fun j b' q h1 h2 => hq (j + 1) b' q h1 h2)
/-- what is asked of calls: the room is there, and the method's contract -/
def ab_hC (l : Launch) (R rm : Room) (ad : Nat → Nat) (cA : Nat → ClassId) (D : va_G) (Ls : Nat) (mt : Nat → Option ab_M) (C : Nat → List ab_V → ab_W → (Option ab_V → ab_W → Prop) → Prop) : Prop :=
  ∀ (k : Nat) (as : List ab_V) (w : ab_W) (post : Option ab_V → ab_W → Prop), C k as w post → (rm.frames + 1 ≤ R.frames ∧ 42 + rm.locals ≤ R.locals ∧ rm.cells = 0 ∧ rm.slots = 0) ∧ ((∀ v ∈ as, ab_ok v) → ∀ r, mt k = some r → ab_mok r ∧ ∀ sz, Met l r.1 (ab_cw r :: ab_TB) rm (ab_Pc ad cA D Ls as w sz) (ab_Qc ad cA D w sz post) 0 0 (ab_A ad sz))
def ab_hR (p : Program) (l : Launch) (e : Env) (R : Room) (s : State) (m : MethodId) (args : Array Value) (below : List Frame) (meth : Method) (c : Code) (Q : State → Prop) (cells slots : Nat) (cc : ByteArray) (rt : Option FieldType) (ad : Nat → Nat) (cA : Nat → ClassId) (D : va_G) (w0 : ab_W) (Rt : Option ab_V → ab_W → Prop) : Prop :=
  ∀ (pc : Nat) (w : ab_W) (ls : Array Slot) (H : Heap) (locs : List Loc), ab_rel ad cA D s w0 w H locs →
    (∀ (ex : List Nat) (x : Int), decode cc pc = .ok (.ireturn, 1) → ((rt = some .int ∧ ex = [0]) ∨ (rt = some .boolean ∧ ex = [1])) → Rt (some (vI x)) w → ab_r32 x → (ex = [1] → ab_bool x) → W p l e R s m args below meth c H locs cells slots Q (F0 m pc ls [.int (Int32.ofInt x)])) ∧
    (∀ x : Int, decode cc pc = .ok (.lreturn, 1) → rt = some .long → Rt (some (vL x)) w → ab_r64 x → W p l e R s m args below meth c H locs cells slots Q (F0 m pc ls [.long (Int64.ofInt x)])) ∧
    (decode cc pc = .ok (.return_, 1) → rt = none → Rt none w → W p l e R s m args below meth c H locs cells slots Q (F0 m pc ls []))
theorem ab_step (X : ab_ctx p s m args c cc nL own ad cA D Ls w0) (hcs : cells ≤ R.cells ∧ slots ≤ R.slots) (hC : ab_hC l R rm ad cA D Ls mt C) (hR : ab_hR p l e R s m args below meth c Q cells slots cc rt ad cA D w0 Rt) {pc : Nat} {op : Instr} {ex : List Nat} {z : Int}
    (hJ : ∀ (b t : Nat) (L S : List ab_V) (w : ab_W), pcs[b]? = some t → J b L S w → ab_G p l e R s m args below meth c Q cells slots ad cA D w0 nL t L S w)
    {K : List ab_V → List ab_V → ab_W → Prop} (hK : ab_stop op = false → ∀ (L S : List ab_V) (w : ab_W), K L S w → ab_G p l e R s m args below meth c Q cells slots ad cA D w0 nL (pc + ab_ln op) L S w)
    {n : Nat} (hdg : decode cc pc = .ok (op, n)) (hn : ab_ln op = 0 ∨ n = ab_ln op) (hck : ab_ck mt own rt nL pcs pc op ex z) {L S : List ab_V} {w : ab_W} (h : ab_wp Ls C J Rt K op ex z L S w) : ab_G p l e R s m args below meth c Q cells slots ad cA D w0 nL pc L S w := by
  intro ls H locs hl hS hw
  obtain ⟨hx, hb, hml, hown, hts, hKK, hinj, hX⟩ := X
  have hw' := hw
  obtain ⟨hP, hSS, hro, hok⟩ := hw'
  have hD : va_D (ab_A ad s.heap.size) (ab_ws ad cA w) := ab_ws_D hinj
  cases op <;> first | exact h.elim | skip
  case iconst k =>
    have hd := hn.resolve_left (by intro z; cases z)
    subst hd
    refine lv_iconst hx hb hdg rfl ?_
    exact hK rfl _ _ _ h ls H locs hl (ab_cons_ok hck hS) hw
  case bipush k =>
    have hd := hn.resolve_left (by intro z; cases z)
    subst hd
    refine lv_bipush hx hb hdg (ab_bip hck.1 hck.2) ?_
    exact hK rfl _ _ _ h ls H locs hl (ab_cons_ok (show ab_r32 k from ⟨by have := hck.1; omega, by have := hck.2; omega⟩) hS) hw
  case sipush k =>
    have hd := hn.resolve_left (by intro z; cases z)
    subst hd
    refine lv_sipush hx hb hdg (ab_sip hck.1 hck.2) ?_
    exact hK rfl _ _ _ h ls H locs hl (ab_cons_ok (show ab_r32 k from ⟨by have := hck.1; omega, by have := hck.2; omega⟩) hS) hw
  case lconst k =>
    have hd := hn.resolve_left (by intro z; cases z)
    subst hd
    refine lv_lconst hx hb hdg (v := Int64.ofInt (k.val : Int)) (ab_lcst k) ?_
    exact hK rfl _ _ _ h ls H locs hl (ab_cons_ok (show ab_r64 (k.val : Int) from ⟨by omega, by have := k.isLt; omega⟩) hS) hw
  case ldc k =>
    have hd := hn.resolve_left (by intro z; cases z)
    subst hd
    refine lv_ldc hx hb hown (hts _ hck.2) hdg ?_
    exact hK rfl _ _ _ h ls H locs hl (ab_cons_ok hck.1 hS) hw
  case ldc_w k =>
    have hd := hn.resolve_left (by intro z; cases z)
    subst hd
    refine lv_ldcw hx hb hown (hts _ hck.2) hdg ?_
    exact hK rfl _ _ _ h ls H locs hl (ab_cons_ok hck.1 hS) hw
  case ldc2_w k =>
    have hd := hn.resolve_left (by intro z; cases z)
    subst hd
    refine lv_ldc2 hx hb hown (hts _ hck.2) hdg ?_
    exact hK rfl _ _ _ h ls H locs hl (ab_cons_ok hck.1 hS) hw
  case iload k =>
    have hd := hn.resolve_left (by intro z; cases z)
    subst hd
    replace h := ab_gI_of h
    obtain ⟨x, e1, h⟩ := h
    refine lv_iload hx hb hdg (hl.at e1 (by intro q; cases q)) ?_
    exact hK rfl _ _ _ h ls H locs hl (ab_cons_ok (hl.2.2 _ (List.mem_of_getElem? e1)) hS) hw
  case iload_n k =>
    have hd := hn.resolve_left (by intro z; cases z)
    subst hd
    replace h := ab_gI_of h
    obtain ⟨x, e1, h⟩ := h
    refine lv_iload_n hx hb hdg rfl (hl.at e1 (by intro q; cases q)) ?_
    exact hK rfl _ _ _ h ls H locs hl (ab_cons_ok (hl.2.2 _ (List.mem_of_getElem? e1)) hS) hw
  case lload k =>
    have hd := hn.resolve_left (by intro z; cases z)
    subst hd
    replace h := ab_gL_of h
    obtain ⟨x, e1, h⟩ := h
    refine lv_lload hx hb hdg (hl.at e1 (by intro q; cases q)) ?_
    exact hK rfl _ _ _ h ls H locs hl (ab_cons_ok (hl.2.2 _ (List.mem_of_getElem? e1)) hS) hw
  case lload_n k =>
    have hd := hn.resolve_left (by intro z; cases z)
    subst hd
    replace h := ab_gL_of h
    obtain ⟨x, e1, h⟩ := h
    refine lv_lload_n hx hb hdg rfl (hl.at e1 (by intro q; cases q)) ?_
    exact hK rfl _ _ _ h ls H locs hl (ab_cons_ok (hl.2.2 _ (List.mem_of_getElem? e1)) hS) hw
  case aload k =>
    have hd := hn.resolve_left (by intro z; cases z)
    subst hd
    replace h := ab_gR_of h
    obtain ⟨x, e1, h⟩ := h
    refine lv_aload hx hb hdg (hl.at e1 (by intro q; cases q)) ?_
    exact hK rfl _ _ _ h ls H locs hl (ab_cons_ok (hl.2.2 _ (List.mem_of_getElem? e1)) hS) hw
  case aload_n k =>
    have hd := hn.resolve_left (by intro z; cases z)
    subst hd
    replace h := ab_gR_of h
    obtain ⟨x, e1, h⟩ := h
    refine lv_aload_n hx hb hdg rfl (hl.at e1 (by intro q; cases q)) ?_
    exact hK rfl _ _ _ h ls H locs hl (ab_cons_ok (hl.2.2 _ (List.mem_of_getElem? e1)) hS) hw
  case istore k =>
    have hd := hn.resolve_left (by intro z; cases z)
    subst hd
    replace h := ab_pI_of h
    obtain ⟨x, S', rfl, h⟩ := h
    refine lv_istore hx hb hdg hl.2.1 hck rfl (fun ls' hl' => ?_)
    exact hK rfl _ _ _ h ls' H locs (hl.st (v := vI x) (hS _ List.mem_cons_self) hl') (ab_tail_ok hS) hw
  case istore_n k =>
    have hd := hn.resolve_left (by intro z; cases z)
    subst hd
    replace h := ab_pI_of h
    obtain ⟨x, S', rfl, h⟩ := h
    refine lv_istore_n hx hb hdg rfl hl.2.1 hck rfl (fun ls' hl' => ?_)
    exact hK rfl _ _ _ h ls' H locs (hl.st (v := vI x) (hS _ List.mem_cons_self) hl') (ab_tail_ok hS) hw
  case astore k =>
    have hd := hn.resolve_left (by intro z; cases z)
    subst hd
    replace h := ab_pR_of h
    obtain ⟨x, S', rfl, h⟩ := h
    refine lv_astore hx hb hdg hl.2.1 hck rfl (fun ls' hl' => ?_)
    exact hK rfl _ _ _ h ls' H locs (hl.st (v := vR x) (hS _ List.mem_cons_self) hl') (ab_tail_ok hS) hw
  case astore_n k =>
    have hd := hn.resolve_left (by intro z; cases z)
    subst hd
    replace h := ab_pR_of h
    obtain ⟨x, S', rfl, h⟩ := h
    refine lv_astore_n hx hb hdg rfl hl.2.1 hck rfl (fun ls' hl' => ?_)
    exact hK rfl _ _ _ h ls' H locs (hl.st (v := vR x) (hS _ List.mem_cons_self) hl') (ab_tail_ok hS) hw
  case lstore k =>
    have hd := hn.resolve_left (by intro z; cases z)
    subst hd
    replace h := ab_pL_of h
    obtain ⟨x, S', rfl, h⟩ := h
    refine lv_lstore hx hb hdg hl.2.1 hck rfl (fun ls' hl' => ?_)
    exact hK rfl _ _ _ h ls' H locs (hl.stl (v := vL x) (hS _ List.mem_cons_self) hl') (ab_tail_ok hS) hw
  case lstore_n k =>
    have hd := hn.resolve_left (by intro z; cases z)
    subst hd
    replace h := ab_pL_of h
    obtain ⟨x, S', rfl, h⟩ := h
    refine lv_lstore_n hx hb hdg rfl hl.2.1 hck rfl (fun ls' hl' => ?_)
    exact hK rfl _ _ _ h ls' H locs (hl.stl (v := vL x) (hS _ List.mem_cons_self) hl') (ab_tail_ok hS) hw
  case iinc k c =>
    have hd := hn.resolve_left (by intro z; cases z)
    subst hd
    replace h := ab_gI_of h
    obtain ⟨x, e1, h⟩ := h
    have hm : (k, Value.int (Int32.ofInt x)) ∈ ab_lp ad L := ab_lp_mem.mpr ⟨vI x, e1, (by intro q; cases q), rfl⟩
    obtain ⟨j, hj⟩ := List.getElem?_of_mem hm
    refine lv_iinc (v := Int32.ofInt (iW (x + c))) hx hb hdg hl.2.1 hj (by rw [iW_o, Int32.ofInt_add]) hck.1 rfl (fun ls' hl' => ?_)
    exact hK rfl _ _ _ h ls' H locs (hl.st (v := vI (iW (x + c))) (iW_r _) hl') hS hw
  case iadd =>
    have hd := hn.resolve_left (by intro z; cases z)
    subst hd
    replace h := ab_pII_of h
    obtain ⟨x, y, S', rfl, h⟩ := h
    refine lv_iadd hx hb hdg (ab_ti2 (b := Int32.ofInt (iW (x + y))) (by rw [iW_o, Int32.ofInt_add]) ?_)
    exact hK rfl _ _ _ h ls H locs hl (ab_cons_ok (iW_r _) (ab_tail_ok (ab_tail_ok hS))) hw
  case isub =>
    have hd := hn.resolve_left (by intro z; cases z)
    subst hd
    replace h := ab_pII_of h
    obtain ⟨x, y, S', rfl, h⟩ := h
    refine lv_isub hx hb hdg (ab_ti2 (b := Int32.ofInt (iW (x - y))) (by rw [iW_o, Int32.ofInt_sub]) ?_)
    exact hK rfl _ _ _ h ls H locs hl (ab_cons_ok (iW_r _) (ab_tail_ok (ab_tail_ok hS))) hw
  case imul =>
    have hd := hn.resolve_left (by intro z; cases z)
    subst hd
    replace h := ab_pII_of h
    obtain ⟨x, y, S', rfl, h⟩ := h
    refine lv_imul hx hb hdg (ab_ti2 (b := Int32.ofInt (iW (x * y))) (by rw [iW_o, Int32.ofInt_mul]) ?_)
    exact hK rfl _ _ _ h ls H locs hl (ab_cons_ok (iW_r _) (ab_tail_ok (ab_tail_ok hS))) hw
  case ladd =>
    have hd := hn.resolve_left (by intro z; cases z)
    subst hd
    replace h := ab_pLL_of h
    obtain ⟨x, y, S', rfl, h⟩ := h
    refine lv_ladd hx hb hdg (ab_tl2 (b := Int64.ofInt (lW (x + y))) (by rw [lW_o, Int64.ofInt_add]) ?_)
    exact hK rfl _ _ _ h ls H locs hl (ab_cons_ok (lW_r _) (ab_tail_ok (ab_tail_ok hS))) hw
  case lsub =>
    have hd := hn.resolve_left (by intro z; cases z)
    subst hd
    replace h := ab_pLL_of h
    obtain ⟨x, y, S', rfl, h⟩ := h
    refine lv_lsub hx hb hdg (ab_tl2 (b := Int64.ofInt (lW (x - y))) (by rw [lW_o, Int64.ofInt_sub]) ?_)
    exact hK rfl _ _ _ h ls H locs hl (ab_cons_ok (lW_r _) (ab_tail_ok (ab_tail_ok hS))) hw
  case lmul =>
    have hd := hn.resolve_left (by intro z; cases z)
    subst hd
    replace h := ab_pLL_of h
    obtain ⟨x, y, S', rfl, h⟩ := h
    refine lv_lmul hx hb hdg (ab_tl2 (b := Int64.ofInt (lW (x * y))) (by rw [lW_o, Int64.ofInt_mul]) ?_)
    exact hK rfl _ _ _ h ls H locs hl (ab_cons_ok (lW_r _) (ab_tail_ok (ab_tail_ok hS))) hw
  case idiv =>
    have hd := hn.resolve_left (by intro z; cases z)
    subst hd
    replace h := ab_pII_of h
    obtain ⟨x, y, S', rfl, h0, h⟩ := h
    refine lv_idiv hx hb hdg (by rw [ab_z32, ab_eq32 (hS _ List.mem_cons_self) ab_r0]; exact h0) (ab_ti2 (ab_oi _).symm ?_)
    exact hK rfl _ _ _ h ls H locs hl (ab_cons_ok (ab_ri _) (ab_tail_ok (ab_tail_ok hS))) hw
  case irem =>
    have hd := hn.resolve_left (by intro z; cases z)
    subst hd
    replace h := ab_pII_of h
    obtain ⟨x, y, S', rfl, h0, h⟩ := h
    refine lv_irem hx hb hdg (by rw [ab_z32, ab_eq32 (hS _ List.mem_cons_self) ab_r0]; exact h0) (ab_ti2 (ab_oi _).symm ?_)
    exact hK rfl _ _ _ h ls H locs hl (ab_cons_ok (ab_ri _) (ab_tail_ok (ab_tail_ok hS))) hw
  case ldiv =>
    have hd := hn.resolve_left (by intro z; cases z)
    subst hd
    replace h := ab_pLL_of h
    obtain ⟨x, y, S', rfl, h0, h⟩ := h
    refine lv_ldiv hx hb hdg (by rw [ab_z64, ab_eq64 (hS _ List.mem_cons_self) (ab_r3264 ab_r0)]; exact h0) (ab_tl2 (ab_ol _).symm ?_)
    exact hK rfl _ _ _ h ls H locs hl (ab_cons_ok (ab_rl _) (ab_tail_ok (ab_tail_ok hS))) hw
  case lrem =>
    have hd := hn.resolve_left (by intro z; cases z)
    subst hd
    replace h := ab_pLL_of h
    obtain ⟨x, y, S', rfl, h0, h⟩ := h
    refine lv_lrem hx hb hdg (by rw [ab_z64, ab_eq64 (hS _ List.mem_cons_self) (ab_r3264 ab_r0)]; exact h0) (ab_tl2 (ab_ol _).symm ?_)
    exact hK rfl _ _ _ h ls H locs hl (ab_cons_ok (ab_rl _) (ab_tail_ok (ab_tail_ok hS))) hw
  case iand =>
    have hd := hn.resolve_left (by intro z; cases z)
    subst hd
    replace h := ab_pII_of h
    obtain ⟨x, y, S', rfl, h⟩ := h
    refine lv_iand hx hb hdg (ab_ti2 (ab_oi _).symm ?_)
    exact hK rfl _ _ _ h ls H locs hl (ab_cons_ok (ab_ri _) (ab_tail_ok (ab_tail_ok hS))) hw
  case ior =>
    have hd := hn.resolve_left (by intro z; cases z)
    subst hd
    replace h := ab_pII_of h
    obtain ⟨x, y, S', rfl, h⟩ := h
    refine lv_ior hx hb hdg (ab_ti2 (ab_oi _).symm ?_)
    exact hK rfl _ _ _ h ls H locs hl (ab_cons_ok (ab_ri _) (ab_tail_ok (ab_tail_ok hS))) hw
  case ixor =>
    have hd := hn.resolve_left (by intro z; cases z)
    subst hd
    replace h := ab_pII_of h
    obtain ⟨x, y, S', rfl, h⟩ := h
    refine lv_ixor hx hb hdg (ab_ti2 (ab_oi _).symm ?_)
    exact hK rfl _ _ _ h ls H locs hl (ab_cons_ok (ab_ri _) (ab_tail_ok (ab_tail_ok hS))) hw
  case ishl =>
    have hd := hn.resolve_left (by intro z; cases z)
    subst hd
    replace h := ab_pII_of h
    obtain ⟨x, y, S', rfl, h⟩ := h
    refine lv_ishl hx hb hdg (ab_ti2 (ab_oi _).symm ?_)
    exact hK rfl _ _ _ h ls H locs hl (ab_cons_ok (ab_ri _) (ab_tail_ok (ab_tail_ok hS))) hw
  case ishr =>
    have hd := hn.resolve_left (by intro z; cases z)
    subst hd
    replace h := ab_pII_of h
    obtain ⟨x, y, S', rfl, h⟩ := h
    refine lv_ishr hx hb hdg (ab_ti2 (ab_oi _).symm ?_)
    exact hK rfl _ _ _ h ls H locs hl (ab_cons_ok (ab_ri _) (ab_tail_ok (ab_tail_ok hS))) hw
  case iushr =>
    have hd := hn.resolve_left (by intro z; cases z)
    subst hd
    replace h := ab_pII_of h
    obtain ⟨x, y, S', rfl, h⟩ := h
    refine lv_iushr hx hb hdg rfl (ab_ti2 (ab_oi _).symm ?_)
    exact hK rfl _ _ _ h ls H locs hl (ab_cons_ok (ab_ri _) (ab_tail_ok (ab_tail_ok hS))) hw
  case land =>
    have hd := hn.resolve_left (by intro z; cases z)
    subst hd
    replace h := ab_pLL_of h
    obtain ⟨x, y, S', rfl, h⟩ := h
    refine lv_land hx hb hdg (ab_tl2 (ab_ol _).symm ?_)
    exact hK rfl _ _ _ h ls H locs hl (ab_cons_ok (ab_rl _) (ab_tail_ok (ab_tail_ok hS))) hw
  case lor =>
    have hd := hn.resolve_left (by intro z; cases z)
    subst hd
    replace h := ab_pLL_of h
    obtain ⟨x, y, S', rfl, h⟩ := h
    refine lv_lor hx hb hdg (ab_tl2 (ab_ol _).symm ?_)
    exact hK rfl _ _ _ h ls H locs hl (ab_cons_ok (ab_rl _) (ab_tail_ok (ab_tail_ok hS))) hw
  case lshl =>
    have hd := hn.resolve_left (by intro z; cases z)
    subst hd
    replace h := ab_pIL_of h
    obtain ⟨x, y, S', rfl, h⟩ := h
    refine lv_lshl hx hb hdg rfl (ab_tl2 (ab_ol _).symm ?_)
    exact hK rfl _ _ _ h ls H locs hl (ab_cons_ok (ab_rl _) (ab_tail_ok (ab_tail_ok hS))) hw
  case lshr =>
    have hd := hn.resolve_left (by intro z; cases z)
    subst hd
    replace h := ab_pIL_of h
    obtain ⟨x, y, S', rfl, h⟩ := h
    refine lv_lshr hx hb hdg rfl (ab_tl2 (ab_ol _).symm ?_)
    exact hK rfl _ _ _ h ls H locs hl (ab_cons_ok (ab_rl _) (ab_tail_ok (ab_tail_ok hS))) hw
  case lushr =>
    have hd := hn.resolve_left (by intro z; cases z)
    subst hd
    replace h := ab_pIL_of h
    obtain ⟨x, y, S', rfl, h⟩ := h
    refine lv_lushr hx hb hdg rfl (ab_tl2 (ab_ol _).symm ?_)
    exact hK rfl _ _ _ h ls H locs hl (ab_cons_ok (ab_rl _) (ab_tail_ok (ab_tail_ok hS))) hw
  case i2l =>
    have hd := hn.resolve_left (by intro z; cases z)
    subst hd
    replace h := ab_pI_of h
    obtain ⟨x, S', rfl, h⟩ := h
    refine lv_i2l hx hb hdg (ab_i2l (hS _ List.mem_cons_self)) ?_
    exact hK rfl _ _ _ h ls H locs hl (ab_cons_ok (ab_r3264 (hS _ List.mem_cons_self)) (ab_tail_ok hS)) hw
  case l2i =>
    have hd := hn.resolve_left (by intro z; cases z)
    subst hd
    replace h := ab_pL_of h
    obtain ⟨x, S', rfl, h⟩ := h
    refine lv_l2i hx hb hdg (ab_l2i (hS _ List.mem_cons_self)) ?_
    exact hK rfl _ _ _ h ls H locs hl (ab_cons_ok (iW_r _) (ab_tail_ok hS)) hw
  case i2b =>
    have hd := hn.resolve_left (by intro z; cases z)
    subst hd
    replace h := ab_pI_of h
    obtain ⟨x, S', rfl, h⟩ := h
    refine lv_i2b hx hb hdg rfl (ab_ti2 (ab_oi _).symm ?_)
    exact hK rfl _ _ _ h ls H locs hl (ab_cons_ok (ab_ri _) (ab_tail_ok hS)) hw
  case i2s =>
    have hd := hn.resolve_left (by intro z; cases z)
    subst hd
    replace h := ab_pI_of h
    obtain ⟨x, S', rfl, h⟩ := h
    refine lv_i2s hx hb hdg rfl (ab_ti2 (ab_oi _).symm ?_)
    exact hK rfl _ _ _ h ls H locs hl (ab_cons_ok (ab_ri _) (ab_tail_ok hS)) hw
  case lcmp =>
    have hd := hn.resolve_left (by intro z; cases z)
    subst hd
    replace h := ab_pLL_of h
    obtain ⟨x, y, S', rfl, h⟩ := h
    refine W.lcmp hx hb hdg (ab_ti2 (ab_lcm (hS _ (List.mem_cons_of_mem _ List.mem_cons_self)) (hS _ List.mem_cons_self)) ?_)
    exact hK rfl _ _ _ h ls H locs hl (ab_cons_ok (ab_lcr _ _) (ab_tail_ok (ab_tail_ok hS))) hw
  case dup =>
    have hd := hn.resolve_left (by intro z; cases z)
    subst hd
    dsimp only [ab_wp] at h
    split at h
    · rename_i x S'
      refine lv_dup (va := .int (Int32.ofInt x)) hx hb hdg rfl ?_
      exact hK rfl _ _ _ h ls H locs hl (ab_cons_ok (hS _ List.mem_cons_self) hS) hw
    · rename_i x S'
      refine lv_dup (va := .ref (ad x)) hx hb hdg rfl ?_
      exact hK rfl _ _ _ h ls H locs hl (ab_cons_ok (hS _ List.mem_cons_self) hS) hw
    · exact h.elim
  case dup2 =>
    have hd := hn.resolve_left (by intro z; cases z)
    subst hd
    replace h := ab_pIR_of h
    obtain ⟨q, i, S', rfl, h⟩ := h
    refine lv_dup2_11 (va := .int (Int32.ofInt i)) (vb := .ref (ad q)) hx hb hdg rfl rfl ?_
    exact hK rfl _ _ _ h ls H locs hl (ab_cons_ok (hS _ List.mem_cons_self) (ab_cons_ok (v := vR q) trivial hS)) hw
  case ifCond k off =>
    have hd := hn.resolve_left (by intro z; cases z)
    subst hd
    replace h := ab_pI_of h
    obtain ⟨x, S', rfl, h⟩ := h
    obtain ⟨t, ht1, ht2⟩ := hck
    have hxr : ab_r32 x := hS _ List.mem_cons_self
    cases k
    · have hi := ab_eq32 hxr ab_r0
      rw [← ab_z32] at hi
      refine lv_if_eq hx hb hdg ht2 (fun q => ?_) (fun q => ?_)
      · exact hJ _ _ _ _ _ ht1 (h.1 (hi.mp q)) ls H locs hl (ab_tail_ok hS) hw
      · exact hK rfl _ _ _ (h.2 (fun z => q (hi.mpr z))) ls H locs hl (ab_tail_ok hS) hw
    · have hi := ab_eq32 hxr ab_r0
      rw [← ab_z32] at hi
      refine lv_if_ne hx hb hdg ht2 (fun q => ?_) (fun q => ?_)
      · exact hJ _ _ _ _ _ ht1 (h.1 (fun z => q (hi.mpr z))) ls H locs hl (ab_tail_ok hS) hw
      · exact hK rfl _ _ _ (h.2 (fun z => z (hi.mp q))) ls H locs hl (ab_tail_ok hS) hw
    · have hi := ab_lt32 hxr ab_r0
      rw [← ab_z32] at hi
      refine lv_if_lt hx hb hdg ht2 (fun q => ?_) (fun q => ?_)
      · exact hJ _ _ _ _ _ ht1 (h.1 (hi.mp q)) ls H locs hl (ab_tail_ok hS) hw
      · exact hK rfl _ _ _ (h.2 (fun z => q (hi.mpr z))) ls H locs hl (ab_tail_ok hS) hw
    · have hi := ab_le32 ab_r0 hxr
      rw [← ab_z32] at hi
      refine lv_if_ge hx hb hdg ht2 (fun q => ?_) (fun q => ?_)
      · exact hJ _ _ _ _ _ ht1 (h.1 (hi.mp q)) ls H locs hl (ab_tail_ok hS) hw
      · exact hK rfl _ _ _ (h.2 (fun z => q (hi.mpr z))) ls H locs hl (ab_tail_ok hS) hw
    · have hi := ab_lt32 ab_r0 hxr
      rw [← ab_z32] at hi
      refine lv_if_gt hx hb hdg ht2 (fun q => ?_) (fun q => ?_)
      · exact hJ _ _ _ _ _ ht1 (h.1 (hi.mp q)) ls H locs hl (ab_tail_ok hS) hw
      · exact hK rfl _ _ _ (h.2 (fun z => q (hi.mpr z))) ls H locs hl (ab_tail_ok hS) hw
    · have hi := ab_le32 hxr ab_r0
      rw [← ab_z32] at hi
      refine lv_if_le hx hb hdg ht2 (fun q => ?_) (fun q => ?_)
      · exact hJ _ _ _ _ _ ht1 (h.1 (hi.mp q)) ls H locs hl (ab_tail_ok hS) hw
      · exact hK rfl _ _ _ (h.2 (fun z => q (hi.mpr z))) ls H locs hl (ab_tail_ok hS) hw
  case if_icmp k off =>
    have hd := hn.resolve_left (by intro z; cases z)
    subst hd
    replace h := ab_pII_of h
    obtain ⟨x, y, S', rfl, h⟩ := h
    obtain ⟨t, ht1, ht2⟩ := hck
    have hxr : ab_r32 x := hS _ (List.mem_cons_of_mem _ List.mem_cons_self)
    have hyr : ab_r32 y := hS _ List.mem_cons_self
    cases k
    · have hi := ab_eq32 hxr hyr
      refine lv_icmp_eq hx hb hdg ht2 (fun q => ?_) (fun q => ?_)
      · exact hJ _ _ _ _ _ ht1 (h.1 (hi.mp q)) ls H locs hl (ab_tail_ok (ab_tail_ok hS)) hw
      · exact hK rfl _ _ _ (h.2 (fun z => q (hi.mpr z))) ls H locs hl (ab_tail_ok (ab_tail_ok hS)) hw
    · have hi := ab_eq32 hxr hyr
      refine lv_icmp_ne hx hb hdg ht2 (fun q => ?_) (fun q => ?_)
      · exact hJ _ _ _ _ _ ht1 (h.1 (fun z => q (hi.mpr z))) ls H locs hl (ab_tail_ok (ab_tail_ok hS)) hw
      · exact hK rfl _ _ _ (h.2 (fun z => z (hi.mp q))) ls H locs hl (ab_tail_ok (ab_tail_ok hS)) hw
    · have hi := ab_lt32 hxr hyr
      refine lv_icmp_lt hx hb hdg ht2 (fun q => ?_) (fun q => ?_)
      · exact hJ _ _ _ _ _ ht1 (h.1 (hi.mp q)) ls H locs hl (ab_tail_ok (ab_tail_ok hS)) hw
      · exact hK rfl _ _ _ (h.2 (fun z => q (hi.mpr z))) ls H locs hl (ab_tail_ok (ab_tail_ok hS)) hw
    · have hi := ab_le32 hyr hxr
      refine lv_icmp_ge hx hb hdg ht2 (fun q => ?_) (fun q => ?_)
      · exact hJ _ _ _ _ _ ht1 (h.1 (hi.mp q)) ls H locs hl (ab_tail_ok (ab_tail_ok hS)) hw
      · exact hK rfl _ _ _ (h.2 (fun z => q (hi.mpr z))) ls H locs hl (ab_tail_ok (ab_tail_ok hS)) hw
    · have hi := ab_lt32 hyr hxr
      refine lv_icmp_gt hx hb hdg ht2 (fun q => ?_) (fun q => ?_)
      · exact hJ _ _ _ _ _ ht1 (h.1 (hi.mp q)) ls H locs hl (ab_tail_ok (ab_tail_ok hS)) hw
      · exact hK rfl _ _ _ (h.2 (fun z => q (hi.mpr z))) ls H locs hl (ab_tail_ok (ab_tail_ok hS)) hw
    · have hi := ab_le32 hxr hyr
      refine lv_icmp_le hx hb hdg ht2 (fun q => ?_) (fun q => ?_)
      · exact hJ _ _ _ _ _ ht1 (h.1 (hi.mp q)) ls H locs hl (ab_tail_ok (ab_tail_ok hS)) hw
      · exact hK rfl _ _ _ (h.2 (fun z => q (hi.mpr z))) ls H locs hl (ab_tail_ok (ab_tail_ok hS)) hw
  case goto off =>
    have hd := hn.resolve_left (by intro z; cases z)
    subst hd
    obtain ⟨t, ht1, ht2⟩ := hck
    exact lv_goto hx hb hdg ht2 (hJ _ _ _ _ _ ht1 h ls H locs hl hS hw)
  case tableswitch d lo hi offs =>
    replace h := ab_pI_of h
    obtain ⟨x, S', rfl, h⟩ := h
    obtain ⟨⟨t, ht1, ht2⟩, hhi, hlen, hall⟩ := hck
    have hxr : ab_r32 x := hS _ List.mem_cons_self
    by_cases ho : x < lo ∨ hi < x
    · have hd : ab_sw lo ex.tail (ex.headD 0) x = ex.headD 0 := by
        unfold ab_sw
        by_cases hlo : lo ≤ x
        · rw [if_pos hlo, List.getElem?_eq_none (by omega)]; rfl
        · rw [if_neg hlo]
      rw [hd] at h
      exact lv_tableOut hx hb hdg (by rw [ab_ti hxr]; exact ho) ht2 (hJ _ _ _ _ _ ht1 h ls H locs hl (ab_tail_ok hS) hw)
    · have hj : (x - lo).toNat < ex.tail.length := by omega
      have hb' : ex.tail[(x - lo).toNat]? = some ex.tail[(x - lo).toNat] := List.getElem?_eq_getElem hj
      have ho' : offs[(x - lo).toNat]? = some (offs[(x - lo).toNat]'(by omega)) := Array.getElem?_eq_getElem _
      obtain ⟨t2, hq1, hq2⟩ := hall _ _ _ hb' ho'
      have hd : ab_sw lo ex.tail (ex.headD 0) x = ex.tail[(x - lo).toNat] := by
        unfold ab_sw
        rw [if_pos (by omega), hb']; rfl
      rw [hd] at h
      exact lv_tableIn hx hb hdg (by rw [ab_ti hxr]; omega) (by rw [ab_ti hxr]; omega) (by rw [ab_ti hxr]; exact ho') hq2 (hJ _ _ _ _ _ hq1 h ls H locs hl (ab_tail_ok hS) hw)
  case lookupswitch d ps =>
    replace h := ab_pI_of h
    obtain ⟨x, S', rfl, h⟩ := h
    obtain ⟨hdf, hsort, hlen, hall⟩ := hck
    have hxr : ab_r32 x := hS _ List.mem_cons_self
    obtain ⟨t2, hq1, hq2⟩ := ab_lsw_ok (pcs := pcs) (pc := pc) (d := d) (db := ex.headD 0) x ps.toList ex.tail hlen hdf hall
    exact lv_lookup hx hb hdg hsort (by rw [ab_ti hxr]) hq2 (hJ _ _ _ _ _ hq1 h ls H locs hl (ab_tail_ok hS) hw)
  case ireturn =>
    have hd := hn.resolve_left (by intro z; cases z)
    subst hd
    dsimp only [ab_wp] at h
    split at h
    · rename_i x
      exact (hR pc w ls H locs hw).1 ex x hdg hck h.2 (hS _ List.mem_cons_self) h.1
    · exact h.elim
  case lreturn =>
    have hd := hn.resolve_left (by intro z; cases z)
    subst hd
    dsimp only [ab_wp] at h
    split at h
    · rename_i x
      exact (hR pc w ls H locs hw).2.1 x hdg hck h (hS _ List.mem_cons_self)
    · exact h.elim
  case return_ =>
    have hd := hn.resolve_left (by intro z; cases z)
    subst hd
    dsimp only [ab_wp] at h
    split at h
    · exact (hR pc w ls H locs hw).2.2 hdg hck h
    · exact h.elim
  case getfield i =>
    have hd := hn.resolve_left (by intro z; cases z)
    subst hd
    replace h := ab_pR_of h
    obtain ⟨q, S', rfl, h⟩ := h
    obtain ⟨ci, k, Cn, T, N, rfl, hc, hk, hlink⟩ := hck
    dsimp only [List.headD, List.tail] at h
    split at h
    · rename_i hf
      obtain ⟨fs, e1, e2⟩ := ab_fld_of hf
      refine va_get (v := .int (Int32.ofInt (w q (k : Int)))) hx hb hts (ab_lay ci Cn T N hc) hown hKK hP q (ab_ws_get e1) hc k hk (hts _ hlink) (fun _ z => z) (by rw [List.getElem?_mapIdx, e2]; rfl) hdg ?_
      exact hK rfl _ _ _ h ls H locs hl (ab_cons_ok (show ab_r32 (w q (k : Int)) from (hok q _).2 (by unfold ab_arr; rw [e1])) (ab_tail_ok hS)) hw
    · rename_i j hf
      obtain ⟨fs, e1, e2⟩ := ab_fld_of hf
      refine va_get (v := .ref (ad j)) hx hb hts (ab_lay ci Cn T N hc) hown hKK hP q (ab_ws_get e1) hc k hk (hts _ hlink) (fun _ z => z) (by rw [List.getElem?_mapIdx, e2]; rfl) hdg ?_
      exact hK rfl _ _ _ h ls H locs hl (ab_cons_ok (v := vR j) trivial (ab_tail_ok hS)) hw
    · exact h.elim
  case putfield i =>
    have hd := hn.resolve_left (by intro z; cases z)
    subst hd
    dsimp only [ab_wp] at h
    split at h
    · rename_i x q S'
      obtain ⟨ci, k, b, Cn, T, N, rfl, hc, hk, hlink, hfin, hty⟩ := hck
      dsimp only [List.headD, List.tail] at h
      obtain ⟨hf, hbo, h⟩ := h
      obtain ⟨fs, e1, e2⟩ := ab_fld_of hf
      obtain ⟨ty0, ht0, hnm⟩ := ab_typ ci Cn T N hc
      have hxr : ab_r32 x := hS _ List.mem_cons_self
      have hnum : ∃ ty, parseFieldDescriptor (T k).2.2.1 = some ty ∧ narrow ty (.int (Int32.ofInt x)) = .int (Int32.ofInt x) ∧ fits ty (.int (Int32.ofInt x)) = true := by
        rcases hty with ⟨rfl, hty⟩ | ⟨rfl, hty⟩
        · rw [hty]
          exact ⟨.int, by decide +kernel, vp_nar_int _, rfl⟩
        · rw [hty]
          refine ⟨.boolean, by decide +kernel, ?_⟩
          rcases hbo rfl with rfl | rfl <;> exact ⟨by decide +kernel, by decide +kernel⟩
      obtain ⟨ty, hd1, hd2, hd3⟩ := hnum
      refine va_put hx hb hts (ab_lay ci Cn T N hc) ty0 ht0 hnm hown hKK hP hD hSS q (ab_ws_get e1) hc k hk (hts _ hlink) (fun _ z => z) hfin hd1 hd2 hd3 (by rw [List.length_mapIdx]; exact (List.getElem?_eq_some_iff.mp e2).1) hdg (fun H1 locs1 hP1 hD1 hS1 => ?_)
      have he : (ab_ws ad cA w).set q (ad q, .inr (ci, (fs.mapIdx (ab_fv ad w q)).set k (.int (Int32.ofInt x)))) = ab_ws ad cA (ab_up w q (k : Int) x) := ab_ws_set e1 (by rw [ab_fv_set e2]; rfl) (fun j hj => ab_up_ne hj)
      have hP2 : va_P D ab_cl (ab_ws ad cA (ab_up w q (k : Int) x)) H1 := by rw [← he]; exact hP1
      exact hK rfl _ _ _ h ls H1 locs1 hl (ab_tail_ok (ab_tail_ok hS)) (ab_rel_up (ab_shp_69 e1) hro (ab_okW_up hok (ab_r3264 hxr) (fun _ => hxr)) hP2 hS1)
    · exact h.elim
  case getstatic i =>
    have hd := hn.resolve_left (by intro z; cases z)
    subst hd
    refine va_gets (v := .ref (ad 100)) hx hb hX.2.2.2.2.2.2.1 hSS hown (hts _ hck) (fun _ z => z) hdg ?_
    exact hK rfl _ _ _ h ls H locs hl (ab_cons_ok (v := vR 100) trivial hS) hw
  case iaload =>
    have hd := hn.resolve_left (by intro z; cases z)
    subst hd
    replace h := ab_pIR_of h
    obtain ⟨q, i, S', rfl, h⟩ := h
    have hir : ab_r32 i := hS _ List.mem_cons_self
    split at h
    · rename_i n' hf
      obtain ⟨⟨hi0, hin⟩, h⟩ := h
      have hcl := ab_clamp hir
      rcases ab_ild_of hf with hf | hf
      · obtain ⟨rs, e1⟩ := ab_arr_of hf
        refine va_iald hx hb hKK hP q 0 (ab_ws_get e1) rfl (ab_in hir hi0 hin) hdg ?_
        rw [hcl, Int.toNat_of_nonneg hi0]
        exact hK rfl _ _ _ h ls H locs hl (ab_cons_ok (show ab_r32 (w q i) from (hok q _).2 (by unfold ab_arr; rw [e1]; rfl)) (ab_tail_ok (ab_tail_ok hS))) hw
      · rcases ab_ro_of hf with ⟨rfl, rfl⟩ | ⟨rfl, rfl⟩
        · refine va_sld hx hb hX.1 hX.2.1 hX.2.2.1 hSS (ab_in hir hi0 hin) hdg ?_
          rw [hcl, Int.toNat_of_nonneg hi0, ← hro 100 (by omega)]
          exact hK rfl _ _ _ h ls H locs hl (ab_cons_ok (show ab_r32 (w 100 i) from (hok 100 _).2 rfl) (ab_tail_ok (ab_tail_ok hS))) hw
        · refine va_sld hx hb hX.2.2.2.1 hX.2.2.2.2.1 hX.2.2.2.2.2.1 hSS (ab_in hir hi0 hin) hdg ?_
          rw [hcl, Int.toNat_of_nonneg hi0, ← hro 101 (by omega)]
          exact hK rfl _ _ _ h ls H locs hl (ab_cons_ok (show ab_r32 (w 101 i) from (hok 101 _).2 rfl) (ab_tail_ok (ab_tail_ok hS))) hw
    · exact h.elim
  case laload =>
    have hd := hn.resolve_left (by intro z; cases z)
    subst hd
    replace h := ab_pIR_of h
    obtain ⟨q, i, S', rfl, h⟩ := h
    have hir : ab_r32 i := hS _ List.mem_cons_self
    split at h
    · rename_i n' hf
      obtain ⟨⟨hi0, hin⟩, h⟩ := h
      have hcl := ab_clamp hir
      obtain ⟨rs, e1⟩ := ab_arr_of hf
      refine va_lald hx hb hKK hP q 1 (ab_ws_get e1) rfl (ab_in hir hi0 hin) hdg ?_
      rw [hcl, Int.toNat_of_nonneg hi0]
      exact hK rfl _ _ _ h ls H locs hl (ab_cons_ok (show ab_r64 (w q i) from (hok q _).1) (ab_tail_ok (ab_tail_ok hS))) hw
    · exact h.elim
  case baload =>
    have hd := hn.resolve_left (by intro z; cases z)
    subst hd
    replace h := ab_pIR_of h
    obtain ⟨q, i, S', rfl, h⟩ := h
    have hir : ab_r32 i := hS _ List.mem_cons_self
    split at h
    · rename_i n' hf
      obtain ⟨⟨hi0, hin⟩, h⟩ := h
      have hcl := ab_clamp hir
      obtain ⟨rs, e1⟩ := ab_arr_of hf
      refine va_zald hx hb hKK hP q 2 (ab_ws_get e1) rfl (ab_in hir hi0 hin) hdg ?_
      rw [hcl, Int.toNat_of_nonneg hi0]
      exact hK rfl _ _ _ h ls H locs hl (ab_cons_ok (show ab_r32 (w q i) from (hok q _).2 (by unfold ab_arr; rw [e1]; rfl)) (ab_tail_ok (ab_tail_ok hS))) hw
    · exact h.elim
  case aaload =>
    have hd := hn.resolve_left (by intro z; cases z)
    subst hd
    replace h := ab_pIR_of h
    obtain ⟨q, i, S', rfl, h⟩ := h
    have hir : ab_r32 i := hS _ List.mem_cons_self
    split at h
    · rename_i rs hf
      split at h
      · rename_i r hr
        obtain ⟨hi0, h⟩ := h
        have hcl := ab_clamp hir
        obtain ⟨n', e1⟩ := ab_refs_of hf
        have hlen := ab_refs_len hf e1
        refine va_aldq (C := RX1) hx hb hKK hP q 3 (ab_ws_get e1) rfl (ab_in hir hi0 (by have := (List.getElem?_eq_some_iff.mp hr).1; omega)) hdg ?_
        rw [hcl, hr]
        exact hK rfl _ _ _ h ls H locs hl (ab_cons_ok (v := vR r) trivial (ab_tail_ok (ab_tail_ok hS))) hw
      · exact h.elim
    · exact h.elim
  case iastore =>
    have hd := hn.resolve_left (by intro z; cases z)
    subst hd
    dsimp only [ab_wp] at h
    split at h
    · rename_i x i q S'
      split at h
      · rename_i n' hf
        obtain ⟨⟨hi0, hin⟩, h⟩ := h
        have hxr : ab_r32 x := hS _ List.mem_cons_self
        have hir : ab_r32 i := hS _ (List.mem_cons_of_mem _ List.mem_cons_self)
        have hcl := ab_clamp hir
        obtain ⟨rs, e1⟩ := ab_arr_of hf
        refine va_iast hx hb hKK hP hD hSS q 0 (ab_ws_get e1) rfl (ab_in hir hi0 hin) hdg (fun H1 locs1 hP1 hD1 hS1 => ?_)
        have he : (ab_ws ad cA w).set q (ad q, .inl (cA 0, n', .inl (upd (fun i => Int32.ofInt (w q (i : Int))) (Int32.ofInt i).toNatClampNeg (Int32.ofInt x)))) = ab_ws ad cA (ab_up w q i x) := by
          refine ab_ws_set e1 ?_ (fun j hj => ab_up_ne hj)
          rw [hcl]
          dsimp only [ab_cell]
          congr 4
          funext j
          by_cases hj : j = i.toNat
          · have hj2 : (j : Int) = i := by omega
            simp [upd, ab_up, hj, Int.toNat_of_nonneg hi0]
          · have hj2 : ¬ (j : Int) = i := by omega
            simp [upd, ab_up, hj, hj2]
        rw [he] at hP1
        exact hK rfl _ _ _ h ls H1 locs1 hl (ab_tail_ok (ab_tail_ok (ab_tail_ok hS))) (ab_rel_up (ab_shp_69 e1) hro (ab_okW_up hok (ab_r3264 hxr) (fun _ => hxr)) hP1 hS1)
      · exact h.elim
    · exact h.elim
  case lastore =>
    have hd := hn.resolve_left (by intro z; cases z)
    subst hd
    dsimp only [ab_wp] at h
    split at h
    · rename_i x i q S'
      split at h
      · rename_i n' hf
        obtain ⟨⟨hi0, hin⟩, h⟩ := h
        have hxr : ab_r64 x := hS _ List.mem_cons_self
        have hir : ab_r32 i := hS _ (List.mem_cons_of_mem _ List.mem_cons_self)
        have hcl := ab_clamp hir
        obtain ⟨rs, e1⟩ := ab_arr_of hf
        refine va_last hx hb hKK hP hD hSS q 1 (ab_ws_get e1) rfl (ab_in hir hi0 hin) hdg (fun H1 locs1 hP1 hD1 hS1 => ?_)
        have he : (ab_ws ad cA w).set q (ad q, .inl (cA 1, n', .inr (.inl (vp_updL (fun i => Int64.ofInt (w q (i : Int))) (Int32.ofInt i).toNatClampNeg (Int64.ofInt x))))) = ab_ws ad cA (ab_up w q i x) := by
          refine ab_ws_set e1 ?_ (fun j hj => ab_up_ne hj)
          rw [hcl]
          dsimp only [ab_cell]
          congr 5
          funext j
          by_cases hj : j = i.toNat
          · have hj2 : (j : Int) = i := by omega
            simp [vp_updL, ab_up, hj, Int.toNat_of_nonneg hi0]
          · have hj2 : ¬ (j : Int) = i := by omega
            simp [vp_updL, ab_up, hj, hj2]
        rw [he] at hP1
        exact hK rfl _ _ _ h ls H1 locs1 hl (ab_tail_ok (ab_tail_ok (ab_tail_ok hS))) (ab_rel_up (ab_shp_69 e1) hro (ab_okW_up hok hxr (fun z => by unfold ab_arr at z; rw [e1] at z; cases z)) hP1 hS1)
      · exact h.elim
    · exact h.elim
  case bastore =>
    have hd := hn.resolve_left (by intro z; cases z)
    subst hd
    dsimp only [ab_wp] at h
    split at h
    · rename_i x i q S'
      split at h
      · rename_i n' hf
        obtain ⟨⟨hi0, hin⟩, hbo, h⟩ := h
        have hxr : ab_r32 x := hS _ List.mem_cons_self
        have hir : ab_r32 i := hS _ (List.mem_cons_of_mem _ List.mem_cons_self)
        have hcl := ab_clamp hir
        obtain ⟨rs, e1⟩ := ab_arr_of hf
        refine va_zast hx hb hKK hP hD hSS q 2 (ab_ws_get e1) rfl (ab_in hir hi0 hin) hdg (fun H1 locs1 hP1 hD1 hS1 => ?_)
        have he : (ab_ws ad cA w).set q (ad q, .inl (cA 2, n', .inl (upd (fun i => Int32.ofInt (w q (i : Int))) (Int32.ofInt i).toNatClampNeg (vp_nar .boolean (Int32.ofInt x))))) = ab_ws ad cA (ab_up w q i x) := by
          refine ab_ws_set e1 ?_ (fun j hj => ab_up_ne hj)
          rw [show vp_nar .boolean (Int32.ofInt x) = Int32.ofInt x from by rcases hbo with rfl | rfl <;> decide +kernel]; rw [hcl]
          dsimp only [ab_cell]
          congr 4
          funext j
          by_cases hj : j = i.toNat
          · have hj2 : (j : Int) = i := by omega
            simp [upd, ab_up, hj, Int.toNat_of_nonneg hi0]
          · have hj2 : ¬ (j : Int) = i := by omega
            simp [upd, ab_up, hj, hj2]
        rw [he] at hP1
        exact hK rfl _ _ _ h ls H1 locs1 hl (ab_tail_ok (ab_tail_ok (ab_tail_ok hS))) (ab_rel_up (ab_shp_69 e1) hro (ab_okW_up hok (ab_r3264 hxr) (fun _ => hxr)) hP1 hS1)
      · exact h.elim
    · exact h.elim
  case arraylength =>
    have hd := hn.resolve_left (by intro z; cases z)
    subst hd
    replace h := ab_pR_of h
    obtain ⟨q, S', rfl, h⟩ := h
    split at h
    · rename_i n' hf
      rcases ab_len_of hf with ⟨kd, rs, e1⟩ | hf
      · have hsm := ab_shp_small q kd n' rs e1
        have hgo : W p l e R s m args below meth c H locs cells slots Q (F0 m (pc + 1) ls (.int (Int32.ofInt (n' : Int)) :: S'.map (ab_c ad))) := hK rfl _ _ _ h ls H locs hl (ab_cons_ok (show ab_r32 (n' : Int) from ⟨by omega, by omega⟩) (ab_tail_ok hS)) hw
        match kd, e1 with
        | 0, e1 => exact va_alen hx hb hKK hP q 0 (ab_ws_get e1) (ty := .int) rfl (ab_ofNat n') hdg hgo
        | 1, e1 => exact va_alen hx hb hKK hP q 1 (ab_ws_get e1) (ty := .long) rfl (ab_ofNat n') hdg hgo
        | 2, e1 => exact va_alen hx hb hKK hP q 2 (ab_ws_get e1) (ty := .boolean) rfl (ab_ofNat n') hdg hgo
        | kd + 3, e1 => exact va_alen hx hb hKK hP q 3 (ab_ws_get e1) (ty := .object RX1) rfl (ab_ofNat n') hdg hgo
      · have hLs := hX.2.2.2.2.2.2.2
        rcases ab_ro_of hf with ⟨rfl, rfl⟩ | ⟨rfl, rfl⟩
        · refine va_slen hx hb hX.1 hX.2.1 hX.2.2.1 hSS hdg (ab_ti2 (ab_ofNat 5) ?_)
          exact hK rfl _ _ _ h ls H locs hl (ab_cons_ok (show ab_r32 ((5 : Nat) : Int) from ⟨by omega, by omega⟩) (ab_tail_ok hS)) hw
        · refine va_slen hx hb hX.2.2.2.1 hX.2.2.2.2.1 hX.2.2.2.2.2.1 hSS hdg (ab_ti2 (ab_ofNat _) ?_)
          exact hK rfl _ _ _ h ls H locs hl (ab_cons_ok (show ab_r32 ((n' : Nat) : Int) from ⟨by omega, by omega⟩) (ab_tail_ok hS)) hw
    · exact h.elim
  case invokevirtual i =>
    have hd := hn.resolve_left (by intro z; cases z)
    subst hd
    obtain ⟨k, n', ci, r, q, rfl, hmt, hst, rfl, hlink, hc, hq⟩ := hck
    dsimp only [ab_wp, ab_call] at h
    split at h
    · rename_i as S' htk
      obtain ⟨hrc, hfew, h⟩ := h
      obtain ⟨bs, hb1, hb2, rfl⟩ := ab_tk_of _ _ _ _ _ htk
      rw [List.append_nil] at hb2
      have hokA : ∀ v ∈ as, ab_ok v := fun v hv => hS v (List.mem_append_left _ (by rw [hb2] at hv; exact List.mem_reverse.mp hv))
      have hokS : ∀ v ∈ S', ab_ok v := fun v hv => hS v (List.mem_append_right _ hv)
      obtain ⟨⟨hR1, hR2, hR3, hR4⟩, hM⟩ := hC _ _ _ _ h
      obtain ⟨⟨m1, m2, m3, m4, m5, m6, m7⟩, hM⟩ := hM hokA r hmt
      obtain ⟨m8, m9⟩ := m7 hst
      replace hrc := ab_rc_of (hrc rfl)
      obtain ⟨pl, as', rfl, hrc⟩ := hrc
      · obtain ⟨fs, e1⟩ := ab_ci_of hrc
        have hcb : CallW R s args own r.1.cls i r.1 r.2.1 r.2.2.1 r.2.2.2.1 (ab_cw r :: ab_TB) rm 0 0 r.2.2.2.2.1 := ⟨callB_of r.2.2.2.2.1 hts (ab_goodTB m1) rfl hR3 hR4 (hts _ m2) (hts _ hlink) m3 ⟨hR1, by omega⟩, hts _ m8, hts _ m9⟩
        have hbs : bs = as'.reverse ++ [vR pl] := by
          have := congrArg List.reverse hb2
          simpa using this.symm
        have hrec := va_recv hKK hP hc (ab_ws_get e1)
        rw [hq] at hrec
        refine ab_behind (S := S') (va_runV (As := as'.map (ab_c ad)) (b := ad pl) ⟨hx, hb, hml, hown, hts⟩ (hM H.size) hcb ⟨ab_Pc_blind, hrec, ab_pre hKK hinj hX hw⟩ rfl (by rw [List.length_map]; have := congrArg List.length hbs; simp at this; omega) hl.2.1.1 (by subst hbs; show List.map _ _ = _; simp [ab_c]) (lv_room (ab_few_of hfew)) hdg ⟨hcs.1, hcs.2⟩) hSS (fun r1 w1 H1 locs1 hpost hok1 hP1 hW1 hro1 hS1 => ?_)
        refine hK rfl _ _ _ hpost ls H1 locs1 hl (fun v hv => ?_) ⟨hP1, hS1, fun p hp => (hro1 p hp).trans (hro p hp), hW1⟩
        cases r1 with
        | none => exact hokS v hv
        | some v1 =>
          rcases List.mem_cons.mp hv with rfl | hv
          · exact hok1 _ rfl
          · exact hokS v hv
    · exact h.elim
  case invokestatic i =>
    have hd := hn.resolve_left (by intro z; cases z)
    subst hd
    rcases hck with ⟨rfl, hlink⟩ | ⟨rfl, hlink⟩ | ⟨rfl, hlink⟩ | ⟨k, n', ci, r, rfl, hmt, hst, rfl, hlink⟩
    · dsimp only [ab_wp] at h
      rw [if_pos rfl] at h
      unfold ab_copy at h
      split at h
      · rename_i n1 dp q sp p0 S'
        obtain ⟨hfew, hc0, ⟨kd, a, b, hkd, ha, hb', h1, h2, h3, h4, h5⟩, h⟩ := h
        obtain ⟨⟨hR1, hR2, hR3, hR4⟩, -⟩ := hC _ _ _ _ hc0
        have hnr : ab_r32 n1 := hS _ List.mem_cons_self
        have hdr : ab_r32 dp := hS _ (List.mem_cons_of_mem _ List.mem_cons_self)
        have hsr : ab_r32 sp := hS _ (List.mem_cons_of_mem _ (List.mem_cons_of_mem _ (List.mem_cons_of_mem _ List.mem_cons_self)))
        have hokS : ∀ v ∈ S', ab_ok v := ab_tail_ok (ab_tail_ok (ab_tail_ok (ab_tail_ok (ab_tail_ok hS))))
        have nn : ∀ {y : Int}, ab_r32 y → 0 ≤ y → ¬ Int32.ofInt y < 0 := fun hy h0 z => by
          rw [ab_z32, ab_lt32 hy ab_r0] at z; omega
        have hwd : ((S'.map (ab_c ad)).map fun v => v.category).sum + (nativeFrameWords "java/lang/System" "arraycopy" 5 + 11) ≤ R.locals := by
          have := ab_few_of (ad := ad) hfew
          have e7 : nativeFrameWords "java/lang/System" "arraycopy" 5 = 7 := by decide +kernel
          omega
        have hsz : c.maxLocals = ls.size := hml.trans hl.2.1.1.symm
        have c1 := ab_clamp hnr
        have c2 := ab_clamp hdr
        have c3 := ab_clamp hsr
        obtain ⟨ws1, ws2, ws3⟩ := ab_sys
        have hcpW : ab_okW (ab_cp w p0 q sp dp n1) := by
          intro r j
          unfold ab_cp
          by_cases hr : r = q
          · subst hr
            rw [if_pos rfl]
            by_cases hj : dp ≤ j ∧ j < dp + n1
            · rw [if_pos hj]
              refine ⟨(hok p0 _).1, fun z => ?_⟩
              refine (hok p0 _).2 ?_
              rcases hkd with rfl | rfl
              · obtain ⟨rs, e1⟩ := ab_arr_of ha
                unfold ab_arr; rw [e1]; rfl
              · rw [hb'] at z; cases z
            · rw [if_neg hj]; exact hok r j
          · rw [if_neg hr]; exact hok r j
        rcases hkd with rfl | rfl
        · obtain ⟨rs, e1⟩ := ab_arr_of ha
          obtain ⟨rs2, e2⟩ := ab_arr_of hb'
          refine va_copyi (ty := .int) hx hb hsz hown (hts _ hlink) (hts _ ws1) (hts _ ws2) (hts _ ws3) hKK hP hD hSS p0 q 0 0 (ab_ws_get e1) (ab_ws_get e2) rfl rfl rfl (nn hsr h1) (nn hdr h2) (nn hnr h3) (by rw [c1, c3]; omega) (by rw [c1, c2]; omega) (fun _ _ => rfl) (by omega) hwd hdg (fun H1 locs1 hP1 hD1 hS1 => ?_)
          have he : (ab_ws ad cA w).set q (ad q, .inl (cA 0, b, .inl (va_cpy (fun i => Int32.ofInt (w p0 (i : Int))) (fun i => Int32.ofInt (w q (i : Int))) (Int32.ofInt sp).toNatClampNeg (Int32.ofInt dp).toNatClampNeg (Int32.ofInt n1).toNatClampNeg))) = ab_ws ad cA (ab_cp w p0 q sp dp n1) := by
            refine ab_ws_set e2 ?_ (fun j hj => ab_cp_ne hj)
            rw [c1, c2, c3]
            dsimp only [ab_cell]
            congr 4
            funext j
            unfold va_cpy ab_cp
            rw [if_pos rfl]
            by_cases hj : dp.toNat ≤ j ∧ j < dp.toNat + n1.toNat
            · rw [if_pos hj, if_pos (by omega), ← show ((sp.toNat + (j - dp.toNat) : Nat) : Int) = sp + ((j : Int) - dp) by omega]
            · rw [if_neg hj, if_neg (by omega)]
          rw [he] at hP1
          exact hK rfl _ _ _ h ls H1 locs1 hl hokS ⟨hP1, hS1, fun p hp => by rw [ab_cp_ne (by have := ab_shp_69 e2; omega)]; exact hro p hp, hcpW⟩
        · obtain ⟨rs, e1⟩ := ab_arr_of ha
          obtain ⟨rs2, e2⟩ := ab_arr_of hb'
          refine va_copyl (ty := .long) hx hb hsz hown (hts _ hlink) (hts _ ws1) (hts _ ws2) (hts _ ws3) hKK hP hD hSS p0 q 1 1 (ab_ws_get e1) (ab_ws_get e2) rfl rfl rfl (nn hsr h1) (nn hdr h2) (nn hnr h3) (by rw [c1, c3]; omega) (by rw [c1, c2]; omega) (fun _ _ => rfl) (by omega) hwd hdg (fun H1 locs1 hP1 hD1 hS1 => ?_)
          have he : (ab_ws ad cA w).set q (ad q, .inl (cA 1, b, .inr (.inl (va_cpy (fun i => Int64.ofInt (w p0 (i : Int))) (fun i => Int64.ofInt (w q (i : Int))) (Int32.ofInt sp).toNatClampNeg (Int32.ofInt dp).toNatClampNeg (Int32.ofInt n1).toNatClampNeg)))) = ab_ws ad cA (ab_cp w p0 q sp dp n1) := by
            refine ab_ws_set e2 ?_ (fun j hj => ab_cp_ne hj)
            rw [c1, c2, c3]
            dsimp only [ab_cell]
            congr 5
            funext j
            unfold va_cpy ab_cp
            rw [if_pos rfl]
            by_cases hj : dp.toNat ≤ j ∧ j < dp.toNat + n1.toNat
            · rw [if_pos hj, if_pos (by omega), ← show ((sp.toNat + (j - dp.toNat) : Nat) : Int) = sp + ((j : Int) - dp) by omega]
            · rw [if_neg hj, if_neg (by omega)]
          rw [he] at hP1
          exact hK rfl _ _ _ h ls H1 locs1 hl hokS ⟨hP1, hS1, fun p hp => by rw [ab_cp_ne (by have := ab_shp_69 e2; omega)]; exact hro p hp, hcpW⟩
      · exact h.elim
    · dsimp only [ab_wp] at h
      rw [if_neg (by simp), if_pos rfl] at h
      unfold ab_mm at h
      split at h
      · rename_i y x S'
        obtain ⟨hfew, hc0, h⟩ := h
        obtain ⟨⟨hR1, hR2, hR3, hR4⟩, -⟩ := hC _ _ _ _ hc0
        have hyr : ab_r32 y := hS _ List.mem_cons_self
        have hxr : ab_r32 x := hS _ (List.mem_cons_of_mem _ List.mem_cons_self)
        obtain ⟨z1, z2, z3, z4, z5⟩ := ab_mth
        refine va_mmax hx hb (hml.trans hl.2.1.1.symm) hown (hts _ hlink) (hts _ z1) (hts _ z3) (hts _ z4) (by omega) (by have := ab_few_of (ad := ad) hfew; omega) hcs.1 hcs.2 hdg (ab_ti2 (ab_mx32 hxr hyr) ?_)
        exact hK rfl _ _ _ h ls H locs hl (ab_cons_ok (ab_mxr hxr hyr) (ab_tail_ok (ab_tail_ok hS))) hw
      · exact h.elim
    · dsimp only [ab_wp] at h
      rw [if_neg (by simp), if_neg (by simp), if_pos rfl] at h
      unfold ab_mm at h
      split at h
      · rename_i y x S'
        obtain ⟨hfew, hc0, h⟩ := h
        obtain ⟨⟨hR1, hR2, hR3, hR4⟩, -⟩ := hC _ _ _ _ hc0
        have hyr : ab_r32 y := hS _ List.mem_cons_self
        have hxr : ab_r32 x := hS _ (List.mem_cons_of_mem _ List.mem_cons_self)
        obtain ⟨z1, z2, z3, z4, z5⟩ := ab_mth
        refine va_mmin hx hb (hml.trans hl.2.1.1.symm) hown (hts _ hlink) (hts _ z2) (hts _ z3) (hts _ z5) (by omega) (by have := ab_few_of (ad := ad) hfew; omega) hcs.1 hcs.2 hdg (ab_ti2 (ab_mn32 hxr hyr) ?_)
        exact hK rfl _ _ _ h ls H locs hl (ab_cons_ok (ab_mnr hxr hyr) (ab_tail_ok (ab_tail_ok hS))) hw
      · exact h.elim
    · dsimp only [ab_wp] at h
      rw [if_neg (by simp), if_neg (by simp), if_neg (by simp)] at h
      unfold ab_call at h
      dsimp only at h
      split at h
      · rename_i as S' htk
        obtain ⟨-, hfew, h⟩ := h
        obtain ⟨bs, hb1, hb2, rfl⟩ := ab_tk_of _ _ _ _ _ htk
        rw [List.append_nil] at hb2
        have hokA : ∀ v ∈ as, ab_ok v := fun v hv => hS v (List.mem_append_left _ (by rw [hb2] at hv; exact List.mem_reverse.mp hv))
        have hokS : ∀ v ∈ S', ab_ok v := fun v hv => hS v (List.mem_append_right _ hv)
        obtain ⟨⟨hR1, hR2, hR3, hR4⟩, hM⟩ := hC _ _ _ _ h
        obtain ⟨⟨m1, m2, m3, m4, m5, m6, m7⟩, hM⟩ := hM hokA r hmt
        have hcb : CallB R s args own i r.1 r.2.1 r.2.2.1 r.2.2.2.1 (ab_cw r :: ab_TB) rm 0 0 r.2.2.2.2.1 ∧ (Cond.static r.1).before args s = true := ⟨callB_of r.2.2.2.2.1 hts (ab_goodTB m1) rfl hR3 hR4 (hts _ m2) (hts _ hlink) m3 ⟨hR1, by omega⟩, hts _ (m6 hst)⟩
        have hbs : bs = as.reverse := by
          have := congrArg List.reverse hb2
          simpa using this.symm
        refine ab_behind (S := S') (va_runS (As := as.map (ab_c ad)) ⟨hx, hb, hml, hown, hts⟩ (hM H.size) hcb ⟨ab_Pc_blind, ab_pre hKK hinj hX hw⟩ rfl (by rw [List.length_map]; have := congrArg List.length hbs; simp at this; omega) hl.2.1.1 (by subst hbs; show List.map _ _ = _; simp) (lv_room (ab_few_of hfew)) hdg ⟨hcs.1, hcs.2⟩) hSS (fun r1 w1 H1 locs1 hpost hok1 hP1 hW1 hro1 hS1 => ?_)
        refine hK rfl _ _ _ hpost ls H1 locs1 hl (fun v hv => ?_) ⟨hP1, hS1, fun p hp => (hro1 p hp).trans (hro p hp), hW1⟩
        cases r1 with
        | none => exact hokS v hv
        | some v1 =>
          rcases List.mem_cons.mp hv with rfl | hv
          · exact hok1 _ rfl
          · exact hokS v hv
      · exact h.elim
end Step9
end
section
/-! blocks, bodies, methods -/
section Body10
variable {p : Program} {l : Launch} {e : Env} {R : Room} {s : State} {m : MethodId} {args : Array Value} {below : List Frame} {meth : Method} {c : Code} {Q : State → Prop} {cells slots : Nat} {cc : ByteArray} {own : String} {nL : Nat} {rt : Option FieldType}
variable {ad : Nat → Nat} {cA : Nat → ClassId} {D : va_G} {Ls : Nat} {w0 : ab_W} {mt : Nat → Option ab_M} {pcs : List Nat} {rm : Room}
variable {C : Nat → List ab_V → ab_W → (Option ab_V → ab_W → Prop) → Prop} {J : Nat → List ab_V → List ab_V → ab_W → Prop} {Rt : Option ab_V → ab_W → Prop}
theorem ab_blk (X : ab_ctx p s m args c cc nL own ad cA D Ls w0) (hcs : cells ≤ R.cells ∧ slots ≤ R.slots) (hC : ab_hC l R rm ad cA D Ls mt C) (hR : ab_hR p l e R s m args below meth c Q cells slots cc rt ad cA D w0 Rt)
    (hJ : ∀ (b t : Nat) (L S : List ab_V) (w : ab_W), pcs[b]? = some t → J b L S w → ab_G p l e R s m args below meth c Q cells slots ad cA D w0 nL t L S w) (nx : Nat) :
    ∀ (is : List ab_I) (pc : Nat) (L S : List ab_V) (w : ab_W), ab_ckb mt own cc rt nL pcs nx pc is → ab_wb Ls C J Rt nx is L S w → ab_G p l e R s m args below meth c Q cells slots ad cA D w0 nL pc L S w := by
  intro is
  induction is with
  | nil => exact fun pc L S w h1 h2 => hJ nx pc L S w h1 h2
  | cons i is ih =>
    intro pc L S w h1 h2
    obtain ⟨op, ex, z⟩ := i
    rcases h1 with h1 | ⟨n, hdg, hn, hck, hnext⟩
    · have h3 : ab_wp Ls C J Rt (ab_wb Ls C J Rt nx is) op ex z L S w := h2
      have h1 : op = .athrow := h1
      rw [h1] at h3
      exact h3.elim
    · refine ab_step X hcs hC hR (pcs := pcs) (mt := mt) (rt := rt) hJ (K := ab_wb Ls C J Rt nx is) (fun hst L S w hk => ?_) hdg hn hck h2
      rcases hnext with hs | hnext
      · have hs : ab_stop op = true := hs
        rw [hst] at hs; cases hs
      · exact ih _ L S w hnext hk
theorem ab_bdy (X : ab_ctx p s m args c cc nL own ad cA D Ls w0) (hcs : cells ≤ R.cells ∧ slots ≤ R.slots) (hC : ab_hC l R rm ad cA D Ls mt C) (hR : ab_hR p l e R s m args below meth c Q cells slots cc rt ad cA D w0 Rt) {bl : List (List ab_I)} (hck : ab_ckm mt own cc rt nL pcs bl) {b t : Nat} {L S : List ab_V} {w : ab_W} (hb : pcs[b]? = some t) (h : Ev Ls C Rt bl b L S w) : ab_G p l e R s m args below meth c Q cells slots ad cA D w0 nL t L S w := by
  refine h (fun b L S w => ∀ t, pcs[b]? = some t → ab_G p l e R s m args below meth c Q cells slots ad cA D w0 nL t L S w) ?_ t hb
  intro b L S w hat t ht
  unfold ab_at at hat
  split at hat
  · rename_i is hbl
    obtain ⟨pc, hpc, hckb⟩ := hck.2 b is hbl
    cases ht.symm.trans hpc
    exact ab_blk X hcs hC hR (fun b t L S w h1 h2 => h2 t h1) (b + 1) is t L S w hckb hat
  · exact hat.elim
end Body10
-- the locals at a method's entry
def ab_il : List ab_V → List ab_V
  | [] => []
  | .inr (.inl x) :: vs => vL x :: vX :: ab_il vs
  | .inl x :: vs => vI x :: ab_il vs
  | .inr (.inr x) :: vs => .inr (.inr x) :: ab_il vs
def ab_init (nL : Nat) (as : List ab_V) : List ab_V := ab_il as ++ List.replicate (nL - (ab_il as).length) vX
theorem ab_il_len (ad : Nat → Nat) : ∀ as : List ab_V, (lg_sl (as.map (ab_c ad))).length = (ab_il as).length
  | [] => rfl
  | .inl x :: vs => by
    have e : lg_sl ((Sum.inl x :: vs : List ab_V).map (ab_c ad)) = [Slot.val (.int (Int32.ofInt x))] ++ lg_sl (vs.map (ab_c ad)) := rfl
    rw [e, List.length_append, ab_il_len ad vs]
    show 1 + _ = (ab_il vs).length + 1
    omega
  | .inr (.inl x) :: vs => by
    have e : lg_sl ((Sum.inr (Sum.inl x) :: vs : List ab_V).map (ab_c ad)) = [Slot.val (.long (Int64.ofInt x)), Slot.second] ++ lg_sl (vs.map (ab_c ad)) := rfl
    rw [e, List.length_append, ab_il_len ad vs]
    show 2 + _ = (ab_il vs).length + 1 + 1
    omega
  | .inr (.inr (some x)) :: vs => by
    have e : lg_sl ((Sum.inr (Sum.inr (some x)) :: vs : List ab_V).map (ab_c ad)) = [Slot.val (.ref (ad x))] ++ lg_sl (vs.map (ab_c ad)) := rfl
    rw [e, List.length_append, ab_il_len ad vs]
    show 1 + _ = (ab_il vs).length + 1
    omega
  | .inr (.inr none) :: vs => by
    have e : lg_sl ((Sum.inr (Sum.inr none) :: vs : List ab_V).map (ab_c ad)) = [Slot.val .null] ++ lg_sl (vs.map (ab_c ad)) := rfl
    rw [e, List.length_append, ab_il_len ad vs]
    show 1 + _ = (ab_il vs).length + 1
    omega
theorem ab_il_mem (ad : Nat → Nat) : ∀ (as : List ab_V) (i k : Nat) (v : ab_V), (ab_il as)[k]? = some v → v ≠ vX → (i + k, ab_c ad v) ∈ lv_args i (as.map (ab_c ad))
  | [], i, k, v, h, _ => by simp [ab_il] at h
  | .inl x :: vs, i, 0, v, h, _ => by
    cases (Option.some.inj h)
    exact List.mem_cons_self
  | .inl x :: vs, i, k + 1, v, h, hv => by
    have := ab_il_mem ad vs (i + 1) k v h hv
    apply List.mem_cons_of_mem
    show (i + (k + 1), ab_c ad v) ∈ lv_args (if (Value.int (Int32.ofInt x)).category = 2 then i + 2 else i + 1) (vs.map (ab_c ad))
    rw [if_neg (by simp [Value.category]), show i + (k + 1) = i + 1 + k by omega]
    exact this
  | .inr (.inl x) :: vs, i, 0, v, h, _ => by
    cases (Option.some.inj h)
    exact List.mem_cons_self
  | .inr (.inl x) :: vs, i, 1, v, h, hv => absurd (Option.some.inj h).symm hv
  | .inr (.inl x) :: vs, i, k + 2, v, h, hv => by
    have := ab_il_mem ad vs (i + 2) k v h hv
    apply List.mem_cons_of_mem
    show (i + (k + 2), ab_c ad v) ∈ lv_args (if (Value.long (Int64.ofInt x)).category = 2 then i + 2 else i + 1) (vs.map (ab_c ad))
    rw [if_pos (by simp [Value.category]), show i + (k + 2) = i + 2 + k by omega]
    exact this
  | .inr (.inr (some x)) :: vs, i, 0, v, h, _ => by
    cases (Option.some.inj h)
    exact List.mem_cons_self
  | .inr (.inr (some x)) :: vs, i, k + 1, v, h, hv => by
    have := ab_il_mem ad vs (i + 1) k v h hv
    apply List.mem_cons_of_mem
    show (i + (k + 1), ab_c ad v) ∈ lv_args (if (Value.ref (ad x)).category = 2 then i + 2 else i + 1) (vs.map (ab_c ad))
    rw [if_neg (by simp [Value.category]), show i + (k + 1) = i + 1 + k by omega]
    exact this
  | .inr (.inr none) :: vs, i, 0, v, h, hv => absurd (Option.some.inj h).symm hv
  | .inr (.inr none) :: vs, i, k + 1, v, h, hv => by
    have := ab_il_mem ad vs (i + 1) k v h hv
    apply List.mem_cons_of_mem
    show (i + (k + 1), ab_c ad v) ∈ lv_args (if (Value.null).category = 2 then i + 2 else i + 1) (vs.map (ab_c ad))
    rw [if_neg (by simp [Value.category]), show i + (k + 1) = i + 1 + k by omega]
    exact this
theorem ab_il_ok : ∀ (as : List ab_V), (∀ v ∈ as, ab_ok v) → ∀ v ∈ ab_il as, ab_ok v
  | [], _, v, h => by simp [ab_il] at h
  | .inl x :: vs, ha, v, h => by
    rcases List.mem_cons.mp h with rfl | h
    · exact ha _ List.mem_cons_self
    · exact ab_il_ok vs (ab_tail_ok ha) v h
  | .inr (.inl x) :: vs, ha, v, h => by
    rcases List.mem_cons.mp h with rfl | h
    · exact ha _ List.mem_cons_self
    · rcases List.mem_cons.mp h with rfl | h
      · trivial
      · exact ab_il_ok vs (ab_tail_ok ha) v h
  | .inr (.inr x) :: vs, ha, v, h => by
    rcases List.mem_cons.mp h with rfl | h
    · trivial
    · exact ab_il_ok vs (ab_tail_ok ha) v h
theorem ab_entry {ad : Nat → Nat} {nL : Nat} {as : List ab_V} (hlen : (ab_il as).length ≤ nL) (hok : ∀ v ∈ as, ab_ok v) : ab_lr ad nL (ab_init nL as) (lg_sl (as.map (ab_c ad)) ++ List.replicate (nL - (lg_sl (as.map (ab_c ad))).length) Slot.unset).toArray := by
  have hl := lv_entry (as.map (ab_c ad)) (n := nL) (by rw [ab_il_len]; exact hlen)
  refine ⟨by unfold ab_init; rw [List.length_append, List.length_replicate]; omega, ⟨hl.1, hl.2.1, fun q hq => ?_⟩, fun v hv => ?_⟩
  · obtain ⟨v, e1, e2, e3⟩ := ab_lp_mem.mp hq
    unfold ab_init at e1
    by_cases hk : q.1 < (ab_il as).length
    · rw [List.getElem?_append_left hk] at e1
      have := ab_il_mem ad as 0 q.1 v e1 e2
      rw [Nat.zero_add, ← e3] at this
      exact hl.2.2 q this
    · rw [List.getElem?_append_right (by omega)] at e1
      exact absurd (List.eq_of_mem_replicate (List.mem_of_getElem? e1)) e2
  · unfold ab_init at hv
    rcases List.mem_append.mp hv with hv | hv
    · exact ab_il_ok as hok v hv
    · rw [List.eq_of_mem_replicate hv]
      trivial
def ab_rm (d : Nat) : Room := { frames := d, cells := 0, slots := 0, locals := 42 * d }
/-- a method's body, read by the abstract machine, gives its contract -/
theorem ab_met {l : Launch} {ad : Nat → Nat} {cA : Nat → ClassId} {D : va_G} {Ls : Nat} {mt : Nat → Option ab_M} {C : Nat → List ab_V → ab_W → (Option ab_V → ab_W → Prop) → Prop} {d : Nat} {rm : Room} {r : ab_M} {pcs : List Nat} {bl : List (List ab_I)} {as : List ab_V} {w : ab_W} {post : Option ab_V → ab_W → Prop}
    (hC : ab_hC l (ab_rm d) rm ad cA D Ls mt C) (hm : ab_mok r) (hck : ab_ckm mt r.1.cls r.2.1 r.2.2.2.1 r.2.2.1 pcs bl) (hlen : (ab_il as).length ≤ r.2.2.1) (hokA : ∀ v ∈ as, ab_ok v) (h : Ev Ls C post bl 0 (ab_init r.2.2.1 as) [] w) (sz : Nat) :
    Met l r.1 (ab_cw r :: ab_TB) (ab_rm d) (ab_Pc ad cA D Ls as w sz) (ab_Qc ad cA D w sz post) 0 0 (ab_A ad sz) := by
  refine Met.ofW (cc := r.2.1) (maxL := r.2.2.1) (ret := r.2.2.2.1) hm.2.2.2.2.1 rfl ?_
  intro p e s m args below meth c s₁ B hml hv
  obtain ⟨rfl, hsz, hP, hK, hinj, hok, hX⟩ := hv
  have hx := B.exec
  have hb := B.bytes
  have hr := B.returns
  have hts := atoms_spec (ws := ab_cw r :: ab_TB) B.pre
  have hown : s.vm.findClass r.1.cls = some m.cls := findClass_of_methodNamed B.named
  have hlocks := B.notSynchronized
  subst hsz
  rw [lg_entry_eq]
  have hctx : ab_ctx p s m (as.map (ab_c ad)).toArray c r.2.1 r.2.2.1 r.1.cls ad cA D Ls w := ⟨hx, hb, hml, hown, fun w hw => hts w (List.mem_cons_of_mem _ hw), hK, hinj, hX⟩
  refine ab_bdy (rm := rm) (mt := mt) (rt := r.2.2.2.1) (pcs := pcs) (bl := bl) (L := ab_init r.2.2.1 as) (S := []) (w := w) (C := C) (Rt := post) hctx ⟨Nat.zero_le _, Nat.zero_le _⟩ hC ?_ hck hck.1 h _ _ _ (ab_entry hlen hokA) (fun v hv => by cases hv) ⟨hP, va_S.rf, fun _ _ => rfl, hok⟩
  intro pc w' ls H locs hw
  obtain ⟨hP', hS', hro', hok'⟩ := hw
  refine ⟨fun ex x hdg hrt hpost hxr hbo => ?_, fun x hdg hrt hpost hxr => ?_, fun hdg hrt hpost => ?_⟩
  · have hn : ∃ ty, r.2.2.2.1 = some ty ∧ narrow ty (.int (Int32.ofInt x)) = .int (Int32.ofInt x) := by
      rcases hrt with ⟨h1, h2⟩ | ⟨h1, h2⟩
      · exact ⟨.int, h1, vp_nar_int _⟩
      · refine ⟨.boolean, h1, ?_⟩
        rcases hbo h2 with rfl | rfl <;> decide +kernel
    obtain ⟨ty, h1, h2⟩ := hn
    exact W.zret hx hb (hr.trans h1) h2 (fun t ht hW => ⟨⟨some (vI x), w', rfl, hpost, fun v hv => by cases hv; exact hxr, by rw [ht]; exact hP', hok', hro'⟩, hS'.F ht⟩) hS'.2.2 hdg
  · exact W.lret hx hb (hr.trans hrt) (fun t ht hW => ⟨⟨some (vL x), w', rfl, hpost, fun v hv => by cases hv; exact hxr, by rw [ht]; exact hP', hok', hro'⟩, hS'.F ht⟩) hS'.2.2 hdg
  · exact W.vret hx hb (hr.trans hrt) (fun t ht hW => ⟨⟨none, w', rfl, hpost, fun v hv => (by cases hv), by rw [ht]; exact hP', hok', hro'⟩, hS'.F ht⟩) hS'.2.2 hdg
/-- a method by its number, its calls at most d deep -/
def ab_Sm (Ls : Nat) (mt : Nat → Option ab_M) (bd : Nat → Option (List Nat × List (List ab_I))) : Nat → Nat → List ab_V → ab_W → (Option ab_V → ab_W → Prop) → Prop
  | 0, _, _, _, _ => False
  | d + 1, k, as, w, post => match mt k, bd k with
    | some r, some b => (ab_il as).length ≤ r.2.2.1 ∧ Ev Ls (ab_Sm Ls mt bd d) post b.2 0 (ab_init r.2.2.1 as) [] w
    | _, _ => k = 999 ∧ post none w
theorem ab_Sm_mono {Ls : Nat} {mt : Nat → Option ab_M} {bd : Nat → Option (List Nat × List (List ab_I))} : ∀ d, ab_Cm (ab_Sm Ls mt bd d)
  | 0, _, _, _, _, _, _, h => h
  | d + 1, k, as, w, q, q', hq, h => by
    unfold ab_Sm at h ⊢
    split at h
    · exact ⟨h.1, h.2.mono (ab_Sm_mono d) hq⟩
    · exact ⟨h.1, hq _ _ h.2⟩
theorem ab_snd {l : Launch} {ad : Nat → Nat} {cA : Nat → ClassId} {D : va_G} {Ls : Nat} {mt : Nat → Option ab_M} {bd : Nat → Option (List Nat × List (List ab_I))} (hok : ∀ k r b, mt k = some r → bd k = some b → ab_mok r ∧ ab_ckm mt r.1.cls r.2.1 r.2.2.2.1 r.2.2.1 b.1 b.2) (hbd : ∀ k r, mt k = some r → ∃ b, bd k = some b) :
    ∀ d, ab_hC l (ab_rm (d + 1)) (ab_rm d) ad cA D Ls mt (ab_Sm Ls mt bd (d + 1)) ∧ ab_hC l (ab_rm d) (ab_rm (d - 1)) ad cA D Ls mt (ab_Sm Ls mt bd d) := by
  intro d
  induction d with
  | zero =>
    have h0 : ab_hC l (ab_rm 0) (ab_rm (0 - 1)) ad cA D Ls mt (ab_Sm Ls mt bd 0) := fun k as w post h => h.elim
    refine ⟨fun k as w post h => ⟨⟨Nat.le_refl _, Nat.le_refl _, rfl, rfl⟩, fun hokA r hr => ?_⟩, h0⟩
    obtain ⟨b, hb⟩ := hbd k r hr
    obtain ⟨h1, h2⟩ := hok k r b hr hb
    unfold ab_Sm at h
    rw [hr, hb] at h
    exact ⟨h1, fun sz => ab_met h0 h1 h2 h.1 hokA h.2 sz⟩
  | succ d ih =>
    refine ⟨fun k as w post h => ⟨⟨Nat.le_refl _, Nat.le_of_eq (by show 42 + 42 * (d + 1) = 42 * (d + 1 + 1); omega), rfl, rfl⟩, fun hokA r hr => ?_⟩, ih.1⟩
    obtain ⟨b, hb⟩ := hbd k r hr
    obtain ⟨h1, h2⟩ := hok k r b hr hb
    unfold ab_Sm at h
    rw [hr, hb] at h
    exact ⟨h1, fun sz => ab_met ih.1 h1 h2 h.1 hokA h.2 sz⟩
end
section
/-! THE PROGRAM as the abstract machine reads it: printed out of javac's bytecode by a program of mine (wip/whole/gentab.py, emit.py); that it is the bytecode is proved in the next part -/
-- 0: java/lang/Integer.bitCount(I)I
def mr_0 : ab_M := (yJ6_bitCount_0f7a4, prog_8_method_49_code, 1, some .int, 1, true)
def pc_0 : List Nat := [0]
def b_0_0 : List ab_I := [(.iload_n 0, [], 0), (.iload_n 0, [], 0), (.iconst 1, [], 0), (.iushr, [], 0), (.ldc_w 265, [], 1431655765), (.iand, [], 0), (.isub, [], 0), (.istore_n 0, [], 0), (.iload_n 0, [], 0), (.ldc_w 266, [], 858993459), (.iand, [], 0), (.iload_n 0, [], 0), (.iconst 2, [], 0), (.iushr, [], 0), (.ldc_w 266, [], 858993459), (.iand, [], 0), (.iadd, [], 0), (.istore_n 0, [], 0), (.iload_n 0, [], 0), (.iload_n 0, [], 0), (.iconst 4, [], 0), (.iushr, [], 0), (.iadd, [], 0), (.ldc_w 267, [], 252645135), (.iand, [], 0), (.istore_n 0, [], 0), (.iload_n 0, [], 0), (.iload_n 0, [], 0), (.bipush 8, [], 0), (.iushr, [], 0), (.iadd, [], 0), (.istore_n 0, [], 0), (.iload_n 0, [], 0), (.iload_n 0, [], 0), (.bipush 16, [], 0), (.iushr, [], 0), (.iadd, [], 0), (.istore_n 0, [], 0), (.iload_n 0, [], 0), (.bipush 63, [], 0), (.iand, [], 0), (.ireturn, [0], 0)]
def bk_0 : List (List ab_I) := [b_0_0]
-- 1: java/lang/Long.bitCount(J)I
def mr_1 : ab_M := (yJ13_bitCount_95d88, prog_9_method_50_code, 2, some .int, 1, true)
def pc_1 : List Nat := [0]
def b_1_0 : List ab_I := [(.lload_n 0, [], 0), (.lload_n 0, [], 0), (.iconst 1, [], 0), (.lushr, [], 0), (.ldc2_w 314, [], 6148914691236517205), (.land, [], 0), (.lsub, [], 0), (.lstore_n 0, [], 0), (.lload_n 0, [], 0), (.ldc2_w 316, [], 3689348814741910323), (.land, [], 0), (.lload_n 0, [], 0), (.iconst 2, [], 0), (.lushr, [], 0), (.ldc2_w 316, [], 3689348814741910323), (.land, [], 0), (.ladd, [], 0), (.lstore_n 0, [], 0), (.lload_n 0, [], 0), (.lload_n 0, [], 0), (.iconst 4, [], 0), (.lushr, [], 0), (.ladd, [], 0), (.ldc2_w 318, [], 1085102592571150095), (.land, [], 0), (.lstore_n 0, [], 0), (.lload_n 0, [], 0), (.lload_n 0, [], 0), (.bipush 8, [], 0), (.lushr, [], 0), (.ladd, [], 0), (.lstore_n 0, [], 0), (.lload_n 0, [], 0), (.lload_n 0, [], 0), (.bipush 16, [], 0), (.lushr, [], 0), (.ladd, [], 0), (.lstore_n 0, [], 0), (.lload_n 0, [], 0), (.lload_n 0, [], 0), (.bipush 32, [], 0), (.lushr, [], 0), (.ladd, [], 0), (.lstore_n 0, [], 0), (.lload_n 0, [], 0), (.l2i, [], 0), (.bipush 127, [], 0), (.iand, [], 0), (.ireturn, [0], 0)]
def bk_1 : List (List ab_I) := [b_1_0]
-- 2: java/util/Arrays.rangeCheck(III)V
def mr_2 : ab_M := (yJ7_rangeCheck_23922, prog_12_method_30_code, 3, none, 3, true)
def pc_2 : List Nat := [0, 5, 46, 50, 59, 64, 73]
def b_2_0 : List ab_I := [(.iload_n 1, [], 0), (.iload_n 2, [], 0), (.if_icmp .le 44, [2], 0)]
def b_2_1 : List ab_I := [(.athrow, [], 0)]
def b_2_2 : List ab_I := [(.iload_n 1, [], 0), (.ifCond .ge 12, [4], 0)]
def b_2_3 : List ab_I := [(.athrow, [], 0)]
def b_2_4 : List ab_I := [(.iload_n 2, [], 0), (.iload_n 0, [], 0), (.if_icmp .le 12, [6], 0)]
def b_2_5 : List ab_I := [(.athrow, [], 0)]
def b_2_6 : List ab_I := [(.return_, [], 0)]
def bk_2 : List (List ab_I) := [b_2_0, b_2_1, b_2_2, b_2_3, b_2_4, b_2_5, b_2_6]
-- 3: java/util/Arrays.fill([JJ)V
def mr_3 : ab_M := (yJ7_fill_d0a16, prog_12_method_101_code, 5, none, 2, true)
def pc_3 : List Nat := [0, 6, 22]
def b_3_0 : List ab_I := [(.iconst 0, [], 0), (.istore_n 3, [], 0), (.aload_n 0, [], 0), (.arraylength, [], 0), (.istore 4, [], 0)]
def b_3_1 : List ab_I := [(.iload_n 3, [], 0), (.iload 4, [], 0), (.if_icmp .ge 13, [2], 0), (.aload_n 0, [], 0), (.iload_n 3, [], 0), (.lload_n 1, [], 0), (.lastore, [], 0), (.iinc 3 1, [], 0), (.goto (-13), [1], 0)]
def b_3_2 : List ab_I := [(.return_, [], 0)]
def bk_3 : List (List ab_I) := [b_3_0, b_3_1, b_3_2]
-- 4: java/util/Arrays.fill([II)V
def mr_4 : ab_M := (yJ7_fill_53178, prog_12_method_103_code, 4, none, 2, true)
def pc_4 : List Nat := [0, 5, 20]
def b_4_0 : List ab_I := [(.iconst 0, [], 0), (.istore_n 2, [], 0), (.aload_n 0, [], 0), (.arraylength, [], 0), (.istore_n 3, [], 0)]
def b_4_1 : List ab_I := [(.iload_n 2, [], 0), (.iload_n 3, [], 0), (.if_icmp .ge 13, [2], 0), (.aload_n 0, [], 0), (.iload_n 2, [], 0), (.iload_n 1, [], 0), (.iastore, [], 0), (.iinc 2 1, [], 0), (.goto (-12), [1], 0)]
def b_4_2 : List ab_I := [(.return_, [], 0)]
def bk_4 : List (List ab_I) := [b_4_0, b_4_1, b_4_2]
-- 5: java/util/Arrays.fill([IIII)V
def mr_5 : ab_M := (yJ7_fill_fda19, prog_12_method_104_code, 5, none, 4, true)
def pc_5 : List Nat := [0, 10, 27]
def b_5_0 : List ab_I := [(.aload_n 0, [], 0), (.arraylength, [], 0), (.iload_n 1, [], 0), (.iload_n 2, [], 0), (.invokestatic 13, [2, 3, 0], 0), (.iload_n 1, [], 0), (.istore 4, [], 0)]
def b_5_1 : List ab_I := [(.iload 4, [], 0), (.iload_n 2, [], 0), (.if_icmp .ge 14, [2], 0), (.aload_n 0, [], 0), (.iload 4, [], 0), (.iload_n 3, [], 0), (.iastore, [], 0), (.iinc 4 1, [], 0), (.goto (-14), [1], 0)]
def b_5_2 : List ab_I := [(.return_, [], 0)]
def bk_5 : List (List ab_I) := [b_5_0, b_5_1, b_5_2]
-- 6: RelayRace$Race.takeText(LRelayRace$Text;)V
def mr_6 : ab_M := (yX0_takeText, prog_2_method_2_code, 5, none, 1, false)
def pc_6 : List Nat := [0, 21, 22, 27, 37, 96, 102]
def b_6_0 : List ab_I := [(.aload_n 0, [], 0), (.aload_n 1, [], 0), (.invokevirtual 38, [27, 1, 2], 0), (.iconst (-1), [], 0), (.if_icmp .ne 15, [1], 0), (.aload_n 1, [], 0), (.getfield 44, [2, 1], 0), (.iconst 1, [], 0), (.iadd, [], 0), (.bipush 9, [], 0), (.idiv, [], 0), (.goto 4, [2], 0)]
def b_6_1 : List ab_I := [(.iconst 0, [], 0)]
def b_6_2 : List ab_I := [(.putfield 28, [0, 5, 0], 0), (.iconst 0, [], 0), (.istore_n 2, [], 0)]
def b_6_3 : List ab_I := [(.iload_n 2, [], 0), (.aload_n 0, [], 0), (.getfield 28, [0, 5], 0), (.if_icmp .ge 70, [6], 0), (.iconst 0, [], 0), (.istore_n 3, [], 0)]
def b_6_4 : List ab_I := [(.iload_n 3, [], 0), (.iconst 4, [], 0), (.if_icmp .ge 57, [5], 0), (.iload_n 2, [], 0), (.bipush 9, [], 0), (.imul, [], 0), (.iconst 2, [], 0), (.iload_n 3, [], 0), (.imul, [], 0), (.iadd, [], 0), (.istore 4, [], 0), (.aload_n 0, [], 0), (.getfield 9, [0, 0], 0), (.iload_n 2, [], 0), (.iconst 4, [], 0), (.imul, [], 0), (.iload_n 3, [], 0), (.iadd, [], 0), (.aload_n 1, [], 0), (.iload 4, [], 0), (.invokevirtual 47, [29, 2, 2], 0), (.iastore, [], 0), (.aload_n 0, [], 0), (.getfield 15, [0, 1], 0), (.iload_n 2, [], 0), (.iconst 4, [], 0), (.imul, [], 0), (.iload_n 3, [], 0), (.iadd, [], 0), (.aload_n 1, [], 0), (.getfield 51, [2, 0], 0), (.iload 4, [], 0), (.iconst 1, [], 0), (.iadd, [], 0), (.iaload, [], 0), (.bipush 48, [], 0), (.isub, [], 0), (.iastore, [], 0), (.iinc 3 1, [], 0), (.goto (-56), [4], 0)]
def b_6_5 : List ab_I := [(.iinc 2 1, [], 0), (.goto (-72), [3], 0)]
def b_6_6 : List ab_I := [(.return_, [], 0)]
def bk_6 : List (List ab_I) := [b_6_0, b_6_1, b_6_2, b_6_3, b_6_4, b_6_5, b_6_6]
-- 7: RelayRace$Race.takeRace(LRelayRace$Race;)V
def mr_7 : ab_M := (yX0_takeRace, prog_2_method_3_code, 2, none, 1, false)
def pc_7 : List Nat := [0]
def b_7_0 : List ab_I := [(.aload_n 0, [], 0), (.aload_n 1, [], 0), (.getfield 28, [0, 5], 0), (.putfield 28, [0, 5, 0], 0), (.aload_n 0, [], 0), (.aload_n 1, [], 0), (.getfield 32, [0, 6], 0), (.putfield 32, [0, 6, 0], 0), (.aload_n 0, [], 0), (.aload_n 1, [], 0), (.getfield 35, [0, 7], 0), (.putfield 35, [0, 7, 0], 0), (.aload_n 1, [], 0), (.getfield 9, [0, 0], 0), (.iconst 0, [], 0), (.aload_n 0, [], 0), (.getfield 9, [0, 0], 0), (.iconst 0, [], 0), (.aload_n 0, [], 0), (.getfield 9, [0, 0], 0), (.arraylength, [], 0), (.invokestatic 54, [], 0), (.aload_n 1, [], 0), (.getfield 15, [0, 1], 0), (.iconst 0, [], 0), (.aload_n 0, [], 0), (.getfield 15, [0, 1], 0), (.iconst 0, [], 0), (.aload_n 0, [], 0), (.getfield 15, [0, 1], 0), (.arraylength, [], 0), (.invokestatic 54, [], 0), (.aload_n 1, [], 0), (.getfield 18, [0, 2], 0), (.iconst 0, [], 0), (.aload_n 0, [], 0), (.getfield 18, [0, 2], 0), (.iconst 0, [], 0), (.aload_n 0, [], 0), (.getfield 18, [0, 2], 0), (.arraylength, [], 0), (.invokestatic 54, [], 0), (.aload_n 1, [], 0), (.getfield 22, [0, 3], 0), (.iconst 0, [], 0), (.aload_n 0, [], 0), (.getfield 22, [0, 3], 0), (.iconst 0, [], 0), (.aload_n 0, [], 0), (.getfield 22, [0, 3], 0), (.arraylength, [], 0), (.invokestatic 54, [], 0), (.aload_n 1, [], 0), (.getfield 25, [0, 4], 0), (.iconst 0, [], 0), (.aload_n 0, [], 0), (.getfield 25, [0, 4], 0), (.iconst 0, [], 0), (.aload_n 0, [], 0), (.getfield 25, [0, 4], 0), (.arraylength, [], 0), (.invokestatic 54, [], 0), (.return_, [], 0)]
def bk_7 : List (List ab_I) := [b_7_0]
-- 8: RelayRace$Race.takeRunner(LRelayRace$Race;III)V
def mr_8 : ab_M := (yX0_takeRunner, prog_2_method_4_code, 5, none, 4, false)
def pc_8 : List Nat := [0]
def b_8_0 : List ab_I := [(.aload_n 0, [], 0), (.getfield 9, [0, 0], 0), (.iload_n 2, [], 0), (.iconst 4, [], 0), (.imul, [], 0), (.iload_n 3, [], 0), (.iadd, [], 0), (.aload_n 1, [], 0), (.getfield 9, [0, 0], 0), (.iload_n 2, [], 0), (.iconst 4, [], 0), (.imul, [], 0), (.iload 4, [], 0), (.iadd, [], 0), (.iaload, [], 0), (.iastore, [], 0), (.aload_n 0, [], 0), (.getfield 15, [0, 1], 0), (.iload_n 2, [], 0), (.iconst 4, [], 0), (.imul, [], 0), (.iload_n 3, [], 0), (.iadd, [], 0), (.aload_n 1, [], 0), (.getfield 15, [0, 1], 0), (.iload_n 2, [], 0), (.iconst 4, [], 0), (.imul, [], 0), (.iload 4, [], 0), (.iadd, [], 0), (.iaload, [], 0), (.iastore, [], 0), (.return_, [], 0)]
def bk_8 : List (List ab_I) := [b_8_0]
-- 9: RelayRace$Race.setConditions(ILRelayRace$Triples;I)V
def mr_9 : ab_M := (yX0_setConditions, prog_2_method_5_code, 5, none, 3, false)
def pc_9 : List Nat := [0, 22, 65, 71]
def b_9_0 : List ab_I := [(.aload_n 0, [], 0), (.iload_n 1, [], 0), (.putfield 32, [0, 6, 0], 0), (.aload_n 0, [], 0), (.bipush 48, [], 0), (.putfield 35, [0, 7, 0], 0), (.aload_n 0, [], 0), (.getfield 18, [0, 2], 0), (.lconst 0, [], 0), (.invokestatic 60, [3, 2, 0], 0), (.iconst 0, [], 0), (.istore 4, [], 0)]
def b_9_1 : List ab_I := [(.iload 4, [], 0), (.aload_n 2, [], 0), (.getfield 66, [3, 3], 0), (.if_icmp .ge 43, [3], 0), (.iload_n 3, [], 0), (.iload 4, [], 0), (.ishr, [], 0), (.iconst 1, [], 0), (.iand, [], 0), (.ifCond .eq 28, [2], 0), (.aload_n 0, [], 0), (.aload_n 2, [], 0), (.getfield 71, [3, 0], 0), (.iload 4, [], 0), (.iaload, [], 0), (.aload_n 2, [], 0), (.getfield 74, [3, 1], 0), (.iload 4, [], 0), (.iaload, [], 0), (.aload_n 2, [], 0), (.getfield 77, [3, 2], 0), (.iload 4, [], 0), (.iaload, [], 0), (.invokevirtual 80, [10, 4, 0], 0)]
def b_9_2 : List ab_I := [(.iinc 4 1, [], 0), (.goto (-46), [1], 0)]
def b_9_3 : List ab_I := [(.return_, [], 0)]
def bk_9 : List (List ab_I) := [b_9_0, b_9_1, b_9_2, b_9_3]
-- 10: RelayRace$Race.befall(III)V
def mr_10 : ab_M := (yX0_befall, prog_2_method_6_code, 4, none, 3, false)
def pc_10 : List Nat := [0, 17, 21, 27, 47, 61]
def b_10_0 : List ab_I := [(.iload_n 1, [], 0), (.ifCond .ne 26, [3], 0), (.aload_n 0, [], 0), (.iload_n 2, [], 0), (.aload_n 0, [], 0), (.getfield 35, [0, 7], 0), (.if_icmp .ge 7, [1], 0), (.iload_n 2, [], 0), (.goto 7, [2], 0)]
def b_10_1 : List ab_I := [(.aload_n 0, [], 0), (.getfield 35, [0, 7], 0)]
def b_10_2 : List ab_I := [(.putfield 35, [0, 7, 0], 0), (.goto 37, [5], 0)]
def b_10_3 : List ab_I := [(.iload_n 1, [], 0), (.iconst 1, [], 0), (.if_icmp .ne 18, [4], 0), (.aload_n 0, [], 0), (.getfield 18, [0, 2], 0), (.iload_n 3, [], 0), (.dup2, [], 0), (.laload, [], 0), (.lconst 1, [], 0), (.iload_n 2, [], 0), (.lshl, [], 0), (.lor, [], 0), (.lastore, [], 0), (.goto 17, [5], 0)]
def b_10_4 : List ab_I := [(.aload_n 0, [], 0), (.getfield 18, [0, 2], 0), (.iload_n 3, [], 0), (.dup2, [], 0), (.laload, [], 0), (.ldc2_w 84, [], 7), (.iload_n 2, [], 0), (.lshl, [], 0), (.lor, [], 0), (.lastore, [], 0)]
def b_10_5 : List ab_I := [(.return_, [], 0)]
def bk_10 : List (List ab_I) := [b_10_0, b_10_1, b_10_2, b_10_3, b_10_4, b_10_5]
-- 11: RelayRace$Race.runAll()V
def mr_11 : ab_M := (yX0_runAll, prog_2_method_7_code, 2, none, 0, false)
def pc_11 : List Nat := [0, 2, 21]
def b_11_0 : List ab_I := [(.iconst 0, [], 0), (.istore_n 1, [], 0)]
def b_11_1 : List ab_I := [(.iload_n 1, [], 0), (.aload_n 0, [], 0), (.getfield 28, [0, 5], 0), (.if_icmp .ge 14, [2], 0), (.aload_n 0, [], 0), (.iload_n 1, [], 0), (.invokevirtual 86, [12, 2, 0], 0), (.iinc 1 1, [], 0), (.goto (-16), [1], 0)]
def b_11_2 : List ab_I := [(.return_, [], 0)]
def bk_11 : List (List ab_I) := [b_11_0, b_11_1, b_11_2]
-- 12: RelayRace$Race.runTeam(I)V
def mr_12 : ab_M := (yX0_runTeam, prog_2_method_8_code, 7, none, 1, false)
def pc_12 : List Nat := [0, 32, 72, 117, 142, 148]
def b_12_0 : List ab_I := [(.iload_n 1, [], 0), (.bipush 48, [], 0), (.imul, [], 0), (.istore_n 2, [], 0), (.iconst 0, [], 0), (.istore_n 3, [], 0), (.iconst 0, [], 0), (.istore 4, [], 0), (.iconst 0, [], 0), (.istore 5, [], 0), (.aload_n 0, [], 0), (.getfield 25, [0, 4], 0), (.iload_n 1, [], 0), (.iconst 4, [], 0), (.imul, [], 0), (.iload_n 1, [], 0), (.iconst 4, [], 0), (.imul, [], 0), (.iconst 4, [], 0), (.iadd, [], 0), (.iconst (-1), [], 0), (.invokestatic 90, [5, 4, 0], 0), (.iconst 0, [], 0), (.istore 6, [], 0)]
def b_12_1 : List ab_I := [(.iload 6, [], 0), (.bipush 48, [], 0), (.if_icmp .ge 112, [5], 0), (.aload_n 0, [], 0), (.getfield 18, [0, 2], 0), (.iload_n 1, [], 0), (.laload, [], 0), (.iload 6, [], 0), (.lshr, [], 0), (.lconst 1, [], 0), (.land, [], 0), (.lconst 0, [], 0), (.lcmp, [], 0), (.ifCond .ne 20, [2], 0), (.iload_n 3, [], 0), (.aload_n 0, [], 0), (.iload_n 1, [], 0), (.iconst 4, [], 0), (.imul, [], 0), (.iload 4, [], 0), (.iadd, [], 0), (.iload 5, [], 0), (.iload 6, [], 0), (.invokevirtual 93, [13, 4, 0], 0), (.iadd, [], 0), (.istore_n 3, [], 0)]
def b_12_2 : List ab_I := [(.iinc 5 1, [], 0), (.aload_n 0, [], 0), (.getfield 22, [0, 3], 0), (.iload_n 2, [], 0), (.iload 6, [], 0), (.iadd, [], 0), (.iload_n 3, [], 0), (.iastore, [], 0), (.iload_n 3, [], 0), (.iload 4, [], 0), (.iconst 1, [], 0), (.iadd, [], 0), (.aload_n 0, [], 0), (.getfield 32, [0, 6], 0), (.imul, [], 0), (.if_icmp .lt 22, [3], 0), (.aload_n 0, [], 0), (.getfield 25, [0, 4], 0), (.iload_n 1, [], 0), (.iconst 4, [], 0), (.imul, [], 0), (.iload 4, [], 0), (.iadd, [], 0), (.iload 6, [], 0), (.iastore, [], 0), (.iinc 4 1, [], 0), (.iconst 0, [], 0), (.istore 5, [], 0)]
def b_12_3 : List ab_I := [(.iload 4, [], 0), (.iconst 4, [], 0), (.if_icmp .ne 22, [4], 0), (.aload_n 0, [], 0), (.getfield 22, [0, 3], 0), (.iload_n 2, [], 0), (.iload 6, [], 0), (.iadd, [], 0), (.iload_n 2, [], 0), (.bipush 48, [], 0), (.iadd, [], 0), (.iload_n 3, [], 0), (.invokestatic 90, [5, 4, 0], 0), (.goto 9, [5], 0)]
def b_12_4 : List ab_I := [(.iinc 6 1, [], 0), (.goto (-113), [1], 0)]
def b_12_5 : List ab_I := [(.return_, [], 0)]
def bk_12 : List (List ab_I) := [b_12_0, b_12_1, b_12_2, b_12_3, b_12_4, b_12_5]
-- 13: RelayRace$Race.stride(III)I
def mr_13 : ab_M := (yX0_stride, prog_2_method_9_code, 5, some .int, 3, false)
def pc_13 : List Nat := [0, 28, 29, 44, 45, 48, 65, 76]
def b_13_0 : List ab_I := [(.aload_n 0, [], 0), (.getfield 15, [0, 1], 0), (.iload_n 1, [], 0), (.iaload, [], 0), (.istore 4, [], 0), (.aload_n 0, [], 0), (.getfield 9, [0, 0], 0), (.iload_n 1, [], 0), (.iaload, [], 0), (.ifCond .ne 34, [5], 0), (.iload 4, [], 0), (.iload_n 2, [], 0), (.iconst 3, [], 0), (.if_icmp .ge 7, [1], 0), (.iconst 1, [], 0), (.goto 4, [2], 0)]
def b_13_1 : List ab_I := [(.iconst 0, [], 0)]
def b_13_2 : List ab_I := [(.iadd, [], 0), (.istore 4, [], 0), (.iload 4, [], 0), (.iload_n 2, [], 0), (.bipush 6, [], 0), (.if_icmp .lt 7, [3], 0), (.iconst 1, [], 0), (.goto 4, [4], 0)]
def b_13_3 : List ab_I := [(.iconst 0, [], 0)]
def b_13_4 : List ab_I := [(.isub, [], 0), (.istore 4, [], 0)]
def b_13_5 : List ab_I := [(.aload_n 0, [], 0), (.getfield 9, [0, 0], 0), (.iload_n 1, [], 0), (.iaload, [], 0), (.iconst 2, [], 0), (.if_icmp .ne 10, [6], 0), (.iload_n 2, [], 0), (.ifCond .ne 6, [6], 0), (.iinc 4 (-1), [], 0)]
def b_13_6 : List ab_I := [(.iload_n 3, [], 0), (.aload_n 0, [], 0), (.getfield 35, [0, 7], 0), (.if_icmp .lt 6, [7], 0), (.iinc 4 (-1), [], 0)]
def b_13_7 : List ab_I := [(.iconst 1, [], 0), (.iload 4, [], 0), (.invokestatic 97, [1], 0), (.ireturn, [0], 0)]
def bk_13 : List (List ab_I) := [b_13_0, b_13_1, b_13_2, b_13_3, b_13_4, b_13_5, b_13_6, b_13_7]
-- 14: RelayRace$Race.metresAt(II)I
def mr_14 : ab_M := (yX0_metresAt, prog_2_method_10_code, 3, some .int, 2, false)
def pc_14 : List Nat := [0]
def b_14_0 : List ab_I := [(.aload_n 0, [], 0), (.getfield 22, [0, 3], 0), (.iload_n 1, [], 0), (.bipush 48, [], 0), (.imul, [], 0), (.iload_n 2, [], 0), (.iadd, [], 0), (.iaload, [], 0), (.ireturn, [0], 0)]
def bk_14 : List (List ab_I) := [b_14_0]
-- 15: RelayRace$Race.homeOf(I)I
def mr_15 : ab_M := (yX0_homeOf, prog_2_method_11_code, 2, some .int, 1, false)
def pc_15 : List Nat := [0]
def b_15_0 : List ab_I := [(.aload_n 0, [], 0), (.getfield 25, [0, 4], 0), (.iload_n 1, [], 0), (.iconst 4, [], 0), (.imul, [], 0), (.iconst 4, [], 0), (.iadd, [], 0), (.iconst 1, [], 0), (.isub, [], 0), (.iaload, [], 0), (.ireturn, [0], 0)]
def bk_15 : List (List ab_I) := [b_15_0]
-- 16: RelayRace$Race.legAt(II)I
def mr_16 : ab_M := (yX0_legAt, prog_2_method_12_code, 6, some .int, 2, false)
def pc_16 : List Nat := [0, 5, 39, 45]
def b_16_0 : List ab_I := [(.iconst 0, [], 0), (.istore_n 3, [], 0), (.iconst 0, [], 0), (.istore 4, [], 0)]
def b_16_1 : List ab_I := [(.iload 4, [], 0), (.iconst 4, [], 0), (.if_icmp .ge 37, [3], 0), (.aload_n 0, [], 0), (.getfield 25, [0, 4], 0), (.iload_n 1, [], 0), (.iconst 4, [], 0), (.imul, [], 0), (.iload 4, [], 0), (.iadd, [], 0), (.iaload, [], 0), (.istore 5, [], 0), (.iload 5, [], 0), (.iconst (-1), [], 0), (.if_icmp .eq 12, [2], 0), (.iload 5, [], 0), (.iload_n 2, [], 0), (.if_icmp .gt 6, [2], 0), (.iinc 3 1, [], 0)]
def b_16_2 : List ab_I := [(.iinc 4 1, [], 0), (.goto (-37), [1], 0)]
def b_16_3 : List ab_I := [(.iload_n 3, [], 0), (.ireturn, [0], 0)]
def bk_16 : List (List ab_I) := [b_16_0, b_16_1, b_16_2, b_16_3]
-- 17: RelayRace$Race.stoodOf(I)I
def mr_17 : ab_M := (yX0_stoodOf, prog_2_method_13_code, 4, some .int, 1, false)
def pc_17 : List Nat := [0, 16, 17]
def b_17_0 : List ab_I := [(.aload_n 0, [], 0), (.iload_n 1, [], 0), (.invokevirtual 103, [15, 2, 0], 0), (.istore_n 2, [], 0), (.iload_n 2, [], 0), (.iconst (-1), [], 0), (.if_icmp .ne 8, [1], 0), (.bipush 48, [], 0), (.goto 4, [2], 0)]
def b_17_1 : List ab_I := [(.iload_n 2, [], 0)]
def b_17_2 : List ab_I := [(.istore_n 3, [], 0), (.aload_n 0, [], 0), (.getfield 18, [0, 2], 0), (.iload_n 1, [], 0), (.laload, [], 0), (.lconst 1, [], 0), (.iload_n 3, [], 0), (.lshl, [], 0), (.lconst 1, [], 0), (.lsub, [], 0), (.land, [], 0), (.invokestatic 106, [1, 1, 0], 0), (.ireturn, [0], 0)]
def bk_17 : List (List ab_I) := [b_17_0, b_17_1, b_17_2]
-- 18: RelayRace$Race.standingAt(II)I
def mr_18 : ab_M := (yX0_standingAt, prog_2_method_14_code, 5, some .int, 2, false)
def pc_18 : List Nat := [0, 23, 24]
def b_18_0 : List ab_I := [(.aload_n 0, [], 0), (.iload_n 1, [], 0), (.invokevirtual 103, [15, 2, 0], 0), (.istore_n 3, [], 0), (.iload_n 3, [], 0), (.iconst (-1), [], 0), (.if_icmp .eq 15, [1], 0), (.iload_n 3, [], 0), (.iload_n 2, [], 0), (.if_icmp .gt 10, [1], 0), (.bipush 48, [], 0), (.iload_n 3, [], 0), (.isub, [], 0), (.goto 4, [2], 0)]
def b_18_1 : List ab_I := [(.iconst 0, [], 0)]
def b_18_2 : List ab_I := [(.istore 4, [], 0), (.iload 4, [], 0), (.sipush 4096, [], 0), (.imul, [], 0), (.iconst 4, [], 0), (.aload_n 0, [], 0), (.iload_n 1, [], 0), (.iload_n 2, [], 0), (.invokevirtual 112, [14, 3, 0], 0), (.imul, [], 0), (.iadd, [], 0), (.iconst 3, [], 0), (.iadd, [], 0), (.iload_n 1, [], 0), (.isub, [], 0), (.ireturn, [0], 0)]
def bk_18 : List (List ab_I) := [b_18_0, b_18_1, b_18_2]
-- 19: RelayRace$Race.rankAt(II)I
def mr_19 : ab_M := (yX0_rankAt, prog_2_method_15_code, 6, some .int, 2, false)
def pc_19 : List Nat := [0, 13, 36, 42]
def b_19_0 : List ab_I := [(.aload_n 0, [], 0), (.iload_n 1, [], 0), (.iload_n 2, [], 0), (.invokevirtual 115, [18, 3, 0], 0), (.istore_n 3, [], 0), (.iconst 0, [], 0), (.istore 4, [], 0), (.iconst 0, [], 0), (.istore 5, [], 0)]
def b_19_1 : List ab_I := [(.iload 5, [], 0), (.aload_n 0, [], 0), (.getfield 28, [0, 5], 0), (.if_icmp .ge 23, [3], 0), (.aload_n 0, [], 0), (.iload 5, [], 0), (.iload_n 2, [], 0), (.invokevirtual 115, [18, 3, 0], 0), (.iload_n 3, [], 0), (.if_icmp .le 6, [2], 0), (.iinc 4 1, [], 0)]
def b_19_2 : List ab_I := [(.iinc 5 1, [], 0), (.goto (-26), [1], 0)]
def b_19_3 : List ab_I := [(.iload 4, [], 0), (.ireturn, [0], 0)]
def bk_19 : List (List ab_I) := [b_19_0, b_19_1, b_19_2, b_19_3]
-- 20: RelayRace$Race.foremostAt(I)I
def mr_20 : ab_M := (yX0_foremostAt, prog_2_method_16_code, 6, some .int, 1, false)
def pc_20 : List Nat := [0, 7, 37, 43]
def b_20_0 : List ab_I := [(.iconst (-1), [], 0), (.istore_n 2, [], 0), (.iconst (-1), [], 0), (.istore_n 3, [], 0), (.iconst 0, [], 0), (.istore 4, [], 0)]
def b_20_1 : List ab_I := [(.iload 4, [], 0), (.aload_n 0, [], 0), (.getfield 28, [0, 5], 0), (.if_icmp .ge 30, [3], 0), (.aload_n 0, [], 0), (.iload 4, [], 0), (.iload_n 1, [], 0), (.invokevirtual 115, [18, 3, 0], 0), (.istore 5, [], 0), (.iload 5, [], 0), (.iload_n 3, [], 0), (.if_icmp .le 9, [2], 0), (.iload 4, [], 0), (.istore_n 2, [], 0), (.iload 5, [], 0), (.istore_n 3, [], 0)]
def b_20_2 : List ab_I := [(.iinc 4 1, [], 0), (.goto (-33), [1], 0)]
def b_20_3 : List ab_I := [(.iload_n 2, [], 0), (.ireturn, [0], 0)]
def bk_20 : List (List ab_I) := [b_20_0, b_20_1, b_20_2, b_20_3]
-- 21: RelayRace$Race.winner()I
def mr_21 : ab_M := (yX0_winner, prog_2_method_17_code, 2, some .int, 0, false)
def pc_21 : List Nat := [0, 25, 26]
def b_21_0 : List ab_I := [(.aload_n 0, [], 0), (.bipush 47, [], 0), (.invokevirtual 118, [20, 2, 0], 0), (.istore_n 1, [], 0), (.iload_n 1, [], 0), (.iconst (-1), [], 0), (.if_icmp .eq 16, [1], 0), (.aload_n 0, [], 0), (.iload_n 1, [], 0), (.invokevirtual 103, [15, 2, 0], 0), (.iconst (-1), [], 0), (.if_icmp .eq 7, [1], 0), (.iload_n 1, [], 0), (.goto 4, [2], 0)]
def b_21_1 : List ab_I := [(.iconst (-1), [], 0)]
def b_21_2 : List ab_I := [(.ireturn, [0], 0)]
def bk_21 : List (List ab_I) := [b_21_0, b_21_1, b_21_2]
-- 22: RelayRace$Race.comesOutAs(LRelayRace$Triples;)Z
def mr_22 : ab_M := (yX0_comesOutAs, prog_2_method_18_code, 4, some .boolean, 1, false)
def pc_22 : List Nat := [0, 2, 45, 47, 53]
def b_22_0 : List ab_I := [(.iconst 0, [], 0), (.istore_n 2, [], 0)]
def b_22_1 : List ab_I := [(.iload_n 2, [], 0), (.aload_n 1, [], 0), (.getfield 66, [3, 3], 0), (.if_icmp .ge 46, [4], 0), (.aload_n 1, [], 0), (.getfield 74, [3, 1], 0), (.iload_n 2, [], 0), (.iaload, [], 0), (.istore_n 3, [], 0), (.iload_n 3, [], 0), (.aload_n 0, [], 0), (.getfield 28, [0, 5], 0), (.if_icmp .ge 23, [2], 0), (.aload_n 0, [], 0), (.iload_n 3, [], 0), (.aload_n 1, [], 0), (.getfield 71, [3, 0], 0), (.iload_n 2, [], 0), (.iaload, [], 0), (.invokevirtual 121, [19, 3, 0], 0), (.aload_n 1, [], 0), (.getfield 77, [3, 2], 0), (.iload_n 2, [], 0), (.iaload, [], 0), (.if_icmp .eq 5, [3], 0)]
def b_22_2 : List ab_I := [(.iconst 0, [], 0), (.ireturn, [1], 0)]
def b_22_3 : List ab_I := [(.iinc 2 1, [], 0), (.goto (-48), [1], 0)]
def b_22_4 : List ab_I := [(.iconst 1, [], 0), (.ireturn, [1], 0)]
def bk_22 : List (List ab_I) := [b_22_0, b_22_1, b_22_2, b_22_3, b_22_4]
-- 23: RelayRace$Sheet.begin(II)V
def mr_23 : ab_M := (yX1_begin, prog_3_method_2_code, 3, none, 2, false)
def pc_23 : List Nat := [0]
def b_23_0 : List ab_I := [(.aload_n 0, [], 0), (.iconst 0, [], 0), (.putfield 15, [1, 1, 1], 0), (.aload_n 0, [], 0), (.iload_n 1, [], 0), (.putfield 19, [1, 2, 0], 0), (.aload_n 0, [], 0), (.iload_n 2, [], 0), (.putfield 23, [1, 3, 0], 0), (.aload_n 0, [], 0), (.getfield 9, [1, 0], 0), (.iconst 0, [], 0), (.invokestatic 26, [4, 2, 0], 0), (.return_, [], 0)]
def bk_23 : List (List ab_I) := [b_23_0]
-- 24: RelayRace$Sheet.store(II)V
def mr_24 : ab_M := (yX1_store, prog_3_method_3_code, 3, none, 2, false)
def pc_24 : List Nat := [0, 18, 37, 44]
def b_24_0 : List ab_I := [(.aload_n 0, [], 0), (.getfield 19, [1, 2], 0), (.ifCond .ne 14, [1], 0), (.aload_n 0, [], 0), (.getfield 9, [1, 0], 0), (.iload_n 1, [], 0), (.iload_n 2, [], 0), (.i2b, [], 0), (.iastore, [], 0), (.goto 29, [3], 0)]
def b_24_1 : List ab_I := [(.aload_n 0, [], 0), (.getfield 19, [1, 2], 0), (.iconst 1, [], 0), (.if_icmp .ne 14, [2], 0), (.aload_n 0, [], 0), (.getfield 9, [1, 0], 0), (.iload_n 1, [], 0), (.iload_n 2, [], 0), (.i2s, [], 0), (.iastore, [], 0), (.goto 10, [3], 0)]
def b_24_2 : List ab_I := [(.aload_n 0, [], 0), (.getfield 9, [1, 0], 0), (.iload_n 1, [], 0), (.iload_n 2, [], 0), (.iastore, [], 0)]
def b_24_3 : List ab_I := [(.return_, [], 0)]
def bk_24 : List (List ab_I) := [b_24_0, b_24_1, b_24_2, b_24_3]
-- 25: RelayRace$Sheet.hasItems(II)Z
def mr_25 : ab_M := (yX1_hasItems, prog_3_method_4_code, 3, some .boolean, 2, false)
def pc_25 : List Nat := [0, 30, 31]
def b_25_0 : List ab_I := [(.iload_n 1, [], 0), (.ifCond .lt 29, [1], 0), (.iload_n 2, [], 0), (.ifCond .lt 25, [1], 0), (.iload_n 1, [], 0), (.aload_n 0, [], 0), (.getfield 23, [1, 3], 0), (.if_icmp .gt 17, [1], 0), (.iload_n 2, [], 0), (.aload_n 0, [], 0), (.getfield 23, [1, 3], 0), (.iload_n 1, [], 0), (.isub, [], 0), (.if_icmp .gt 7, [1], 0), (.iconst 1, [], 0), (.goto 4, [2], 0)]
def b_25_1 : List ab_I := [(.iconst 0, [], 0)]
def b_25_2 : List ab_I := [(.ireturn, [1], 0)]
def bk_25 : List (List ab_I) := [b_25_0, b_25_1, b_25_2]
-- 26: RelayRace$Text.append(I)V
def mr_26 : ab_M := (yX2_append, prog_4_method_2_code, 2, none, 1, false)
def pc_26 : List Nat := [0]
def b_26_0 : List ab_I := [(.aload_n 0, [], 0), (.getfield 9, [2, 0], 0), (.aload_n 0, [], 0), (.getfield 15, [2, 1], 0), (.iload_n 1, [], 0), (.iastore, [], 0), (.aload_n 0, [], 0), (.dup, [], 0), (.getfield 15, [2, 1], 0), (.iconst 1, [], 0), (.iadd, [], 0), (.putfield 15, [2, 1, 0], 0), (.return_, [], 0)]
def bk_26 : List (List ab_I) := [b_26_0]
-- 27: RelayRace$Text.firstFault()I
def mr_27 : ab_M := (yX2_firstFault, prog_4_method_3_code, 2, some .int, 0, false)
def pc_27 : List Nat := [0, 2, 20, 26, 45, 49, 53]
def b_27_0 : List ab_I := [(.iconst 0, [], 0), (.istore_n 1, [], 0)]
def b_27_1 : List ab_I := [(.iload_n 1, [], 0), (.aload_n 0, [], 0), (.getfield 15, [2, 1], 0), (.if_icmp .ge 19, [3], 0), (.aload_n 0, [], 0), (.iload_n 1, [], 0), (.invokevirtual 19, [28, 2, 2], 0), (.ifCond .ne 5, [2], 0), (.iload_n 1, [], 0), (.ireturn, [0], 0)]
def b_27_2 : List ab_I := [(.iinc 1 1, [], 0), (.goto (-21), [1], 0)]
def b_27_3 : List ab_I := [(.aload_n 0, [], 0), (.getfield 15, [2, 1], 0), (.ifCond .eq 15, [4], 0), (.aload_n 0, [], 0), (.getfield 15, [2, 1], 0), (.bipush 9, [], 0), (.irem, [], 0), (.bipush 8, [], 0), (.if_icmp .ne 7, [5], 0)]
def b_27_4 : List ab_I := [(.iconst (-1), [], 0), (.goto 7, [6], 0)]
def b_27_5 : List ab_I := [(.aload_n 0, [], 0), (.getfield 15, [2, 1], 0)]
def b_27_6 : List ab_I := [(.ireturn, [0], 0)]
def bk_27 : List (List ab_I) := [b_27_0, b_27_1, b_27_2, b_27_3, b_27_4, b_27_5, b_27_6]
-- 28: RelayRace$Text.goesOn(I)Z
def mr_28 : ab_M := (yX2_goesOn, prog_4_method_4_code, 3, some .boolean, 1, false)
def pc_28 : List Nat := [0, 26, 27, 28, 47, 48, 49, 75, 76]
def b_28_0 : List ab_I := [(.iload_n 1, [], 0), (.bipush 9, [], 0), (.irem, [], 0), (.istore_n 2, [], 0), (.iload_n 2, [], 0), (.bipush 8, [], 0), (.if_icmp .ne 20, [3], 0), (.aload_n 0, [], 0), (.getfield 9, [2, 0], 0), (.iload_n 1, [], 0), (.iaload, [], 0), (.bipush 59, [], 0), (.if_icmp .ne 7, [1], 0), (.iconst 1, [], 0), (.goto 4, [2], 0)]
def b_28_1 : List ab_I := [(.iconst 0, [], 0)]
def b_28_2 : List ab_I := [(.ireturn, [1], 0)]
def b_28_3 : List ab_I := [(.iload_n 2, [], 0), (.iconst 2, [], 0), (.irem, [], 0), (.ifCond .ne 18, [6], 0), (.aload_n 0, [], 0), (.iload_n 1, [], 0), (.invokevirtual 23, [29, 2, 2], 0), (.iconst (-1), [], 0), (.if_icmp .eq 7, [4], 0), (.iconst 1, [], 0), (.goto 4, [5], 0)]
def b_28_4 : List ab_I := [(.iconst 0, [], 0)]
def b_28_5 : List ab_I := [(.ireturn, [1], 0)]
def b_28_6 : List ab_I := [(.aload_n 0, [], 0), (.getfield 9, [2, 0], 0), (.iload_n 1, [], 0), (.iaload, [], 0), (.bipush 49, [], 0), (.if_icmp .lt 18, [7], 0), (.aload_n 0, [], 0), (.getfield 9, [2, 0], 0), (.iload_n 1, [], 0), (.iaload, [], 0), (.bipush 57, [], 0), (.if_icmp .gt 7, [7], 0), (.iconst 1, [], 0), (.goto 4, [8], 0)]
def b_28_7 : List ab_I := [(.iconst 0, [], 0)]
def b_28_8 : List ab_I := [(.ireturn, [1], 0)]
def bk_28 : List (List ab_I) := [b_28_0, b_28_1, b_28_2, b_28_3, b_28_4, b_28_5, b_28_6, b_28_7, b_28_8]
-- 29: RelayRace$Text.sortAt(I)I
def mr_29 : ab_M := (yX2_sortAt, prog_4_method_5_code, 2, some .int, 1, false)
def pc_29 : List Nat := [0, 40, 42, 44, 46]
def b_29_0 : List ab_I := [(.aload_n 0, [], 0), (.getfield 9, [2, 0], 0), (.iload_n 1, [], 0), (.iaload, [], 0), (.lookupswitch 40 #[(100, 36), (110, 38), (115, 34)], [4, 2, 3, 1], 0)]
def b_29_1 : List ab_I := [(.iconst 0, [], 0), (.ireturn, [0], 0)]
def b_29_2 : List ab_I := [(.iconst 1, [], 0), (.ireturn, [0], 0)]
def b_29_3 : List ab_I := [(.iconst 2, [], 0), (.ireturn, [0], 0)]
def b_29_4 : List ab_I := [(.iconst (-1), [], 0), (.ireturn, [0], 0)]
def bk_29 : List (List ab_I) := [b_29_0, b_29_1, b_29_2, b_29_3, b_29_4]
-- 30: RelayRace$Triples.append(III)V
def mr_30 : ab_M := (yX3_append, prog_5_method_2_code, 4, none, 3, false)
def pc_30 : List Nat := [0]
def b_30_0 : List ab_I := [(.aload_n 0, [], 0), (.getfield 9, [3, 0], 0), (.aload_n 0, [], 0), (.getfield 21, [3, 3], 0), (.iload_n 1, [], 0), (.iastore, [], 0), (.aload_n 0, [], 0), (.getfield 15, [3, 1], 0), (.aload_n 0, [], 0), (.getfield 21, [3, 3], 0), (.iload_n 2, [], 0), (.iastore, [], 0), (.aload_n 0, [], 0), (.getfield 18, [3, 2], 0), (.aload_n 0, [], 0), (.getfield 21, [3, 3], 0), (.iload_n 3, [], 0), (.iastore, [], 0), (.aload_n 0, [], 0), (.dup, [], 0), (.getfield 21, [3, 3], 0), (.iconst 1, [], 0), (.iadd, [], 0), (.putfield 21, [3, 3, 0], 0), (.return_, [], 0)]
def bk_30 : List (List ab_I) := [b_30_0]
-- 31: RelayRace.type(I)I
def mr_31 : ab_M := (yX4_type, prog_1_method_2_code, 2, some .int, 1, false)
def pc_31 : List Nat := [0, 11, 14, 29]
def b_31_0 : List ab_I := [(.iload_n 1, [], 0), (.ifCond .lt 10, [1], 0), (.iload_n 1, [], 0), (.sipush 255, [], 0), (.if_icmp .le 6, [2], 0)]
def b_31_1 : List ab_I := [(.bipush (-2), [], 0), (.ireturn, [0], 0)]
def b_31_2 : List ab_I := [(.aload_n 0, [], 0), (.getfield 10, [4, 0], 0), (.getfield 67, [2, 1], 0), (.bipush 35, [], 0), (.if_icmp .lt 6, [3], 0), (.bipush (-4), [], 0), (.ireturn, [0], 0)]
def b_31_3 : List ab_I := [(.aload_n 0, [], 0), (.getfield 10, [4, 0], 0), (.iload_n 1, [], 0), (.invokevirtual 70, [26, 2, 2], 0), (.aload_n 0, [], 0), (.getfield 32, [4, 4], 0), (.aload_n 0, [], 0), (.getfield 10, [4, 0], 0), (.invokevirtual 74, [6, 2, 0], 0), (.aload_n 0, [], 0), (.invokevirtual 78, [40, 1, 4], 0), (.aload_n 0, [], 0), (.getfield 10, [4, 0], 0), (.getfield 67, [2, 1], 0), (.ireturn, [0], 0)]
def bk_31 : List (List ab_I) := [b_31_0, b_31_1, b_31_2, b_31_3]
-- 32: RelayRace.wipe()I
def mr_32 : ab_M := (yX4_wipe, prog_1_method_3_code, 2, some .int, 0, false)
def pc_32 : List Nat := [0]
def b_32_0 : List ab_I := [(.aload_n 0, [], 0), (.getfield 10, [4, 0], 0), (.getfield 67, [2, 1], 0), (.istore_n 1, [], 0), (.aload_n 0, [], 0), (.getfield 10, [4, 0], 0), (.iconst 0, [], 0), (.putfield 67, [2, 1, 0], 0), (.aload_n 0, [], 0), (.getfield 32, [4, 4], 0), (.aload_n 0, [], 0), (.getfield 10, [4, 0], 0), (.invokevirtual 74, [6, 2, 0], 0), (.aload_n 0, [], 0), (.invokevirtual 78, [40, 1, 4], 0), (.iload_n 1, [], 0), (.ireturn, [0], 0)]
def bk_32 : List (List ab_I) := [b_32_0]
-- 33: RelayRace.undo()I
def mr_33 : ab_M := (yX4_undo, prog_1_method_4_code, 1, some .int, 0, false)
def pc_33 : List Nat := [0, 13]
def b_33_0 : List ab_I := [(.aload_n 0, [], 0), (.getfield 10, [4, 0], 0), (.getfield 67, [2, 1], 0), (.ifCond .ne 6, [1], 0), (.bipush (-3), [], 0), (.ireturn, [0], 0)]
def b_33_1 : List ab_I := [(.aload_n 0, [], 0), (.getfield 10, [4, 0], 0), (.dup, [], 0), (.getfield 67, [2, 1], 0), (.iconst 1, [], 0), (.isub, [], 0), (.putfield 67, [2, 1, 0], 0), (.aload_n 0, [], 0), (.getfield 32, [4, 4], 0), (.aload_n 0, [], 0), (.getfield 10, [4, 0], 0), (.invokevirtual 74, [6, 2, 0], 0), (.aload_n 0, [], 0), (.invokevirtual 78, [40, 1, 4], 0), (.aload_n 0, [], 0), (.getfield 10, [4, 0], 0), (.getfield 67, [2, 1], 0), (.ireturn, [0], 0)]
def bk_33 : List (List ab_I) := [b_33_0, b_33_1]
-- 34: RelayRace.fault()I
def mr_34 : ab_M := (yX4_fault, prog_1_method_5_code, 1, some .int, 0, false)
def pc_34 : List Nat := [0]
def b_34_0 : List ab_I := [(.aload_n 0, [], 0), (.getfield 10, [4, 0], 0), (.invokevirtual 81, [27, 1, 2], 0), (.ireturn, [0], 0)]
def bk_34 : List (List ab_I) := [b_34_0]
-- 35: RelayRace.runner(III)I
def mr_35 : ab_M := (yX4_runner, prog_1_method_6_code, 5, some .int, 3, false)
def pc_35 : List Nat := [0, 22, 25, 49, 59]
def b_35_0 : List ab_I := [(.aload_n 0, [], 0), (.iload_n 1, [], 0), (.invokevirtual 85, [92, 2, 4], 0), (.ifCond .eq 17, [1], 0), (.iload_n 2, [], 0), (.invokestatic 89, [93, 1, 0], 0), (.ifCond .eq 10, [1], 0), (.iload_n 3, [], 0), (.invokestatic 92, [97, 1, 0], 0), (.ifCond .ne 6, [2], 0)]
def b_35_1 : List ab_I := [(.bipush (-2), [], 0), (.ireturn, [0], 0)]
def b_35_2 : List ab_I := [(.iload_n 1, [], 0), (.iconst 4, [], 0), (.imul, [], 0), (.iload_n 2, [], 0), (.iadd, [], 0), (.istore 4, [], 0), (.iload_n 3, [], 0), (.ifCond .ne 16, [3], 0), (.aload_n 0, [], 0), (.getfield 32, [4, 4], 0), (.getfield 95, [0, 0], 0), (.iload 4, [], 0), (.iaload, [], 0), (.goto 13, [4], 0)]
def b_35_3 : List ab_I := [(.aload_n 0, [], 0), (.getfield 32, [4, 4], 0), (.getfield 98, [0, 1], 0), (.iload 4, [], 0), (.iaload, [], 0)]
def b_35_4 : List ab_I := [(.ireturn, [0], 0)]
def bk_35 : List (List ab_I) := [b_35_0, b_35_1, b_35_2, b_35_3, b_35_4]
-- 36: RelayRace.along(I)I
def mr_36 : ab_M := (yX4_along, prog_1_method_7_code, 3, some .int, 1, false)
def pc_36 : List Nat := [0, 12, 15]
def b_36_0 : List ab_I := [(.iload_n 1, [], 0), (.bipush 10, [], 0), (.if_icmp .lt 9, [1], 0), (.iload_n 1, [], 0), (.bipush 60, [], 0), (.if_icmp .le 6, [2], 0)]
def b_36_1 : List ab_I := [(.bipush (-2), [], 0), (.ireturn, [0], 0)]
def b_36_2 : List ab_I := [(.aload_n 0, [], 0), (.getfield 59, [4, 11], 0), (.istore_n 2, [], 0), (.aload_n 0, [], 0), (.iload_n 1, [], 0), (.putfield 59, [4, 11, 0], 0), (.aload_n 0, [], 0), (.invokevirtual 78, [40, 1, 4], 0), (.iload_n 2, [], 0), (.ireturn, [0], 0)]
def bk_36 : List (List ab_I) := [b_36_0, b_36_1, b_36_2]
-- 37: RelayRace.event(III)I
def mr_37 : ab_M := (yX4_event, prog_1_method_8_code, 4, some .int, 3, false)
def pc_37 : List Nat := [0, 12, 27]
def b_37_0 : List ab_I := [(.iload_n 1, [], 0), (.iload_n 2, [], 0), (.iload_n 3, [], 0), (.invokestatic 101, [96, 3, 0], 0), (.ifCond .ne 6, [1], 0), (.bipush (-2), [], 0), (.ireturn, [0], 0)]
def b_37_1 : List ab_I := [(.aload_n 0, [], 0), (.getfield 19, [4, 1], 0), (.getfield 105, [3, 3], 0), (.bipush 8, [], 0), (.if_icmp .lt 6, [2], 0), (.bipush (-4), [], 0), (.ireturn, [0], 0)]
def b_37_2 : List ab_I := [(.aload_n 0, [], 0), (.getfield 19, [4, 1], 0), (.iload_n 1, [], 0), (.iload_n 2, [], 0), (.iload_n 3, [], 0), (.invokevirtual 108, [30, 4, 3], 0), (.aload_n 0, [], 0), (.invokevirtual 78, [40, 1, 4], 0), (.aload_n 0, [], 0), (.getfield 19, [4, 1], 0), (.getfield 105, [3, 3], 0), (.ireturn, [0], 0)]
def bk_37 : List (List ab_I) := [b_37_0, b_37_1, b_37_2]
-- 38: RelayRace.back()I
def mr_38 : ab_M := (yX4_back, prog_1_method_9_code, 1, some .int, 0, false)
def pc_38 : List Nat := [0, 13]
def b_38_0 : List ab_I := [(.aload_n 0, [], 0), (.getfield 19, [4, 1], 0), (.getfield 105, [3, 3], 0), (.ifCond .ne 6, [1], 0), (.bipush (-3), [], 0), (.ireturn, [0], 0)]
def b_38_1 : List ab_I := [(.aload_n 0, [], 0), (.getfield 19, [4, 1], 0), (.dup, [], 0), (.getfield 105, [3, 3], 0), (.iconst 1, [], 0), (.isub, [], 0), (.putfield 105, [3, 3, 0], 0), (.aload_n 0, [], 0), (.invokevirtual 78, [40, 1, 4], 0), (.aload_n 0, [], 0), (.getfield 19, [4, 1], 0), (.getfield 105, [3, 3], 0), (.ireturn, [0], 0)]
def bk_38 : List (List ab_I) := [b_38_0, b_38_1]
-- 39: RelayRace.read(I)I
def mr_39 : ab_M := (yX4_read, prog_1_method_10_code, 6, some .int, 1, false)
def pc_39 : List Nat := [0, 10, 30, 41, 98, 130]
def b_39_0 : List ab_I := [(.iload_n 1, [], 0), (.invokestatic 111, [98, 1, 0], 0), (.ifCond .ne 6, [1], 0), (.bipush (-2), [], 0), (.ireturn, [0], 0)]
def b_39_1 : List ab_I := [(.aload_n 0, [], 0), (.getfield 55, [4, 10], 0), (.iload_n 1, [], 0), (.aaload, [], 0), (.astore_n 2, [], 0), (.aload_n 2, [], 0), (.getfield 114, [1, 1], 0), (.ifCond .eq 9, [2], 0), (.aload_n 0, [], 0), (.iconst 1, [], 0), (.invokevirtual 117, [100, 2, 4], 0), (.ireturn, [0], 0)]
def b_39_2 : List ab_I := [(.aload_n 0, [], 0), (.getfield 19, [4, 1], 0), (.getfield 105, [3, 3], 0), (.istore_n 3, [], 0), (.iconst 0, [], 0), (.istore 4, [], 0)]
def b_39_3 : List ab_I := [(.iload 4, [], 0), (.iconst 3, [], 0), (.iadd, [], 0), (.aload_n 2, [], 0), (.getfield 121, [1, 3], 0), (.if_icmp .gt 81, [5], 0), (.aload_n 0, [], 0), (.getfield 19, [4, 1], 0), (.getfield 105, [3, 3], 0), (.bipush 8, [], 0), (.if_icmp .ge 69, [5], 0), (.aload_n 2, [], 0), (.getfield 122, [1, 0], 0), (.astore 5, [], 0), (.aload 5, [], 0), (.iload 4, [], 0), (.iaload, [], 0), (.aload 5, [], 0), (.iload 4, [], 0), (.iconst 1, [], 0), (.iadd, [], 0), (.iaload, [], 0), (.aload 5, [], 0), (.iload 4, [], 0), (.iconst 2, [], 0), (.iadd, [], 0), (.iaload, [], 0), (.invokestatic 101, [96, 3, 0], 0), (.ifCond .ne 6, [4], 0), (.goto 35, [5], 0)]
def b_39_4 : List ab_I := [(.aload_n 0, [], 0), (.getfield 19, [4, 1], 0), (.aload 5, [], 0), (.iload 4, [], 0), (.iaload, [], 0), (.aload 5, [], 0), (.iload 4, [], 0), (.iconst 1, [], 0), (.iadd, [], 0), (.iaload, [], 0), (.aload 5, [], 0), (.iload 4, [], 0), (.iconst 2, [], 0), (.iadd, [], 0), (.iaload, [], 0), (.invokevirtual 108, [30, 4, 3], 0), (.iinc 4 3, [], 0), (.goto (-86), [3], 0)]
def b_39_5 : List ab_I := [(.aload_n 0, [], 0), (.invokevirtual 78, [40, 1, 4], 0), (.aload_n 0, [], 0), (.getfield 19, [4, 1], 0), (.getfield 105, [3, 3], 0), (.iload_n 3, [], 0), (.isub, [], 0), (.ireturn, [0], 0)]
def bk_39 : List (List ab_I) := [b_39_0, b_39_1, b_39_2, b_39_3, b_39_4, b_39_5]
-- 40: RelayRace.runTold()V
def mr_40 : ab_M := (yX4_runTold, prog_1_method_11_code, 1, none, 0, false)
def pc_40 : List Nat := [0]
def b_40_0 : List ab_I := [(.aload_n 0, [], 0), (.iconst 1, [], 0), (.putfield 43, [4, 7, 1], 0), (.aload_n 0, [], 0), (.getfield 32, [4, 4], 0), (.aload_n 0, [], 0), (.getfield 59, [4, 11], 0), (.aload_n 0, [], 0), (.getfield 19, [4, 1], 0), (.aload_n 0, [], 0), (.invokevirtual 125, [41, 1, 4], 0), (.invokevirtual 128, [9, 4, 0], 0), (.aload_n 0, [], 0), (.getfield 32, [4, 4], 0), (.invokevirtual 132, [11, 1, 0], 0), (.return_, [], 0)]
def bk_40 : List (List ab_I) := [b_40_0]
-- 41: RelayRace.everyEvent()I
def mr_41 : ab_M := (yX4_everyEvent, prog_1_method_12_code, 1, some .int, 0, false)
def pc_41 : List Nat := [0]
def b_41_0 : List ab_I := [(.iconst 1, [], 0), (.aload_n 0, [], 0), (.getfield 19, [4, 1], 0), (.getfield 105, [3, 3], 0), (.ishl, [], 0), (.iconst 1, [], 0), (.isub, [], 0), (.ireturn, [0], 0)]
def bk_41 : List (List ab_I) := [b_41_0]
-- 42: RelayRace.at(III)I
def mr_42 : ab_M := (yX4_at, prog_1_method_13_code, 4, some .int, 3, false)
def pc_42 : List Nat := [0, 24, 27, 41, 58, 67]
def b_42_0 : List ab_I := [(.iload_n 1, [], 0), (.invokestatic 135, [94, 1, 0], 0), (.ifCond .eq 20, [1], 0), (.aload_n 0, [], 0), (.iload_n 2, [], 0), (.invokevirtual 85, [92, 2, 4], 0), (.ifCond .eq 12, [1], 0), (.iload_n 3, [], 0), (.ifCond .lt 8, [1], 0), (.iload_n 3, [], 0), (.iconst 2, [], 0), (.if_icmp .le 6, [2], 0)]
def b_42_1 : List ab_I := [(.bipush (-2), [], 0), (.ireturn, [0], 0)]
def b_42_2 : List ab_I := [(.iload_n 3, [], 0), (.ifCond .ne 13, [3], 0), (.aload_n 0, [], 0), (.getfield 32, [4, 4], 0), (.iload_n 2, [], 0), (.iload_n 1, [], 0), (.invokevirtual 138, [14, 3, 0], 0), (.ireturn, [0], 0)]
def b_42_3 : List ab_I := [(.iload_n 3, [], 0), (.iconst 1, [], 0), (.if_icmp .ne 15, [4], 0), (.aload_n 0, [], 0), (.getfield 32, [4, 4], 0), (.iload_n 2, [], 0), (.iload_n 1, [], 0), (.invokevirtual 142, [16, 3, 0], 0), (.goto 12, [5], 0)]
def b_42_4 : List ab_I := [(.aload_n 0, [], 0), (.getfield 32, [4, 4], 0), (.iload_n 2, [], 0), (.iload_n 1, [], 0), (.invokevirtual 145, [19, 3, 0], 0)]
def b_42_5 : List ab_I := [(.ireturn, [0], 0)]
def bk_42 : List (List ab_I) := [b_42_0, b_42_1, b_42_2, b_42_3, b_42_4, b_42_5]
-- 43: RelayRace.home(I)I
def mr_43 : ab_M := (yX4_home, prog_1_method_14_code, 2, some .int, 1, false)
def pc_43 : List Nat := [0, 19, 21]
def b_43_0 : List ab_I := [(.aload_n 0, [], 0), (.iload_n 1, [], 0), (.invokevirtual 85, [92, 2, 4], 0), (.ifCond .eq 14, [1], 0), (.aload_n 0, [], 0), (.getfield 32, [4, 4], 0), (.iload_n 1, [], 0), (.invokevirtual 148, [15, 2, 0], 0), (.goto 5, [2], 0)]
def b_43_1 : List ab_I := [(.bipush (-2), [], 0)]
def b_43_2 : List ab_I := [(.ireturn, [0], 0)]
def bk_43 : List (List ab_I) := [b_43_0, b_43_1, b_43_2]
-- 44: RelayRace.lasted(II)I
def mr_44 : ab_M := (yX4_lasted, prog_1_method_15_code, 5, some .int, 2, false)
def pc_44 : List Nat := [0, 15, 18, 39, 47, 62]
def b_44_0 : List ab_I := [(.aload_n 0, [], 0), (.iload_n 1, [], 0), (.invokevirtual 85, [92, 2, 4], 0), (.ifCond .eq 10, [1], 0), (.iload_n 2, [], 0), (.invokestatic 89, [93, 1, 0], 0), (.ifCond .ne 6, [2], 0)]
def b_44_1 : List ab_I := [(.bipush (-2), [], 0), (.ireturn, [0], 0)]
def b_44_2 : List ab_I := [(.aload_n 0, [], 0), (.getfield 32, [4, 4], 0), (.getfield 151, [0, 4], 0), (.iload_n 1, [], 0), (.iconst 4, [], 0), (.imul, [], 0), (.iload_n 2, [], 0), (.iadd, [], 0), (.iaload, [], 0), (.istore_n 3, [], 0), (.iload_n 3, [], 0), (.iconst (-1), [], 0), (.if_icmp .ne 5, [3], 0), (.iconst (-1), [], 0), (.ireturn, [0], 0)]
def b_44_3 : List ab_I := [(.iload_n 2, [], 0), (.ifCond .ne 7, [4], 0), (.iconst (-1), [], 0), (.goto 18, [5], 0)]
def b_44_4 : List ab_I := [(.aload_n 0, [], 0), (.getfield 32, [4, 4], 0), (.getfield 151, [0, 4], 0), (.iload_n 1, [], 0), (.iconst 4, [], 0), (.imul, [], 0), (.iload_n 2, [], 0), (.iadd, [], 0), (.iconst 1, [], 0), (.isub, [], 0), (.iaload, [], 0)]
def b_44_5 : List ab_I := [(.istore 4, [], 0), (.iload_n 3, [], 0), (.iload 4, [], 0), (.isub, [], 0), (.ireturn, [0], 0)]
def bk_44 : List (List ab_I) := [b_44_0, b_44_1, b_44_2, b_44_3, b_44_4, b_44_5]
-- 45: RelayRace.won(I)I
def mr_45 : ab_M := (yX4_won, prog_1_method_16_code, 2, some .int, 1, false)
def pc_45 : List Nat := [0, 10]
def b_45_0 : List ab_I := [(.iload_n 1, [], 0), (.invokestatic 92, [97, 1, 0], 0), (.ifCond .ne 6, [1], 0), (.bipush (-2), [], 0), (.ireturn, [0], 0)]
def b_45_1 : List ab_I := [(.aload_n 0, [], 0), (.getfield 32, [4, 4], 0), (.iload_n 1, [], 0), (.invokestatic 154, [46, 2, 0], 0), (.ireturn, [0], 0)]
def bk_45 : List (List ab_I) := [b_45_0, b_45_1]
-- 46: RelayRace.winnerOf(LRelayRace$Race;I)I
def mr_46 : ab_M := (yX4_winnerOf, prog_1_method_17_code, 3, some .int, 2, true)
def pc_46 : List Nat := [0, 12, 20, 25]
def b_46_0 : List ab_I := [(.aload_n 0, [], 0), (.invokevirtual 158, [21, 1, 0], 0), (.istore_n 2, [], 0), (.iload_n 2, [], 0), (.iconst (-1), [], 0), (.if_icmp .ne 5, [1], 0), (.iconst (-1), [], 0), (.ireturn, [0], 0)]
def b_46_1 : List ab_I := [(.iload_n 1, [], 0), (.ifCond .ne 7, [2], 0), (.iload_n 2, [], 0), (.goto 8, [3], 0)]
def b_46_2 : List ab_I := [(.aload_n 0, [], 0), (.iload_n 2, [], 0), (.invokevirtual 148, [15, 2, 0], 0)]
def b_46_3 : List ab_I := [(.ireturn, [0], 0)]
def bk_46 : List (List ab_I) := [b_46_0, b_46_1, b_46_2, b_46_3]
-- 47: RelayRace.changes()I
def mr_47 : ab_M := (yX4_changes, prog_1_method_18_code, 3, some .int, 0, false)
def pc_47 : List Nat := [0, 4, 34, 40]
def b_47_0 : List ab_I := [(.iconst 0, [], 0), (.istore_n 1, [], 0), (.iconst 1, [], 0), (.istore_n 2, [], 0)]
def b_47_1 : List ab_I := [(.iload_n 2, [], 0), (.bipush 48, [], 0), (.if_icmp .ge 33, [3], 0), (.aload_n 0, [], 0), (.getfield 32, [4, 4], 0), (.iload_n 2, [], 0), (.invokevirtual 161, [20, 2, 0], 0), (.aload_n 0, [], 0), (.getfield 32, [4, 4], 0), (.iload_n 2, [], 0), (.iconst 1, [], 0), (.isub, [], 0), (.invokevirtual 161, [20, 2, 0], 0), (.if_icmp .eq 6, [2], 0), (.iinc 1 1, [], 0)]
def b_47_2 : List ab_I := [(.iinc 2 1, [], 0), (.goto (-33), [1], 0)]
def b_47_3 : List ab_I := [(.iload_n 1, [], 0), (.ireturn, [0], 0)]
def bk_47 : List (List ab_I) := [b_47_0, b_47_1, b_47_2, b_47_3]
-- 48: RelayRace.leader(I)I
def mr_48 : ab_M := (yX4_leader, prog_1_method_19_code, 6, some .int, 1, false)
def pc_48 : List Nat := [0, 10, 17, 49, 55, 63, 64]
def b_48_0 : List ab_I := [(.iload_n 1, [], 0), (.invokestatic 92, [97, 1, 0], 0), (.ifCond .ne 6, [1], 0), (.bipush (-2), [], 0), (.ireturn, [0], 0)]
def b_48_1 : List ab_I := [(.iconst (-1), [], 0), (.istore_n 2, [], 0), (.iconst (-1), [], 0), (.istore_n 3, [], 0), (.iconst 0, [], 0), (.istore 4, [], 0)]
def b_48_2 : List ab_I := [(.iload 4, [], 0), (.aload_n 0, [], 0), (.getfield 32, [4, 4], 0), (.getfield 164, [0, 5], 0), (.if_icmp .ge 29, [4], 0), (.aload_n 0, [], 0), (.iload 4, [], 0), (.invokevirtual 167, [49, 2, 4], 0), (.istore 5, [], 0), (.iload 5, [], 0), (.iload_n 3, [], 0), (.if_icmp .le 9, [3], 0), (.iload 4, [], 0), (.istore_n 2, [], 0), (.iload 5, [], 0), (.istore_n 3, [], 0)]
def b_48_3 : List ab_I := [(.iinc 4 1, [], 0), (.goto (-35), [2], 0)]
def b_48_4 : List ab_I := [(.iload_n 1, [], 0), (.ifCond .ne 7, [5], 0), (.iload_n 2, [], 0), (.goto 4, [6], 0)]
def b_48_5 : List ab_I := [(.iload_n 3, [], 0)]
def b_48_6 : List ab_I := [(.ireturn, [0], 0)]
def bk_48 : List (List ab_I) := [b_48_0, b_48_1, b_48_2, b_48_3, b_48_4, b_48_5, b_48_6]
-- 49: RelayRace.momentsAhead(I)I
def mr_49 : ab_M := (yX4_momentsAhead, prog_1_method_20_code, 4, some .int, 1, false)
def pc_49 : List Nat := [0, 4, 25, 31]
def b_49_0 : List ab_I := [(.iconst 0, [], 0), (.istore_n 2, [], 0), (.iconst 0, [], 0), (.istore_n 3, [], 0)]
def b_49_1 : List ab_I := [(.iload_n 3, [], 0), (.bipush 48, [], 0), (.if_icmp .ge 24, [3], 0), (.aload_n 0, [], 0), (.getfield 32, [4, 4], 0), (.iload_n 3, [], 0), (.invokevirtual 161, [20, 2, 0], 0), (.iload_n 1, [], 0), (.if_icmp .ne 6, [2], 0), (.iinc 2 1, [], 0)]
def b_49_2 : List ab_I := [(.iinc 3 1, [], 0), (.goto (-24), [1], 0)]
def b_49_3 : List ab_I := [(.iload_n 2, [], 0), (.ireturn, [0], 0)]
def bk_49 : List (List ab_I) := [b_49_0, b_49_1, b_49_2, b_49_3]
-- 50: RelayRace.stood(I)I
def mr_50 : ab_M := (yX4_stood, prog_1_method_21_code, 2, some .int, 1, false)
def pc_50 : List Nat := [0, 19, 21]
def b_50_0 : List ab_I := [(.aload_n 0, [], 0), (.iload_n 1, [], 0), (.invokevirtual 85, [92, 2, 4], 0), (.ifCond .eq 14, [1], 0), (.aload_n 0, [], 0), (.getfield 32, [4, 4], 0), (.iload_n 1, [], 0), (.invokevirtual 170, [17, 2, 0], 0), (.goto 5, [2], 0)]
def b_50_1 : List ab_I := [(.bipush (-2), [], 0)]
def b_50_2 : List ab_I := [(.ireturn, [0], 0)]
def bk_50 : List (List ab_I) := [b_50_0, b_50_1, b_50_2]
-- 51: RelayRace.order(II)I
def mr_51 : ab_M := (yX4_order, prog_1_method_22_code, 3, some .int, 2, false)
def pc_51 : List Nat := [0, 17, 20]
def b_51_0 : List ab_I := [(.aload_n 0, [], 0), (.iload_n 1, [], 0), (.invokevirtual 85, [92, 2, 4], 0), (.ifCond .eq 12, [1], 0), (.iload_n 2, [], 0), (.ifCond .lt 8, [1], 0), (.iload_n 2, [], 0), (.iconst 4, [], 0), (.if_icmp .le 6, [2], 0)]
def b_51_1 : List ab_I := [(.bipush (-2), [], 0), (.ireturn, [0], 0)]
def b_51_2 : List ab_I := [(.aload_n 0, [], 0), (.iload_n 1, [], 0), (.invokevirtual 173, [52, 2, 4], 0), (.aload_n 0, [], 0), (.getfield 47, [4, 8], 0), (.iload_n 2, [], 0), (.iaload, [], 0), (.ireturn, [0], 0)]
def bk_51 : List (List ab_I) := [b_51_0, b_51_1, b_51_2]
-- 52: RelayRace.findOrder(I)V
def mr_52 : ab_M := (yX4_findOrder, prog_1_method_23_code, 5, none, 1, false)
def pc_52 : List Nat := [0, 21, 28, 36, 68, 74, 80, 86]
def b_52_0 : List ab_I := [(.aload_n 0, [], 0), (.getfield 47, [4, 8], 0), (.iconst (-1), [], 0), (.invokestatic 176, [4, 2, 0], 0), (.aload_n 0, [], 0), (.getfield 36, [4, 5], 0), (.aload_n 0, [], 0), (.getfield 32, [4, 4], 0), (.invokevirtual 182, [7, 2, 0], 0), (.iconst 0, [], 0), (.istore_n 2, [], 0)]
def b_52_1 : List ab_I := [(.iload_n 2, [], 0), (.iconst 4, [], 0), (.if_icmp .ge 63, [7], 0), (.iconst 0, [], 0), (.istore_n 3, [], 0)]
def b_52_2 : List ab_I := [(.iload_n 3, [], 0), (.iconst 4, [], 0), (.if_icmp .ge 50, [6], 0), (.iconst 0, [], 0), (.istore 4, [], 0)]
def b_52_3 : List ab_I := [(.iload 4, [], 0), (.iconst 4, [], 0), (.if_icmp .ge 35, [5], 0), (.iload_n 2, [], 0), (.iload_n 3, [], 0), (.if_icmp .eq 24, [4], 0), (.iload_n 2, [], 0), (.iload 4, [], 0), (.if_icmp .eq 18, [4], 0), (.iload_n 3, [], 0), (.iload 4, [], 0), (.if_icmp .eq 12, [4], 0), (.aload_n 0, [], 0), (.iload_n 1, [], 0), (.iload_n 2, [], 0), (.iload_n 3, [], 0), (.iload 4, [], 0), (.invokevirtual 186, [53, 5, 4], 0)]
def b_52_4 : List ab_I := [(.iinc 4 1, [], 0), (.goto (-35), [3], 0)]
def b_52_5 : List ab_I := [(.iinc 3 1, [], 0), (.goto (-49), [2], 0)]
def b_52_6 : List ab_I := [(.iinc 2 1, [], 0), (.goto (-62), [1], 0)]
def b_52_7 : List ab_I := [(.return_, [], 0)]
def bk_52 : List (List ab_I) := [b_52_0, b_52_1, b_52_2, b_52_3, b_52_4, b_52_5, b_52_6, b_52_7]
-- 53: RelayRace.tryOrder(IIII)V
def mr_53 : ab_M := (yX4_tryOrder, prog_1_method_24_code, 6, none, 4, false)
def pc_53 : List Nat := [0, 141]
def b_53_0 : List ab_I := [(.bipush 6, [], 0), (.iload_n 2, [], 0), (.isub, [], 0), (.iload_n 3, [], 0), (.isub, [], 0), (.iload 4, [], 0), (.isub, [], 0), (.istore 5, [], 0), (.aload_n 0, [], 0), (.getfield 36, [4, 5], 0), (.aload_n 0, [], 0), (.getfield 32, [4, 4], 0), (.iload_n 1, [], 0), (.iconst 0, [], 0), (.iload_n 2, [], 0), (.invokevirtual 190, [8, 5, 0], 0), (.aload_n 0, [], 0), (.getfield 36, [4, 5], 0), (.aload_n 0, [], 0), (.getfield 32, [4, 4], 0), (.iload_n 1, [], 0), (.iconst 1, [], 0), (.iload_n 3, [], 0), (.invokevirtual 190, [8, 5, 0], 0), (.aload_n 0, [], 0), (.getfield 36, [4, 5], 0), (.aload_n 0, [], 0), (.getfield 32, [4, 4], 0), (.iload_n 1, [], 0), (.iconst 2, [], 0), (.iload 4, [], 0), (.invokevirtual 190, [8, 5, 0], 0), (.aload_n 0, [], 0), (.getfield 36, [4, 5], 0), (.aload_n 0, [], 0), (.getfield 32, [4, 4], 0), (.iload_n 1, [], 0), (.iconst 3, [], 0), (.iload 5, [], 0), (.invokevirtual 190, [8, 5, 0], 0), (.aload_n 0, [], 0), (.getfield 36, [4, 5], 0), (.iload_n 1, [], 0), (.invokevirtual 194, [12, 2, 0], 0), (.aload_n 0, [], 0), (.getfield 36, [4, 5], 0), (.iload_n 1, [], 0), (.invokevirtual 148, [15, 2, 0], 0), (.aload_n 0, [], 0), (.getfield 47, [4, 8], 0), (.iconst 4, [], 0), (.iaload, [], 0), (.invokestatic 197, [55, 2, 0], 0), (.ifCond .eq 47, [1], 0), (.aload_n 0, [], 0), (.getfield 47, [4, 8], 0), (.iconst 0, [], 0), (.iload_n 2, [], 0), (.iastore, [], 0), (.aload_n 0, [], 0), (.getfield 47, [4, 8], 0), (.iconst 1, [], 0), (.iload_n 3, [], 0), (.iastore, [], 0), (.aload_n 0, [], 0), (.getfield 47, [4, 8], 0), (.iconst 2, [], 0), (.iload 4, [], 0), (.iastore, [], 0), (.aload_n 0, [], 0), (.getfield 47, [4, 8], 0), (.iconst 3, [], 0), (.iload 5, [], 0), (.iastore, [], 0), (.aload_n 0, [], 0), (.getfield 47, [4, 8], 0), (.iconst 4, [], 0), (.aload_n 0, [], 0), (.getfield 36, [4, 5], 0), (.iload_n 1, [], 0), (.invokevirtual 148, [15, 2, 0], 0), (.iastore, [], 0)]
def b_53_1 : List ab_I := [(.return_, [], 0)]
def bk_53 : List (List ab_I) := [b_53_0, b_53_1]
-- 54: RelayRace.train(II)I
def mr_54 : ab_M := (yX4_train, prog_1_method_25_code, 7, some .int, 2, false)
def pc_54 : List Nat := [0, 15, 18, 37, 135, 141, 149, 151]
def b_54_0 : List ab_I := [(.aload_n 0, [], 0), (.iload_n 1, [], 0), (.invokevirtual 85, [92, 2, 4], 0), (.ifCond .eq 10, [1], 0), (.iload_n 2, [], 0), (.invokestatic 92, [97, 1, 0], 0), (.ifCond .ne 6, [2], 0)]
def b_54_1 : List ab_I := [(.bipush (-2), [], 0), (.ireturn, [0], 0)]
def b_54_2 : List ab_I := [(.iconst (-1), [], 0), (.istore_n 3, [], 0), (.iconst (-1), [], 0), (.istore 4, [], 0), (.aload_n 0, [], 0), (.getfield 36, [4, 5], 0), (.aload_n 0, [], 0), (.getfield 32, [4, 4], 0), (.invokevirtual 182, [7, 2, 0], 0), (.iconst 0, [], 0), (.istore 5, [], 0)]
def b_54_3 : List ab_I := [(.iload 5, [], 0), (.iconst 4, [], 0), (.if_icmp .ge 101, [5], 0), (.iload_n 1, [], 0), (.iconst 4, [], 0), (.imul, [], 0), (.iload 5, [], 0), (.iadd, [], 0), (.istore 6, [], 0), (.aload_n 0, [], 0), (.getfield 36, [4, 5], 0), (.getfield 98, [0, 1], 0), (.iload 6, [], 0), (.bipush 9, [], 0), (.aload_n 0, [], 0), (.getfield 32, [4, 4], 0), (.getfield 98, [0, 1], 0), (.iload 6, [], 0), (.iaload, [], 0), (.iconst 1, [], 0), (.iadd, [], 0), (.invokestatic 201, [2], 0), (.iastore, [], 0), (.aload_n 0, [], 0), (.getfield 36, [4, 5], 0), (.iload_n 1, [], 0), (.invokevirtual 194, [12, 2, 0], 0), (.aload_n 0, [], 0), (.getfield 36, [4, 5], 0), (.getfield 98, [0, 1], 0), (.iload 6, [], 0), (.aload_n 0, [], 0), (.getfield 32, [4, 4], 0), (.getfield 98, [0, 1], 0), (.iload 6, [], 0), (.iaload, [], 0), (.iastore, [], 0), (.aload_n 0, [], 0), (.getfield 36, [4, 5], 0), (.iload_n 1, [], 0), (.invokevirtual 148, [15, 2, 0], 0), (.iload 4, [], 0), (.invokestatic 197, [55, 2, 0], 0), (.ifCond .eq 16, [4], 0), (.iload 5, [], 0), (.istore_n 3, [], 0), (.aload_n 0, [], 0), (.getfield 36, [4, 5], 0), (.iload_n 1, [], 0), (.invokevirtual 148, [15, 2, 0], 0), (.istore 4, [], 0)]
def b_54_4 : List ab_I := [(.iinc 5 1, [], 0), (.goto (-101), [3], 0)]
def b_54_5 : List ab_I := [(.iload_n 2, [], 0), (.ifCond .ne 7, [6], 0), (.iload_n 3, [], 0), (.goto 5, [7], 0)]
def b_54_6 : List ab_I := [(.iload 4, [], 0)]
def b_54_7 : List ab_I := [(.ireturn, [0], 0)]
def bk_54 : List (List ab_I) := [b_54_0, b_54_1, b_54_2, b_54_3, b_54_4, b_54_5, b_54_6, b_54_7]
-- 55: RelayRace.isSooner(II)Z
def mr_55 : ab_M := (yX4_isSooner, prog_1_method_26_code, 2, some .boolean, 2, true)
def pc_55 : List Nat := [0, 15, 19, 20]
def b_55_0 : List ab_I := [(.iload_n 0, [], 0), (.iconst (-1), [], 0), (.if_icmp .eq 17, [2], 0), (.iload_n 1, [], 0), (.iconst (-1), [], 0), (.if_icmp .eq 8, [1], 0), (.iload_n 0, [], 0), (.iload_n 1, [], 0), (.if_icmp .ge 7, [2], 0)]
def b_55_1 : List ab_I := [(.iconst 1, [], 0), (.goto 4, [3], 0)]
def b_55_2 : List ab_I := [(.iconst 0, [], 0)]
def b_55_3 : List ab_I := [(.ireturn, [1], 0)]
def bk_55 : List (List ab_I) := [b_55_0, b_55_1, b_55_2, b_55_3]
-- 56: RelayRace.fit(I)I
def mr_56 : ab_M := (yX4_fit, prog_1_method_27_code, 3, some .int, 1, false)
def pc_56 : List Nat := [0, 11, 25, 59, 65]
def b_56_0 : List ab_I := [(.aload_n 0, [], 0), (.iload_n 1, [], 0), (.invokevirtual 85, [92, 2, 4], 0), (.ifCond .ne 6, [1], 0), (.bipush (-2), [], 0), (.ireturn, [0], 0)]
def b_56_1 : List ab_I := [(.aload_n 0, [], 0), (.getfield 36, [4, 5], 0), (.aload_n 0, [], 0), (.getfield 32, [4, 4], 0), (.invokevirtual 182, [7, 2, 0], 0), (.bipush 10, [], 0), (.istore_n 2, [], 0)]
def b_56_2 : List ab_I := [(.iload_n 2, [], 0), (.bipush 60, [], 0), (.if_icmp .gt 37, [4], 0), (.aload_n 0, [], 0), (.getfield 36, [4, 5], 0), (.iload_n 2, [], 0), (.putfield 206, [0, 6, 0], 0), (.aload_n 0, [], 0), (.getfield 36, [4, 5], 0), (.invokevirtual 132, [11, 1, 0], 0), (.aload_n 0, [], 0), (.getfield 36, [4, 5], 0), (.invokevirtual 158, [21, 1, 0], 0), (.iload_n 1, [], 0), (.if_icmp .ne 5, [3], 0), (.iload_n 2, [], 0), (.ireturn, [0], 0)]
def b_56_3 : List ab_I := [(.iinc 2 1, [], 0), (.goto (-37), [2], 0)]
def b_56_4 : List ab_I := [(.iconst (-1), [], 0), (.ireturn, [0], 0)]
def bk_56 : List (List ab_I) := [b_56_0, b_56_1, b_56_2, b_56_3, b_56_4]
-- 57: RelayRace.spare(I)I
def mr_57 : ab_M := (yX4_spare, prog_1_method_28_code, 5, some .int, 1, false)
def pc_57 : List Nat := [0, 10, 13, 39, 40, 41, 43, 76, 82, 84, 100, 142, 148, 154]
def b_57_0 : List ab_I := [(.iload_n 1, [], 0), (.iconst (-1), [], 0), (.if_icmp .lt 8, [1], 0), (.iload_n 1, [], 0), (.iconst 1, [], 0), (.if_icmp .le 6, [2], 0)]
def b_57_1 : List ab_I := [(.bipush (-2), [], 0), (.ireturn, [0], 0)]
def b_57_2 : List ab_I := [(.aload_n 0, [], 0), (.invokevirtual 207, [59, 1, 4], 0), (.aload_n 0, [], 0), (.invokevirtual 125, [41, 1, 4], 0), (.istore_n 2, [], 0), (.aload_n 0, [], 0), (.iload_n 2, [], 0), (.invokevirtual 210, [60, 2, 4], 0), (.ifCond .ne 14, [5], 0), (.iload_n 1, [], 0), (.iconst (-1), [], 0), (.if_icmp .ne 7, [3], 0), (.iconst 0, [], 0), (.goto 4, [4], 0)]
def b_57_3 : List ab_I := [(.iconst (-1), [], 0)]
def b_57_4 : List ab_I := [(.ireturn, [0], 0)]
def b_57_5 : List ab_I := [(.iconst 0, [], 0), (.istore_n 3, [], 0)]
def b_57_6 : List ab_I := [(.iload_n 3, [], 0), (.aload_n 0, [], 0), (.getfield 19, [4, 1], 0), (.getfield 105, [3, 3], 0), (.if_icmp .ge 31, [8], 0), (.aload_n 0, [], 0), (.iload_n 2, [], 0), (.iconst 1, [], 0), (.iload_n 3, [], 0), (.ishl, [], 0), (.iconst (-1), [], 0), (.ixor, [], 0), (.iand, [], 0), (.invokevirtual 210, [60, 2, 4], 0), (.ifCond .ne 11, [7], 0), (.iload_n 1, [], 0), (.iconst 1, [], 0), (.iload_n 3, [], 0), (.iconst (-1), [], 0), (.invokestatic 213, [58, 4, 0], 0), (.ireturn, [0], 0)]
def b_57_7 : List ab_I := [(.iinc 3 1, [], 0), (.goto (-36), [6], 0)]
def b_57_8 : List ab_I := [(.iconst 0, [], 0), (.istore_n 3, [], 0)]
def b_57_9 : List ab_I := [(.iload_n 3, [], 0), (.aload_n 0, [], 0), (.getfield 19, [4, 1], 0), (.getfield 105, [3, 3], 0), (.if_icmp .ge 62, [13], 0), (.iload_n 3, [], 0), (.iconst 1, [], 0), (.iadd, [], 0), (.istore 4, [], 0)]
def b_57_10 : List ab_I := [(.iload 4, [], 0), (.aload_n 0, [], 0), (.getfield 19, [4, 1], 0), (.getfield 105, [3, 3], 0), (.if_icmp .ge 39, [12], 0), (.aload_n 0, [], 0), (.iload_n 2, [], 0), (.iconst 1, [], 0), (.iload_n 3, [], 0), (.ishl, [], 0), (.iconst (-1), [], 0), (.ixor, [], 0), (.iand, [], 0), (.iconst 1, [], 0), (.iload 4, [], 0), (.ishl, [], 0), (.iconst (-1), [], 0), (.ixor, [], 0), (.iand, [], 0), (.invokevirtual 210, [60, 2, 4], 0), (.ifCond .ne 12, [11], 0), (.iload_n 1, [], 0), (.iconst 2, [], 0), (.iload_n 3, [], 0), (.iload 4, [], 0), (.invokestatic 213, [58, 4, 0], 0), (.ireturn, [0], 0)]
def b_57_11 : List ab_I := [(.iinc 4 1, [], 0), (.goto (-45), [10], 0)]
def b_57_12 : List ab_I := [(.iinc 3 1, [], 0), (.goto (-67), [9], 0)]
def b_57_13 : List ab_I := [(.iconst (-1), [], 0), (.ireturn, [0], 0)]
def bk_57 : List (List ab_I) := [b_57_0, b_57_1, b_57_2, b_57_3, b_57_4, b_57_5, b_57_6, b_57_7, b_57_8, b_57_9, b_57_10, b_57_11, b_57_12, b_57_13]
-- 58: RelayRace.spared(IIII)I
def mr_58 : ab_M := (yX4_spared, prog_1_method_29_code, 4, some .int, 4, true)
def pc_58 : List Nat := [0, 7, 15, 16]
def b_58_0 : List ab_I := [(.iload_n 0, [], 0), (.iconst (-1), [], 0), (.if_icmp .ne 5, [1], 0), (.iload_n 1, [], 0), (.ireturn, [0], 0)]
def b_58_1 : List ab_I := [(.iload_n 0, [], 0), (.ifCond .ne 7, [2], 0), (.iload_n 2, [], 0), (.goto 4, [3], 0)]
def b_58_2 : List ab_I := [(.iload_n 3, [], 0)]
def b_58_3 : List ab_I := [(.ireturn, [0], 0)]
def bk_58 : List (List ab_I) := [b_58_0, b_58_1, b_58_2, b_58_3]
-- 59: RelayRace.prepareStandings()V
def mr_59 : ab_M := (yX4_prepareStandings, prog_1_method_30_code, 1, none, 0, false)
def pc_59 : List Nat := [0, 31]
def b_59_0 : List ab_I := [(.aload_n 0, [], 0), (.getfield 36, [4, 5], 0), (.aload_n 0, [], 0), (.getfield 32, [4, 4], 0), (.invokevirtual 182, [7, 2, 0], 0), (.aload_n 0, [], 0), (.getfield 43, [4, 7], 0), (.ifCond .eq 16, [1], 0), (.aload_n 0, [], 0), (.getfield 39, [4, 6], 0), (.iconst 0, [], 0), (.invokestatic 176, [4, 2, 0], 0), (.aload_n 0, [], 0), (.iconst 0, [], 0), (.putfield 43, [4, 7, 1], 0)]
def b_59_1 : List ab_I := [(.return_, [], 0)]
def bk_59 : List (List ab_I) := [b_59_0, b_59_1]
-- 60: RelayRace.winnerWith(I)I
def mr_60 : ab_M := (yX4_winnerWith, prog_1_method_31_code, 6, some .int, 1, false)
def pc_60 : List Nat := [0, 9, 42, 48]
def b_60_0 : List ab_I := [(.iconst (-1), [], 0), (.istore_n 2, [], 0), (.sipush 4095, [], 0), (.istore_n 3, [], 0), (.iconst 0, [], 0), (.istore 4, [], 0)]
def b_60_1 : List ab_I := [(.iload 4, [], 0), (.aload_n 0, [], 0), (.getfield 32, [4, 4], 0), (.getfield 164, [0, 5], 0), (.if_icmp .ge 30, [3], 0), (.aload_n 0, [], 0), (.iload 4, [], 0), (.iload_n 1, [], 0), (.invokevirtual 217, [61, 3, 4], 0), (.istore 5, [], 0), (.iload 5, [], 0), (.iload_n 3, [], 0), (.if_icmp .le 9, [2], 0), (.iload 4, [], 0), (.istore_n 2, [], 0), (.iload 5, [], 0), (.istore_n 3, [], 0)]
def b_60_2 : List ab_I := [(.iinc 4 1, [], 0), (.goto (-36), [1], 0)]
def b_60_3 : List ab_I := [(.iload_n 2, [], 0), (.ireturn, [0], 0)]
def bk_60 : List (List ab_I) := [b_60_0, b_60_1, b_60_2, b_60_3]
-- 61: RelayRace.standingWith(II)I
def mr_61 : ab_M := (yX4_standingWith, prog_1_method_32_code, 5, some .int, 2, false)
def pc_61 : List Nat := [0, 68]
def b_61_0 : List ab_I := [(.iload_n 2, [], 0), (.aload_n 0, [], 0), (.iload_n 1, [], 0), (.invokevirtual 220, [62, 2, 4], 0), (.iand, [], 0), (.istore_n 3, [], 0), (.iload_n 1, [], 0), (.sipush 256, [], 0), (.imul, [], 0), (.iload_n 3, [], 0), (.iadd, [], 0), (.istore 4, [], 0), (.aload_n 0, [], 0), (.getfield 39, [4, 6], 0), (.iload 4, [], 0), (.iaload, [], 0), (.ifCond .ne 44, [1], 0), (.aload_n 0, [], 0), (.getfield 36, [4, 5], 0), (.aload_n 0, [], 0), (.getfield 59, [4, 11], 0), (.aload_n 0, [], 0), (.getfield 19, [4, 1], 0), (.iload_n 3, [], 0), (.invokevirtual 128, [9, 4, 0], 0), (.aload_n 0, [], 0), (.getfield 36, [4, 5], 0), (.iload_n 1, [], 0), (.invokevirtual 194, [12, 2, 0], 0), (.aload_n 0, [], 0), (.getfield 39, [4, 6], 0), (.iload 4, [], 0), (.aload_n 0, [], 0), (.getfield 36, [4, 5], 0), (.iload_n 1, [], 0), (.bipush 47, [], 0), (.invokevirtual 223, [18, 3, 0], 0), (.iastore, [], 0)]
def b_61_1 : List ab_I := [(.aload_n 0, [], 0), (.getfield 39, [4, 6], 0), (.iload 4, [], 0), (.iaload, [], 0), (.ireturn, [0], 0)]
def bk_61 : List (List ab_I) := [b_61_0, b_61_1]
-- 62: RelayRace.eventsTouching(I)I
def mr_62 : ab_M := (yX4_eventsTouching, prog_1_method_33_code, 4, some .int, 1, false)
def pc_62 : List Nat := [0, 4, 40, 46, 52]
def b_62_0 : List ab_I := [(.iconst 0, [], 0), (.istore_n 2, [], 0), (.iconst 0, [], 0), (.istore_n 3, [], 0)]
def b_62_1 : List ab_I := [(.iload_n 3, [], 0), (.aload_n 0, [], 0), (.getfield 19, [4, 1], 0), (.getfield 105, [3, 3], 0), (.if_icmp .ge 40, [4], 0), (.aload_n 0, [], 0), (.getfield 19, [4, 1], 0), (.getfield 226, [3, 0], 0), (.iload_n 3, [], 0), (.iaload, [], 0), (.ifCond .eq 16, [2], 0), (.aload_n 0, [], 0), (.getfield 19, [4, 1], 0), (.getfield 229, [3, 2], 0), (.iload_n 3, [], 0), (.iaload, [], 0), (.iload_n 1, [], 0), (.if_icmp .ne 9, [3], 0)]
def b_62_2 : List ab_I := [(.iload_n 2, [], 0), (.iconst 1, [], 0), (.iload_n 3, [], 0), (.ishl, [], 0), (.ior, [], 0), (.istore_n 2, [], 0)]
def b_62_3 : List ab_I := [(.iinc 3 1, [], 0), (.goto (-45), [1], 0)]
def b_62_4 : List ab_I := [(.iload_n 2, [], 0), (.ireturn, [0], 0)]
def bk_62 : List (List ab_I) := [b_62_0, b_62_1, b_62_2, b_62_3, b_62_4]
-- 63: RelayRace.seen(III)I
def mr_63 : ab_M := (yX4_seen, prog_1_method_34_code, 4, some .int, 3, false)
def pc_63 : List Nat := [0, 21, 24, 39]
def b_63_0 : List ab_I := [(.iload_n 1, [], 0), (.invokestatic 135, [94, 1, 0], 0), (.ifCond .eq 17, [1], 0), (.iload_n 2, [], 0), (.invokestatic 232, [95, 1, 0], 0), (.ifCond .eq 10, [1], 0), (.iload_n 3, [], 0), (.invokestatic 232, [95, 1, 0], 0), (.ifCond .ne 6, [2], 0)]
def b_63_1 : List ab_I := [(.bipush (-2), [], 0), (.ireturn, [0], 0)]
def b_63_2 : List ab_I := [(.aload_n 0, [], 0), (.getfield 23, [4, 2], 0), (.getfield 105, [3, 3], 0), (.bipush 8, [], 0), (.if_icmp .lt 6, [3], 0), (.bipush (-4), [], 0), (.ireturn, [0], 0)]
def b_63_3 : List ab_I := [(.aload_n 0, [], 0), (.getfield 23, [4, 2], 0), (.iload_n 1, [], 0), (.iload_n 2, [], 0), (.iload_n 3, [], 0), (.invokevirtual 108, [30, 4, 3], 0), (.aload_n 0, [], 0), (.getfield 23, [4, 2], 0), (.getfield 105, [3, 3], 0), (.ireturn, [0], 0)]
def bk_63 : List (List ab_I) := [b_63_0, b_63_1, b_63_2, b_63_3]
-- 64: RelayRace.forget()I
def mr_64 : ab_M := (yX4_forget, prog_1_method_35_code, 2, some .int, 0, false)
def pc_64 : List Nat := [0]
def b_64_0 : List ab_I := [(.aload_n 0, [], 0), (.getfield 23, [4, 2], 0), (.getfield 105, [3, 3], 0), (.istore_n 1, [], 0), (.aload_n 0, [], 0), (.getfield 23, [4, 2], 0), (.iconst 0, [], 0), (.putfield 105, [3, 3, 0], 0), (.iload_n 1, [], 0), (.ireturn, [0], 0)]
def bk_64 : List (List ab_I) := [b_64_0]
-- 65: RelayRace.never()I
def mr_65 : ab_M := (yX4_never, prog_1_method_36_code, 3, some .int, 0, false)
def pc_65 : List Nat := [0, 15, 78, 84]
def b_65_0 : List ab_I := [(.iconst 0, [], 0), (.istore_n 1, [], 0), (.aload_n 0, [], 0), (.getfield 36, [4, 5], 0), (.aload_n 0, [], 0), (.getfield 32, [4, 4], 0), (.invokevirtual 182, [7, 2, 0], 0), (.iconst 0, [], 0), (.istore_n 2, [], 0)]
def b_65_1 : List ab_I := [(.iload_n 2, [], 0), (.aload_n 0, [], 0), (.getfield 19, [4, 1], 0), (.getfield 105, [3, 3], 0), (.if_icmp .ge 61, [3], 0), (.aload_n 0, [], 0), (.getfield 36, [4, 5], 0), (.aload_n 0, [], 0), (.getfield 59, [4, 11], 0), (.aload_n 0, [], 0), (.getfield 19, [4, 1], 0), (.aload_n 0, [], 0), (.invokevirtual 125, [41, 1, 4], 0), (.iconst 1, [], 0), (.iload_n 2, [], 0), (.ishl, [], 0), (.iconst (-1), [], 0), (.ixor, [], 0), (.iand, [], 0), (.invokevirtual 128, [9, 4, 0], 0), (.aload_n 0, [], 0), (.getfield 36, [4, 5], 0), (.invokevirtual 132, [11, 1, 0], 0), (.aload_n 0, [], 0), (.getfield 36, [4, 5], 0), (.aload_n 0, [], 0), (.getfield 23, [4, 2], 0), (.invokevirtual 235, [22, 2, 0], 0), (.ifCond .eq 9, [2], 0), (.iload_n 1, [], 0), (.iconst 1, [], 0), (.iload_n 2, [], 0), (.ishl, [], 0), (.ior, [], 0), (.istore_n 1, [], 0)]
def b_65_2 : List ab_I := [(.iinc 2 1, [], 0), (.goto (-66), [1], 0)]
def b_65_3 : List ab_I := [(.iload_n 1, [], 0), (.ireturn, [0], 0)]
def bk_65 : List (List ab_I) := [b_65_0, b_65_1, b_65_2, b_65_3]
-- 66: RelayRace.was(III)I
def mr_66 : ab_M := (yX4_was, prog_1_method_37_code, 4, some .int, 3, false)
def pc_66 : List Nat := [0, 22, 25, 49, 55]
def b_66_0 : List ab_I := [(.aload_n 0, [], 0), (.iload_n 1, [], 0), (.invokevirtual 85, [92, 2, 4], 0), (.ifCond .eq 17, [1], 0), (.iload_n 2, [], 0), (.invokestatic 89, [93, 1, 0], 0), (.ifCond .eq 10, [1], 0), (.iload_n 3, [], 0), (.invokestatic 92, [97, 1, 0], 0), (.ifCond .ne 6, [2], 0)]
def b_66_1 : List ab_I := [(.bipush (-2), [], 0), (.ireturn, [0], 0)]
def b_66_2 : List ab_I := [(.aload_n 0, [], 0), (.getfield 36, [4, 5], 0), (.aload_n 0, [], 0), (.getfield 32, [4, 4], 0), (.invokevirtual 182, [7, 2, 0], 0), (.iload_n 3, [], 0), (.ifCond .ne 12, [3], 0), (.aload_n 0, [], 0), (.iload_n 1, [], 0), (.iload_n 2, [], 0), (.invokevirtual 239, [67, 3, 4], 0), (.goto 9, [4], 0)]
def b_66_3 : List ab_I := [(.aload_n 0, [], 0), (.iload_n 1, [], 0), (.iload_n 2, [], 0), (.invokevirtual 242, [68, 3, 4], 0)]
def b_66_4 : List ab_I := [(.ireturn, [0], 0)]
def bk_66 : List (List ab_I) := [b_66_0, b_66_1, b_66_2, b_66_3, b_66_4]
-- 67: RelayRace.possiblePaces(II)I
def mr_67 : ab_M := (yX4_possiblePaces, prog_1_method_38_code, 5, some .int, 2, false)
def pc_67 : List Nat := [0, 5, 56, 62]
def b_67_0 : List ab_I := [(.iconst 0, [], 0), (.istore_n 3, [], 0), (.iconst 1, [], 0), (.istore 4, [], 0)]
def b_67_1 : List ab_I := [(.iload 4, [], 0), (.bipush 9, [], 0), (.if_icmp .gt 53, [3], 0), (.aload_n 0, [], 0), (.getfield 36, [4, 5], 0), (.getfield 98, [0, 1], 0), (.iload_n 1, [], 0), (.iconst 4, [], 0), (.imul, [], 0), (.iload_n 2, [], 0), (.iadd, [], 0), (.iload 4, [], 0), (.iastore, [], 0), (.aload_n 0, [], 0), (.getfield 36, [4, 5], 0), (.iload_n 1, [], 0), (.invokevirtual 194, [12, 2, 0], 0), (.aload_n 0, [], 0), (.getfield 36, [4, 5], 0), (.aload_n 0, [], 0), (.getfield 23, [4, 2], 0), (.invokevirtual 235, [22, 2, 0], 0), (.ifCond .eq 10, [2], 0), (.iload_n 3, [], 0), (.iconst 1, [], 0), (.iload 4, [], 0), (.ishl, [], 0), (.ior, [], 0), (.istore_n 3, [], 0)]
def b_67_2 : List ab_I := [(.iinc 4 1, [], 0), (.goto (-54), [1], 0)]
def b_67_3 : List ab_I := [(.iload_n 3, [], 0), (.ireturn, [0], 0)]
def bk_67 : List (List ab_I) := [b_67_0, b_67_1, b_67_2, b_67_3]
-- 68: RelayRace.possibleSorts(II)I
def mr_68 : ab_M := (yX4_possibleSorts, prog_1_method_39_code, 5, some .int, 2, false)
def pc_68 : List Nat := [0, 5, 55, 61]
def b_68_0 : List ab_I := [(.iconst 0, [], 0), (.istore_n 3, [], 0), (.iconst 0, [], 0), (.istore 4, [], 0)]
def b_68_1 : List ab_I := [(.iload 4, [], 0), (.iconst 3, [], 0), (.if_icmp .ge 53, [3], 0), (.aload_n 0, [], 0), (.getfield 36, [4, 5], 0), (.getfield 95, [0, 0], 0), (.iload_n 1, [], 0), (.iconst 4, [], 0), (.imul, [], 0), (.iload_n 2, [], 0), (.iadd, [], 0), (.iload 4, [], 0), (.iastore, [], 0), (.aload_n 0, [], 0), (.getfield 36, [4, 5], 0), (.iload_n 1, [], 0), (.invokevirtual 194, [12, 2, 0], 0), (.aload_n 0, [], 0), (.getfield 36, [4, 5], 0), (.aload_n 0, [], 0), (.getfield 23, [4, 2], 0), (.invokevirtual 235, [22, 2, 0], 0), (.ifCond .eq 10, [2], 0), (.iload_n 3, [], 0), (.iconst 1, [], 0), (.iload 4, [], 0), (.ishl, [], 0), (.ior, [], 0), (.istore_n 3, [], 0)]
def b_68_2 : List ab_I := [(.iinc 4 1, [], 0), (.goto (-53), [1], 0)]
def b_68_3 : List ab_I := [(.iload_n 3, [], 0), (.ireturn, [0], 0)]
def bk_68 : List (List ab_I) := [b_68_0, b_68_1, b_68_2, b_68_3]
-- 69: RelayRace.ask(II)I
def mr_69 : ab_M := (yX4_ask, prog_1_method_40_code, 5, some .int, 2, false)
def pc_69 : List Nat := [0, 15, 18, 39, 86, 92, 97, 121, 127]
def b_69_0 : List ab_I := [(.aload_n 0, [], 0), (.iload_n 1, [], 0), (.invokevirtual 85, [92, 2, 4], 0), (.ifCond .eq 10, [1], 0), (.iload_n 2, [], 0), (.invokestatic 89, [93, 1, 0], 0), (.ifCond .ne 6, [2], 0)]
def b_69_1 : List ab_I := [(.bipush (-2), [], 0), (.ireturn, [0], 0)]
def b_69_2 : List ab_I := [(.aload_n 0, [], 0), (.getfield 50, [4, 9], 0), (.iconst 0, [], 0), (.invokestatic 176, [4, 2, 0], 0), (.aload_n 0, [], 0), (.getfield 36, [4, 5], 0), (.aload_n 0, [], 0), (.getfield 32, [4, 4], 0), (.invokevirtual 182, [7, 2, 0], 0), (.iconst 1, [], 0), (.istore_n 3, [], 0)]
def b_69_3 : List ab_I := [(.iload_n 3, [], 0), (.bipush 9, [], 0), (.if_icmp .gt 50, [5], 0), (.aload_n 0, [], 0), (.getfield 36, [4, 5], 0), (.getfield 98, [0, 1], 0), (.iload_n 1, [], 0), (.iconst 4, [], 0), (.imul, [], 0), (.iload_n 2, [], 0), (.iadd, [], 0), (.iload_n 3, [], 0), (.iastore, [], 0), (.aload_n 0, [], 0), (.getfield 36, [4, 5], 0), (.iload_n 1, [], 0), (.invokevirtual 194, [12, 2, 0], 0), (.aload_n 0, [], 0), (.getfield 36, [4, 5], 0), (.aload_n 0, [], 0), (.getfield 23, [4, 2], 0), (.invokevirtual 235, [22, 2, 0], 0), (.ifCond .eq 8, [4], 0), (.aload_n 0, [], 0), (.iload_n 1, [], 0), (.invokevirtual 245, [70, 2, 4], 0)]
def b_69_4 : List ab_I := [(.iinc 3 1, [], 0), (.goto (-50), [3], 0)]
def b_69_5 : List ab_I := [(.iconst 0, [], 0), (.istore_n 3, [], 0), (.iconst 1, [], 0), (.istore 4, [], 0)]
def b_69_6 : List ab_I := [(.iload 4, [], 0), (.bipush 48, [], 0), (.if_icmp .ge 26, [8], 0), (.aload_n 0, [], 0), (.iload 4, [], 0), (.invokevirtual 248, [71, 2, 4], 0), (.aload_n 0, [], 0), (.iload_n 3, [], 0), (.invokevirtual 248, [71, 2, 4], 0), (.if_icmp .ge 6, [7], 0), (.iload 4, [], 0), (.istore_n 3, [], 0)]
def b_69_7 : List ab_I := [(.iinc 4 1, [], 0), (.goto (-27), [6], 0)]
def b_69_8 : List ab_I := [(.iload_n 3, [], 0), (.ireturn, [0], 0)]
def bk_69 : List (List ab_I) := [b_69_0, b_69_1, b_69_2, b_69_3, b_69_4, b_69_5, b_69_6, b_69_7, b_69_8]
-- 70: RelayRace.countRanks(I)V
def mr_70 : ab_M := (yX4_countRanks, prog_1_method_41_code, 3, none, 1, false)
def pc_70 : List Nat := [0, 2, 36]
def b_70_0 : List ab_I := [(.iconst 0, [], 0), (.istore_n 2, [], 0)]
def b_70_1 : List ab_I := [(.iload_n 2, [], 0), (.bipush 48, [], 0), (.if_icmp .ge 31, [2], 0), (.aload_n 0, [], 0), (.getfield 50, [4, 9], 0), (.iload_n 2, [], 0), (.iconst 4, [], 0), (.imul, [], 0), (.aload_n 0, [], 0), (.getfield 36, [4, 5], 0), (.iload_n 1, [], 0), (.iload_n 2, [], 0), (.invokevirtual 145, [19, 3, 0], 0), (.iadd, [], 0), (.dup2, [], 0), (.iaload, [], 0), (.iconst 1, [], 0), (.iadd, [], 0), (.iastore, [], 0), (.iinc 2 1, [], 0), (.goto (-31), [1], 0)]
def b_70_2 : List ab_I := [(.return_, [], 0)]
def bk_70 : List (List ab_I) := [b_70_0, b_70_1, b_70_2]
-- 71: RelayRace.mostAlike(I)I
def mr_71 : ab_M := (yX4_mostAlike, prog_1_method_42_code, 4, some .int, 1, false)
def pc_71 : List Nat := [0, 4, 30]
def b_71_0 : List ab_I := [(.iconst 0, [], 0), (.istore_n 2, [], 0), (.iconst 0, [], 0), (.istore_n 3, [], 0)]
def b_71_1 : List ab_I := [(.iload_n 3, [], 0), (.iconst 4, [], 0), (.if_icmp .ge 24, [2], 0), (.iload_n 2, [], 0), (.aload_n 0, [], 0), (.getfield 50, [4, 9], 0), (.iload_n 1, [], 0), (.iconst 4, [], 0), (.imul, [], 0), (.iload_n 3, [], 0), (.iadd, [], 0), (.iaload, [], 0), (.invokestatic 251, [1], 0), (.istore_n 2, [], 0), (.iinc 3 1, [], 0), (.goto (-23), [1], 0)]
def b_71_2 : List ab_I := [(.iload_n 2, [], 0), (.ireturn, [0], 0)]
def bk_71 : List (List ab_I) := [b_71_0, b_71_1, b_71_2]
-- 72: RelayRace.chance(III)J
def mr_72 : ab_M := (yX4_chance, prog_1_method_43_code, 7, some .long, 3, false)
def pc_72 : List Nat := [0, 25, 29, 39, 73, 79, 94, 95, 96, 116, 130]
def b_72_0 : List ab_I := [(.iload_n 1, [], 0), (.ifCond .lt 24, [1], 0), (.iload_n 1, [], 0), (.bipush 16, [], 0), (.if_icmp .gt 18, [1], 0), (.aload_n 0, [], 0), (.iload_n 2, [], 0), (.invokevirtual 85, [92, 2, 4], 0), (.ifCond .eq 10, [1], 0), (.iload_n 3, [], 0), (.invokestatic 92, [97, 1, 0], 0), (.ifCond .ne 7, [2], 0)]
def b_72_1 : List ab_I := [(.ldc2_w 256, [], (-9223372036854775806)), (.lreturn, [], 0)]
def b_72_2 : List ab_I := [(.aload_n 0, [], 0), (.invokevirtual 207, [59, 1, 4], 0), (.lconst 0, [], 0), (.lstore 4, [], 0), (.iconst 0, [], 0), (.istore 6, [], 0)]
def b_72_3 : List ab_I := [(.iload 6, [], 0), (.aload_n 0, [], 0), (.invokevirtual 125, [41, 1, 4], 0), (.if_icmp .gt 34, [5], 0), (.aload_n 0, [], 0), (.iload 6, [], 0), (.invokevirtual 210, [60, 2, 4], 0), (.iload_n 2, [], 0), (.if_icmp .ne 18, [4], 0), (.lload 4, [], 0), (.aload_n 0, [], 0), (.iload_n 1, [], 0), (.iload 6, [], 0), (.invokestatic 258, [0, 1, 0], 0), (.invokevirtual 263, [74, 3, 4], 0), (.ladd, [], 0), (.lstore 4, [], 0)]
def b_72_4 : List ab_I := [(.iinc 6 1, [], 0), (.goto (-37), [3], 0)]
def b_72_5 : List ab_I := [(.lload 4, [], 0), (.lconst 0, [], 0), (.lcmp, [], 0), (.ifCond .ne 13, [8], 0), (.iload_n 3, [], 0), (.ifCond .ne 7, [6], 0), (.lconst 0, [], 0), (.goto 4, [7], 0)]
def b_72_6 : List ab_I := [(.lconst 1, [], 0)]
def b_72_7 : List ab_I := [(.lreturn, [], 0)]
def b_72_8 : List ab_I := [(.aload_n 0, [], 0), (.lload 4, [], 0), (.invokevirtual 267, [73, 2, 4], 0), (.istore 6, [], 0), (.iload_n 3, [], 0), (.ifCond .ne 11, [9], 0), (.lload 4, [], 0), (.iload 6, [], 0), (.lshr, [], 0), (.goto 17, [10], 0)]
def b_72_9 : List ab_I := [(.lconst 1, [], 0), (.iconst 4, [], 0), (.aload_n 0, [], 0), (.getfield 19, [4, 1], 0), (.getfield 105, [3, 3], 0), (.imul, [], 0), (.iload 6, [], 0), (.isub, [], 0), (.lshl, [], 0)]
def b_72_10 : List ab_I := [(.lreturn, [], 0)]
def bk_72 : List (List ab_I) := [b_72_0, b_72_1, b_72_2, b_72_3, b_72_4, b_72_5, b_72_6, b_72_7, b_72_8, b_72_9, b_72_10]
-- 73: RelayRace.sharedTwos(J)I
def mr_73 : ab_M := (yX4_sharedTwos, prog_1_method_44_code, 4, some .int, 1, false)
def pc_73 : List Nat := [0, 2, 31]
def b_73_0 : List ab_I := [(.iconst 0, [], 0), (.istore_n 3, [], 0)]
def b_73_1 : List ab_I := [(.iload_n 3, [], 0), (.iconst 4, [], 0), (.aload_n 0, [], 0), (.getfield 19, [4, 1], 0), (.getfield 105, [3, 3], 0), (.imul, [], 0), (.if_icmp .ge 19, [2], 0), (.lload_n 1, [], 0), (.iload_n 3, [], 0), (.lshr, [], 0), (.lconst 1, [], 0), (.land, [], 0), (.lconst 0, [], 0), (.lcmp, [], 0), (.ifCond .ne 9, [2], 0), (.iinc 3 1, [], 0), (.goto (-26), [1], 0)]
def b_73_2 : List ab_I := [(.iload_n 3, [], 0), (.ireturn, [0], 0)]
def bk_73 : List (List ab_I) := [b_73_0, b_73_1, b_73_2]
-- 74: RelayRace.weight(II)J
def mr_74 : ab_M := (yX4_weight, prog_1_method_45_code, 6, some .long, 2, false)
def pc_74 : List Nat := [0, 5, 29, 34, 42]
def b_74_0 : List ab_I := [(.lconst 1, [], 0), (.lstore_n 3, [], 0), (.iconst 0, [], 0), (.istore 5, [], 0)]
def b_74_1 : List ab_I := [(.iload 5, [], 0), (.aload_n 0, [], 0), (.getfield 19, [4, 1], 0), (.getfield 105, [3, 3], 0), (.if_icmp .ge 28, [4], 0), (.lload_n 3, [], 0), (.iload 5, [], 0), (.iload_n 2, [], 0), (.if_icmp .ge 8, [2], 0), (.iload_n 1, [], 0), (.i2l, [], 0), (.goto 8, [3], 0)]
def b_74_2 : List ab_I := [(.bipush 16, [], 0), (.iload_n 1, [], 0), (.isub, [], 0), (.i2l, [], 0)]
def b_74_3 : List ab_I := [(.lmul, [], 0), (.lstore_n 3, [], 0), (.iinc 5 1, [], 0), (.goto (-34), [1], 0)]
def b_74_4 : List ab_I := [(.lload_n 3, [], 0), (.lreturn, [], 0)]
def bk_74 : List (List ab_I) := [b_74_0, b_74_1, b_74_2, b_74_3, b_74_4]
-- 75: RelayRace.years(III)I
def mr_75 : ab_M := (yX4_years, prog_1_method_46_code, 4, some .int, 3, false)
def pc_75 : List Nat := [0, 17, 20]
def b_75_0 : List ab_I := [(.iload_n 2, [], 0), (.ifCond .lt 16, [1], 0), (.iload_n 2, [], 0), (.bipush 8, [], 0), (.if_icmp .gt 10, [1], 0), (.iload_n 3, [], 0), (.invokestatic 92, [97, 1, 0], 0), (.ifCond .ne 6, [2], 0)]
def b_75_1 : List ab_I := [(.bipush (-2), [], 0), (.ireturn, [0], 0)]
def b_75_2 : List ab_I := [(.aload_n 0, [], 0), (.iload_n 1, [], 0), (.iload_n 2, [], 0), (.invokevirtual 271, [76, 3, 4], 0), (.aload_n 0, [], 0), (.getfield 36, [4, 5], 0), (.aload_n 0, [], 0), (.getfield 32, [4, 4], 0), (.invokevirtual 182, [7, 2, 0], 0), (.aload_n 0, [], 0), (.getfield 36, [4, 5], 0), (.aload_n 0, [], 0), (.getfield 59, [4, 11], 0), (.aload_n 0, [], 0), (.getfield 26, [4, 3], 0), (.iconst 1, [], 0), (.iload_n 2, [], 0), (.ishl, [], 0), (.iconst 1, [], 0), (.isub, [], 0), (.invokevirtual 128, [9, 4, 0], 0), (.aload_n 0, [], 0), (.getfield 36, [4, 5], 0), (.invokevirtual 132, [11, 1, 0], 0), (.aload_n 0, [], 0), (.getfield 36, [4, 5], 0), (.iload_n 3, [], 0), (.invokestatic 154, [46, 2, 0], 0), (.ireturn, [0], 0)]
def bk_75 : List (List ab_I) := [b_75_0, b_75_1, b_75_2]
-- 76: RelayRace.drawEvents(II)V
def mr_76 : ab_M := (yX4_drawEvents, prog_1_method_47_code, 7, none, 2, false)
def pc_76 : List Nat := [0, 13, 74]
def b_76_0 : List ab_I := [(.aload_n 0, [], 0), (.getfield 26, [4, 3], 0), (.iconst 0, [], 0), (.putfield 105, [3, 3, 0], 0), (.iload_n 1, [], 0), (.istore_n 3, [], 0), (.iconst 0, [], 0), (.istore 4, [], 0)]
def b_76_1 : List ab_I := [(.iload 4, [], 0), (.iload_n 2, [], 0), (.if_icmp .ge 58, [2], 0), (.iload_n 3, [], 0), (.invokestatic 275, [77, 1, 0], 0), (.istore_n 3, [], 0), (.iload_n 3, [], 0), (.bipush 16, [], 0), (.iushr, [], 0), (.iconst 3, [], 0), (.irem, [], 0), (.istore 5, [], 0), (.iload_n 3, [], 0), (.invokestatic 275, [77, 1, 0], 0), (.istore_n 3, [], 0), (.iload_n 3, [], 0), (.bipush 16, [], 0), (.iushr, [], 0), (.bipush 48, [], 0), (.irem, [], 0), (.istore 6, [], 0), (.iload_n 3, [], 0), (.invokestatic 275, [77, 1, 0], 0), (.istore_n 3, [], 0), (.aload_n 0, [], 0), (.getfield 26, [4, 3], 0), (.iload 5, [], 0), (.iload 6, [], 0), (.iload_n 3, [], 0), (.bipush 16, [], 0), (.iushr, [], 0), (.iconst 4, [], 0), (.irem, [], 0), (.invokevirtual 108, [30, 4, 3], 0), (.iinc 4 1, [], 0), (.goto (-58), [1], 0)]
def b_76_2 : List ab_I := [(.return_, [], 0)]
def bk_76 : List (List ab_I) := [b_76_0, b_76_1, b_76_2]
-- 77: RelayRace.nextSeed(I)I
def mr_77 : ab_M := (yX4_nextSeed, prog_1_method_48_code, 1, some .int, 1, true)
def pc_77 : List Nat := [0]
def b_77_0 : List ab_I := [(.ldc_w 278, [], 1103515245), (.iload_n 0, [], 0), (.imul, [], 0), (.sipush 12345, [], 0), (.iadd, [], 0), (.ireturn, [0], 0)]
def bk_77 : List (List ab_I) := [b_77_0]
-- 78: RelayRace.sheet(III)I
def mr_78 : ab_M := (yX4_sheet, prog_1_method_49_code, 4, some .int, 3, false)
def pc_78 : List Nat := [0, 20, 23, 33]
def b_78_0 : List ab_I := [(.iload_n 1, [], 0), (.invokestatic 111, [98, 1, 0], 0), (.ifCond .eq 16, [1], 0), (.iload_n 2, [], 0), (.invokestatic 279, [99, 1, 0], 0), (.ifCond .eq 9, [1], 0), (.iload_n 3, [], 0), (.bipush 60, [], 0), (.if_icmp .le 6, [2], 0)]
def b_78_1 : List ab_I := [(.bipush (-2), [], 0), (.ireturn, [0], 0)]
def b_78_2 : List ab_I := [(.iload_n 3, [], 0), (.ifCond .ge 9, [3], 0), (.aload_n 0, [], 0), (.iconst 5, [], 0), (.invokevirtual 117, [100, 2, 4], 0), (.ireturn, [0], 0)]
def b_78_3 : List ab_I := [(.aload_n 0, [], 0), (.getfield 55, [4, 10], 0), (.iload_n 1, [], 0), (.aaload, [], 0), (.iload_n 2, [], 0), (.iload_n 3, [], 0), (.invokevirtual 282, [23, 3, 1], 0), (.iload_n 3, [], 0), (.ireturn, [0], 0)]
def bk_78 : List (List ab_I) := [b_78_0, b_78_1, b_78_2, b_78_3]
-- 79: RelayRace.lose(I)I
def mr_79 : ab_M := (yX4_lose, prog_1_method_50_code, 2, some .int, 1, false)
def pc_79 : List Nat := [0, 10, 28]
def b_79_0 : List ab_I := [(.iload_n 1, [], 0), (.invokestatic 111, [98, 1, 0], 0), (.ifCond .ne 6, [1], 0), (.bipush (-2), [], 0), (.ireturn, [0], 0)]
def b_79_1 : List ab_I := [(.aload_n 0, [], 0), (.getfield 55, [4, 10], 0), (.iload_n 1, [], 0), (.aaload, [], 0), (.getfield 114, [1, 1], 0), (.ifCond .eq 9, [2], 0), (.aload_n 0, [], 0), (.iconst 1, [], 0), (.invokevirtual 117, [100, 2, 4], 0), (.ireturn, [0], 0)]
def b_79_2 : List ab_I := [(.aload_n 0, [], 0), (.getfield 55, [4, 10], 0), (.iload_n 1, [], 0), (.aaload, [], 0), (.iconst 1, [], 0), (.putfield 114, [1, 1, 1], 0), (.aload_n 0, [], 0), (.getfield 55, [4, 10], 0), (.iload_n 1, [], 0), (.aaload, [], 0), (.getfield 121, [1, 3], 0), (.ireturn, [0], 0)]
def bk_79 : List (List ab_I) := [b_79_0, b_79_1, b_79_2]
-- 80: RelayRace.put(IIII)I
def mr_80 : ab_M := (yX4_put, prog_1_method_51_code, 6, some .int, 4, false)
def pc_80 : List Nat := [0, 14, 17, 42]
def b_80_0 : List ab_I := [(.iload_n 1, [], 0), (.invokestatic 111, [98, 1, 0], 0), (.ifCond .eq 10, [1], 0), (.iload_n 2, [], 0), (.invokestatic 279, [99, 1, 0], 0), (.ifCond .ne 6, [2], 0)]
def b_80_1 : List ab_I := [(.bipush (-2), [], 0), (.ireturn, [0], 0)]
def b_80_2 : List ab_I := [(.aload_n 0, [], 0), (.getfield 55, [4, 10], 0), (.iload_n 1, [], 0), (.aaload, [], 0), (.iload_n 2, [], 0), (.iload_n 3, [], 0), (.invokestatic 285, [82, 3, 0], 0), (.istore 5, [], 0), (.iload 5, [], 0), (.ifCond .eq 10, [3], 0), (.aload_n 0, [], 0), (.iload 5, [], 0), (.invokevirtual 117, [100, 2, 4], 0), (.ireturn, [0], 0)]
def b_80_3 : List ab_I := [(.aload_n 0, [], 0), (.getfield 55, [4, 10], 0), (.iload_n 1, [], 0), (.aaload, [], 0), (.iload_n 3, [], 0), (.iload 4, [], 0), (.invokevirtual 289, [24, 3, 1], 0), (.iconst 1, [], 0), (.ireturn, [0], 0)]
def bk_80 : List (List ab_I) := [b_80_0, b_80_1, b_80_2, b_80_3]
-- 81: RelayRace.get(III)I
def mr_81 : ab_M := (yX4_get, prog_1_method_52_code, 5, some .int, 3, false)
def pc_81 : List Nat := [0, 14, 18, 46]
def b_81_0 : List ab_I := [(.iload_n 1, [], 0), (.invokestatic 111, [98, 1, 0], 0), (.ifCond .eq 10, [1], 0), (.iload_n 2, [], 0), (.invokestatic 279, [99, 1, 0], 0), (.ifCond .ne 7, [2], 0)]
def b_81_1 : List ab_I := [(.ldc_w 292, [], (-2147483648)), (.ireturn, [0], 0)]
def b_81_2 : List ab_I := [(.aload_n 0, [], 0), (.getfield 55, [4, 10], 0), (.iload_n 1, [], 0), (.aaload, [], 0), (.iload_n 2, [], 0), (.iload_n 3, [], 0), (.invokestatic 285, [82, 3, 0], 0), (.istore 4, [], 0), (.iload 4, [], 0), (.ifCond .eq 13, [3], 0), (.aload_n 0, [], 0), (.iload 4, [], 0), (.putfield 63, [4, 12, 0], 0), (.ldc_w 292, [], (-2147483648)), (.ireturn, [0], 0)]
def b_81_3 : List ab_I := [(.aload_n 0, [], 0), (.getfield 55, [4, 10], 0), (.iload_n 1, [], 0), (.aaload, [], 0), (.getfield 122, [1, 0], 0), (.iload_n 3, [], 0), (.iaload, [], 0), (.ireturn, [0], 0)]
def bk_81 : List (List ab_I) := [b_81_0, b_81_1, b_81_2, b_81_3]
-- 82: RelayRace.findingAt(LRelayRace$Sheet;II)I
def mr_82 : ab_M := (yX4_findingAt, prog_1_method_53_code, 3, some .int, 3, true)
def pc_82 : List Nat := [0, 9, 19, 31, 35, 36]
def b_82_0 : List ab_I := [(.aload_n 0, [], 0), (.getfield 114, [1, 1], 0), (.ifCond .eq 5, [1], 0), (.iconst 1, [], 0), (.ireturn, [0], 0)]
def b_82_1 : List ab_I := [(.aload_n 0, [], 0), (.getfield 293, [1, 2], 0), (.iload_n 1, [], 0), (.if_icmp .eq 5, [2], 0), (.iconst 3, [], 0), (.ireturn, [0], 0)]
def b_82_2 : List ab_I := [(.iload_n 2, [], 0), (.ifCond .lt 11, [3], 0), (.iload_n 2, [], 0), (.aload_n 0, [], 0), (.getfield 121, [1, 3], 0), (.if_icmp .lt 7, [4], 0)]
def b_82_3 : List ab_I := [(.iconst 2, [], 0), (.goto 4, [5], 0)]
def b_82_4 : List ab_I := [(.iconst 0, [], 0)]
def b_82_5 : List ab_I := [(.ireturn, [0], 0)]
def bk_82 : List (List ab_I) := [b_82_0, b_82_1, b_82_2, b_82_3, b_82_4, b_82_5]
-- 83: RelayRace.copy(IIIII)I
def mr_83 : ab_M := (yX4_copy, prog_1_method_54_code, 8, some .int, 5, false)
def pc_83 : List Nat := [0, 14, 17, 49, 55, 74, 97, 103]
def b_83_0 : List ab_I := [(.iload_n 1, [], 0), (.invokestatic 111, [98, 1, 0], 0), (.ifCond .eq 10, [1], 0), (.iload_n 3, [], 0), (.invokestatic 111, [98, 1, 0], 0), (.ifCond .ne 6, [2], 0)]
def b_83_1 : List ab_I := [(.bipush (-2), [], 0), (.ireturn, [0], 0)]
def b_83_2 : List ab_I := [(.aload_n 0, [], 0), (.getfield 55, [4, 10], 0), (.iload_n 1, [], 0), (.aaload, [], 0), (.astore 6, [], 0), (.aload_n 0, [], 0), (.getfield 55, [4, 10], 0), (.iload_n 3, [], 0), (.aaload, [], 0), (.astore 7, [], 0), (.aload 6, [], 0), (.getfield 114, [1, 1], 0), (.ifCond .ne 11, [3], 0), (.aload 7, [], 0), (.getfield 114, [1, 1], 0), (.ifCond .eq 9, [4], 0)]
def b_83_3 : List ab_I := [(.aload_n 0, [], 0), (.iconst 1, [], 0), (.invokevirtual 117, [100, 2, 4], 0), (.ireturn, [0], 0)]
def b_83_4 : List ab_I := [(.aload 6, [], 0), (.getfield 293, [1, 2], 0), (.aload 7, [], 0), (.getfield 293, [1, 2], 0), (.if_icmp .eq 9, [5], 0), (.aload_n 0, [], 0), (.iconst 4, [], 0), (.invokevirtual 117, [100, 2, 4], 0), (.ireturn, [0], 0)]
def b_83_5 : List ab_I := [(.aload 6, [], 0), (.iload_n 2, [], 0), (.iload 5, [], 0), (.invokevirtual 296, [25, 3, 1], 0), (.ifCond .eq 15, [6], 0), (.aload 7, [], 0), (.iload 4, [], 0), (.iload 5, [], 0), (.invokevirtual 296, [25, 3, 1], 0), (.ifCond .ne 9, [7], 0)]
def b_83_6 : List ab_I := [(.aload_n 0, [], 0), (.iconst 2, [], 0), (.invokevirtual 117, [100, 2, 4], 0), (.ireturn, [0], 0)]
def b_83_7 : List ab_I := [(.aload 6, [], 0), (.getfield 122, [1, 0], 0), (.iload_n 2, [], 0), (.aload 7, [], 0), (.getfield 122, [1, 0], 0), (.iload 4, [], 0), (.iload 5, [], 0), (.invokestatic 299, [], 0), (.iconst 1, [], 0), (.ireturn, [0], 0)]
def bk_83 : List (List ab_I) := [b_83_0, b_83_1, b_83_2, b_83_3, b_83_4, b_83_5, b_83_6, b_83_7]
-- 84: RelayRace.write(II)I
def mr_84 : ab_M := (yX4_write, prog_1_method_55_code, 6, some .int, 2, false)
def pc_84 : List Nat := [0, 15, 18, 38, 52, 81]
def b_84_0 : List ab_I := [(.aload_n 0, [], 0), (.iload_n 1, [], 0), (.invokevirtual 85, [92, 2, 4], 0), (.ifCond .eq 10, [1], 0), (.iload_n 2, [], 0), (.invokestatic 111, [98, 1, 0], 0), (.ifCond .ne 6, [2], 0)]
def b_84_1 : List ab_I := [(.bipush (-2), [], 0), (.ireturn, [0], 0)]
def b_84_2 : List ab_I := [(.aload_n 0, [], 0), (.getfield 55, [4, 10], 0), (.iload_n 2, [], 0), (.aaload, [], 0), (.astore_n 3, [], 0), (.aload_n 3, [], 0), (.getfield 114, [1, 1], 0), (.ifCond .eq 9, [3], 0), (.aload_n 0, [], 0), (.iconst 1, [], 0), (.invokevirtual 117, [100, 2, 4], 0), (.ireturn, [0], 0)]
def b_84_3 : List ab_I := [(.aload_n 3, [], 0), (.getfield 121, [1, 3], 0), (.bipush 48, [], 0), (.invokestatic 201, [2], 0), (.istore 4, [], 0), (.iconst 0, [], 0), (.istore 5, [], 0)]
def b_84_4 : List ab_I := [(.iload 5, [], 0), (.iload 4, [], 0), (.if_icmp .ge 25, [5], 0), (.aload_n 3, [], 0), (.iload 5, [], 0), (.aload_n 0, [], 0), (.getfield 32, [4, 4], 0), (.iload_n 1, [], 0), (.iload 5, [], 0), (.invokevirtual 138, [14, 3, 0], 0), (.invokevirtual 289, [24, 3, 1], 0), (.iinc 5 1, [], 0), (.goto (-26), [4], 0)]
def b_84_5 : List ab_I := [(.iload 4, [], 0), (.ireturn, [0], 0)]
def bk_84 : List (List ab_I) := [b_84_0, b_84_1, b_84_2, b_84_3, b_84_4, b_84_5]
-- 85: RelayRace.count(I)I
def mr_85 : ab_M := (yX4_count, prog_1_method_56_code, 2, some .int, 1, false)
def pc_85 : List Nat := [0, 52, 60, 68, 73, 81, 86, 91, 96, 104, 109]
def b_85_0 : List ab_I := [(.iload_n 1, [], 0), (.tableswitch 108 0 8 #[51, 59, 67, 72, 80, 85, 90, 95, 103], [10, 1, 2, 3, 4, 5, 6, 7, 8, 9], 0)]
def b_85_1 : List ab_I := [(.aload_n 0, [], 0), (.getfield 32, [4, 4], 0), (.getfield 164, [0, 5], 0), (.ireturn, [0], 0)]
def b_85_2 : List ab_I := [(.aload_n 0, [], 0), (.getfield 10, [4, 0], 0), (.getfield 67, [2, 1], 0), (.ireturn, [0], 0)]
def b_85_3 : List ab_I := [(.aload_n 0, [], 0), (.getfield 59, [4, 11], 0), (.ireturn, [0], 0)]
def b_85_4 : List ab_I := [(.aload_n 0, [], 0), (.getfield 19, [4, 1], 0), (.getfield 105, [3, 3], 0), (.ireturn, [0], 0)]
def b_85_5 : List ab_I := [(.aload_n 0, [], 0), (.invokevirtual 305, [86, 1, 4], 0), (.ireturn, [0], 0)]
def b_85_6 : List ab_I := [(.aload_n 0, [], 0), (.invokevirtual 308, [47, 1, 4], 0), (.ireturn, [0], 0)]
def b_85_7 : List ab_I := [(.aload_n 0, [], 0), (.invokevirtual 311, [87, 1, 4], 0), (.ireturn, [0], 0)]
def b_85_8 : List ab_I := [(.aload_n 0, [], 0), (.getfield 23, [4, 2], 0), (.getfield 105, [3, 3], 0), (.ireturn, [0], 0)]
def b_85_9 : List ab_I := [(.aload_n 0, [], 0), (.getfield 63, [4, 12], 0), (.ireturn, [0], 0)]
def b_85_10 : List ab_I := [(.bipush (-2), [], 0), (.ireturn, [0], 0)]
def bk_85 : List (List ab_I) := [b_85_0, b_85_1, b_85_2, b_85_3, b_85_4, b_85_5, b_85_6, b_85_7, b_85_8, b_85_9, b_85_10]
-- 86: RelayRace.teamsHome()I
def mr_86 : ab_M := (yX4_teamsHome, prog_1_method_57_code, 3, some .int, 0, false)
def pc_86 : List Nat := [0, 4, 30, 36]
def b_86_0 : List ab_I := [(.iconst 0, [], 0), (.istore_n 1, [], 0), (.iconst 0, [], 0), (.istore_n 2, [], 0)]
def b_86_1 : List ab_I := [(.iload_n 2, [], 0), (.aload_n 0, [], 0), (.getfield 32, [4, 4], 0), (.getfield 164, [0, 5], 0), (.if_icmp .ge 24, [3], 0), (.aload_n 0, [], 0), (.getfield 32, [4, 4], 0), (.iload_n 2, [], 0), (.invokevirtual 148, [15, 2, 0], 0), (.iconst (-1), [], 0), (.if_icmp .eq 6, [2], 0), (.iinc 1 1, [], 0)]
def b_86_2 : List ab_I := [(.iinc 2 1, [], 0), (.goto (-29), [1], 0)]
def b_86_3 : List ab_I := [(.iload_n 1, [], 0), (.ireturn, [0], 0)]
def bk_86 : List (List ab_I) := [b_86_0, b_86_1, b_86_2, b_86_3]
-- 87: RelayRace.metresTogether()I
def mr_87 : ab_M := (yX4_metresTogether, prog_1_method_58_code, 3, some .int, 0, false)
def pc_87 : List Nat := [0, 4, 34]
def b_87_0 : List ab_I := [(.iconst 0, [], 0), (.istore_n 1, [], 0), (.iconst 0, [], 0), (.istore_n 2, [], 0)]
def b_87_1 : List ab_I := [(.iload_n 2, [], 0), (.aload_n 0, [], 0), (.getfield 32, [4, 4], 0), (.getfield 164, [0, 5], 0), (.if_icmp .ge 22, [2], 0), (.iload_n 1, [], 0), (.aload_n 0, [], 0), (.getfield 32, [4, 4], 0), (.iload_n 2, [], 0), (.bipush 47, [], 0), (.invokevirtual 138, [14, 3, 0], 0), (.iadd, [], 0), (.istore_n 1, [], 0), (.iinc 2 1, [], 0), (.goto (-27), [1], 0)]
def b_87_2 : List ab_I := [(.iload_n 1, [], 0), (.ireturn, [0], 0)]
def bk_87 : List (List ab_I) := [b_87_0, b_87_1, b_87_2]
-- 88: RelayRace.digest()J
def mr_88 : ab_M := (yX4_digest, prog_1_method_59_code, 4, some .long, 0, false)
def pc_88 : List Nat := [0, 6, 31, 45, 83]
def b_88_0 : List ab_I := [(.ldc2_w 314, [], 17), (.lstore_n 1, [], 0), (.iconst 0, [], 0), (.istore_n 3, [], 0)]
def b_88_1 : List ab_I := [(.iload_n 3, [], 0), (.bipush 7, [], 0), (.if_icmp .gt 22, [2], 0), (.ldc2_w 316, [], 31), (.lload_n 1, [], 0), (.lmul, [], 0), (.aload_n 0, [], 0), (.iload_n 3, [], 0), (.invokevirtual 318, [85, 2, 4], 0), (.i2l, [], 0), (.ladd, [], 0), (.lstore_n 1, [], 0), (.iinc 3 1, [], 0), (.goto (-22), [1], 0)]
def b_88_2 : List ab_I := [(.ldc2_w 316, [], 31), (.lload_n 1, [], 0), (.lmul, [], 0), (.aload_n 0, [], 0), (.invokevirtual 321, [34, 1, 4], 0), (.i2l, [], 0), (.ladd, [], 0), (.lstore_n 1, [], 0), (.iconst 0, [], 0), (.istore_n 3, [], 0)]
def b_88_3 : List ab_I := [(.iload_n 3, [], 0), (.aload_n 0, [], 0), (.getfield 32, [4, 4], 0), (.getfield 164, [0, 5], 0), (.if_icmp .ge 30, [4], 0), (.aload_n 0, [], 0), (.lload_n 1, [], 0), (.iload_n 3, [], 0), (.invokevirtual 324, [89, 3, 4], 0), (.lstore_n 1, [], 0), (.aload_n 0, [], 0), (.lload_n 1, [], 0), (.iload_n 3, [], 0), (.invokevirtual 328, [90, 3, 4], 0), (.lstore_n 1, [], 0), (.aload_n 0, [], 0), (.lload_n 1, [], 0), (.iload_n 3, [], 0), (.invokevirtual 331, [91, 3, 4], 0), (.lstore_n 1, [], 0), (.iinc 3 1, [], 0), (.goto (-35), [3], 0)]
def b_88_4 : List ab_I := [(.ldc2_w 316, [], 31), (.lload_n 1, [], 0), (.lmul, [], 0), (.aload_n 0, [], 0), (.iconst 0, [], 0), (.invokevirtual 334, [45, 2, 4], 0), (.i2l, [], 0), (.ladd, [], 0), (.lstore_n 1, [], 0), (.ldc2_w 316, [], 31), (.lload_n 1, [], 0), (.lmul, [], 0), (.aload_n 0, [], 0), (.iconst 1, [], 0), (.invokevirtual 334, [45, 2, 4], 0), (.i2l, [], 0), (.ladd, [], 0), (.lstore_n 1, [], 0), (.ldc2_w 316, [], 31), (.lload_n 1, [], 0), (.lmul, [], 0), (.aload_n 0, [], 0), (.iconst 0, [], 0), (.invokevirtual 337, [48, 2, 4], 0), (.i2l, [], 0), (.ladd, [], 0), (.lstore_n 1, [], 0), (.ldc2_w 316, [], 31), (.lload_n 1, [], 0), (.lmul, [], 0), (.aload_n 0, [], 0), (.iconst 1, [], 0), (.invokevirtual 337, [48, 2, 4], 0), (.i2l, [], 0), (.ladd, [], 0), (.lstore_n 1, [], 0), (.ldc2_w 316, [], 31), (.lload_n 1, [], 0), (.lmul, [], 0), (.aload_n 0, [], 0), (.iconst (-1), [], 0), (.invokevirtual 340, [57, 2, 4], 0), (.i2l, [], 0), (.ladd, [], 0), (.lstore_n 1, [], 0), (.ldc2_w 316, [], 31), (.lload_n 1, [], 0), (.lmul, [], 0), (.aload_n 0, [], 0), (.iconst 0, [], 0), (.invokevirtual 340, [57, 2, 4], 0), (.i2l, [], 0), (.ladd, [], 0), (.lstore_n 1, [], 0), (.ldc2_w 316, [], 31), (.lload_n 1, [], 0), (.lmul, [], 0), (.aload_n 0, [], 0), (.invokevirtual 343, [65, 1, 4], 0), (.i2l, [], 0), (.ladd, [], 0), (.lstore_n 1, [], 0), (.ldc2_w 316, [], 31), (.lload_n 1, [], 0), (.lmul, [], 0), (.aload_n 0, [], 0), (.bipush 7, [], 0), (.bipush 6, [], 0), (.iconst 0, [], 0), (.invokevirtual 346, [75, 4, 4], 0), (.i2l, [], 0), (.ladd, [], 0), (.lstore_n 1, [], 0), (.ldc2_w 316, [], 31), (.lload_n 1, [], 0), (.lmul, [], 0), (.aload_n 0, [], 0), (.bipush 7, [], 0), (.bipush 6, [], 0), (.iconst 1, [], 0), (.invokevirtual 346, [75, 4, 4], 0), (.i2l, [], 0), (.ladd, [], 0), (.lreturn, [], 0)]
def bk_88 : List (List ab_I) := [b_88_0, b_88_1, b_88_2, b_88_3, b_88_4]
-- 89: RelayRace.digestMoments(JI)J
def mr_89 : ab_M := (yX4_digestMoments, prog_1_method_60_code, 11, some .long, 2, false)
def pc_89 : List Nat := [0, 16, 33, 64, 70]
def b_89_0 : List ab_I := [(.lload_n 1, [], 0), (.lstore 4, [], 0), (.getstatic 350, [], 0), (.astore 6, [], 0), (.aload 6, [], 0), (.arraylength, [], 0), (.istore 7, [], 0), (.iconst 0, [], 0), (.istore 8, [], 0)]
def b_89_1 : List ab_I := [(.iload 8, [], 0), (.iload 7, [], 0), (.if_icmp .ge 50, [4], 0), (.aload 6, [], 0), (.iload 8, [], 0), (.iaload, [], 0), (.istore 9, [], 0), (.iconst 0, [], 0), (.istore 10, [], 0)]
def b_89_2 : List ab_I := [(.iload 10, [], 0), (.iconst 2, [], 0), (.if_icmp .gt 28, [3], 0), (.ldc2_w 316, [], 31), (.lload 4, [], 0), (.lmul, [], 0), (.aload_n 0, [], 0), (.iload 9, [], 0), (.iload_n 3, [], 0), (.iload 10, [], 0), (.invokevirtual 353, [42, 4, 4], 0), (.i2l, [], 0), (.ladd, [], 0), (.lstore 4, [], 0), (.iinc 10 1, [], 0), (.goto (-28), [2], 0)]
def b_89_3 : List ab_I := [(.iinc 8 1, [], 0), (.goto (-51), [1], 0)]
def b_89_4 : List ab_I := [(.lload 4, [], 0), (.lreturn, [], 0)]
def bk_89 : List (List ab_I) := [b_89_0, b_89_1, b_89_2, b_89_3, b_89_4]
-- 90: RelayRace.digestLegs(JI)J
def mr_90 : ab_M := (yX4_digestLegs, prog_1_method_61_code, 7, some .long, 2, false)
def pc_90 : List Nat := [0, 6, 124]
def b_90_0 : List ab_I := [(.lload_n 1, [], 0), (.lstore 4, [], 0), (.iconst 0, [], 0), (.istore 6, [], 0)]
def b_90_1 : List ab_I := [(.iload 6, [], 0), (.iconst 4, [], 0), (.if_icmp .ge 115, [2], 0), (.ldc2_w 316, [], 31), (.lload 4, [], 0), (.lmul, [], 0), (.aload_n 0, [], 0), (.iload_n 3, [], 0), (.iload 6, [], 0), (.iconst 0, [], 0), (.invokevirtual 356, [35, 4, 4], 0), (.i2l, [], 0), (.ladd, [], 0), (.lstore 4, [], 0), (.ldc2_w 316, [], 31), (.lload 4, [], 0), (.lmul, [], 0), (.aload_n 0, [], 0), (.iload_n 3, [], 0), (.iload 6, [], 0), (.iconst 1, [], 0), (.invokevirtual 356, [35, 4, 4], 0), (.i2l, [], 0), (.ladd, [], 0), (.lstore 4, [], 0), (.ldc2_w 316, [], 31), (.lload 4, [], 0), (.lmul, [], 0), (.aload_n 0, [], 0), (.iload_n 3, [], 0), (.iload 6, [], 0), (.invokevirtual 359, [44, 3, 4], 0), (.i2l, [], 0), (.ladd, [], 0), (.lstore 4, [], 0), (.ldc2_w 316, [], 31), (.lload 4, [], 0), (.lmul, [], 0), (.aload_n 0, [], 0), (.iload_n 3, [], 0), (.iload 6, [], 0), (.iconst 0, [], 0), (.invokevirtual 362, [66, 4, 4], 0), (.i2l, [], 0), (.ladd, [], 0), (.lstore 4, [], 0), (.ldc2_w 316, [], 31), (.lload 4, [], 0), (.lmul, [], 0), (.aload_n 0, [], 0), (.iload_n 3, [], 0), (.iload 6, [], 0), (.iconst 1, [], 0), (.invokevirtual 362, [66, 4, 4], 0), (.i2l, [], 0), (.ladd, [], 0), (.lstore 4, [], 0), (.ldc2_w 316, [], 31), (.lload 4, [], 0), (.lmul, [], 0), (.aload_n 0, [], 0), (.iload_n 3, [], 0), (.iload 6, [], 0), (.invokevirtual 365, [69, 3, 4], 0), (.i2l, [], 0), (.ladd, [], 0), (.lstore 4, [], 0), (.iinc 6 1, [], 0), (.goto (-115), [1], 0)]
def b_90_2 : List ab_I := [(.lload 4, [], 0), (.lreturn, [], 0)]
def bk_90 : List (List ab_I) := [b_90_0, b_90_1, b_90_2]
-- 91: RelayRace.digestPlans(JI)J
def mr_91 : ab_M := (yX4_digestPlans, prog_1_method_62_code, 7, some .long, 2, false)
def pc_91 : List Nat := [0, 41, 70]
def b_91_0 : List ab_I := [(.lload_n 1, [], 0), (.lstore 4, [], 0), (.ldc2_w 316, [], 31), (.lload 4, [], 0), (.lmul, [], 0), (.aload_n 0, [], 0), (.iload_n 3, [], 0), (.invokevirtual 368, [43, 2, 4], 0), (.i2l, [], 0), (.ladd, [], 0), (.lstore 4, [], 0), (.ldc2_w 316, [], 31), (.lload 4, [], 0), (.lmul, [], 0), (.aload_n 0, [], 0), (.iload_n 3, [], 0), (.invokevirtual 371, [50, 2, 4], 0), (.i2l, [], 0), (.ladd, [], 0), (.lstore 4, [], 0), (.aload_n 0, [], 0), (.iload_n 3, [], 0), (.invokevirtual 173, [52, 2, 4], 0), (.iconst 0, [], 0), (.istore 6, [], 0)]
def b_91_1 : List ab_I := [(.iload 6, [], 0), (.iconst 4, [], 0), (.if_icmp .gt 26, [2], 0), (.ldc2_w 316, [], 31), (.lload 4, [], 0), (.lmul, [], 0), (.aload_n 0, [], 0), (.getfield 47, [4, 8], 0), (.iload 6, [], 0), (.iaload, [], 0), (.i2l, [], 0), (.ladd, [], 0), (.lstore 4, [], 0), (.iinc 6 1, [], 0), (.goto (-26), [1], 0)]
def b_91_2 : List ab_I := [(.ldc2_w 316, [], 31), (.lload 4, [], 0), (.lmul, [], 0), (.aload_n 0, [], 0), (.iload_n 3, [], 0), (.iconst 0, [], 0), (.invokevirtual 374, [54, 3, 4], 0), (.i2l, [], 0), (.ladd, [], 0), (.lstore 4, [], 0), (.ldc2_w 316, [], 31), (.lload 4, [], 0), (.lmul, [], 0), (.aload_n 0, [], 0), (.iload_n 3, [], 0), (.iconst 1, [], 0), (.invokevirtual 374, [54, 3, 4], 0), (.i2l, [], 0), (.ladd, [], 0), (.lstore 4, [], 0), (.ldc2_w 316, [], 31), (.lload 4, [], 0), (.lmul, [], 0), (.aload_n 0, [], 0), (.iload_n 3, [], 0), (.invokevirtual 377, [56, 2, 4], 0), (.i2l, [], 0), (.ladd, [], 0), (.lstore 4, [], 0), (.ldc2_w 316, [], 31), (.lload 4, [], 0), (.lmul, [], 0), (.aload_n 0, [], 0), (.iconst 5, [], 0), (.iload_n 3, [], 0), (.iconst 0, [], 0), (.invokevirtual 380, [72, 4, 4], 0), (.ladd, [], 0), (.lstore 4, [], 0), (.ldc2_w 316, [], 31), (.lload 4, [], 0), (.lmul, [], 0), (.aload_n 0, [], 0), (.iconst 5, [], 0), (.iload_n 3, [], 0), (.iconst 1, [], 0), (.invokevirtual 380, [72, 4, 4], 0), (.ladd, [], 0), (.lreturn, [], 0)]
def bk_91 : List (List ab_I) := [b_91_0, b_91_1, b_91_2]
-- 92: RelayRace.isTeam(I)Z
def mr_92 : ab_M := (yX4_isTeam, prog_1_method_63_code, 2, some .boolean, 1, false)
def pc_92 : List Nat := [0, 19, 20]
def b_92_0 : List ab_I := [(.iload_n 1, [], 0), (.ifCond .lt 18, [1], 0), (.iload_n 1, [], 0), (.aload_n 0, [], 0), (.getfield 32, [4, 4], 0), (.getfield 164, [0, 5], 0), (.if_icmp .ge 7, [1], 0), (.iconst 1, [], 0), (.goto 4, [2], 0)]
def b_92_1 : List ab_I := [(.iconst 0, [], 0)]
def b_92_2 : List ab_I := [(.ireturn, [1], 0)]
def bk_92 : List (List ab_I) := [b_92_0, b_92_1, b_92_2]
-- 93: RelayRace.isLeg(I)Z
def mr_93 : ab_M := (yX4_isLeg, prog_1_method_64_code, 1, some .boolean, 1, true)
def pc_93 : List Nat := [0, 13, 14]
def b_93_0 : List ab_I := [(.iload_n 0, [], 0), (.ifCond .lt 12, [1], 0), (.iload_n 0, [], 0), (.iconst 4, [], 0), (.if_icmp .ge 7, [1], 0), (.iconst 1, [], 0), (.goto 4, [2], 0)]
def b_93_1 : List ab_I := [(.iconst 0, [], 0)]
def b_93_2 : List ab_I := [(.ireturn, [1], 0)]
def bk_93 : List (List ab_I) := [b_93_0, b_93_1, b_93_2]
-- 94: RelayRace.isMoment(I)Z
def mr_94 : ab_M := (yX4_isMoment, prog_1_method_65_code, 1, some .boolean, 1, true)
def pc_94 : List Nat := [0, 14, 15]
def b_94_0 : List ab_I := [(.iload_n 0, [], 0), (.ifCond .lt 13, [1], 0), (.iload_n 0, [], 0), (.bipush 48, [], 0), (.if_icmp .ge 7, [1], 0), (.iconst 1, [], 0), (.goto 4, [2], 0)]
def b_94_1 : List ab_I := [(.iconst 0, [], 0)]
def b_94_2 : List ab_I := [(.ireturn, [1], 0)]
def bk_94 : List (List ab_I) := [b_94_0, b_94_1, b_94_2]
-- 95: RelayRace.isNumber(I)Z
def mr_95 : ab_M := (yX4_isNumber, prog_1_method_66_code, 1, some .boolean, 1, true)
def pc_95 : List Nat := [0, 13, 14]
def b_95_0 : List ab_I := [(.iload_n 0, [], 0), (.ifCond .lt 12, [1], 0), (.iload_n 0, [], 0), (.iconst 4, [], 0), (.if_icmp .ge 7, [1], 0), (.iconst 1, [], 0), (.goto 4, [2], 0)]
def b_95_1 : List ab_I := [(.iconst 0, [], 0)]
def b_95_2 : List ab_I := [(.ireturn, [1], 0)]
def bk_95 : List (List ab_I) := [b_95_0, b_95_1, b_95_2]
-- 96: RelayRace.isEvent(III)Z
def mr_96 : ab_M := (yX4_isEvent, prog_1_method_67_code, 3, some .boolean, 3, true)
def pc_96 : List Nat := [0, 27, 28]
def b_96_0 : List ab_I := [(.iload_n 0, [], 0), (.ifCond .lt 26, [1], 0), (.iload_n 0, [], 0), (.iconst 2, [], 0), (.if_icmp .gt 21, [1], 0), (.iload_n 1, [], 0), (.invokestatic 135, [94, 1, 0], 0), (.ifCond .eq 14, [1], 0), (.iload_n 2, [], 0), (.invokestatic 232, [95, 1, 0], 0), (.ifCond .eq 7, [1], 0), (.iconst 1, [], 0), (.goto 4, [2], 0)]
def b_96_1 : List ab_I := [(.iconst 0, [], 0)]
def b_96_2 : List ab_I := [(.ireturn, [1], 0)]
def bk_96 : List (List ab_I) := [b_96_0, b_96_1, b_96_2]
-- 97: RelayRace.isEither(I)Z
def mr_97 : ab_M := (yX4_isEither, prog_1_method_68_code, 1, some .boolean, 1, true)
def pc_97 : List Nat := [0, 9, 13, 14]
def b_97_0 : List ab_I := [(.iload_n 0, [], 0), (.ifCond .eq 8, [1], 0), (.iload_n 0, [], 0), (.iconst 1, [], 0), (.if_icmp .ne 7, [2], 0)]
def b_97_1 : List ab_I := [(.iconst 1, [], 0), (.goto 4, [3], 0)]
def b_97_2 : List ab_I := [(.iconst 0, [], 0)]
def b_97_3 : List ab_I := [(.ireturn, [1], 0)]
def bk_97 : List (List ab_I) := [b_97_0, b_97_1, b_97_2, b_97_3]
-- 98: RelayRace.isSheet(I)Z
def mr_98 : ab_M := (yX4_isSheet, prog_1_method_69_code, 1, some .boolean, 1, true)
def pc_98 : List Nat := [0, 13, 14]
def b_98_0 : List ab_I := [(.iload_n 0, [], 0), (.ifCond .lt 12, [1], 0), (.iload_n 0, [], 0), (.iconst 4, [], 0), (.if_icmp .ge 7, [1], 0), (.iconst 1, [], 0), (.goto 4, [2], 0)]
def b_98_1 : List ab_I := [(.iconst 0, [], 0)]
def b_98_2 : List ab_I := [(.ireturn, [1], 0)]
def bk_98 : List (List ab_I) := [b_98_0, b_98_1, b_98_2]
-- 99: RelayRace.isForm(I)Z
def mr_99 : ab_M := (yX4_isForm, prog_1_method_70_code, 1, some .boolean, 1, true)
def pc_99 : List Nat := [0, 13, 14]
def b_99_0 : List ab_I := [(.iload_n 0, [], 0), (.ifCond .lt 12, [1], 0), (.iload_n 0, [], 0), (.iconst 3, [], 0), (.if_icmp .ge 7, [1], 0), (.iconst 1, [], 0), (.goto 4, [2], 0)]
def b_99_1 : List ab_I := [(.iconst 0, [], 0)]
def b_99_2 : List ab_I := [(.ireturn, [1], 0)]
def bk_99 : List (List ab_I) := [b_99_0, b_99_1, b_99_2]
-- 100: RelayRace.found(I)I
def mr_100 : ab_M := (yX4_found, prog_1_method_71_code, 2, some .int, 1, false)
def pc_100 : List Nat := [0]
def b_100_0 : List ab_I := [(.aload_n 0, [], 0), (.iload_n 1, [], 0), (.putfield 63, [4, 12, 0], 0), (.bipush (-10), [], 0), (.iload_n 1, [], 0), (.isub, [], 0), (.ireturn, [0], 0)]
def bk_100 : List (List ab_I) := [b_100_0]
-- 101: RelayRaceModel.in(III)Z
def mr_101 : ab_M := (yX5_in, prog_7_method_3_code, 3, some .boolean, 3, true)
def pc_101 : List Nat := [0, 14, 15]
def b_101_0 : List ab_I := [(.iload_n 0, [], 0), (.iload_n 1, [], 0), (.if_icmp .lt 12, [1], 0), (.iload_n 0, [], 0), (.iload_n 2, [], 0), (.if_icmp .gt 7, [1], 0), (.iconst 1, [], 0), (.goto 4, [2], 0)]
def b_101_1 : List ab_I := [(.iconst 0, [], 0)]
def b_101_2 : List ab_I := [(.ireturn, [1], 0)]
def bk_101 : List (List ab_I) := [b_101_0, b_101_1, b_101_2]
-- 102: RelayRaceModel.isIn(II)Z
def mr_102 : ab_M := (yX5_isIn, prog_7_method_4_code, 2, some .boolean, 2, true)
def pc_102 : List Nat := [0, 13, 14]
def b_102_0 : List ab_I := [(.iload_n 0, [], 0), (.iload_n 1, [], 0), (.ishr, [], 0), (.iconst 1, [], 0), (.iand, [], 0), (.iconst 1, [], 0), (.if_icmp .ne 7, [1], 0), (.iconst 1, [], 0), (.goto 4, [2], 0)]
def b_102_1 : List ab_I := [(.iconst 0, [], 0)]
def b_102_2 : List ab_I := [(.ireturn, [1], 0)]
def bk_102 : List (List ab_I) := [b_102_0, b_102_1, b_102_2]
-- 103: RelayRaceModel.no(I)J
def mr_103 : ab_M := (yX5_no, prog_7_method_5_code, 1, some .long, 1, true)
def pc_103 : List Nat := [0]
def b_103_0 : List ab_I := [(.ldc2_w 102, [], (-9223372036854775808)), (.iload_n 0, [], 0), (.i2l, [], 0), (.lsub, [], 0), (.lreturn, [], 0)]
def bk_103 : List (List ab_I) := [b_103_0]
-- 104: RelayRaceModel.lowest(JJI)J
def mr_104 : ab_M := (yX5_lowest, prog_7_method_6_code, 11, some .long, 3, true)
def pc_104 : List Nat := [0, 6, 31, 43, 47]
def b_104_0 : List ab_I := [(.lload_n 0, [], 0), (.lstore 5, [], 0), (.lload_n 2, [], 0), (.lstore 7, [], 0)]
def b_104_1 : List ab_I := [(.lload 7, [], 0), (.lconst 0, [], 0), (.lcmp, [], 0), (.ifCond .eq 21, [2], 0), (.lload 5, [], 0), (.lload 7, [], 0), (.lrem, [], 0), (.lstore 9, [], 0), (.lload 7, [], 0), (.lstore 5, [], 0), (.lload 9, [], 0), (.lstore 7, [], 0), (.goto (-22), [1], 0)]
def b_104_2 : List ab_I := [(.iload 4, [], 0), (.ifCond .ne 10, [3], 0), (.lload_n 0, [], 0), (.lload 5, [], 0), (.ldiv, [], 0), (.goto 7, [4], 0)]
def b_104_3 : List ab_I := [(.lload_n 2, [], 0), (.lload 5, [], 0), (.ldiv, [], 0)]
def b_104_4 : List ab_I := [(.lreturn, [], 0)]
def bk_104 : List (List ab_I) := [b_104_0, b_104_1, b_104_2, b_104_3, b_104_4]
-- 105: RelayRaceModel.isMoment(I)Z
def mr_105 : ab_M := (yX5_isMoment, prog_7_method_7_code, 1, some .boolean, 1, true)
def pc_105 : List Nat := [0]
def b_105_0 : List ab_I := [(.iload_n 0, [], 0), (.iconst 0, [], 0), (.bipush 47, [], 0), (.invokestatic 104, [101, 3, 0], 0), (.ireturn, [1], 0)]
def bk_105 : List (List ab_I) := [b_105_0]
-- 106: RelayRaceModel.isFour(I)Z
def mr_106 : ab_M := (yX5_isFour, prog_7_method_8_code, 1, some .boolean, 1, true)
def pc_106 : List Nat := [0]
def b_106_0 : List ab_I := [(.iload_n 0, [], 0), (.iconst 0, [], 0), (.iconst 3, [], 0), (.invokestatic 104, [101, 3, 0], 0), (.ireturn, [1], 0)]
def bk_106 : List (List ab_I) := [b_106_0]
-- 107: RelayRaceModel.isTwo(I)Z
def mr_107 : ab_M := (yX5_isTwo, prog_7_method_9_code, 1, some .boolean, 1, true)
def pc_107 : List Nat := [0]
def b_107_0 : List ab_I := [(.iload_n 0, [], 0), (.iconst 0, [], 0), (.iconst 1, [], 0), (.invokestatic 104, [101, 3, 0], 0), (.ireturn, [1], 0)]
def bk_107 : List (List ab_I) := [b_107_0]
-- 108: RelayRaceModel.isThree(I)Z
def mr_108 : ab_M := (yX5_isThree, prog_7_method_10_code, 1, some .boolean, 1, true)
def pc_108 : List Nat := [0]
def b_108_0 : List ab_I := [(.iload_n 0, [], 0), (.iconst 0, [], 0), (.iconst 2, [], 0), (.invokestatic 104, [101, 3, 0], 0), (.ireturn, [1], 0)]
def bk_108 : List (List ab_I) := [b_108_0]
-- 109: RelayRaceModel.type(I)I
def mr_109 : ab_M := (yX5_type, prog_7_method_11_code, 2, some .int, 1, false)
def pc_109 : List Nat := [0, 14, 26]
def b_109_0 : List ab_I := [(.iload_n 1, [], 0), (.iconst 0, [], 0), (.sipush 255, [], 0), (.invokestatic 104, [101, 3, 0], 0), (.ifCond .ne 6, [1], 0), (.bipush (-2), [], 0), (.ireturn, [0], 0)]
def b_109_1 : List ab_I := [(.aload_n 0, [], 0), (.getfield 108, [5, 0], 0), (.bipush 35, [], 0), (.if_icmp .ne 6, [2], 0), (.bipush (-4), [], 0), (.ireturn, [0], 0)]
def b_109_2 : List ab_I := [(.aload_n 0, [], 0), (.getfield 7, [5, 1], 0), (.aload_n 0, [], 0), (.getfield 108, [5, 0], 0), (.iload_n 1, [], 0), (.iastore, [], 0), (.aload_n 0, [], 0), (.dup, [], 0), (.getfield 108, [5, 0], 0), (.iconst 1, [], 0), (.iadd, [], 0), (.putfield 108, [5, 0, 0], 0), (.aload_n 0, [], 0), (.getfield 108, [5, 0], 0), (.ireturn, [0], 0)]
def bk_109 : List (List ab_I) := [b_109_0, b_109_1, b_109_2]
-- 110: RelayRaceModel.wipe()I
def mr_110 : ab_M := (yX5_wipe, prog_7_method_12_code, 2, some .int, 0, false)
def pc_110 : List Nat := [0]
def b_110_0 : List ab_I := [(.aload_n 0, [], 0), (.getfield 108, [5, 0], 0), (.istore_n 1, [], 0), (.aload_n 0, [], 0), (.iconst 0, [], 0), (.putfield 108, [5, 0, 0], 0), (.iload_n 1, [], 0), (.ireturn, [0], 0)]
def bk_110 : List (List ab_I) := [b_110_0]
-- 111: RelayRaceModel.undo()I
def mr_111 : ab_M := (yX5_undo, prog_7_method_13_code, 1, some .int, 0, false)
def pc_111 : List Nat := [0, 10]
def b_111_0 : List ab_I := [(.aload_n 0, [], 0), (.getfield 108, [5, 0], 0), (.ifCond .ne 6, [1], 0), (.bipush (-3), [], 0), (.ireturn, [0], 0)]
def b_111_1 : List ab_I := [(.aload_n 0, [], 0), (.dup, [], 0), (.getfield 108, [5, 0], 0), (.iconst 1, [], 0), (.isub, [], 0), (.putfield 108, [5, 0, 0], 0), (.aload_n 0, [], 0), (.getfield 108, [5, 0], 0), (.ireturn, [0], 0)]
def bk_111 : List (List ab_I) := [b_111_0, b_111_1]
-- 112: RelayRaceModel.byteAt(I)I
def mr_112 : ab_M := (yX5_byteAt, prog_7_method_14_code, 2, some .int, 1, false)
def pc_112 : List Nat := [0, 17, 18]
def b_112_0 : List ab_I := [(.iload_n 1, [], 0), (.aload_n 0, [], 0), (.getfield 108, [5, 0], 0), (.if_icmp .ge 12, [1], 0), (.aload_n 0, [], 0), (.getfield 7, [5, 1], 0), (.iload_n 1, [], 0), (.iaload, [], 0), (.goto 4, [2], 0)]
def b_112_1 : List ab_I := [(.iconst (-1), [], 0)]
def b_112_2 : List ab_I := [(.ireturn, [0], 0)]
def bk_112 : List (List ab_I) := [b_112_0, b_112_1, b_112_2]
-- 113: RelayRaceModel.readsRunner(II)I
def mr_113 : ab_M := (yX5_readsRunner, prog_7_method_15_code, 6, some .int, 2, false)
def pc_113 : List Nat := [0, 16, 26, 36, 37, 63, 65, 78]
def b_113_0 : List ab_I := [(.aload_n 0, [], 0), (.iload_n 2, [], 0), (.invokevirtual 111, [112, 2, 5], 0), (.istore_n 3, [], 0), (.iload_n 3, [], 0), (.bipush 115, [], 0), (.if_icmp .ne 7, [1], 0), (.iconst 0, [], 0), (.goto 24, [4], 0)]
def b_113_1 : List ab_I := [(.iload_n 3, [], 0), (.bipush 100, [], 0), (.if_icmp .ne 7, [2], 0), (.iconst 1, [], 0), (.goto 14, [4], 0)]
def b_113_2 : List ab_I := [(.iload_n 3, [], 0), (.bipush 110, [], 0), (.if_icmp .ne 7, [3], 0), (.iconst 2, [], 0), (.goto 4, [4], 0)]
def b_113_3 : List ab_I := [(.iconst (-1), [], 0)]
def b_113_4 : List ab_I := [(.istore 4, [], 0), (.aload_n 0, [], 0), (.iload_n 2, [], 0), (.iconst 1, [], 0), (.iadd, [], 0), (.invokevirtual 111, [112, 2, 5], 0), (.bipush 48, [], 0), (.isub, [], 0), (.istore 5, [], 0), (.iload_n 1, [], 0), (.bipush 16, [], 0), (.if_icmp .ge 9, [5], 0), (.iload 4, [], 0), (.iconst (-1), [], 0), (.if_icmp .ne 5, [6], 0)]
def b_113_5 : List ab_I := [(.iconst 0, [], 0), (.ireturn, [0], 0)]
def b_113_6 : List ab_I := [(.iload 5, [], 0), (.iconst 1, [], 0), (.bipush 9, [], 0), (.invokestatic 104, [101, 3, 0], 0), (.ifCond .ne 5, [7], 0), (.iconst 1, [], 0), (.ireturn, [0], 0)]
def b_113_7 : List ab_I := [(.aload_n 0, [], 0), (.getfield 13, [5, 3], 0), (.iload_n 1, [], 0), (.iload 4, [], 0), (.iastore, [], 0), (.aload_n 0, [], 0), (.getfield 16, [5, 4], 0), (.iload_n 1, [], 0), (.iload 5, [], 0), (.iastore, [], 0), (.iconst 2, [], 0), (.ireturn, [0], 0)]
def bk_113 : List (List ab_I) := [b_113_0, b_113_1, b_113_2, b_113_3, b_113_4, b_113_5, b_113_6, b_113_7]
-- 114: RelayRaceModel.readsTeam(II)I
def mr_114 : ab_M := (yX5_readsTeam, prog_7_method_16_code, 5, some .int, 2, false)
def pc_114 : List Nat := [0, 2, 36, 42]
def b_114_0 : List ab_I := [(.iconst 0, [], 0), (.istore_n 3, [], 0)]
def b_114_1 : List ab_I := [(.iload_n 3, [], 0), (.iconst 4, [], 0), (.if_icmp .ge 38, [3], 0), (.aload_n 0, [], 0), (.iconst 4, [], 0), (.iload_n 1, [], 0), (.imul, [], 0), (.iload_n 3, [], 0), (.iadd, [], 0), (.iload_n 2, [], 0), (.iconst 2, [], 0), (.iload_n 3, [], 0), (.imul, [], 0), (.iadd, [], 0), (.invokevirtual 115, [113, 3, 5], 0), (.istore 4, [], 0), (.iload 4, [], 0), (.iconst 2, [], 0), (.if_icmp .ge 10, [2], 0), (.iconst 2, [], 0), (.iload_n 3, [], 0), (.imul, [], 0), (.iload 4, [], 0), (.iadd, [], 0), (.ireturn, [0], 0)]
def b_114_2 : List ab_I := [(.iinc 3 1, [], 0), (.goto (-37), [1], 0)]
def b_114_3 : List ab_I := [(.bipush 8, [], 0), (.ireturn, [0], 0)]
def bk_114 : List (List ab_I) := [b_114_0, b_114_1, b_114_2, b_114_3]
-- 115: RelayRaceModel.faultOf()I
def mr_115 : ab_M := (yX5_faultOf, prog_7_method_17_code, 4, some .int, 0, false)
def pc_115 : List Nat := [0, 9, 21, 38, 59, 71, 77]
def b_115_0 : List ab_I := [(.iconst 0, [], 0), (.istore_n 1, [], 0), (.iconst 0, [], 0), (.istore_n 2, [], 0), (.aload_n 0, [], 0), (.iconst 0, [], 0), (.putfield 119, [5, 2, 0], 0)]
def b_115_1 : List ab_I := [(.iload_n 2, [], 0), (.aload_n 0, [], 0), (.getfield 108, [5, 0], 0), (.if_icmp .lt 7, [2], 0), (.iload_n 2, [], 0), (.ifCond .le 59, [6], 0)]
def b_115_2 : List ab_I := [(.aload_n 0, [], 0), (.iload_n 1, [], 0), (.iload_n 2, [], 0), (.invokevirtual 122, [114, 3, 5], 0), (.istore_n 3, [], 0), (.iload_n 3, [], 0), (.bipush 8, [], 0), (.if_icmp .ge 7, [3], 0), (.iload_n 2, [], 0), (.iload_n 3, [], 0), (.iadd, [], 0), (.ireturn, [0], 0)]
def b_115_3 : List ab_I := [(.iinc 1 1, [], 0), (.iinc 2 8, [], 0), (.iload_n 2, [], 0), (.aload_n 0, [], 0), (.getfield 108, [5, 0], 0), (.if_icmp .ne 10, [4], 0), (.aload_n 0, [], 0), (.iload_n 1, [], 0), (.putfield 119, [5, 2, 0], 0), (.iconst (-1), [], 0), (.ireturn, [0], 0)]
def b_115_4 : List ab_I := [(.aload_n 0, [], 0), (.iload_n 2, [], 0), (.invokevirtual 111, [112, 2, 5], 0), (.bipush 59, [], 0), (.if_icmp .eq 5, [5], 0), (.iload_n 2, [], 0), (.ireturn, [0], 0)]
def b_115_5 : List ab_I := [(.iinc 2 1, [], 0), (.goto (-65), [1], 0)]
def b_115_6 : List ab_I := [(.iconst (-1), [], 0), (.ireturn, [0], 0)]
def bk_115 : List (List ab_I) := [b_115_0, b_115_1, b_115_2, b_115_3, b_115_4, b_115_5, b_115_6]
-- 116: RelayRaceModel.reads()V
def mr_116 : ab_M := (yX5_reads, prog_7_method_18_code, 2, none, 0, false)
def pc_116 : List Nat := [0]
def b_116_0 : List ab_I := [(.aload_n 0, [], 0), (.invokevirtual 125, [115, 1, 5], 0), (.istore_n 1, [], 0), (.return_, [], 0)]
def bk_116 : List (List ab_I) := [b_116_0]
-- 117: RelayRaceModel.fault()I
def mr_117 : ab_M := (yX5_fault, prog_7_method_19_code, 1, some .int, 0, false)
def pc_117 : List Nat := [0]
def b_117_0 : List ab_I := [(.aload_n 0, [], 0), (.invokevirtual 125, [115, 1, 5], 0), (.ireturn, [0], 0)]
def bk_117 : List (List ab_I) := [b_117_0]
-- 118: RelayRaceModel.isTeam(I)Z
def mr_118 : ab_M := (yX5_isTeam, prog_7_method_20_code, 2, some .boolean, 1, false)
def pc_118 : List Nat := [0]
def b_118_0 : List ab_I := [(.aload_n 0, [], 0), (.invokevirtual 129, [116, 1, 5], 0), (.iload_n 1, [], 0), (.iconst 0, [], 0), (.aload_n 0, [], 0), (.getfield 119, [5, 2], 0), (.iconst 1, [], 0), (.isub, [], 0), (.invokestatic 104, [101, 3, 0], 0), (.ireturn, [1], 0)]
def bk_118 : List (List ab_I) := [b_118_0]
-- 119: RelayRaceModel.runnerOf(III)I
def mr_119 : ab_M := (yX5_runnerOf, prog_7_method_21_code, 4, some .int, 3, false)
def pc_119 : List Nat := [0, 17, 27]
def b_119_0 : List ab_I := [(.iload_n 3, [], 0), (.ifCond .ne 16, [1], 0), (.aload_n 0, [], 0), (.getfield 13, [5, 3], 0), (.iconst 4, [], 0), (.iload_n 1, [], 0), (.imul, [], 0), (.iload_n 2, [], 0), (.iadd, [], 0), (.iaload, [], 0), (.goto 13, [2], 0)]
def b_119_1 : List ab_I := [(.aload_n 0, [], 0), (.getfield 16, [5, 4], 0), (.iconst 4, [], 0), (.iload_n 1, [], 0), (.imul, [], 0), (.iload_n 2, [], 0), (.iadd, [], 0), (.iaload, [], 0)]
def b_119_2 : List ab_I := [(.ireturn, [0], 0)]
def bk_119 : List (List ab_I) := [b_119_0, b_119_1, b_119_2]
-- 120: RelayRaceModel.runner(III)I
def mr_120 : ab_M := (yX5_runner, prog_7_method_22_code, 4, some .int, 3, false)
def pc_120 : List Nat := [0, 32, 34]
def b_120_0 : List ab_I := [(.aload_n 0, [], 0), (.iload_n 1, [], 0), (.invokevirtual 132, [118, 2, 5], 0), (.ifCond .eq 27, [1], 0), (.iload_n 2, [], 0), (.invokestatic 136, [106, 1, 0], 0), (.ifCond .eq 20, [1], 0), (.iload_n 3, [], 0), (.invokestatic 139, [107, 1, 0], 0), (.ifCond .eq 13, [1], 0), (.aload_n 0, [], 0), (.iload_n 1, [], 0), (.iload_n 2, [], 0), (.iload_n 3, [], 0), (.invokevirtual 142, [119, 4, 5], 0), (.goto 5, [2], 0)]
def b_120_1 : List ab_I := [(.bipush (-2), [], 0)]
def b_120_2 : List ab_I := [(.ireturn, [0], 0)]
def bk_120 : List (List ab_I) := [b_120_0, b_120_1, b_120_2]
-- 121: RelayRaceModel.along(I)I
def mr_121 : ab_M := (yX5_along, prog_7_method_23_code, 3, some .int, 1, false)
def pc_121 : List Nat := [0, 14]
def b_121_0 : List ab_I := [(.iload_n 1, [], 0), (.bipush 10, [], 0), (.bipush 60, [], 0), (.invokestatic 104, [101, 3, 0], 0), (.ifCond .ne 6, [1], 0), (.bipush (-2), [], 0), (.ireturn, [0], 0)]
def b_121_1 : List ab_I := [(.aload_n 0, [], 0), (.getfield 98, [5, 5], 0), (.istore_n 2, [], 0), (.aload_n 0, [], 0), (.iload_n 1, [], 0), (.putfield 98, [5, 5, 0], 0), (.iload_n 2, [], 0), (.ireturn, [0], 0)]
def bk_121 : List (List ab_I) := [b_121_0, b_121_1]
-- 122: RelayRaceModel.event(III)I
def mr_122 : ab_M := (yX5_event, prog_7_method_24_code, 4, some .int, 3, false)
def pc_122 : List Nat := [0, 21, 24, 36]
def b_122_0 : List ab_I := [(.iload_n 1, [], 0), (.invokestatic 146, [108, 1, 0], 0), (.ifCond .eq 17, [1], 0), (.iload_n 2, [], 0), (.invokestatic 149, [105, 1, 0], 0), (.ifCond .eq 10, [1], 0), (.iload_n 3, [], 0), (.invokestatic 136, [106, 1, 0], 0), (.ifCond .ne 6, [2], 0)]
def b_122_1 : List ab_I := [(.bipush (-2), [], 0), (.ireturn, [0], 0)]
def b_122_2 : List ab_I := [(.aload_n 0, [], 0), (.getfield 152, [5, 6], 0), (.bipush 8, [], 0), (.if_icmp .ne 6, [3], 0), (.bipush (-4), [], 0), (.ireturn, [0], 0)]
def b_122_3 : List ab_I := [(.aload_n 0, [], 0), (.getfield 19, [5, 7], 0), (.aload_n 0, [], 0), (.getfield 152, [5, 6], 0), (.iload_n 1, [], 0), (.iastore, [], 0), (.aload_n 0, [], 0), (.getfield 22, [5, 8], 0), (.aload_n 0, [], 0), (.getfield 152, [5, 6], 0), (.iload_n 2, [], 0), (.iastore, [], 0), (.aload_n 0, [], 0), (.getfield 25, [5, 9], 0), (.aload_n 0, [], 0), (.getfield 152, [5, 6], 0), (.iload_n 3, [], 0), (.iastore, [], 0), (.aload_n 0, [], 0), (.dup, [], 0), (.getfield 152, [5, 6], 0), (.iconst 1, [], 0), (.iadd, [], 0), (.putfield 152, [5, 6, 0], 0), (.aload_n 0, [], 0), (.getfield 152, [5, 6], 0), (.ireturn, [0], 0)]
def bk_122 : List (List ab_I) := [b_122_0, b_122_1, b_122_2, b_122_3]
-- 123: RelayRaceModel.back()I
def mr_123 : ab_M := (yX5_back, prog_7_method_25_code, 1, some .int, 0, false)
def pc_123 : List Nat := [0, 10]
def b_123_0 : List ab_I := [(.aload_n 0, [], 0), (.getfield 152, [5, 6], 0), (.ifCond .ne 6, [1], 0), (.bipush (-3), [], 0), (.ireturn, [0], 0)]
def b_123_1 : List ab_I := [(.aload_n 0, [], 0), (.dup, [], 0), (.getfield 152, [5, 6], 0), (.iconst 1, [], 0), (.isub, [], 0), (.putfield 152, [5, 6, 0], 0), (.aload_n 0, [], 0), (.getfield 152, [5, 6], 0), (.ireturn, [0], 0)]
def bk_123 : List (List ab_I) := [b_123_0, b_123_1]
-- 124: RelayRaceModel.read(I)I
def mr_124 : ab_M := (yX5_read, prog_7_method_26_code, 4, some .int, 1, false)
def pc_124 : List Nat := [0, 10, 25, 32, 93]
def b_124_0 : List ab_I := [(.iload_n 1, [], 0), (.invokestatic 155, [178, 1, 0], 0), (.ifCond .ne 6, [1], 0), (.bipush (-2), [], 0), (.ireturn, [0], 0)]
def b_124_1 : List ab_I := [(.aload_n 0, [], 0), (.getfield 82, [5, 32], 0), (.iload_n 1, [], 0), (.baload, [], 0), (.ifCond .ne 9, [2], 0), (.aload_n 0, [], 0), (.iconst 1, [], 0), (.invokevirtual 158, [177, 2, 5], 0), (.ireturn, [0], 0)]
def b_124_2 : List ab_I := [(.iconst 0, [], 0), (.istore_n 2, [], 0), (.bipush 60, [], 0), (.iload_n 1, [], 0), (.imul, [], 0), (.istore_n 3, [], 0)]
def b_124_3 : List ab_I := [(.iconst 3, [], 0), (.iload_n 2, [], 0), (.imul, [], 0), (.iconst 2, [], 0), (.iadd, [], 0), (.aload_n 0, [], 0), (.getfield 89, [5, 34], 0), (.iload_n 1, [], 0), (.iaload, [], 0), (.if_icmp .ge 50, [4], 0), (.aload_n 0, [], 0), (.aload_n 0, [], 0), (.getfield 92, [5, 35], 0), (.iload_n 3, [], 0), (.iconst 3, [], 0), (.iload_n 2, [], 0), (.imul, [], 0), (.iadd, [], 0), (.iaload, [], 0), (.aload_n 0, [], 0), (.getfield 92, [5, 35], 0), (.iload_n 3, [], 0), (.iconst 3, [], 0), (.iload_n 2, [], 0), (.imul, [], 0), (.iadd, [], 0), (.iconst 1, [], 0), (.iadd, [], 0), (.iaload, [], 0), (.aload_n 0, [], 0), (.getfield 92, [5, 35], 0), (.iload_n 3, [], 0), (.iconst 3, [], 0), (.iload_n 2, [], 0), (.imul, [], 0), (.iadd, [], 0), (.iconst 2, [], 0), (.iadd, [], 0), (.iaload, [], 0), (.invokevirtual 161, [122, 4, 5], 0), (.ifCond .le 9, [4], 0), (.iinc 2 1, [], 0), (.goto (-58), [3], 0)]
def b_124_4 : List ab_I := [(.iload_n 2, [], 0), (.ireturn, [0], 0)]
def bk_124 : List (List ab_I) := [b_124_0, b_124_1, b_124_2, b_124_3, b_124_4]
-- 125: RelayRaceModel.asTold()V
def mr_125 : ab_M := (yX5_asTold, prog_7_method_27_code, 2, none, 0, false)
def pc_125 : List Nat := [0, 22, 72, 79, 100]
def b_125_0 : List ab_I := [(.aload_n 0, [], 0), (.invokevirtual 129, [116, 1, 5], 0), (.aload_n 0, [], 0), (.aload_n 0, [], 0), (.getfield 98, [5, 5], 0), (.putfield 164, [5, 10, 0], 0), (.aload_n 0, [], 0), (.aload_n 0, [], 0), (.getfield 152, [5, 6], 0), (.putfield 167, [5, 11, 0], 0), (.iconst 0, [], 0), (.istore_n 1, [], 0)]
def b_125_1 : List ab_I := [(.iload_n 1, [], 0), (.aload_n 0, [], 0), (.getfield 152, [5, 6], 0), (.if_icmp .ge 45, [2], 0), (.aload_n 0, [], 0), (.getfield 28, [5, 12], 0), (.iload_n 1, [], 0), (.aload_n 0, [], 0), (.getfield 19, [5, 7], 0), (.iload_n 1, [], 0), (.iaload, [], 0), (.iastore, [], 0), (.aload_n 0, [], 0), (.getfield 31, [5, 13], 0), (.iload_n 1, [], 0), (.aload_n 0, [], 0), (.getfield 22, [5, 8], 0), (.iload_n 1, [], 0), (.iaload, [], 0), (.iastore, [], 0), (.aload_n 0, [], 0), (.getfield 34, [5, 14], 0), (.iload_n 1, [], 0), (.aload_n 0, [], 0), (.getfield 25, [5, 9], 0), (.iload_n 1, [], 0), (.iaload, [], 0), (.iastore, [], 0), (.iinc 1 1, [], 0), (.goto (-47), [1], 0)]
def b_125_2 : List ab_I := [(.aload_n 0, [], 0), (.iconst 0, [], 0), (.putfield 170, [5, 15, 0], 0), (.iconst 0, [], 0), (.istore_n 1, [], 0)]
def b_125_3 : List ab_I := [(.iload_n 1, [], 0), (.bipush 16, [], 0), (.if_icmp .ge 18, [4], 0), (.aload_n 0, [], 0), (.getfield 37, [5, 16], 0), (.iload_n 1, [], 0), (.iload_n 1, [], 0), (.iconst 4, [], 0), (.irem, [], 0), (.iastore, [], 0), (.iinc 1 1, [], 0), (.goto (-18), [3], 0)]
def b_125_4 : List ab_I := [(.return_, [], 0)]
def bk_125 : List (List ab_I) := [b_125_0, b_125_1, b_125_2, b_125_3, b_125_4]
-- 126: RelayRaceModel.isRain(I)Z
def mr_126 : ab_M := (yX5_isRain, prog_7_method_28_code, 4, some .boolean, 1, false)
def pc_126 : List Nat := [0, 4, 46, 50, 51, 58]
def b_126_0 : List ab_I := [(.iconst 0, [], 0), (.istore_n 2, [], 0), (.iconst 0, [], 0), (.istore_n 3, [], 0)]
def b_126_1 : List ab_I := [(.iload_n 3, [], 0), (.aload_n 0, [], 0), (.getfield 167, [5, 11], 0), (.if_icmp .ge 49, [5], 0), (.iload_n 2, [], 0), (.ifCond .ne 33, [2], 0), (.aload_n 0, [], 0), (.getfield 28, [5, 12], 0), (.iload_n 3, [], 0), (.iaload, [], 0), (.ifCond .ne 28, [3], 0), (.aload_n 0, [], 0), (.getfield 31, [5, 13], 0), (.iload_n 3, [], 0), (.iaload, [], 0), (.iload_n 1, [], 0), (.if_icmp .gt 18, [3], 0), (.aload_n 0, [], 0), (.getfield 170, [5, 15], 0), (.iload_n 3, [], 0), (.invokestatic 173, [102, 2, 0], 0), (.ifCond .ne 7, [3], 0)]
def b_126_2 : List ab_I := [(.iconst 1, [], 0), (.goto 4, [4], 0)]
def b_126_3 : List ab_I := [(.iconst 0, [], 0)]
def b_126_4 : List ab_I := [(.istore_n 2, [], 0), (.iinc 3 1, [], 0), (.goto (-51), [1], 0)]
def b_126_5 : List ab_I := [(.iload_n 2, [], 0), (.ireturn, [1], 0)]
def bk_126 : List (List ab_I) := [b_126_0, b_126_1, b_126_2, b_126_3, b_126_4, b_126_5]
-- 127: RelayRaceModel.stands(II)Z
def mr_127 : ab_M := (yX5_stands, prog_7_method_29_code, 7, some .boolean, 2, false)
def pc_127 : List Nat := [0, 5, 52, 53, 80, 101, 105, 106, 113]
def b_127_0 : List ab_I := [(.iconst 0, [], 0), (.istore_n 3, [], 0), (.iconst 0, [], 0), (.istore 4, [], 0)]
def b_127_1 : List ab_I := [(.iload 4, [], 0), (.aload_n 0, [], 0), (.getfield 167, [5, 11], 0), (.if_icmp .ge 102, [8], 0), (.iload_n 1, [], 0), (.aload_n 0, [], 0), (.getfield 31, [5, 13], 0), (.iload 4, [], 0), (.iaload, [], 0), (.isub, [], 0), (.istore 5, [], 0), (.aload_n 0, [], 0), (.getfield 34, [5, 14], 0), (.iload 4, [], 0), (.iaload, [], 0), (.iload_n 2, [], 0), (.if_icmp .ne 19, [2], 0), (.aload_n 0, [], 0), (.getfield 170, [5, 15], 0), (.iload 4, [], 0), (.invokestatic 173, [102, 2, 0], 0), (.ifCond .ne 7, [2], 0), (.iconst 1, [], 0), (.goto 4, [3], 0)]
def b_127_2 : List ab_I := [(.iconst 0, [], 0)]
def b_127_3 : List ab_I := [(.istore 6, [], 0), (.iload_n 3, [], 0), (.ifCond .ne 45, [5], 0), (.iload 6, [], 0), (.ifCond .eq 44, [6], 0), (.aload_n 0, [], 0), (.getfield 28, [5, 12], 0), (.iload 4, [], 0), (.iaload, [], 0), (.iconst 1, [], 0), (.if_icmp .ne 8, [4], 0), (.iload 5, [], 0), (.ifCond .eq 24, [5], 0)]
def b_127_4 : List ab_I := [(.aload_n 0, [], 0), (.getfield 28, [5, 12], 0), (.iload 4, [], 0), (.iaload, [], 0), (.iconst 2, [], 0), (.if_icmp .ne 17, [6], 0), (.iload 5, [], 0), (.iconst 0, [], 0), (.iconst 2, [], 0), (.invokestatic 104, [101, 3, 0], 0), (.ifCond .eq 7, [6], 0)]
def b_127_5 : List ab_I := [(.iconst 1, [], 0), (.goto 4, [7], 0)]
def b_127_6 : List ab_I := [(.iconst 0, [], 0)]
def b_127_7 : List ab_I := [(.istore_n 3, [], 0), (.iinc 4 1, [], 0), (.goto (-105), [1], 0)]
def b_127_8 : List ab_I := [(.iload_n 3, [], 0), (.ireturn, [1], 0)]
def bk_127 : List (List ab_I) := [b_127_0, b_127_1, b_127_2, b_127_3, b_127_4, b_127_5, b_127_6, b_127_7, b_127_8]
-- 128: RelayRaceModel.stride(IIZ)I
def mr_128 : ab_M := (yX5_stride, prog_7_method_30_code, 5, some .int, 3, false)
def pc_128 : List Nat := [0, 28, 38, 42, 43, 66, 67, 80, 81, 94, 96]
def b_128_0 : List ab_I := [(.aload_n 0, [], 0), (.getfield 16, [5, 4], 0), (.iload_n 1, [], 0), (.iaload, [], 0), (.istore 4, [], 0), (.iload 4, [], 0), (.aload_n 0, [], 0), (.getfield 13, [5, 3], 0), (.iload_n 1, [], 0), (.iaload, [], 0), (.ifCond .ne 26, [3], 0), (.iload_n 2, [], 0), (.iconst 3, [], 0), (.if_icmp .ge 7, [1], 0), (.iconst 1, [], 0), (.goto 18, [4], 0)]
def b_128_1 : List ab_I := [(.iload_n 2, [], 0), (.bipush 6, [], 0), (.if_icmp .ge 7, [2], 0), (.iconst 0, [], 0), (.goto 8, [4], 0)]
def b_128_2 : List ab_I := [(.iconst (-1), [], 0), (.goto 4, [4], 0)]
def b_128_3 : List ab_I := [(.iconst 0, [], 0)]
def b_128_4 : List ab_I := [(.iadd, [], 0), (.istore 4, [], 0), (.iload 4, [], 0), (.aload_n 0, [], 0), (.getfield 13, [5, 3], 0), (.iload_n 1, [], 0), (.iaload, [], 0), (.iconst 2, [], 0), (.if_icmp .ne 11, [5], 0), (.iload_n 2, [], 0), (.ifCond .ne 7, [5], 0), (.iconst 1, [], 0), (.goto 4, [6], 0)]
def b_128_5 : List ab_I := [(.iconst 0, [], 0)]
def b_128_6 : List ab_I := [(.isub, [], 0), (.istore 4, [], 0), (.iload 4, [], 0), (.iload_n 3, [], 0), (.ifCond .eq 7, [7], 0), (.iconst 1, [], 0), (.goto 4, [8], 0)]
def b_128_7 : List ab_I := [(.iconst 0, [], 0)]
def b_128_8 : List ab_I := [(.isub, [], 0), (.istore 4, [], 0), (.iload 4, [], 0), (.iconst 1, [], 0), (.if_icmp .ge 7, [9], 0), (.iconst 1, [], 0), (.goto 5, [10], 0)]
def b_128_9 : List ab_I := [(.iload 4, [], 0)]
def b_128_10 : List ab_I := [(.ireturn, [0], 0)]
def bk_128 : List (List ab_I) := [b_128_0, b_128_1, b_128_2, b_128_3, b_128_4, b_128_5, b_128_6, b_128_7, b_128_8, b_128_9, b_128_10]
-- 129: RelayRaceModel.goes(IIZ)V
def mr_129 : ab_M := (yX5_goes, prog_7_method_31_code, 5, none, 3, false)
def pc_129 : List Nat := [0, 30, 65, 146, 147, 148]
def b_129_0 : List ab_I := [(.aload_n 0, [], 0), (.getfield 43, [5, 18], 0), (.iload_n 2, [], 0), (.iaload, [], 0), (.istore 4, [], 0), (.aload_n 0, [], 0), (.iload_n 1, [], 0), (.iload_n 2, [], 0), (.invokevirtual 177, [127, 3, 5], 0), (.ifCond .eq 16, [1], 0), (.aload_n 0, [], 0), (.getfield 52, [5, 21], 0), (.iload_n 2, [], 0), (.dup2, [], 0), (.iaload, [], 0), (.iconst 1, [], 0), (.iadd, [], 0), (.iastore, [], 0), (.goto 38, [2], 0)]
def b_129_1 : List ab_I := [(.aload_n 0, [], 0), (.getfield 40, [5, 17], 0), (.iload_n 2, [], 0), (.dup2, [], 0), (.iaload, [], 0), (.aload_n 0, [], 0), (.iconst 4, [], 0), (.iload_n 2, [], 0), (.imul, [], 0), (.aload_n 0, [], 0), (.getfield 37, [5, 16], 0), (.iconst 4, [], 0), (.iload_n 2, [], 0), (.imul, [], 0), (.iload 4, [], 0), (.iadd, [], 0), (.iaload, [], 0), (.iadd, [], 0), (.aload_n 0, [], 0), (.getfield 46, [5, 19], 0), (.iload_n 2, [], 0), (.iaload, [], 0), (.iload_n 3, [], 0), (.invokevirtual 180, [128, 4, 5], 0), (.iadd, [], 0), (.iastore, [], 0)]
def b_129_2 : List ab_I := [(.aload_n 0, [], 0), (.getfield 46, [5, 19], 0), (.iload_n 2, [], 0), (.dup2, [], 0), (.iaload, [], 0), (.iconst 1, [], 0), (.iadd, [], 0), (.iastore, [], 0), (.aload_n 0, [], 0), (.getfield 40, [5, 17], 0), (.iload_n 2, [], 0), (.iaload, [], 0), (.aload_n 0, [], 0), (.getfield 164, [5, 10], 0), (.iload 4, [], 0), (.iconst 1, [], 0), (.iadd, [], 0), (.imul, [], 0), (.if_icmp .lt 58, [5], 0), (.aload_n 0, [], 0), (.getfield 55, [5, 22], 0), (.iconst 4, [], 0), (.iload_n 2, [], 0), (.imul, [], 0), (.iload 4, [], 0), (.iadd, [], 0), (.aload_n 0, [], 0), (.getfield 46, [5, 19], 0), (.iload_n 2, [], 0), (.iaload, [], 0), (.iastore, [], 0), (.aload_n 0, [], 0), (.getfield 46, [5, 19], 0), (.iload_n 2, [], 0), (.iconst 0, [], 0), (.iastore, [], 0), (.aload_n 0, [], 0), (.getfield 43, [5, 18], 0), (.iload_n 2, [], 0), (.dup2, [], 0), (.iaload, [], 0), (.iconst 1, [], 0), (.iadd, [], 0), (.iastore, [], 0), (.aload_n 0, [], 0), (.getfield 49, [5, 20], 0), (.iload_n 2, [], 0), (.aload_n 0, [], 0), (.getfield 43, [5, 18], 0), (.iload_n 2, [], 0), (.iaload, [], 0), (.iconst 4, [], 0), (.if_icmp .ne 7, [3], 0), (.iload_n 1, [], 0), (.goto 4, [4], 0)]
def b_129_3 : List ab_I := [(.iconst (-1), [], 0)]
def b_129_4 : List ab_I := [(.iastore, [], 0)]
def b_129_5 : List ab_I := [(.return_, [], 0)]
def bk_129 : List (List ab_I) := [b_129_0, b_129_1, b_129_2, b_129_3, b_129_4, b_129_5]
-- 130: RelayRaceModel.isAhead(II)Z
def mr_130 : ab_M := (yX5_isAhead, prog_7_method_32_code, 5, some .boolean, 2, false)
def pc_130 : List Nat := [0, 14, 15, 30, 31, 41, 79, 80, 81, 115, 119, 128, 129]
def b_130_0 : List ab_I := [(.aload_n 0, [], 0), (.getfield 49, [5, 20], 0), (.iload_n 1, [], 0), (.iaload, [], 0), (.iconst (-1), [], 0), (.if_icmp .eq 7, [1], 0), (.iconst 1, [], 0), (.goto 4, [2], 0)]
def b_130_1 : List ab_I := [(.iconst 0, [], 0)]
def b_130_2 : List ab_I := [(.istore_n 3, [], 0), (.aload_n 0, [], 0), (.getfield 49, [5, 20], 0), (.iload_n 2, [], 0), (.iaload, [], 0), (.iconst (-1), [], 0), (.if_icmp .eq 7, [3], 0), (.iconst 1, [], 0), (.goto 4, [4], 0)]
def b_130_3 : List ab_I := [(.iconst 0, [], 0)]
def b_130_4 : List ab_I := [(.istore 4, [], 0), (.iload_n 3, [], 0), (.iload 4, [], 0), (.if_icmp .eq 5, [5], 0), (.iload_n 3, [], 0), (.ireturn, [1], 0)]
def b_130_5 : List ab_I := [(.iload_n 3, [], 0), (.ifCond .eq 39, [8], 0), (.aload_n 0, [], 0), (.getfield 49, [5, 20], 0), (.iload_n 1, [], 0), (.iaload, [], 0), (.aload_n 0, [], 0), (.getfield 49, [5, 20], 0), (.iload_n 2, [], 0), (.iaload, [], 0), (.if_icmp .eq 24, [8], 0), (.aload_n 0, [], 0), (.getfield 49, [5, 20], 0), (.iload_n 1, [], 0), (.iaload, [], 0), (.aload_n 0, [], 0), (.getfield 49, [5, 20], 0), (.iload_n 2, [], 0), (.iaload, [], 0), (.if_icmp .ge 7, [6], 0), (.iconst 1, [], 0), (.goto 4, [7], 0)]
def b_130_6 : List ab_I := [(.iconst 0, [], 0)]
def b_130_7 : List ab_I := [(.ireturn, [1], 0)]
def b_130_8 : List ab_I := [(.aload_n 0, [], 0), (.getfield 40, [5, 17], 0), (.iload_n 1, [], 0), (.iaload, [], 0), (.aload_n 0, [], 0), (.getfield 40, [5, 17], 0), (.iload_n 2, [], 0), (.iaload, [], 0), (.if_icmp .eq 26, [10], 0), (.aload_n 0, [], 0), (.getfield 40, [5, 17], 0), (.iload_n 1, [], 0), (.iaload, [], 0), (.aload_n 0, [], 0), (.getfield 40, [5, 17], 0), (.iload_n 2, [], 0), (.iaload, [], 0), (.if_icmp .le 7, [9], 0), (.iconst 1, [], 0), (.goto 17, [12], 0)]
def b_130_9 : List ab_I := [(.iconst 0, [], 0), (.goto 13, [12], 0)]
def b_130_10 : List ab_I := [(.iload_n 1, [], 0), (.iload_n 2, [], 0), (.if_icmp .ge 7, [11], 0), (.iconst 1, [], 0), (.goto 4, [12], 0)]
def b_130_11 : List ab_I := [(.iconst 0, [], 0)]
def b_130_12 : List ab_I := [(.ireturn, [1], 0)]
def bk_130 : List (List ab_I) := [b_130_0, b_130_1, b_130_2, b_130_3, b_130_4, b_130_5, b_130_6, b_130_7, b_130_8, b_130_9, b_130_10, b_130_11, b_130_12]
-- 131: RelayRaceModel.goesBy(I)V
def mr_131 : ab_M := (yX5_goesBy, prog_7_method_33_code, 6, none, 1, false)
def pc_131 : List Nat := [0, 8, 33, 39, 41, 55, 86, 87, 96, 146]
def b_131_0 : List ab_I := [(.aload_n 0, [], 0), (.iload_n 1, [], 0), (.invokevirtual 184, [126, 2, 5], 0), (.istore_n 2, [], 0), (.iconst 0, [], 0), (.istore_n 3, [], 0)]
def b_131_1 : List ab_I := [(.iload_n 3, [], 0), (.aload_n 0, [], 0), (.getfield 119, [5, 2], 0), (.if_icmp .ge 26, [3], 0), (.aload_n 0, [], 0), (.getfield 49, [5, 20], 0), (.iload_n 3, [], 0), (.iaload, [], 0), (.iconst (-1), [], 0), (.if_icmp .ne 10, [2], 0), (.aload_n 0, [], 0), (.iload_n 1, [], 0), (.iload_n 3, [], 0), (.iload_n 2, [], 0), (.invokevirtual 187, [129, 4, 5], 0)]
def b_131_2 : List ab_I := [(.iinc 3 1, [], 0), (.goto (-28), [1], 0)]
def b_131_3 : List ab_I := [(.iconst 0, [], 0), (.istore_n 3, [], 0)]
def b_131_4 : List ab_I := [(.iload_n 3, [], 0), (.aload_n 0, [], 0), (.getfield 119, [5, 2], 0), (.if_icmp .ge 100, [9], 0), (.iconst 0, [], 0), (.istore 4, [], 0), (.iconst 0, [], 0), (.istore 5, [], 0)]
def b_131_5 : List ab_I := [(.iload 5, [], 0), (.aload_n 0, [], 0), (.getfield 119, [5, 2], 0), (.if_icmp .ge 35, [8], 0), (.iload 4, [], 0), (.iload 5, [], 0), (.iload_n 3, [], 0), (.if_icmp .eq 17, [6], 0), (.aload_n 0, [], 0), (.iload 5, [], 0), (.iload_n 3, [], 0), (.invokevirtual 191, [130, 3, 5], 0), (.ifCond .eq 7, [6], 0), (.iconst 1, [], 0), (.goto 4, [7], 0)]
def b_131_6 : List ab_I := [(.iconst 0, [], 0)]
def b_131_7 : List ab_I := [(.iadd, [], 0), (.istore 4, [], 0), (.iinc 5 1, [], 0), (.goto (-38), [5], 0)]
def b_131_8 : List ab_I := [(.aload_n 0, [], 0), (.getfield 58, [5, 23], 0), (.iconst 4, [], 0), (.iload_n 1, [], 0), (.imul, [], 0), (.iload_n 3, [], 0), (.iadd, [], 0), (.aload_n 0, [], 0), (.getfield 40, [5, 17], 0), (.iload_n 3, [], 0), (.iaload, [], 0), (.iastore, [], 0), (.aload_n 0, [], 0), (.getfield 61, [5, 24], 0), (.iconst 4, [], 0), (.iload_n 1, [], 0), (.imul, [], 0), (.iload_n 3, [], 0), (.iadd, [], 0), (.aload_n 0, [], 0), (.getfield 43, [5, 18], 0), (.iload_n 3, [], 0), (.iaload, [], 0), (.iastore, [], 0), (.aload_n 0, [], 0), (.getfield 64, [5, 25], 0), (.iconst 4, [], 0), (.iload_n 1, [], 0), (.imul, [], 0), (.iload_n 3, [], 0), (.iadd, [], 0), (.iload 4, [], 0), (.iastore, [], 0), (.iinc 3 1, [], 0), (.goto (-102), [4], 0)]
def b_131_9 : List ab_I := [(.return_, [], 0)]
def bk_131 : List (List ab_I) := [b_131_0, b_131_1, b_131_2, b_131_3, b_131_4, b_131_5, b_131_6, b_131_7, b_131_8, b_131_9]
-- 132: RelayRaceModel.runs()V
def mr_132 : ab_M := (yX5_runs, prog_7_method_34_code, 2, none, 0, false)
def pc_132 : List Nat := [0, 2, 48, 50, 69, 71, 88]
def b_132_0 : List ab_I := [(.iconst 0, [], 0), (.istore_n 1, [], 0)]
def b_132_1 : List ab_I := [(.iload_n 1, [], 0), (.iconst 4, [], 0), (.if_icmp .ge 44, [2], 0), (.aload_n 0, [], 0), (.getfield 40, [5, 17], 0), (.iload_n 1, [], 0), (.iconst 0, [], 0), (.iastore, [], 0), (.aload_n 0, [], 0), (.getfield 43, [5, 18], 0), (.iload_n 1, [], 0), (.iconst 0, [], 0), (.iastore, [], 0), (.aload_n 0, [], 0), (.getfield 46, [5, 19], 0), (.iload_n 1, [], 0), (.iconst 0, [], 0), (.iastore, [], 0), (.aload_n 0, [], 0), (.getfield 49, [5, 20], 0), (.iload_n 1, [], 0), (.iconst (-1), [], 0), (.iastore, [], 0), (.aload_n 0, [], 0), (.getfield 52, [5, 21], 0), (.iload_n 1, [], 0), (.iconst 0, [], 0), (.iastore, [], 0), (.iinc 1 1, [], 0), (.goto (-43), [1], 0)]
def b_132_2 : List ab_I := [(.iconst 0, [], 0), (.istore_n 1, [], 0)]
def b_132_3 : List ab_I := [(.iload_n 1, [], 0), (.bipush 16, [], 0), (.if_icmp .ge 16, [4], 0), (.aload_n 0, [], 0), (.getfield 55, [5, 22], 0), (.iload_n 1, [], 0), (.iconst (-1), [], 0), (.iastore, [], 0), (.iinc 1 1, [], 0), (.goto (-16), [3], 0)]
def b_132_4 : List ab_I := [(.iconst 0, [], 0), (.istore_n 1, [], 0)]
def b_132_5 : List ab_I := [(.iload_n 1, [], 0), (.bipush 48, [], 0), (.if_icmp .ge 14, [6], 0), (.aload_n 0, [], 0), (.iload_n 1, [], 0), (.invokevirtual 194, [131, 2, 5], 0), (.iinc 1 1, [], 0), (.goto (-14), [5], 0)]
def b_132_6 : List ab_I := [(.return_, [], 0)]
def bk_132 : List (List ab_I) := [b_132_0, b_132_1, b_132_2, b_132_3, b_132_4, b_132_5, b_132_6]
-- 133: RelayRaceModel.runsTold()V
def mr_133 : ab_M := (yX5_runsTold, prog_7_method_35_code, 1, none, 0, false)
def pc_133 : List Nat := [0]
def b_133_0 : List ab_I := [(.aload_n 0, [], 0), (.invokevirtual 198, [125, 1, 5], 0), (.aload_n 0, [], 0), (.invokevirtual 201, [132, 1, 5], 0), (.return_, [], 0)]
def bk_133 : List (List ab_I) := [b_133_0]
-- 134: RelayRaceModel.atOf(III)I
def mr_134 : ab_M := (yX5_atOf, prog_7_method_36_code, 5, some .int, 3, false)
def pc_134 : List Nat := [0, 25, 40, 47]
def b_134_0 : List ab_I := [(.aload_n 0, [], 0), (.invokevirtual 204, [133, 1, 5], 0), (.iconst 4, [], 0), (.iload_n 1, [], 0), (.imul, [], 0), (.iload_n 2, [], 0), (.iadd, [], 0), (.istore 4, [], 0), (.iload_n 3, [], 0), (.ifCond .ne 13, [1], 0), (.aload_n 0, [], 0), (.getfield 58, [5, 23], 0), (.iload 4, [], 0), (.iaload, [], 0), (.goto 25, [3], 0)]
def b_134_1 : List ab_I := [(.iload_n 3, [], 0), (.iconst 1, [], 0), (.if_icmp .ne 13, [2], 0), (.aload_n 0, [], 0), (.getfield 61, [5, 24], 0), (.iload 4, [], 0), (.iaload, [], 0), (.goto 10, [3], 0)]
def b_134_2 : List ab_I := [(.aload_n 0, [], 0), (.getfield 64, [5, 25], 0), (.iload 4, [], 0), (.iaload, [], 0)]
def b_134_3 : List ab_I := [(.ireturn, [0], 0)]
def bk_134 : List (List ab_I) := [b_134_0, b_134_1, b_134_2, b_134_3]
-- 135: RelayRaceModel.at(III)I
def mr_135 : ab_M := (yX5_at, prog_7_method_37_code, 4, some .int, 3, false)
def pc_135 : List Nat := [0, 32, 34]
def b_135_0 : List ab_I := [(.iload_n 1, [], 0), (.invokestatic 149, [105, 1, 0], 0), (.ifCond .eq 28, [1], 0), (.aload_n 0, [], 0), (.iload_n 2, [], 0), (.invokevirtual 132, [118, 2, 5], 0), (.ifCond .eq 20, [1], 0), (.iload_n 3, [], 0), (.invokestatic 146, [108, 1, 0], 0), (.ifCond .eq 13, [1], 0), (.aload_n 0, [], 0), (.iload_n 1, [], 0), (.iload_n 2, [], 0), (.iload_n 3, [], 0), (.invokevirtual 207, [134, 4, 5], 0), (.goto 5, [2], 0)]
def b_135_1 : List ab_I := [(.bipush (-2), [], 0)]
def b_135_2 : List ab_I := [(.ireturn, [0], 0)]
def bk_135 : List (List ab_I) := [b_135_0, b_135_1, b_135_2]
-- 136: RelayRaceModel.homeOf(I)I
def mr_136 : ab_M := (yX5_homeOf, prog_7_method_38_code, 2, some .int, 1, false)
def pc_136 : List Nat := [0]
def b_136_0 : List ab_I := [(.aload_n 0, [], 0), (.invokevirtual 204, [133, 1, 5], 0), (.aload_n 0, [], 0), (.getfield 49, [5, 20], 0), (.iload_n 1, [], 0), (.iaload, [], 0), (.ireturn, [0], 0)]
def bk_136 : List (List ab_I) := [b_136_0]
-- 137: RelayRaceModel.home(I)I
def mr_137 : ab_M := (yX5_home, prog_7_method_39_code, 2, some .int, 1, false)
def pc_137 : List Nat := [0, 16, 18]
def b_137_0 : List ab_I := [(.aload_n 0, [], 0), (.iload_n 1, [], 0), (.invokevirtual 132, [118, 2, 5], 0), (.ifCond .eq 11, [1], 0), (.aload_n 0, [], 0), (.iload_n 1, [], 0), (.invokevirtual 210, [136, 2, 5], 0), (.goto 5, [2], 0)]
def b_137_1 : List ab_I := [(.bipush (-2), [], 0)]
def b_137_2 : List ab_I := [(.ireturn, [0], 0)]
def bk_137 : List (List ab_I) := [b_137_0, b_137_1, b_137_2]
-- 138: RelayRaceModel.lastedOf(II)I
def mr_138 : ab_M := (yX5_lastedOf, prog_7_method_40_code, 3, some .int, 2, false)
def pc_138 : List Nat := [0]
def b_138_0 : List ab_I := [(.aload_n 0, [], 0), (.invokevirtual 204, [133, 1, 5], 0), (.aload_n 0, [], 0), (.getfield 55, [5, 22], 0), (.iconst 4, [], 0), (.iload_n 1, [], 0), (.imul, [], 0), (.iload_n 2, [], 0), (.iadd, [], 0), (.iaload, [], 0), (.ireturn, [0], 0)]
def bk_138 : List (List ab_I) := [b_138_0]
-- 139: RelayRaceModel.lasted(II)I
def mr_139 : ab_M := (yX5_lasted, prog_7_method_41_code, 3, some .int, 2, false)
def pc_139 : List Nat := [0, 24, 26]
def b_139_0 : List ab_I := [(.aload_n 0, [], 0), (.iload_n 1, [], 0), (.invokevirtual 132, [118, 2, 5], 0), (.ifCond .eq 19, [1], 0), (.iload_n 2, [], 0), (.invokestatic 136, [106, 1, 0], 0), (.ifCond .eq 12, [1], 0), (.aload_n 0, [], 0), (.iload_n 1, [], 0), (.iload_n 2, [], 0), (.invokevirtual 213, [138, 3, 5], 0), (.goto 5, [2], 0)]
def b_139_1 : List ab_I := [(.bipush (-2), [], 0)]
def b_139_2 : List ab_I := [(.ireturn, [0], 0)]
def bk_139 : List (List ab_I) := [b_139_0, b_139_1, b_139_2]
-- 140: RelayRaceModel.wonNow()I
def mr_140 : ab_M := (yX5_wonNow, prog_7_method_42_code, 3, some .int, 0, false)
def pc_140 : List Nat := [0, 4, 39, 40, 47]
def b_140_0 : List ab_I := [(.iconst (-1), [], 0), (.istore_n 1, [], 0), (.iconst 0, [], 0), (.istore_n 2, [], 0)]
def b_140_1 : List ab_I := [(.iload_n 2, [], 0), (.aload_n 0, [], 0), (.getfield 119, [5, 2], 0), (.if_icmp .ge 38, [4], 0), (.aload_n 0, [], 0), (.getfield 49, [5, 20], 0), (.iload_n 2, [], 0), (.iaload, [], 0), (.iconst (-1), [], 0), (.if_icmp .eq 20, [2], 0), (.aload_n 0, [], 0), (.getfield 64, [5, 25], 0), (.sipush 188, [], 0), (.iload_n 2, [], 0), (.iadd, [], 0), (.iaload, [], 0), (.ifCond .ne 7, [2], 0), (.iload_n 2, [], 0), (.goto 4, [3], 0)]
def b_140_2 : List ab_I := [(.iload_n 1, [], 0)]
def b_140_3 : List ab_I := [(.istore_n 1, [], 0), (.iinc 2 1, [], 0), (.goto (-40), [1], 0)]
def b_140_4 : List ab_I := [(.iload_n 1, [], 0), (.ireturn, [0], 0)]
def bk_140 : List (List ab_I) := [b_140_0, b_140_1, b_140_2, b_140_3, b_140_4]
-- 141: RelayRaceModel.wonBy(I)I
def mr_141 : ab_M := (yX5_wonBy, prog_7_method_43_code, 3, some .int, 1, false)
def pc_141 : List Nat := [0, 14, 18, 24]
def b_141_0 : List ab_I := [(.aload_n 0, [], 0), (.invokevirtual 216, [140, 1, 5], 0), (.istore_n 2, [], 0), (.iload_n 2, [], 0), (.iconst (-1), [], 0), (.if_icmp .eq 7, [1], 0), (.iload_n 1, [], 0), (.ifCond .ne 7, [2], 0)]
def b_141_1 : List ab_I := [(.iload_n 2, [], 0), (.goto 9, [3], 0)]
def b_141_2 : List ab_I := [(.aload_n 0, [], 0), (.getfield 49, [5, 20], 0), (.iload_n 2, [], 0), (.iaload, [], 0)]
def b_141_3 : List ab_I := [(.ireturn, [0], 0)]
def bk_141 : List (List ab_I) := [b_141_0, b_141_1, b_141_2, b_141_3]
-- 142: RelayRaceModel.wonOf(I)I
def mr_142 : ab_M := (yX5_wonOf, prog_7_method_44_code, 2, some .int, 1, false)
def pc_142 : List Nat := [0]
def b_142_0 : List ab_I := [(.aload_n 0, [], 0), (.invokevirtual 204, [133, 1, 5], 0), (.aload_n 0, [], 0), (.iload_n 1, [], 0), (.invokevirtual 219, [141, 2, 5], 0), (.ireturn, [0], 0)]
def bk_142 : List (List ab_I) := [b_142_0]
-- 143: RelayRaceModel.won(I)I
def mr_143 : ab_M := (yX5_won, prog_7_method_45_code, 2, some .int, 1, false)
def pc_143 : List Nat := [0, 15, 17]
def b_143_0 : List ab_I := [(.iload_n 1, [], 0), (.invokestatic 139, [107, 1, 0], 0), (.ifCond .eq 11, [1], 0), (.aload_n 0, [], 0), (.iload_n 1, [], 0), (.invokevirtual 222, [142, 2, 5], 0), (.goto 5, [2], 0)]
def b_143_1 : List ab_I := [(.bipush (-2), [], 0)]
def b_143_2 : List ab_I := [(.ireturn, [0], 0)]
def bk_143 : List (List ab_I) := [b_143_0, b_143_1, b_143_2]
-- 144: RelayRaceModel.firstAt(I)I
def mr_144 : ab_M := (yX5_firstAt, prog_7_method_46_code, 4, some .int, 1, false)
def pc_144 : List Nat := [0, 4, 29, 30, 37]
def b_144_0 : List ab_I := [(.iconst (-1), [], 0), (.istore_n 2, [], 0), (.iconst 0, [], 0), (.istore_n 3, [], 0)]
def b_144_1 : List ab_I := [(.iload_n 3, [], 0), (.aload_n 0, [], 0), (.getfield 119, [5, 2], 0), (.if_icmp .ge 28, [4], 0), (.aload_n 0, [], 0), (.getfield 64, [5, 25], 0), (.iconst 4, [], 0), (.iload_n 1, [], 0), (.imul, [], 0), (.iload_n 3, [], 0), (.iadd, [], 0), (.iaload, [], 0), (.ifCond .ne 7, [2], 0), (.iload_n 3, [], 0), (.goto 4, [3], 0)]
def b_144_2 : List ab_I := [(.iload_n 2, [], 0)]
def b_144_3 : List ab_I := [(.istore_n 2, [], 0), (.iinc 3 1, [], 0), (.goto (-30), [1], 0)]
def b_144_4 : List ab_I := [(.iload_n 2, [], 0), (.ireturn, [0], 0)]
def bk_144 : List (List ab_I) := [b_144_0, b_144_1, b_144_2, b_144_3, b_144_4]
-- 145: RelayRaceModel.changesOf()I
def mr_145 : ab_M := (yX5_changesOf, prog_7_method_47_code, 3, some .int, 0, false)
def pc_145 : List Nat := [0, 8, 34, 35, 43]
def b_145_0 : List ab_I := [(.aload_n 0, [], 0), (.invokevirtual 204, [133, 1, 5], 0), (.iconst 0, [], 0), (.istore_n 1, [], 0), (.iconst 1, [], 0), (.istore_n 2, [], 0)]
def b_145_1 : List ab_I := [(.iload_n 2, [], 0), (.bipush 48, [], 0), (.if_icmp .ge 32, [4], 0), (.iload_n 1, [], 0), (.aload_n 0, [], 0), (.iload_n 2, [], 0), (.invokevirtual 225, [144, 2, 5], 0), (.aload_n 0, [], 0), (.iload_n 2, [], 0), (.iconst 1, [], 0), (.isub, [], 0), (.invokevirtual 225, [144, 2, 5], 0), (.if_icmp .eq 7, [2], 0), (.iconst 1, [], 0), (.goto 4, [3], 0)]
def b_145_2 : List ab_I := [(.iconst 0, [], 0)]
def b_145_3 : List ab_I := [(.iadd, [], 0), (.istore_n 1, [], 0), (.iinc 2 1, [], 0), (.goto (-32), [1], 0)]
def b_145_4 : List ab_I := [(.iload_n 1, [], 0), (.ireturn, [0], 0)]
def bk_145 : List (List ab_I) := [b_145_0, b_145_1, b_145_2, b_145_3, b_145_4]
-- 146: RelayRaceModel.changes()I
def mr_146 : ab_M := (yX5_changes, prog_7_method_48_code, 1, some .int, 0, false)
def pc_146 : List Nat := [0]
def b_146_0 : List ab_I := [(.aload_n 0, [], 0), (.invokevirtual 228, [145, 1, 5], 0), (.ireturn, [0], 0)]
def bk_146 : List (List ab_I) := [b_146_0]
-- 147: RelayRaceModel.leaderOf(I)I
def mr_147 : ab_M := (yX5_leaderOf, prog_7_method_49_code, 7, some .int, 1, false)
def pc_147 : List Nat := [0, 11, 26, 50, 51, 60, 71, 72, 84, 85, 92, 100, 101]
def b_147_0 : List ab_I := [(.aload_n 0, [], 0), (.invokevirtual 204, [133, 1, 5], 0), (.iconst (-1), [], 0), (.istore_n 2, [], 0), (.iconst (-1), [], 0), (.istore_n 3, [], 0), (.iconst 0, [], 0), (.istore 4, [], 0)]
def b_147_1 : List ab_I := [(.iload 4, [], 0), (.aload_n 0, [], 0), (.getfield 119, [5, 2], 0), (.if_icmp .ge 75, [10], 0), (.iconst 0, [], 0), (.istore 5, [], 0), (.iconst 0, [], 0), (.istore 6, [], 0)]
def b_147_2 : List ab_I := [(.iload 6, [], 0), (.bipush 48, [], 0), (.if_icmp .ge 30, [5], 0), (.iload 5, [], 0), (.aload_n 0, [], 0), (.iload 6, [], 0), (.invokevirtual 225, [144, 2, 5], 0), (.iload 4, [], 0), (.if_icmp .ne 7, [3], 0), (.iconst 1, [], 0), (.goto 4, [4], 0)]
def b_147_3 : List ab_I := [(.iconst 0, [], 0)]
def b_147_4 : List ab_I := [(.iadd, [], 0), (.istore 5, [], 0), (.iinc 6 1, [], 0), (.goto (-31), [2], 0)]
def b_147_5 : List ab_I := [(.iload 5, [], 0), (.iload_n 3, [], 0), (.if_icmp .le 8, [6], 0), (.iload 4, [], 0), (.goto 4, [7], 0)]
def b_147_6 : List ab_I := [(.iload_n 2, [], 0)]
def b_147_7 : List ab_I := [(.istore_n 2, [], 0), (.iload 5, [], 0), (.iload_n 3, [], 0), (.if_icmp .le 8, [8], 0), (.iload 5, [], 0), (.goto 4, [9], 0)]
def b_147_8 : List ab_I := [(.iload_n 3, [], 0)]
def b_147_9 : List ab_I := [(.istore_n 3, [], 0), (.iinc 4 1, [], 0), (.goto (-78), [1], 0)]
def b_147_10 : List ab_I := [(.iload_n 1, [], 0), (.ifCond .ne 7, [11], 0), (.iload_n 2, [], 0), (.goto 4, [12], 0)]
def b_147_11 : List ab_I := [(.iload_n 3, [], 0)]
def b_147_12 : List ab_I := [(.ireturn, [0], 0)]
def bk_147 : List (List ab_I) := [b_147_0, b_147_1, b_147_2, b_147_3, b_147_4, b_147_5, b_147_6, b_147_7, b_147_8, b_147_9, b_147_10, b_147_11, b_147_12]
-- 148: RelayRaceModel.leader(I)I
def mr_148 : ab_M := (yX5_leader, prog_7_method_50_code, 2, some .int, 1, false)
def pc_148 : List Nat := [0, 15, 17]
def b_148_0 : List ab_I := [(.iload_n 1, [], 0), (.invokestatic 139, [107, 1, 0], 0), (.ifCond .eq 11, [1], 0), (.aload_n 0, [], 0), (.iload_n 1, [], 0), (.invokevirtual 231, [147, 2, 5], 0), (.goto 5, [2], 0)]
def b_148_1 : List ab_I := [(.bipush (-2), [], 0)]
def b_148_2 : List ab_I := [(.ireturn, [0], 0)]
def bk_148 : List (List ab_I) := [b_148_0, b_148_1, b_148_2]
-- 149: RelayRaceModel.stoodOf(I)I
def mr_149 : ab_M := (yX5_stoodOf, prog_7_method_51_code, 2, some .int, 1, false)
def pc_149 : List Nat := [0]
def b_149_0 : List ab_I := [(.aload_n 0, [], 0), (.invokevirtual 204, [133, 1, 5], 0), (.aload_n 0, [], 0), (.getfield 52, [5, 21], 0), (.iload_n 1, [], 0), (.iaload, [], 0), (.ireturn, [0], 0)]
def bk_149 : List (List ab_I) := [b_149_0]
-- 150: RelayRaceModel.stood(I)I
def mr_150 : ab_M := (yX5_stood, prog_7_method_52_code, 2, some .int, 1, false)
def pc_150 : List Nat := [0, 16, 18]
def b_150_0 : List ab_I := [(.aload_n 0, [], 0), (.iload_n 1, [], 0), (.invokevirtual 132, [118, 2, 5], 0), (.ifCond .eq 11, [1], 0), (.aload_n 0, [], 0), (.iload_n 1, [], 0), (.invokevirtual 234, [149, 2, 5], 0), (.goto 5, [2], 0)]
def b_150_1 : List ab_I := [(.bipush (-2), [], 0)]
def b_150_2 : List ab_I := [(.ireturn, [0], 0)]
def bk_150 : List (List ab_I) := [b_150_0, b_150_1, b_150_2]
-- 151: RelayRaceModel.puts(II)V
def mr_151 : ab_M := (yX5_puts, prog_7_method_53_code, 4, none, 2, false)
def pc_151 : List Nat := [0]
def b_151_0 : List ab_I := [(.iconst 4, [], 0), (.iload_n 1, [], 0), (.imul, [], 0), (.istore_n 3, [], 0), (.aload_n 0, [], 0), (.getfield 37, [5, 16], 0), (.iload_n 3, [], 0), (.iload_n 2, [], 0), (.bipush 64, [], 0), (.idiv, [], 0), (.iastore, [], 0), (.aload_n 0, [], 0), (.getfield 37, [5, 16], 0), (.iload_n 3, [], 0), (.iconst 1, [], 0), (.iadd, [], 0), (.iload_n 2, [], 0), (.bipush 16, [], 0), (.idiv, [], 0), (.iconst 4, [], 0), (.irem, [], 0), (.iastore, [], 0), (.aload_n 0, [], 0), (.getfield 37, [5, 16], 0), (.iload_n 3, [], 0), (.iconst 2, [], 0), (.iadd, [], 0), (.iload_n 2, [], 0), (.iconst 4, [], 0), (.idiv, [], 0), (.iconst 4, [], 0), (.irem, [], 0), (.iastore, [], 0), (.aload_n 0, [], 0), (.getfield 37, [5, 16], 0), (.iload_n 3, [], 0), (.iconst 3, [], 0), (.iadd, [], 0), (.iload_n 2, [], 0), (.iconst 4, [], 0), (.irem, [], 0), (.iastore, [], 0), (.return_, [], 0)]
def bk_151 : List (List ab_I) := [b_151_0]
-- 152: RelayRaceModel.isRow(I)Z
def mr_152 : ab_M := (yX5_isRow, prog_7_method_54_code, 1, some .boolean, 1, true)
def pc_152 : List Nat := [0, 38, 39]
def b_152_0 : List ab_I := [(.iconst 1, [], 0), (.iload_n 0, [], 0), (.bipush 64, [], 0), (.idiv, [], 0), (.ishl, [], 0), (.iconst 1, [], 0), (.iload_n 0, [], 0), (.bipush 16, [], 0), (.idiv, [], 0), (.iconst 4, [], 0), (.irem, [], 0), (.ishl, [], 0), (.ior, [], 0), (.iconst 1, [], 0), (.iload_n 0, [], 0), (.iconst 4, [], 0), (.idiv, [], 0), (.iconst 4, [], 0), (.irem, [], 0), (.ishl, [], 0), (.ior, [], 0), (.iconst 1, [], 0), (.iload_n 0, [], 0), (.iconst 4, [], 0), (.irem, [], 0), (.ishl, [], 0), (.ior, [], 0), (.bipush 15, [], 0), (.if_icmp .ne 7, [1], 0), (.iconst 1, [], 0), (.goto 4, [2], 0)]
def b_152_1 : List ab_I := [(.iconst 0, [], 0)]
def b_152_2 : List ab_I := [(.ireturn, [1], 0)]
def bk_152 : List (List ab_I) := [b_152_0, b_152_1, b_152_2]
-- 153: RelayRaceModel.orderOf(II)I
def mr_153 : ab_M := (yX5_orderOf, prog_7_method_55_code, 7, some .int, 2, false)
def pc_153 : List Nat := [0, 12, 65, 69, 70, 82, 83, 98, 100, 102, 108, 118, 121]
def b_153_0 : List ab_I := [(.aload_n 0, [], 0), (.invokevirtual 198, [125, 1, 5], 0), (.iconst (-1), [], 0), (.istore_n 3, [], 0), (.iconst (-1), [], 0), (.istore 4, [], 0), (.iconst 0, [], 0), (.istore 5, [], 0)]
def b_153_1 : List ab_I := [(.iload 5, [], 0), (.sipush 256, [], 0), (.if_icmp .ge 91, [10], 0), (.iload 5, [], 0), (.invokestatic 237, [152, 1, 0], 0), (.ifCond .eq 77, [9], 0), (.aload_n 0, [], 0), (.iload_n 1, [], 0), (.iload 5, [], 0), (.invokevirtual 240, [151, 3, 5], 0), (.aload_n 0, [], 0), (.invokevirtual 201, [132, 1, 5], 0), (.aload_n 0, [], 0), (.getfield 49, [5, 20], 0), (.iload_n 1, [], 0), (.iaload, [], 0), (.iconst (-1), [], 0), (.if_icmp .eq 23, [3], 0), (.iload_n 3, [], 0), (.iconst (-1), [], 0), (.if_icmp .eq 14, [2], 0), (.aload_n 0, [], 0), (.getfield 49, [5, 20], 0), (.iload_n 1, [], 0), (.iaload, [], 0), (.iload 4, [], 0), (.if_icmp .ge 7, [3], 0)]
def b_153_2 : List ab_I := [(.iconst 1, [], 0), (.goto 4, [4], 0)]
def b_153_3 : List ab_I := [(.iconst 0, [], 0)]
def b_153_4 : List ab_I := [(.istore 6, [], 0), (.iload 6, [], 0), (.ifCond .eq 8, [5], 0), (.iload 5, [], 0), (.goto 4, [6], 0)]
def b_153_5 : List ab_I := [(.iload_n 3, [], 0)]
def b_153_6 : List ab_I := [(.istore_n 3, [], 0), (.iload 6, [], 0), (.ifCond .eq 12, [7], 0), (.aload_n 0, [], 0), (.getfield 49, [5, 20], 0), (.iload_n 1, [], 0), (.iaload, [], 0), (.goto 5, [8], 0)]
def b_153_7 : List ab_I := [(.iload 4, [], 0)]
def b_153_8 : List ab_I := [(.istore 4, [], 0)]
def b_153_9 : List ab_I := [(.iinc 5 1, [], 0), (.goto (-93), [1], 0)]
def b_153_10 : List ab_I := [(.iload_n 3, [], 0), (.iconst (-1), [], 0), (.if_icmp .eq 8, [11], 0), (.iload_n 2, [], 0), (.iconst 4, [], 0), (.if_icmp .ne 6, [12], 0)]
def b_153_11 : List ab_I := [(.iload 4, [], 0), (.ireturn, [0], 0)]
def b_153_12 : List ab_I := [(.aload_n 0, [], 0), (.iload_n 1, [], 0), (.iload_n 3, [], 0), (.invokevirtual 240, [151, 3, 5], 0), (.aload_n 0, [], 0), (.getfield 37, [5, 16], 0), (.iconst 4, [], 0), (.iload_n 1, [], 0), (.imul, [], 0), (.iload_n 2, [], 0), (.iadd, [], 0), (.iaload, [], 0), (.ireturn, [0], 0)]
def bk_153 : List (List ab_I) := [b_153_0, b_153_1, b_153_2, b_153_3, b_153_4, b_153_5, b_153_6, b_153_7, b_153_8, b_153_9, b_153_10, b_153_11, b_153_12]
-- 154: RelayRaceModel.order(II)I
def mr_154 : ab_M := (yX5_order, prog_7_method_56_code, 3, some .int, 2, false)
def pc_154 : List Nat := [0, 26, 28]
def b_154_0 : List ab_I := [(.aload_n 0, [], 0), (.iload_n 1, [], 0), (.invokevirtual 132, [118, 2, 5], 0), (.ifCond .eq 21, [1], 0), (.iload_n 2, [], 0), (.iconst 0, [], 0), (.iconst 4, [], 0), (.invokestatic 104, [101, 3, 0], 0), (.ifCond .eq 12, [1], 0), (.aload_n 0, [], 0), (.iload_n 1, [], 0), (.iload_n 2, [], 0), (.invokevirtual 244, [153, 3, 5], 0), (.goto 5, [2], 0)]
def b_154_1 : List ab_I := [(.bipush (-2), [], 0)]
def b_154_2 : List ab_I := [(.ireturn, [0], 0)]
def bk_154 : List (List ab_I) := [b_154_0, b_154_1, b_154_2]
-- 155: RelayRaceModel.trainOf(II)I
def mr_155 : ab_M := (yX5_trainOf, prog_7_method_57_code, 8, some .int, 2, false)
def pc_155 : List Nat := [0, 12, 53, 57, 101, 105, 106, 118, 119, 134, 136, 144, 152, 154]
def b_155_0 : List ab_I := [(.aload_n 0, [], 0), (.invokevirtual 198, [125, 1, 5], 0), (.iconst (-1), [], 0), (.istore_n 3, [], 0), (.iconst (-1), [], 0), (.istore 4, [], 0), (.iconst 0, [], 0), (.istore 5, [], 0)]
def b_155_1 : List ab_I := [(.iload 5, [], 0), (.iconst 4, [], 0), (.if_icmp .ge 129, [11], 0), (.aload_n 0, [], 0), (.getfield 16, [5, 4], 0), (.iconst 4, [], 0), (.iload_n 1, [], 0), (.imul, [], 0), (.iload 5, [], 0), (.iadd, [], 0), (.iaload, [], 0), (.istore 6, [], 0), (.aload_n 0, [], 0), (.getfield 16, [5, 4], 0), (.iconst 4, [], 0), (.iload_n 1, [], 0), (.imul, [], 0), (.iload 5, [], 0), (.iadd, [], 0), (.iload 6, [], 0), (.bipush 9, [], 0), (.if_icmp .ne 8, [2], 0), (.bipush 9, [], 0), (.goto 7, [3], 0)]
def b_155_2 : List ab_I := [(.iload 6, [], 0), (.iconst 1, [], 0), (.iadd, [], 0)]
def b_155_3 : List ab_I := [(.iastore, [], 0), (.aload_n 0, [], 0), (.invokevirtual 201, [132, 1, 5], 0), (.aload_n 0, [], 0), (.getfield 16, [5, 4], 0), (.iconst 4, [], 0), (.iload_n 1, [], 0), (.imul, [], 0), (.iload 5, [], 0), (.iadd, [], 0), (.iload 6, [], 0), (.iastore, [], 0), (.aload_n 0, [], 0), (.getfield 49, [5, 20], 0), (.iload_n 1, [], 0), (.iaload, [], 0), (.iconst (-1), [], 0), (.if_icmp .eq 23, [5], 0), (.iload_n 3, [], 0), (.iconst (-1), [], 0), (.if_icmp .eq 14, [4], 0), (.aload_n 0, [], 0), (.getfield 49, [5, 20], 0), (.iload_n 1, [], 0), (.iaload, [], 0), (.iload 4, [], 0), (.if_icmp .ge 7, [5], 0)]
def b_155_4 : List ab_I := [(.iconst 1, [], 0), (.goto 4, [6], 0)]
def b_155_5 : List ab_I := [(.iconst 0, [], 0)]
def b_155_6 : List ab_I := [(.istore 7, [], 0), (.iload 7, [], 0), (.ifCond .eq 8, [7], 0), (.iload 5, [], 0), (.goto 4, [8], 0)]
def b_155_7 : List ab_I := [(.iload_n 3, [], 0)]
def b_155_8 : List ab_I := [(.istore_n 3, [], 0), (.iload 7, [], 0), (.ifCond .eq 12, [9], 0), (.aload_n 0, [], 0), (.getfield 49, [5, 20], 0), (.iload_n 1, [], 0), (.iaload, [], 0), (.goto 5, [10], 0)]
def b_155_9 : List ab_I := [(.iload 4, [], 0)]
def b_155_10 : List ab_I := [(.istore 4, [], 0), (.iinc 5 1, [], 0), (.goto (-129), [1], 0)]
def b_155_11 : List ab_I := [(.iload_n 2, [], 0), (.ifCond .ne 7, [12], 0), (.iload_n 3, [], 0), (.goto 5, [13], 0)]
def b_155_12 : List ab_I := [(.iload 4, [], 0)]
def b_155_13 : List ab_I := [(.ireturn, [0], 0)]
def bk_155 : List (List ab_I) := [b_155_0, b_155_1, b_155_2, b_155_3, b_155_4, b_155_5, b_155_6, b_155_7, b_155_8, b_155_9, b_155_10, b_155_11, b_155_12, b_155_13]
-- 156: RelayRaceModel.train(II)I
def mr_156 : ab_M := (yX5_train, prog_7_method_58_code, 3, some .int, 2, false)
def pc_156 : List Nat := [0, 24, 26]
def b_156_0 : List ab_I := [(.aload_n 0, [], 0), (.iload_n 1, [], 0), (.invokevirtual 132, [118, 2, 5], 0), (.ifCond .eq 19, [1], 0), (.iload_n 2, [], 0), (.invokestatic 139, [107, 1, 0], 0), (.ifCond .eq 12, [1], 0), (.aload_n 0, [], 0), (.iload_n 1, [], 0), (.iload_n 2, [], 0), (.invokevirtual 247, [155, 3, 5], 0), (.goto 5, [2], 0)]
def b_156_1 : List ab_I := [(.bipush (-2), [], 0)]
def b_156_2 : List ab_I := [(.ireturn, [0], 0)]
def bk_156 : List (List ab_I) := [b_156_0, b_156_1, b_156_2]
-- 157: RelayRaceModel.fitOf(I)I
def mr_157 : ab_M := (yX5_fitOf, prog_7_method_59_code, 3, some .int, 1, false)
def pc_157 : List Nat := [0, 7, 32, 38]
def b_157_0 : List ab_I := [(.aload_n 0, [], 0), (.invokevirtual 198, [125, 1, 5], 0), (.bipush 10, [], 0), (.istore_n 2, [], 0)]
def b_157_1 : List ab_I := [(.iload_n 2, [], 0), (.bipush 60, [], 0), (.if_icmp .gt 28, [3], 0), (.aload_n 0, [], 0), (.iload_n 2, [], 0), (.putfield 164, [5, 10, 0], 0), (.aload_n 0, [], 0), (.invokevirtual 201, [132, 1, 5], 0), (.aload_n 0, [], 0), (.invokevirtual 216, [140, 1, 5], 0), (.iload_n 1, [], 0), (.if_icmp .ne 5, [2], 0), (.iload_n 2, [], 0), (.ireturn, [0], 0)]
def b_157_2 : List ab_I := [(.iinc 2 1, [], 0), (.goto (-28), [1], 0)]
def b_157_3 : List ab_I := [(.iconst (-1), [], 0), (.ireturn, [0], 0)]
def bk_157 : List (List ab_I) := [b_157_0, b_157_1, b_157_2, b_157_3]
-- 158: RelayRaceModel.fit(I)I
def mr_158 : ab_M := (yX5_fit, prog_7_method_60_code, 2, some .int, 1, false)
def pc_158 : List Nat := [0, 16, 18]
def b_158_0 : List ab_I := [(.aload_n 0, [], 0), (.iload_n 1, [], 0), (.invokevirtual 132, [118, 2, 5], 0), (.ifCond .eq 11, [1], 0), (.aload_n 0, [], 0), (.iload_n 1, [], 0), (.invokevirtual 250, [157, 2, 5], 0), (.goto 5, [2], 0)]
def b_158_1 : List ab_I := [(.bipush (-2), [], 0)]
def b_158_2 : List ab_I := [(.ireturn, [0], 0)]
def bk_158 : List (List ab_I) := [b_158_0, b_158_1, b_158_2]
-- 159: RelayRaceModel.isSpared(I)Z
def mr_159 : ab_M := (yX5_isSpared, prog_7_method_61_code, 2, some .boolean, 1, false)
def pc_159 : List Nat := [0, 20, 21]
def b_159_0 : List ab_I := [(.aload_n 0, [], 0), (.iload_n 1, [], 0), (.putfield 170, [5, 15, 0], 0), (.aload_n 0, [], 0), (.invokevirtual 201, [132, 1, 5], 0), (.aload_n 0, [], 0), (.invokevirtual 216, [140, 1, 5], 0), (.ifCond .ne 7, [1], 0), (.iconst 1, [], 0), (.goto 4, [2], 0)]
def b_159_1 : List ab_I := [(.iconst 0, [], 0)]
def b_159_2 : List ab_I := [(.ireturn, [1], 0)]
def bk_159 : List (List ab_I) := [b_159_0, b_159_1, b_159_2]
-- 160: RelayRaceModel.spareBy()I
def mr_160 : ab_M := (yX5_spareBy, prog_7_method_62_code, 3, some .int, 0, false)
def pc_160 : List Nat := [0, 14, 16, 43, 49, 51, 63, 101, 107, 113]
def b_160_0 : List ab_I := [(.aload_n 0, [], 0), (.invokevirtual 198, [125, 1, 5], 0), (.aload_n 0, [], 0), (.iconst 0, [], 0), (.invokevirtual 253, [159, 2, 5], 0), (.ifCond .eq 5, [1], 0), (.iconst 0, [], 0), (.ireturn, [0], 0)]
def b_160_1 : List ab_I := [(.iconst 0, [], 0), (.istore_n 1, [], 0)]
def b_160_2 : List ab_I := [(.iload_n 1, [], 0), (.aload_n 0, [], 0), (.getfield 152, [5, 6], 0), (.if_icmp .ge 28, [4], 0), (.aload_n 0, [], 0), (.getfield 67, [5, 26], 0), (.iconst 0, [], 0), (.iload_n 1, [], 0), (.iastore, [], 0), (.aload_n 0, [], 0), (.iconst 1, [], 0), (.iload_n 1, [], 0), (.ishl, [], 0), (.invokevirtual 253, [159, 2, 5], 0), (.ifCond .eq 5, [3], 0), (.iconst 1, [], 0), (.ireturn, [0], 0)]
def b_160_3 : List ab_I := [(.iinc 1 1, [], 0), (.goto (-30), [2], 0)]
def b_160_4 : List ab_I := [(.iconst 0, [], 0), (.istore_n 1, [], 0)]
def b_160_5 : List ab_I := [(.iload_n 1, [], 0), (.aload_n 0, [], 0), (.getfield 152, [5, 6], 0), (.if_icmp .ge 57, [9], 0), (.iload_n 1, [], 0), (.iconst 1, [], 0), (.iadd, [], 0), (.istore_n 2, [], 0)]
def b_160_6 : List ab_I := [(.iload_n 2, [], 0), (.aload_n 0, [], 0), (.getfield 152, [5, 6], 0), (.if_icmp .ge 39, [8], 0), (.aload_n 0, [], 0), (.getfield 67, [5, 26], 0), (.iconst 0, [], 0), (.iload_n 1, [], 0), (.iastore, [], 0), (.aload_n 0, [], 0), (.getfield 67, [5, 26], 0), (.iconst 1, [], 0), (.iload_n 2, [], 0), (.iastore, [], 0), (.aload_n 0, [], 0), (.iconst 1, [], 0), (.iload_n 1, [], 0), (.ishl, [], 0), (.iconst 1, [], 0), (.iload_n 2, [], 0), (.ishl, [], 0), (.ior, [], 0), (.invokevirtual 253, [159, 2, 5], 0), (.ifCond .eq 5, [7], 0), (.iconst 2, [], 0), (.ireturn, [0], 0)]
def b_160_7 : List ab_I := [(.iinc 2 1, [], 0), (.goto (-41), [6], 0)]
def b_160_8 : List ab_I := [(.iinc 1 1, [], 0), (.goto (-59), [5], 0)]
def b_160_9 : List ab_I := [(.iconst (-1), [], 0), (.ireturn, [0], 0)]
def bk_160 : List (List ab_I) := [b_160_0, b_160_1, b_160_2, b_160_3, b_160_4, b_160_5, b_160_6, b_160_7, b_160_8, b_160_9]
-- 161: RelayRaceModel.ofRow(II)I
def mr_161 : ab_M := (yX5_ofRow, prog_7_method_63_code, 3, some .int, 2, false)
def pc_161 : List Nat := [0, 9, 23, 24]
def b_161_0 : List ab_I := [(.iload_n 2, [], 0), (.iconst (-1), [], 0), (.if_icmp .ne 7, [1], 0), (.iload_n 1, [], 0), (.goto 18, [3], 0)]
def b_161_1 : List ab_I := [(.iload_n 2, [], 0), (.iload_n 1, [], 0), (.if_icmp .ge 12, [2], 0), (.aload_n 0, [], 0), (.getfield 67, [5, 26], 0), (.iload_n 2, [], 0), (.iaload, [], 0), (.goto 4, [3], 0)]
def b_161_2 : List ab_I := [(.iconst (-1), [], 0)]
def b_161_3 : List ab_I := [(.ireturn, [0], 0)]
def bk_161 : List (List ab_I) := [b_161_0, b_161_1, b_161_2, b_161_3]
-- 162: RelayRaceModel.spare(I)I
def mr_162 : ab_M := (yX5_spare, prog_7_method_64_code, 2, some .int, 1, false)
def pc_162 : List Nat := [0, 21, 23]
def b_162_0 : List ab_I := [(.iload_n 1, [], 0), (.iconst (-1), [], 0), (.iconst 1, [], 0), (.invokestatic 104, [101, 3, 0], 0), (.ifCond .eq 15, [1], 0), (.aload_n 0, [], 0), (.aload_n 0, [], 0), (.invokevirtual 256, [160, 1, 5], 0), (.iload_n 1, [], 0), (.invokevirtual 259, [161, 3, 5], 0), (.goto 5, [2], 0)]
def b_162_1 : List ab_I := [(.bipush (-2), [], 0)]
def b_162_2 : List ab_I := [(.ireturn, [0], 0)]
def bk_162 : List (List ab_I) := [b_162_0, b_162_1, b_162_2]
-- 163: RelayRaceModel.seen(III)I
def mr_163 : ab_M := (yX5_seen, prog_7_method_65_code, 4, some .int, 3, false)
def pc_163 : List Nat := [0, 21, 24, 36]
def b_163_0 : List ab_I := [(.iload_n 1, [], 0), (.invokestatic 149, [105, 1, 0], 0), (.ifCond .eq 17, [1], 0), (.iload_n 2, [], 0), (.invokestatic 136, [106, 1, 0], 0), (.ifCond .eq 10, [1], 0), (.iload_n 3, [], 0), (.invokestatic 136, [106, 1, 0], 0), (.ifCond .ne 6, [2], 0)]
def b_163_1 : List ab_I := [(.bipush (-2), [], 0), (.ireturn, [0], 0)]
def b_163_2 : List ab_I := [(.aload_n 0, [], 0), (.getfield 262, [5, 27], 0), (.bipush 8, [], 0), (.if_icmp .ne 6, [3], 0), (.bipush (-4), [], 0), (.ireturn, [0], 0)]
def b_163_3 : List ab_I := [(.aload_n 0, [], 0), (.getfield 70, [5, 28], 0), (.aload_n 0, [], 0), (.getfield 262, [5, 27], 0), (.iload_n 1, [], 0), (.iastore, [], 0), (.aload_n 0, [], 0), (.getfield 73, [5, 29], 0), (.aload_n 0, [], 0), (.getfield 262, [5, 27], 0), (.iload_n 2, [], 0), (.iastore, [], 0), (.aload_n 0, [], 0), (.getfield 76, [5, 30], 0), (.aload_n 0, [], 0), (.getfield 262, [5, 27], 0), (.iload_n 3, [], 0), (.iastore, [], 0), (.aload_n 0, [], 0), (.dup, [], 0), (.getfield 262, [5, 27], 0), (.iconst 1, [], 0), (.iadd, [], 0), (.putfield 262, [5, 27, 0], 0), (.aload_n 0, [], 0), (.getfield 262, [5, 27], 0), (.ireturn, [0], 0)]
def bk_163 : List (List ab_I) := [b_163_0, b_163_1, b_163_2, b_163_3]
-- 164: RelayRaceModel.forget()I
def mr_164 : ab_M := (yX5_forget, prog_7_method_66_code, 2, some .int, 0, false)
def pc_164 : List Nat := [0]
def b_164_0 : List ab_I := [(.aload_n 0, [], 0), (.getfield 262, [5, 27], 0), (.istore_n 1, [], 0), (.aload_n 0, [], 0), (.iconst 0, [], 0), (.putfield 262, [5, 27, 0], 0), (.iload_n 1, [], 0), (.ireturn, [0], 0)]
def bk_164 : List (List ab_I) := [b_164_0]
-- 165: RelayRaceModel.isSeen()Z
def mr_165 : ab_M := (yX5_isSeen, prog_7_method_67_code, 3, some .boolean, 0, false)
def pc_165 : List Nat := [0, 8, 66, 67, 74]
def b_165_0 : List ab_I := [(.aload_n 0, [], 0), (.invokevirtual 201, [132, 1, 5], 0), (.iconst 1, [], 0), (.istore_n 1, [], 0), (.iconst 0, [], 0), (.istore_n 2, [], 0)]
def b_165_1 : List ab_I := [(.iload_n 2, [], 0), (.aload_n 0, [], 0), (.getfield 262, [5, 27], 0), (.if_icmp .ge 61, [4], 0), (.iload_n 1, [], 0), (.ifCond .eq 57, [4], 0), (.aload_n 0, [], 0), (.getfield 73, [5, 29], 0), (.iload_n 2, [], 0), (.iaload, [], 0), (.aload_n 0, [], 0), (.getfield 119, [5, 2], 0), (.if_icmp .ge 36, [2], 0), (.aload_n 0, [], 0), (.getfield 64, [5, 25], 0), (.iconst 4, [], 0), (.aload_n 0, [], 0), (.getfield 70, [5, 28], 0), (.iload_n 2, [], 0), (.iaload, [], 0), (.imul, [], 0), (.aload_n 0, [], 0), (.getfield 73, [5, 29], 0), (.iload_n 2, [], 0), (.iaload, [], 0), (.iadd, [], 0), (.iaload, [], 0), (.aload_n 0, [], 0), (.getfield 76, [5, 30], 0), (.iload_n 2, [], 0), (.iaload, [], 0), (.if_icmp .ne 7, [2], 0), (.iconst 1, [], 0), (.goto 4, [3], 0)]
def b_165_2 : List ab_I := [(.iconst 0, [], 0)]
def b_165_3 : List ab_I := [(.istore_n 1, [], 0), (.iinc 2 1, [], 0), (.goto (-63), [1], 0)]
def b_165_4 : List ab_I := [(.iload_n 1, [], 0), (.ireturn, [1], 0)]
def bk_165 : List (List ab_I) := [b_165_0, b_165_1, b_165_2, b_165_3, b_165_4]
-- 166: RelayRaceModel.neverNow()I
def mr_166 : ab_M := (yX5_neverNow, prog_7_method_68_code, 3, some .int, 0, false)
def pc_166 : List Nat := [0, 8, 37, 38, 46]
def b_166_0 : List ab_I := [(.aload_n 0, [], 0), (.invokevirtual 198, [125, 1, 5], 0), (.iconst 0, [], 0), (.istore_n 1, [], 0), (.iconst 0, [], 0), (.istore_n 2, [], 0)]
def b_166_1 : List ab_I := [(.iload_n 2, [], 0), (.aload_n 0, [], 0), (.getfield 152, [5, 6], 0), (.if_icmp .ge 33, [4], 0), (.aload_n 0, [], 0), (.iconst 1, [], 0), (.iload_n 2, [], 0), (.ishl, [], 0), (.putfield 170, [5, 15, 0], 0), (.iload_n 1, [], 0), (.aload_n 0, [], 0), (.invokevirtual 265, [165, 1, 5], 0), (.ifCond .eq 9, [2], 0), (.iconst 1, [], 0), (.iload_n 2, [], 0), (.ishl, [], 0), (.goto 4, [3], 0)]
def b_166_2 : List ab_I := [(.iconst 0, [], 0)]
def b_166_3 : List ab_I := [(.ior, [], 0), (.istore_n 1, [], 0), (.iinc 2 1, [], 0), (.goto (-35), [1], 0)]
def b_166_4 : List ab_I := [(.iload_n 1, [], 0), (.ireturn, [0], 0)]
def bk_166 : List (List ab_I) := [b_166_0, b_166_1, b_166_2, b_166_3, b_166_4]
-- 167: RelayRaceModel.never()I
def mr_167 : ab_M := (yX5_never, prog_7_method_69_code, 1, some .int, 0, false)
def pc_167 : List Nat := [0]
def b_167_0 : List ab_I := [(.aload_n 0, [], 0), (.invokevirtual 269, [166, 1, 5], 0), (.ireturn, [0], 0)]
def bk_167 : List (List ab_I) := [b_167_0]
-- 168: RelayRaceModel.pacesBy(I)I
def mr_168 : ab_M := (yX5_pacesBy, prog_7_method_70_code, 8, some .int, 1, false)
def pc_168 : List Nat := [0, 16, 46, 47, 52, 65, 99, 120, 126]
def b_168_0 : List ab_I := [(.aload_n 0, [], 0), (.invokevirtual 198, [125, 1, 5], 0), (.aload_n 0, [], 0), (.getfield 16, [5, 4], 0), (.iload_n 1, [], 0), (.iaload, [], 0), (.istore_n 2, [], 0), (.iconst 0, [], 0), (.istore_n 3, [], 0), (.iconst 1, [], 0), (.istore 4, [], 0)]
def b_168_1 : List ab_I := [(.iload 4, [], 0), (.bipush 10, [], 0), (.if_icmp .ge 106, [8], 0), (.aload_n 0, [], 0), (.getfield 16, [5, 4], 0), (.iload_n 1, [], 0), (.iload 4, [], 0), (.iastore, [], 0), (.iload_n 3, [], 0), (.aload_n 0, [], 0), (.invokevirtual 265, [165, 1, 5], 0), (.ifCond .eq 10, [2], 0), (.iconst 1, [], 0), (.iload 4, [], 0), (.ishl, [], 0), (.goto 4, [3], 0)]
def b_168_2 : List ab_I := [(.iconst 0, [], 0)]
def b_168_3 : List ab_I := [(.ior, [], 0), (.istore_n 3, [], 0), (.iconst 0, [], 0), (.istore 5, [], 0)]
def b_168_4 : List ab_I := [(.iload 5, [], 0), (.bipush 48, [], 0), (.if_icmp .ge 64, [7], 0), (.iconst 0, [], 0), (.istore 6, [], 0), (.iconst 0, [], 0), (.istore 7, [], 0)]
def b_168_5 : List ab_I := [(.iload 7, [], 0), (.aload_n 0, [], 0), (.getfield 119, [5, 2], 0), (.if_icmp .ge 28, [6], 0), (.iconst 4, [], 0), (.iload 6, [], 0), (.imul, [], 0), (.aload_n 0, [], 0), (.getfield 64, [5, 25], 0), (.iconst 4, [], 0), (.iload 5, [], 0), (.imul, [], 0), (.iload 7, [], 0), (.iadd, [], 0), (.iaload, [], 0), (.iadd, [], 0), (.istore 6, [], 0), (.iinc 7 1, [], 0), (.goto (-31), [5], 0)]
def b_168_6 : List ab_I := [(.aload_n 0, [], 0), (.getfield 79, [5, 31], 0), (.bipush 48, [], 0), (.iload 4, [], 0), (.imul, [], 0), (.iload 5, [], 0), (.iadd, [], 0), (.iload 6, [], 0), (.iastore, [], 0), (.iinc 5 1, [], 0), (.goto (-65), [4], 0)]
def b_168_7 : List ab_I := [(.iinc 4 1, [], 0), (.goto (-107), [1], 0)]
def b_168_8 : List ab_I := [(.aload_n 0, [], 0), (.getfield 16, [5, 4], 0), (.iload_n 1, [], 0), (.iload_n 2, [], 0), (.iastore, [], 0), (.iload_n 3, [], 0), (.ireturn, [0], 0)]
def bk_168 : List (List ab_I) := [b_168_0, b_168_1, b_168_2, b_168_3, b_168_4, b_168_5, b_168_6, b_168_7, b_168_8]
-- 169: RelayRaceModel.sortsBy(I)I
def mr_169 : ab_M := (yX5_sortsBy, prog_7_method_71_code, 5, some .int, 1, false)
def pc_169 : List Nat := [0, 16, 45, 46, 54]
def b_169_0 : List ab_I := [(.aload_n 0, [], 0), (.invokevirtual 198, [125, 1, 5], 0), (.aload_n 0, [], 0), (.getfield 13, [5, 3], 0), (.iload_n 1, [], 0), (.iaload, [], 0), (.istore_n 2, [], 0), (.iconst 0, [], 0), (.istore_n 3, [], 0), (.iconst 0, [], 0), (.istore 4, [], 0)]
def b_169_1 : List ab_I := [(.iload 4, [], 0), (.iconst 3, [], 0), (.if_icmp .ge 35, [4], 0), (.aload_n 0, [], 0), (.getfield 13, [5, 3], 0), (.iload_n 1, [], 0), (.iload 4, [], 0), (.iastore, [], 0), (.iload_n 3, [], 0), (.aload_n 0, [], 0), (.invokevirtual 265, [165, 1, 5], 0), (.ifCond .eq 10, [2], 0), (.iconst 1, [], 0), (.iload 4, [], 0), (.ishl, [], 0), (.goto 4, [3], 0)]
def b_169_2 : List ab_I := [(.iconst 0, [], 0)]
def b_169_3 : List ab_I := [(.ior, [], 0), (.istore_n 3, [], 0), (.iinc 4 1, [], 0), (.goto (-35), [1], 0)]
def b_169_4 : List ab_I := [(.aload_n 0, [], 0), (.getfield 13, [5, 3], 0), (.iload_n 1, [], 0), (.iload_n 2, [], 0), (.iastore, [], 0), (.iload_n 3, [], 0), (.ireturn, [0], 0)]
def bk_169 : List (List ab_I) := [b_169_0, b_169_1, b_169_2, b_169_3, b_169_4]
-- 170: RelayRaceModel.was(III)I
def mr_170 : ab_M := (yX5_was, prog_7_method_72_code, 4, some .int, 3, false)
def pc_170 : List Nat := [0, 38, 50, 52]
def b_170_0 : List ab_I := [(.aload_n 0, [], 0), (.iload_n 1, [], 0), (.invokevirtual 132, [118, 2, 5], 0), (.ifCond .eq 45, [2], 0), (.iload_n 2, [], 0), (.invokestatic 136, [106, 1, 0], 0), (.ifCond .eq 38, [2], 0), (.iload_n 3, [], 0), (.invokestatic 139, [107, 1, 0], 0), (.ifCond .eq 31, [2], 0), (.iload_n 3, [], 0), (.ifCond .ne 15, [1], 0), (.aload_n 0, [], 0), (.iconst 4, [], 0), (.iload_n 1, [], 0), (.imul, [], 0), (.iload_n 2, [], 0), (.iadd, [], 0), (.invokevirtual 272, [168, 2, 5], 0), (.goto 17, [3], 0)]
def b_170_1 : List ab_I := [(.aload_n 0, [], 0), (.iconst 4, [], 0), (.iload_n 1, [], 0), (.imul, [], 0), (.iload_n 2, [], 0), (.iadd, [], 0), (.invokevirtual 275, [169, 2, 5], 0), (.goto 5, [3], 0)]
def b_170_2 : List ab_I := [(.bipush (-2), [], 0)]
def b_170_3 : List ab_I := [(.ireturn, [0], 0)]
def bk_170 : List (List ab_I) := [b_170_0, b_170_1, b_170_2, b_170_3]
-- 171: RelayRaceModel.askOf(I)I
def mr_171 : ab_M := (yX5_askOf, prog_7_method_73_code, 10, some .int, 1, false)
def pc_171 : List Nat := [0, 14, 27, 40, 100, 101, 110, 122, 124, 132, 144, 148, 149, 161, 162, 173, 175, 183]
def b_171_0 : List ab_I := [(.aload_n 0, [], 0), (.iload_n 1, [], 0), (.invokevirtual 272, [168, 2, 5], 0), (.istore_n 2, [], 0), (.iconst (-1), [], 0), (.istore_n 3, [], 0), (.iconst 0, [], 0), (.istore 4, [], 0), (.iconst 0, [], 0), (.istore 5, [], 0)]
def b_171_1 : List ab_I := [(.iload 5, [], 0), (.bipush 48, [], 0), (.if_icmp .ge 165, [17], 0), (.iconst 0, [], 0), (.istore 6, [], 0), (.iconst 1, [], 0), (.istore 7, [], 0)]
def b_171_2 : List ab_I := [(.iload 7, [], 0), (.bipush 10, [], 0), (.if_icmp .ge 101, [9], 0), (.iconst 0, [], 0), (.istore 8, [], 0), (.iconst 1, [], 0), (.istore 9, [], 0)]
def b_171_3 : List ab_I := [(.iload 9, [], 0), (.bipush 10, [], 0), (.if_icmp .ge 66, [6], 0), (.iload 8, [], 0), (.iload_n 2, [], 0), (.iload 7, [], 0), (.invokestatic 173, [102, 2, 0], 0), (.ifCond .eq 45, [4], 0), (.iload_n 2, [], 0), (.iload 9, [], 0), (.invokestatic 173, [102, 2, 0], 0), (.ifCond .eq 36, [4], 0), (.aload_n 0, [], 0), (.getfield 79, [5, 31], 0), (.bipush 48, [], 0), (.iload 7, [], 0), (.imul, [], 0), (.iload 5, [], 0), (.iadd, [], 0), (.iaload, [], 0), (.aload_n 0, [], 0), (.getfield 79, [5, 31], 0), (.bipush 48, [], 0), (.iload 9, [], 0), (.imul, [], 0), (.iload 5, [], 0), (.iadd, [], 0), (.iaload, [], 0), (.if_icmp .ne 7, [4], 0), (.iconst 1, [], 0), (.goto 4, [5], 0)]
def b_171_4 : List ab_I := [(.iconst 0, [], 0)]
def b_171_5 : List ab_I := [(.iadd, [], 0), (.istore 8, [], 0), (.iinc 9 1, [], 0), (.goto (-67), [3], 0)]
def b_171_6 : List ab_I := [(.iload 8, [], 0), (.iload 6, [], 0), (.if_icmp .le 8, [7], 0), (.iload 8, [], 0), (.goto 5, [8], 0)]
def b_171_7 : List ab_I := [(.iload 6, [], 0)]
def b_171_8 : List ab_I := [(.istore 6, [], 0), (.iinc 7 1, [], 0), (.goto (-102), [2], 0)]
def b_171_9 : List ab_I := [(.iload_n 3, [], 0), (.iconst (-1), [], 0), (.if_icmp .eq 10, [10], 0), (.iload 6, [], 0), (.iload 4, [], 0), (.if_icmp .ge 7, [11], 0)]
def b_171_10 : List ab_I := [(.iconst 1, [], 0), (.goto 4, [12], 0)]
def b_171_11 : List ab_I := [(.iconst 0, [], 0)]
def b_171_12 : List ab_I := [(.istore 7, [], 0), (.iload 7, [], 0), (.ifCond .eq 8, [13], 0), (.iload 5, [], 0), (.goto 4, [14], 0)]
def b_171_13 : List ab_I := [(.iload_n 3, [], 0)]
def b_171_14 : List ab_I := [(.istore_n 3, [], 0), (.iload 7, [], 0), (.ifCond .eq 8, [15], 0), (.iload 6, [], 0), (.goto 5, [16], 0)]
def b_171_15 : List ab_I := [(.iload 4, [], 0)]
def b_171_16 : List ab_I := [(.istore 4, [], 0), (.iinc 5 1, [], 0), (.goto (-166), [1], 0)]
def b_171_17 : List ab_I := [(.iload_n 3, [], 0), (.ireturn, [0], 0)]
def bk_171 : List (List ab_I) := [b_171_0, b_171_1, b_171_2, b_171_3, b_171_4, b_171_5, b_171_6, b_171_7, b_171_8, b_171_9, b_171_10, b_171_11, b_171_12, b_171_13, b_171_14, b_171_15, b_171_16, b_171_17]
-- 172: RelayRaceModel.ask(II)I
def mr_172 : ab_M := (yX5_ask, prog_7_method_74_code, 3, some .int, 2, false)
def pc_172 : List Nat := [0, 27, 29]
def b_172_0 : List ab_I := [(.aload_n 0, [], 0), (.iload_n 1, [], 0), (.invokevirtual 132, [118, 2, 5], 0), (.ifCond .eq 22, [1], 0), (.iload_n 2, [], 0), (.invokestatic 136, [106, 1, 0], 0), (.ifCond .eq 15, [1], 0), (.aload_n 0, [], 0), (.iconst 4, [], 0), (.iload_n 1, [], 0), (.imul, [], 0), (.iload_n 2, [], 0), (.iadd, [], 0), (.invokevirtual 278, [171, 2, 5], 0), (.goto 5, [2], 0)]
def b_172_1 : List ab_I := [(.bipush (-2), [], 0)]
def b_172_2 : List ab_I := [(.ireturn, [0], 0)]
def bk_172 : List (List ab_I) := [b_172_0, b_172_1, b_172_2]
-- 173: RelayRaceModel.chanceOf(III)J
def mr_173 : ab_M := (yX5_chanceOf, prog_7_method_75_code, 10, some .long, 3, false)
def pc_173 : List Nat := [0, 10, 27, 56, 58, 67, 99, 100, 103, 109]
def b_173_0 : List ab_I := [(.aload_n 0, [], 0), (.invokevirtual 198, [125, 1, 5], 0), (.lconst 0, [], 0), (.lstore 4, [], 0), (.iconst 0, [], 0), (.istore 6, [], 0)]
def b_173_1 : List ab_I := [(.iload 6, [], 0), (.iconst 1, [], 0), (.aload_n 0, [], 0), (.getfield 152, [5, 6], 0), (.ishl, [], 0), (.if_icmp .ge 91, [9], 0), (.lconst 1, [], 0), (.lstore 7, [], 0), (.iconst 0, [], 0), (.istore 9, [], 0)]
def b_173_2 : List ab_I := [(.iload 9, [], 0), (.aload_n 0, [], 0), (.getfield 152, [5, 6], 0), (.if_icmp .ge 34, [5], 0), (.lload 7, [], 0), (.iload 6, [], 0), (.iload 9, [], 0), (.invokestatic 173, [102, 2, 0], 0), (.ifCond .eq 11, [3], 0), (.bipush 16, [], 0), (.iload_n 1, [], 0), (.isub, [], 0), (.i2l, [], 0), (.goto 5, [4], 0)]
def b_173_3 : List ab_I := [(.iload_n 1, [], 0), (.i2l, [], 0)]
def b_173_4 : List ab_I := [(.lmul, [], 0), (.lstore 7, [], 0), (.iinc 9 1, [], 0), (.goto (-37), [2], 0)]
def b_173_5 : List ab_I := [(.lload 7, [], 0), (.lconst 0, [], 0), (.lcmp, [], 0), (.ifCond .le 32, [8], 0), (.aload_n 0, [], 0), (.iload 6, [], 0), (.putfield 170, [5, 15, 0], 0), (.aload_n 0, [], 0), (.invokevirtual 201, [132, 1, 5], 0), (.lload 4, [], 0), (.aload_n 0, [], 0), (.invokevirtual 216, [140, 1, 5], 0), (.iload_n 2, [], 0), (.if_icmp .ne 8, [6], 0), (.lload 7, [], 0), (.goto 4, [7], 0)]
def b_173_6 : List ab_I := [(.lconst 0, [], 0)]
def b_173_7 : List ab_I := [(.ladd, [], 0), (.lstore 4, [], 0)]
def b_173_8 : List ab_I := [(.iinc 6 1, [], 0), (.goto (-96), [1], 0)]
def b_173_9 : List ab_I := [(.lload 4, [], 0), (.lconst 1, [], 0), (.iconst 4, [], 0), (.aload_n 0, [], 0), (.getfield 152, [5, 6], 0), (.imul, [], 0), (.lshl, [], 0), (.iload_n 3, [], 0), (.invokestatic 281, [104, 3, 0], 0), (.lreturn, [], 0)]
def bk_173 : List (List ab_I) := [b_173_0, b_173_1, b_173_2, b_173_3, b_173_4, b_173_5, b_173_6, b_173_7, b_173_8, b_173_9]
-- 174: RelayRaceModel.chance(III)J
def mr_174 : ab_M := (yX5_chance, prog_7_method_76_code, 4, some .long, 3, false)
def pc_174 : List Nat := [0, 35, 40]
def b_174_0 : List ab_I := [(.iload_n 1, [], 0), (.iconst 0, [], 0), (.bipush 16, [], 0), (.invokestatic 104, [101, 3, 0], 0), (.ifCond .eq 28, [1], 0), (.aload_n 0, [], 0), (.iload_n 2, [], 0), (.invokevirtual 132, [118, 2, 5], 0), (.ifCond .eq 20, [1], 0), (.iload_n 3, [], 0), (.invokestatic 139, [107, 1, 0], 0), (.ifCond .eq 13, [1], 0), (.aload_n 0, [], 0), (.iload_n 1, [], 0), (.iload_n 2, [], 0), (.iload_n 3, [], 0), (.invokevirtual 285, [173, 4, 5], 0), (.goto 8, [2], 0)]
def b_174_1 : List ab_I := [(.bipush (-2), [], 0), (.invokestatic 289, [103, 1, 0], 0)]
def b_174_2 : List ab_I := [(.lreturn, [], 0)]
def bk_174 : List (List ab_I) := [b_174_0, b_174_1, b_174_2]
-- 175: RelayRaceModel.yearsOf(III)I
def mr_175 : ab_M := (yX5_yearsOf, prog_7_method_77_code, 6, some .int, 3, false)
def pc_175 : List Nat := [0, 15, 106]
def b_175_0 : List ab_I := [(.aload_n 0, [], 0), (.invokevirtual 198, [125, 1, 5], 0), (.iload_n 1, [], 0), (.istore 4, [], 0), (.aload_n 0, [], 0), (.iload_n 2, [], 0), (.putfield 167, [5, 11, 0], 0), (.iconst 0, [], 0), (.istore 5, [], 0)]
def b_175_1 : List ab_I := [(.iload 5, [], 0), (.iload_n 2, [], 0), (.if_icmp .ge 88, [2], 0), (.ldc_w 293, [], 1103515245), (.iload 4, [], 0), (.imul, [], 0), (.sipush 12345, [], 0), (.iadd, [], 0), (.istore 4, [], 0), (.aload_n 0, [], 0), (.getfield 28, [5, 12], 0), (.iload 5, [], 0), (.iload 4, [], 0), (.bipush 16, [], 0), (.iushr, [], 0), (.iconst 3, [], 0), (.irem, [], 0), (.iastore, [], 0), (.ldc_w 293, [], 1103515245), (.iload 4, [], 0), (.imul, [], 0), (.sipush 12345, [], 0), (.iadd, [], 0), (.istore 4, [], 0), (.aload_n 0, [], 0), (.getfield 31, [5, 13], 0), (.iload 5, [], 0), (.iload 4, [], 0), (.bipush 16, [], 0), (.iushr, [], 0), (.bipush 48, [], 0), (.irem, [], 0), (.iastore, [], 0), (.ldc_w 293, [], 1103515245), (.iload 4, [], 0), (.imul, [], 0), (.sipush 12345, [], 0), (.iadd, [], 0), (.istore 4, [], 0), (.aload_n 0, [], 0), (.getfield 34, [5, 14], 0), (.iload 5, [], 0), (.iload 4, [], 0), (.bipush 16, [], 0), (.iushr, [], 0), (.iconst 4, [], 0), (.irem, [], 0), (.iastore, [], 0), (.iinc 5 1, [], 0), (.goto (-88), [1], 0)]
def b_175_2 : List ab_I := [(.aload_n 0, [], 0), (.invokevirtual 201, [132, 1, 5], 0), (.aload_n 0, [], 0), (.iload_n 3, [], 0), (.invokevirtual 219, [141, 2, 5], 0), (.ireturn, [0], 0)]
def bk_175 : List (List ab_I) := [b_175_0, b_175_1, b_175_2]
-- 176: RelayRaceModel.years(III)I
def mr_176 : ab_M := (yX5_years, prog_7_method_78_code, 4, some .int, 3, false)
def pc_176 : List Nat := [0, 27, 29]
def b_176_0 : List ab_I := [(.iload_n 2, [], 0), (.iconst 0, [], 0), (.bipush 8, [], 0), (.invokestatic 104, [101, 3, 0], 0), (.ifCond .eq 20, [1], 0), (.iload_n 3, [], 0), (.invokestatic 139, [107, 1, 0], 0), (.ifCond .eq 13, [1], 0), (.aload_n 0, [], 0), (.iload_n 1, [], 0), (.iload_n 2, [], 0), (.iload_n 3, [], 0), (.invokevirtual 294, [175, 4, 5], 0), (.goto 5, [2], 0)]
def b_176_1 : List ab_I := [(.bipush (-2), [], 0)]
def b_176_2 : List ab_I := [(.ireturn, [0], 0)]
def bk_176 : List (List ab_I) := [b_176_0, b_176_1, b_176_2]
-- 177: RelayRaceModel.meets(I)I
def mr_177 : ab_M := (yX5_meets, prog_7_method_79_code, 2, some .int, 1, false)
def pc_177 : List Nat := [0]
def b_177_0 : List ab_I := [(.aload_n 0, [], 0), (.iload_n 1, [], 0), (.putfield 297, [5, 37, 0], 0), (.bipush (-10), [], 0), (.iload_n 1, [], 0), (.isub, [], 0), (.ireturn, [0], 0)]
def bk_177 : List (List ab_I) := [b_177_0]
-- 178: RelayRaceModel.isSheet(I)Z
def mr_178 : ab_M := (yX5_isSheet, prog_7_method_80_code, 1, some .boolean, 1, true)
def pc_178 : List Nat := [0]
def b_178_0 : List ab_I := [(.iload_n 0, [], 0), (.iconst 0, [], 0), (.iconst 3, [], 0), (.invokestatic 104, [101, 3, 0], 0), (.ireturn, [1], 0)]
def bk_178 : List (List ab_I) := [b_178_0]
-- 179: RelayRaceModel.sheet(III)I
def mr_179 : ab_M := (yX5_sheet, prog_7_method_81_code, 5, some .int, 3, false)
def pc_179 : List Nat := [0, 22, 25, 35, 59, 85]
def b_179_0 : List ab_I := [(.iload_n 1, [], 0), (.invokestatic 155, [178, 1, 0], 0), (.ifCond .eq 18, [1], 0), (.iload_n 2, [], 0), (.iconst 0, [], 0), (.iconst 2, [], 0), (.invokestatic 104, [101, 3, 0], 0), (.ifCond .eq 9, [1], 0), (.iload_n 3, [], 0), (.bipush 60, [], 0), (.if_icmp .le 6, [2], 0)]
def b_179_1 : List ab_I := [(.bipush (-2), [], 0), (.ireturn, [0], 0)]
def b_179_2 : List ab_I := [(.iload_n 3, [], 0), (.ifCond .ge 9, [3], 0), (.aload_n 0, [], 0), (.iconst 5, [], 0), (.invokevirtual 158, [177, 2, 5], 0), (.ireturn, [0], 0)]
def b_179_3 : List ab_I := [(.aload_n 0, [], 0), (.getfield 82, [5, 32], 0), (.iload_n 1, [], 0), (.iconst 1, [], 0), (.bastore, [], 0), (.aload_n 0, [], 0), (.getfield 86, [5, 33], 0), (.iload_n 1, [], 0), (.iload_n 2, [], 0), (.iastore, [], 0), (.aload_n 0, [], 0), (.getfield 89, [5, 34], 0), (.iload_n 1, [], 0), (.iload_n 3, [], 0), (.iastore, [], 0), (.iconst 0, [], 0), (.istore 4, [], 0)]
def b_179_4 : List ab_I := [(.iload 4, [], 0), (.bipush 60, [], 0), (.if_icmp .ge 22, [5], 0), (.aload_n 0, [], 0), (.getfield 92, [5, 35], 0), (.bipush 60, [], 0), (.iload_n 1, [], 0), (.imul, [], 0), (.iload 4, [], 0), (.iadd, [], 0), (.iconst 0, [], 0), (.iastore, [], 0), (.iinc 4 1, [], 0), (.goto (-23), [4], 0)]
def b_179_5 : List ab_I := [(.iload_n 3, [], 0), (.ireturn, [0], 0)]
def bk_179 : List (List ab_I) := [b_179_0, b_179_1, b_179_2, b_179_3, b_179_4, b_179_5]
-- 180: RelayRaceModel.lose(I)I
def mr_180 : ab_M := (yX5_lose, prog_7_method_82_code, 2, some .int, 1, false)
def pc_180 : List Nat := [0, 10, 25]
def b_180_0 : List ab_I := [(.iload_n 1, [], 0), (.invokestatic 155, [178, 1, 0], 0), (.ifCond .ne 6, [1], 0), (.bipush (-2), [], 0), (.ireturn, [0], 0)]
def b_180_1 : List ab_I := [(.aload_n 0, [], 0), (.getfield 82, [5, 32], 0), (.iload_n 1, [], 0), (.baload, [], 0), (.ifCond .ne 9, [2], 0), (.aload_n 0, [], 0), (.iconst 1, [], 0), (.invokevirtual 158, [177, 2, 5], 0), (.ireturn, [0], 0)]
def b_180_2 : List ab_I := [(.aload_n 0, [], 0), (.getfield 82, [5, 32], 0), (.iload_n 1, [], 0), (.iconst 0, [], 0), (.bastore, [], 0), (.aload_n 0, [], 0), (.getfield 89, [5, 34], 0), (.iload_n 1, [], 0), (.iaload, [], 0), (.ireturn, [0], 0)]
def bk_180 : List (List ab_I) := [b_180_0, b_180_1, b_180_2]
-- 181: RelayRaceModel.lacks(III)I
def mr_181 : ab_M := (yX5_lacks, prog_7_method_83_code, 4, some .int, 3, false)
def pc_181 : List Nat := [0, 13, 27, 47, 48]
def b_181_0 : List ab_I := [(.aload_n 0, [], 0), (.getfield 82, [5, 32], 0), (.iload_n 1, [], 0), (.baload, [], 0), (.ifCond .ne 7, [1], 0), (.iconst 1, [], 0), (.goto 38, [4], 0)]
def b_181_1 : List ab_I := [(.aload_n 0, [], 0), (.getfield 86, [5, 33], 0), (.iload_n 1, [], 0), (.iaload, [], 0), (.iload_n 2, [], 0), (.if_icmp .eq 7, [2], 0), (.iconst 3, [], 0), (.goto 24, [4], 0)]
def b_181_2 : List ab_I := [(.iload_n 3, [], 0), (.iconst 0, [], 0), (.aload_n 0, [], 0), (.getfield 89, [5, 34], 0), (.iload_n 1, [], 0), (.iaload, [], 0), (.iconst 1, [], 0), (.isub, [], 0), (.invokestatic 104, [101, 3, 0], 0), (.ifCond .eq 7, [3], 0), (.iconst 0, [], 0), (.goto 4, [4], 0)]
def b_181_3 : List ab_I := [(.iconst 2, [], 0)]
def b_181_4 : List ab_I := [(.ireturn, [0], 0)]
def bk_181 : List (List ab_I) := [b_181_0, b_181_1, b_181_2, b_181_3, b_181_4]
-- 182: RelayRaceModel.keep(III)V
def mr_182 : ab_M := (yX5_keep, prog_7_method_84_code, 4, none, 3, false)
def pc_182 : List Nat := [0, 24, 39, 40]
def b_182_0 : List ab_I := [(.aload_n 0, [], 0), (.getfield 92, [5, 35], 0), (.bipush 60, [], 0), (.iload_n 1, [], 0), (.imul, [], 0), (.iload_n 2, [], 0), (.iadd, [], 0), (.aload_n 0, [], 0), (.getfield 86, [5, 33], 0), (.iload_n 1, [], 0), (.iaload, [], 0), (.ifCond .ne 8, [1], 0), (.iload_n 3, [], 0), (.i2b, [], 0), (.goto 19, [3], 0)]
def b_182_1 : List ab_I := [(.aload_n 0, [], 0), (.getfield 86, [5, 33], 0), (.iload_n 1, [], 0), (.iaload, [], 0), (.iconst 1, [], 0), (.if_icmp .ne 8, [2], 0), (.iload_n 3, [], 0), (.i2s, [], 0), (.goto 4, [3], 0)]
def b_182_2 : List ab_I := [(.iload_n 3, [], 0)]
def b_182_3 : List ab_I := [(.iastore, [], 0), (.return_, [], 0)]
def bk_182 : List (List ab_I) := [b_182_0, b_182_1, b_182_2, b_182_3]
-- 183: RelayRaceModel.put(IIII)I
def mr_183 : ab_M := (yX5_put, prog_7_method_85_code, 6, some .int, 4, false)
def pc_183 : List Nat := [0, 16, 19, 40]
def b_183_0 : List ab_I := [(.iload_n 1, [], 0), (.invokestatic 155, [178, 1, 0], 0), (.ifCond .eq 12, [1], 0), (.iload_n 2, [], 0), (.iconst 0, [], 0), (.iconst 2, [], 0), (.invokestatic 104, [101, 3, 0], 0), (.ifCond .ne 6, [2], 0)]
def b_183_1 : List ab_I := [(.bipush (-2), [], 0), (.ireturn, [0], 0)]
def b_183_2 : List ab_I := [(.aload_n 0, [], 0), (.iload_n 1, [], 0), (.iload_n 2, [], 0), (.iload_n 3, [], 0), (.invokevirtual 300, [181, 4, 5], 0), (.istore 5, [], 0), (.iload 5, [], 0), (.ifCond .le 10, [3], 0), (.aload_n 0, [], 0), (.iload 5, [], 0), (.invokevirtual 158, [177, 2, 5], 0), (.ireturn, [0], 0)]
def b_183_3 : List ab_I := [(.aload_n 0, [], 0), (.iload_n 1, [], 0), (.iload_n 3, [], 0), (.iload 4, [], 0), (.invokevirtual 303, [182, 4, 5], 0), (.iconst 1, [], 0), (.ireturn, [0], 0)]
def bk_183 : List (List ab_I) := [b_183_0, b_183_1, b_183_2, b_183_3]
-- 184: RelayRaceModel.get(III)I
def mr_184 : ab_M := (yX5_get, prog_7_method_86_code, 5, some .int, 3, false)
def pc_184 : List Nat := [0, 16, 20, 44]
def b_184_0 : List ab_I := [(.iload_n 1, [], 0), (.invokestatic 155, [178, 1, 0], 0), (.ifCond .eq 12, [1], 0), (.iload_n 2, [], 0), (.iconst 0, [], 0), (.iconst 2, [], 0), (.invokestatic 104, [101, 3, 0], 0), (.ifCond .ne 7, [2], 0)]
def b_184_1 : List ab_I := [(.ldc_w 307, [], (-2147483648)), (.ireturn, [0], 0)]
def b_184_2 : List ab_I := [(.aload_n 0, [], 0), (.iload_n 1, [], 0), (.iload_n 2, [], 0), (.iload_n 3, [], 0), (.invokevirtual 300, [181, 4, 5], 0), (.istore 4, [], 0), (.iload 4, [], 0), (.ifCond .le 13, [3], 0), (.aload_n 0, [], 0), (.iload 4, [], 0), (.putfield 297, [5, 37, 0], 0), (.ldc_w 307, [], (-2147483648)), (.ireturn, [0], 0)]
def b_184_3 : List ab_I := [(.aload_n 0, [], 0), (.getfield 92, [5, 35], 0), (.bipush 60, [], 0), (.iload_n 1, [], 0), (.imul, [], 0), (.iload_n 3, [], 0), (.iadd, [], 0), (.iaload, [], 0), (.ireturn, [0], 0)]
def bk_184 : List (List ab_I) := [b_184_0, b_184_1, b_184_2, b_184_3]
-- 185: RelayRaceModel.copy(IIIII)I
def mr_185 : ab_M := (yX5_copy, prog_7_method_87_code, 7, some .int, 5, false)
def pc_185 : List Nat := [0, 14, 17, 35, 41, 62, 111, 117, 120, 154, 157, 192]
def b_185_0 : List ab_I := [(.iload_n 1, [], 0), (.invokestatic 155, [178, 1, 0], 0), (.ifCond .eq 10, [1], 0), (.iload_n 3, [], 0), (.invokestatic 155, [178, 1, 0], 0), (.ifCond .ne 6, [2], 0)]
def b_185_1 : List ab_I := [(.bipush (-2), [], 0), (.ireturn, [0], 0)]
def b_185_2 : List ab_I := [(.aload_n 0, [], 0), (.getfield 82, [5, 32], 0), (.iload_n 1, [], 0), (.baload, [], 0), (.ifCond .eq 12, [3], 0), (.aload_n 0, [], 0), (.getfield 82, [5, 32], 0), (.iload_n 3, [], 0), (.baload, [], 0), (.ifCond .ne 9, [4], 0)]
def b_185_3 : List ab_I := [(.aload_n 0, [], 0), (.iconst 1, [], 0), (.invokevirtual 158, [177, 2, 5], 0), (.ireturn, [0], 0)]
def b_185_4 : List ab_I := [(.aload_n 0, [], 0), (.getfield 86, [5, 33], 0), (.iload_n 1, [], 0), (.iaload, [], 0), (.aload_n 0, [], 0), (.getfield 86, [5, 33], 0), (.iload_n 3, [], 0), (.iaload, [], 0), (.if_icmp .eq 9, [5], 0), (.aload_n 0, [], 0), (.iconst 4, [], 0), (.invokevirtual 158, [177, 2, 5], 0), (.ireturn, [0], 0)]
def b_185_5 : List ab_I := [(.iload_n 2, [], 0), (.ifCond .lt 48, [6], 0), (.iload 4, [], 0), (.ifCond .lt 43, [6], 0), (.iload 5, [], 0), (.ifCond .lt 38, [6], 0), (.iload_n 2, [], 0), (.i2l, [], 0), (.iload 5, [], 0), (.i2l, [], 0), (.ladd, [], 0), (.aload_n 0, [], 0), (.getfield 89, [5, 34], 0), (.iload_n 1, [], 0), (.iaload, [], 0), (.i2l, [], 0), (.lcmp, [], 0), (.ifCond .gt 21, [6], 0), (.iload 4, [], 0), (.i2l, [], 0), (.iload 5, [], 0), (.i2l, [], 0), (.ladd, [], 0), (.aload_n 0, [], 0), (.getfield 89, [5, 34], 0), (.iload_n 3, [], 0), (.iaload, [], 0), (.i2l, [], 0), (.lcmp, [], 0), (.ifCond .le 9, [7], 0)]
def b_185_6 : List ab_I := [(.aload_n 0, [], 0), (.iconst 2, [], 0), (.invokevirtual 158, [177, 2, 5], 0), (.ireturn, [0], 0)]
def b_185_7 : List ab_I := [(.iconst 0, [], 0), (.istore 6, [], 0)]
def b_185_8 : List ab_I := [(.iload 6, [], 0), (.iload 5, [], 0), (.if_icmp .ge 30, [9], 0), (.aload_n 0, [], 0), (.getfield 95, [5, 36], 0), (.iload 6, [], 0), (.aload_n 0, [], 0), (.getfield 92, [5, 35], 0), (.bipush 60, [], 0), (.iload_n 1, [], 0), (.imul, [], 0), (.iload_n 2, [], 0), (.iadd, [], 0), (.iload 6, [], 0), (.iadd, [], 0), (.iaload, [], 0), (.iastore, [], 0), (.iinc 6 1, [], 0), (.goto (-31), [8], 0)]
def b_185_9 : List ab_I := [(.iconst 0, [], 0), (.istore 6, [], 0)]
def b_185_10 : List ab_I := [(.iload 6, [], 0), (.iload 5, [], 0), (.if_icmp .ge 31, [11], 0), (.aload_n 0, [], 0), (.getfield 92, [5, 35], 0), (.bipush 60, [], 0), (.iload_n 3, [], 0), (.imul, [], 0), (.iload 4, [], 0), (.iadd, [], 0), (.iload 6, [], 0), (.iadd, [], 0), (.aload_n 0, [], 0), (.getfield 95, [5, 36], 0), (.iload 6, [], 0), (.iaload, [], 0), (.iastore, [], 0), (.iinc 6 1, [], 0), (.goto (-32), [10], 0)]
def b_185_11 : List ab_I := [(.iconst 1, [], 0), (.ireturn, [0], 0)]
def bk_185 : List (List ab_I) := [b_185_0, b_185_1, b_185_2, b_185_3, b_185_4, b_185_5, b_185_6, b_185_7, b_185_8, b_185_9, b_185_10, b_185_11]
-- 186: RelayRaceModel.write(II)I
def mr_186 : ab_M := (yX5_write, prog_7_method_88_code, 4, some .int, 2, false)
def pc_186 : List Nat := [0, 15, 18, 33, 39, 77]
def b_186_0 : List ab_I := [(.aload_n 0, [], 0), (.iload_n 1, [], 0), (.invokevirtual 132, [118, 2, 5], 0), (.ifCond .eq 10, [1], 0), (.iload_n 2, [], 0), (.invokestatic 155, [178, 1, 0], 0), (.ifCond .ne 6, [2], 0)]
def b_186_1 : List ab_I := [(.bipush (-2), [], 0), (.ireturn, [0], 0)]
def b_186_2 : List ab_I := [(.aload_n 0, [], 0), (.getfield 82, [5, 32], 0), (.iload_n 2, [], 0), (.baload, [], 0), (.ifCond .ne 9, [3], 0), (.aload_n 0, [], 0), (.iconst 1, [], 0), (.invokevirtual 158, [177, 2, 5], 0), (.ireturn, [0], 0)]
def b_186_3 : List ab_I := [(.aload_n 0, [], 0), (.invokevirtual 204, [133, 1, 5], 0), (.iconst 0, [], 0), (.istore_n 3, [], 0)]
def b_186_4 : List ab_I := [(.iload_n 3, [], 0), (.aload_n 0, [], 0), (.getfield 89, [5, 34], 0), (.iload_n 2, [], 0), (.iaload, [], 0), (.if_icmp .ge 31, [5], 0), (.iload_n 3, [], 0), (.bipush 48, [], 0), (.if_icmp .ge 25, [5], 0), (.aload_n 0, [], 0), (.iload_n 2, [], 0), (.iload_n 3, [], 0), (.aload_n 0, [], 0), (.getfield 58, [5, 23], 0), (.iconst 4, [], 0), (.iload_n 3, [], 0), (.imul, [], 0), (.iload_n 1, [], 0), (.iadd, [], 0), (.iaload, [], 0), (.invokevirtual 303, [182, 4, 5], 0), (.iinc 3 1, [], 0), (.goto (-35), [4], 0)]
def b_186_5 : List ab_I := [(.iload_n 3, [], 0), (.ireturn, [0], 0)]
def bk_186 : List (List ab_I) := [b_186_0, b_186_1, b_186_2, b_186_3, b_186_4, b_186_5]
-- 187: RelayRaceModel.homesOf()I
def mr_187 : ab_M := (yX5_homesOf, prog_7_method_89_code, 3, some .int, 0, false)
def pc_187 : List Nat := [0, 8, 31, 32, 40]
def b_187_0 : List ab_I := [(.aload_n 0, [], 0), (.invokevirtual 204, [133, 1, 5], 0), (.iconst 0, [], 0), (.istore_n 1, [], 0), (.iconst 0, [], 0), (.istore_n 2, [], 0)]
def b_187_1 : List ab_I := [(.iload_n 2, [], 0), (.aload_n 0, [], 0), (.getfield 119, [5, 2], 0), (.if_icmp .ge 27, [4], 0), (.iload_n 1, [], 0), (.aload_n 0, [], 0), (.getfield 49, [5, 20], 0), (.iload_n 2, [], 0), (.iaload, [], 0), (.iconst (-1), [], 0), (.if_icmp .eq 7, [2], 0), (.iconst 1, [], 0), (.goto 4, [3], 0)]
def b_187_2 : List ab_I := [(.iconst 0, [], 0)]
def b_187_3 : List ab_I := [(.iadd, [], 0), (.istore_n 1, [], 0), (.iinc 2 1, [], 0), (.goto (-29), [1], 0)]
def b_187_4 : List ab_I := [(.iload_n 1, [], 0), (.ireturn, [0], 0)]
def bk_187 : List (List ab_I) := [b_187_0, b_187_1, b_187_2, b_187_3, b_187_4]
-- 188: RelayRaceModel.allMetres()I
def mr_188 : ab_M := (yX5_allMetres, prog_7_method_90_code, 1, some .int, 0, false)
def pc_188 : List Nat := [0]
def b_188_0 : List ab_I := [(.aload_n 0, [], 0), (.invokevirtual 204, [133, 1, 5], 0), (.aload_n 0, [], 0), (.getfield 40, [5, 17], 0), (.iconst 0, [], 0), (.iaload, [], 0), (.aload_n 0, [], 0), (.getfield 40, [5, 17], 0), (.iconst 1, [], 0), (.iaload, [], 0), (.iadd, [], 0), (.aload_n 0, [], 0), (.getfield 40, [5, 17], 0), (.iconst 2, [], 0), (.iaload, [], 0), (.iadd, [], 0), (.aload_n 0, [], 0), (.getfield 40, [5, 17], 0), (.iconst 3, [], 0), (.iaload, [], 0), (.iadd, [], 0), (.ireturn, [0], 0)]
def bk_188 : List (List ab_I) := [b_188_0]
-- 189: RelayRaceModel.teamsOf()I
def mr_189 : ab_M := (yX5_teamsOf, prog_7_method_91_code, 1, some .int, 0, false)
def pc_189 : List Nat := [0]
def b_189_0 : List ab_I := [(.aload_n 0, [], 0), (.invokevirtual 129, [116, 1, 5], 0), (.aload_n 0, [], 0), (.getfield 119, [5, 2], 0), (.ireturn, [0], 0)]
def bk_189 : List (List ab_I) := [b_189_0]
-- 190: RelayRaceModel.count(I)I
def mr_190 : ab_M := (yX5_count, prog_7_method_92_code, 2, some .int, 1, false)
def pc_190 : List Nat := [0, 52, 57, 62, 67, 72, 77, 82, 87, 92, 97]
def b_190_0 : List ab_I := [(.iload_n 1, [], 0), (.tableswitch 96 0 8 #[51, 56, 61, 66, 71, 76, 81, 86, 91], [10, 1, 2, 3, 4, 5, 6, 7, 8, 9], 0)]
def b_190_1 : List ab_I := [(.aload_n 0, [], 0), (.invokevirtual 308, [189, 1, 5], 0), (.ireturn, [0], 0)]
def b_190_2 : List ab_I := [(.aload_n 0, [], 0), (.getfield 108, [5, 0], 0), (.ireturn, [0], 0)]
def b_190_3 : List ab_I := [(.aload_n 0, [], 0), (.getfield 98, [5, 5], 0), (.ireturn, [0], 0)]
def b_190_4 : List ab_I := [(.aload_n 0, [], 0), (.getfield 152, [5, 6], 0), (.ireturn, [0], 0)]
def b_190_5 : List ab_I := [(.aload_n 0, [], 0), (.invokevirtual 311, [187, 1, 5], 0), (.ireturn, [0], 0)]
def b_190_6 : List ab_I := [(.aload_n 0, [], 0), (.invokevirtual 228, [145, 1, 5], 0), (.ireturn, [0], 0)]
def b_190_7 : List ab_I := [(.aload_n 0, [], 0), (.invokevirtual 314, [188, 1, 5], 0), (.ireturn, [0], 0)]
def b_190_8 : List ab_I := [(.aload_n 0, [], 0), (.getfield 262, [5, 27], 0), (.ireturn, [0], 0)]
def b_190_9 : List ab_I := [(.aload_n 0, [], 0), (.getfield 297, [5, 37], 0), (.ireturn, [0], 0)]
def b_190_10 : List ab_I := [(.bipush (-2), [], 0), (.ireturn, [0], 0)]
def bk_190 : List (List ab_I) := [b_190_0, b_190_1, b_190_2, b_190_3, b_190_4, b_190_5, b_190_6, b_190_7, b_190_8, b_190_9, b_190_10]
-- 191: RelayRaceModel.atDigest(JII)J
def mr_191 : ab_M := (yX5_atDigest, prog_7_method_93_code, 8, some .long, 3, false)
def pc_191 : List Nat := [0, 6, 37]
def b_191_0 : List ab_I := [(.lload_n 1, [], 0), (.lstore 5, [], 0), (.iconst 0, [], 0), (.istore 7, [], 0)]
def b_191_1 : List ab_I := [(.iload 7, [], 0), (.iconst 3, [], 0), (.if_icmp .ge 28, [2], 0), (.ldc2_w 317, [], 31), (.lload 5, [], 0), (.lmul, [], 0), (.aload_n 0, [], 0), (.iload_n 3, [], 0), (.iload 4, [], 0), (.iload 7, [], 0), (.invokevirtual 207, [134, 4, 5], 0), (.i2l, [], 0), (.ladd, [], 0), (.lstore 5, [], 0), (.iinc 7 1, [], 0), (.goto (-28), [1], 0)]
def b_191_2 : List ab_I := [(.lload 5, [], 0), (.lreturn, [], 0)]
def bk_191 : List (List ab_I) := [b_191_0, b_191_1, b_191_2]
-- 192: RelayRaceModel.legDigest(JII)J
def mr_192 : ab_M := (yX5_legDigest, prog_7_method_94_code, 8, some .long, 3, false)
def pc_192 : List Nat := [0]
def b_192_0 : List ab_I := [(.iconst 4, [], 0), (.iload_n 3, [], 0), (.imul, [], 0), (.iload 4, [], 0), (.iadd, [], 0), (.istore 5, [], 0), (.ldc2_w 317, [], 31), (.lload_n 1, [], 0), (.lmul, [], 0), (.aload_n 0, [], 0), (.iload_n 3, [], 0), (.iload 4, [], 0), (.iconst 0, [], 0), (.invokevirtual 142, [119, 4, 5], 0), (.i2l, [], 0), (.ladd, [], 0), (.lstore 6, [], 0), (.ldc2_w 317, [], 31), (.lload 6, [], 0), (.lmul, [], 0), (.aload_n 0, [], 0), (.iload_n 3, [], 0), (.iload 4, [], 0), (.iconst 1, [], 0), (.invokevirtual 142, [119, 4, 5], 0), (.i2l, [], 0), (.ladd, [], 0), (.lstore 6, [], 0), (.ldc2_w 317, [], 31), (.lload 6, [], 0), (.lmul, [], 0), (.aload_n 0, [], 0), (.iload_n 3, [], 0), (.iload 4, [], 0), (.invokevirtual 213, [138, 3, 5], 0), (.i2l, [], 0), (.ladd, [], 0), (.lstore 6, [], 0), (.ldc2_w 317, [], 31), (.lload 6, [], 0), (.lmul, [], 0), (.aload_n 0, [], 0), (.iload 5, [], 0), (.invokevirtual 272, [168, 2, 5], 0), (.i2l, [], 0), (.ladd, [], 0), (.lstore 6, [], 0), (.ldc2_w 317, [], 31), (.lload 6, [], 0), (.lmul, [], 0), (.aload_n 0, [], 0), (.iload 5, [], 0), (.invokevirtual 275, [169, 2, 5], 0), (.i2l, [], 0), (.ladd, [], 0), (.lstore 6, [], 0), (.ldc2_w 317, [], 31), (.lload 6, [], 0), (.lmul, [], 0), (.aload_n 0, [], 0), (.iload 5, [], 0), (.invokevirtual 278, [171, 2, 5], 0), (.i2l, [], 0), (.ladd, [], 0), (.lreturn, [], 0)]
def bk_192 : List (List ab_I) := [b_192_0]
-- 193: RelayRaceModel.teamDigest(JI)J
def mr_193 : ab_M := (yX5_teamDigest, prog_7_method_95_code, 7, some .long, 2, false)
def pc_193 : List Nat := [0, 60, 83, 116, 145]
def b_193_0 : List ab_I := [(.lload_n 1, [], 0), (.lstore 4, [], 0), (.aload_n 0, [], 0), (.lload 4, [], 0), (.iconst 0, [], 0), (.iload_n 3, [], 0), (.invokevirtual 319, [191, 4, 5], 0), (.lstore 4, [], 0), (.aload_n 0, [], 0), (.lload 4, [], 0), (.bipush 9, [], 0), (.iload_n 3, [], 0), (.invokevirtual 319, [191, 4, 5], 0), (.lstore 4, [], 0), (.aload_n 0, [], 0), (.lload 4, [], 0), (.bipush 18, [], 0), (.iload_n 3, [], 0), (.invokevirtual 319, [191, 4, 5], 0), (.lstore 4, [], 0), (.aload_n 0, [], 0), (.lload 4, [], 0), (.bipush 30, [], 0), (.iload_n 3, [], 0), (.invokevirtual 319, [191, 4, 5], 0), (.lstore 4, [], 0), (.aload_n 0, [], 0), (.lload 4, [], 0), (.bipush 47, [], 0), (.iload_n 3, [], 0), (.invokevirtual 319, [191, 4, 5], 0), (.lstore 4, [], 0), (.iconst 0, [], 0), (.istore 6, [], 0)]
def b_193_1 : List ab_I := [(.iload 6, [], 0), (.iconst 4, [], 0), (.if_icmp .ge 20, [2], 0), (.aload_n 0, [], 0), (.lload 4, [], 0), (.iload_n 3, [], 0), (.iload 6, [], 0), (.invokevirtual 323, [192, 4, 5], 0), (.lstore 4, [], 0), (.iinc 6 1, [], 0), (.goto (-20), [1], 0)]
def b_193_2 : List ab_I := [(.ldc2_w 317, [], 31), (.lload 4, [], 0), (.lmul, [], 0), (.aload_n 0, [], 0), (.iload_n 3, [], 0), (.invokevirtual 210, [136, 2, 5], 0), (.i2l, [], 0), (.ladd, [], 0), (.lstore 4, [], 0), (.ldc2_w 317, [], 31), (.lload 4, [], 0), (.lmul, [], 0), (.aload_n 0, [], 0), (.iload_n 3, [], 0), (.invokevirtual 234, [149, 2, 5], 0), (.i2l, [], 0), (.ladd, [], 0), (.lstore 4, [], 0), (.iconst 0, [], 0), (.istore 6, [], 0)]
def b_193_3 : List ab_I := [(.iload 6, [], 0), (.iconst 5, [], 0), (.if_icmp .ge 26, [4], 0), (.ldc2_w 317, [], 31), (.lload 4, [], 0), (.lmul, [], 0), (.aload_n 0, [], 0), (.iload_n 3, [], 0), (.iload 6, [], 0), (.invokevirtual 244, [153, 3, 5], 0), (.i2l, [], 0), (.ladd, [], 0), (.lstore 4, [], 0), (.iinc 6 1, [], 0), (.goto (-26), [3], 0)]
def b_193_4 : List ab_I := [(.ldc2_w 317, [], 31), (.lload 4, [], 0), (.lmul, [], 0), (.aload_n 0, [], 0), (.iload_n 3, [], 0), (.iconst 0, [], 0), (.invokevirtual 247, [155, 3, 5], 0), (.i2l, [], 0), (.ladd, [], 0), (.lstore 4, [], 0), (.ldc2_w 317, [], 31), (.lload 4, [], 0), (.lmul, [], 0), (.aload_n 0, [], 0), (.iload_n 3, [], 0), (.iconst 1, [], 0), (.invokevirtual 247, [155, 3, 5], 0), (.i2l, [], 0), (.ladd, [], 0), (.lstore 4, [], 0), (.ldc2_w 317, [], 31), (.lload 4, [], 0), (.lmul, [], 0), (.aload_n 0, [], 0), (.iload_n 3, [], 0), (.invokevirtual 250, [157, 2, 5], 0), (.i2l, [], 0), (.ladd, [], 0), (.lstore 4, [], 0), (.ldc2_w 317, [], 31), (.lload 4, [], 0), (.lmul, [], 0), (.aload_n 0, [], 0), (.iconst 5, [], 0), (.iload_n 3, [], 0), (.iconst 0, [], 0), (.invokevirtual 285, [173, 4, 5], 0), (.ladd, [], 0), (.lstore 4, [], 0), (.ldc2_w 317, [], 31), (.lload 4, [], 0), (.lmul, [], 0), (.aload_n 0, [], 0), (.iconst 5, [], 0), (.iload_n 3, [], 0), (.iconst 1, [], 0), (.invokevirtual 285, [173, 4, 5], 0), (.ladd, [], 0), (.lreturn, [], 0)]
def bk_193 : List (List ab_I) := [b_193_0, b_193_1, b_193_2, b_193_3, b_193_4]
-- 194: RelayRaceModel.digest()J
def mr_194 : ab_M := (yX5_digest, prog_7_method_96_code, 4, some .long, 0, false)
def pc_194 : List Nat := [0, 6, 31, 45, 66]
def b_194_0 : List ab_I := [(.ldc2_w 326, [], 17), (.lstore_n 1, [], 0), (.iconst 0, [], 0), (.istore_n 3, [], 0)]
def b_194_1 : List ab_I := [(.iload_n 3, [], 0), (.bipush 8, [], 0), (.if_icmp .ge 22, [2], 0), (.ldc2_w 317, [], 31), (.lload_n 1, [], 0), (.lmul, [], 0), (.aload_n 0, [], 0), (.iload_n 3, [], 0), (.invokevirtual 328, [190, 2, 5], 0), (.i2l, [], 0), (.ladd, [], 0), (.lstore_n 1, [], 0), (.iinc 3 1, [], 0), (.goto (-22), [1], 0)]
def b_194_2 : List ab_I := [(.ldc2_w 317, [], 31), (.lload_n 1, [], 0), (.lmul, [], 0), (.aload_n 0, [], 0), (.invokevirtual 125, [115, 1, 5], 0), (.i2l, [], 0), (.ladd, [], 0), (.lstore_n 1, [], 0), (.iconst 0, [], 0), (.istore_n 3, [], 0)]
def b_194_3 : List ab_I := [(.iload_n 3, [], 0), (.aload_n 0, [], 0), (.getfield 119, [5, 2], 0), (.if_icmp .ge 16, [4], 0), (.aload_n 0, [], 0), (.lload_n 1, [], 0), (.iload_n 3, [], 0), (.invokevirtual 331, [193, 3, 5], 0), (.lstore_n 1, [], 0), (.iinc 3 1, [], 0), (.goto (-18), [3], 0)]
def b_194_4 : List ab_I := [(.ldc2_w 317, [], 31), (.lload_n 1, [], 0), (.lmul, [], 0), (.aload_n 0, [], 0), (.iconst 0, [], 0), (.invokevirtual 222, [142, 2, 5], 0), (.i2l, [], 0), (.ladd, [], 0), (.lstore_n 1, [], 0), (.ldc2_w 317, [], 31), (.lload_n 1, [], 0), (.lmul, [], 0), (.aload_n 0, [], 0), (.iconst 1, [], 0), (.invokevirtual 222, [142, 2, 5], 0), (.i2l, [], 0), (.ladd, [], 0), (.lstore_n 1, [], 0), (.ldc2_w 317, [], 31), (.lload_n 1, [], 0), (.lmul, [], 0), (.aload_n 0, [], 0), (.iconst 0, [], 0), (.invokevirtual 231, [147, 2, 5], 0), (.i2l, [], 0), (.ladd, [], 0), (.lstore_n 1, [], 0), (.ldc2_w 317, [], 31), (.lload_n 1, [], 0), (.lmul, [], 0), (.aload_n 0, [], 0), (.iconst 1, [], 0), (.invokevirtual 231, [147, 2, 5], 0), (.i2l, [], 0), (.ladd, [], 0), (.lstore_n 1, [], 0), (.aload_n 0, [], 0), (.invokevirtual 256, [160, 1, 5], 0), (.istore_n 3, [], 0), (.ldc2_w 317, [], 31), (.lload_n 1, [], 0), (.lmul, [], 0), (.iload_n 3, [], 0), (.i2l, [], 0), (.ladd, [], 0), (.lstore_n 1, [], 0), (.ldc2_w 317, [], 31), (.lload_n 1, [], 0), (.lmul, [], 0), (.aload_n 0, [], 0), (.iload_n 3, [], 0), (.iconst 0, [], 0), (.invokevirtual 259, [161, 3, 5], 0), (.i2l, [], 0), (.ladd, [], 0), (.lstore_n 1, [], 0), (.ldc2_w 317, [], 31), (.lload_n 1, [], 0), (.lmul, [], 0), (.aload_n 0, [], 0), (.invokevirtual 269, [166, 1, 5], 0), (.i2l, [], 0), (.ladd, [], 0), (.lstore_n 1, [], 0), (.ldc2_w 317, [], 31), (.lload_n 1, [], 0), (.lmul, [], 0), (.aload_n 0, [], 0), (.bipush 7, [], 0), (.bipush 6, [], 0), (.iconst 0, [], 0), (.invokevirtual 294, [175, 4, 5], 0), (.i2l, [], 0), (.ladd, [], 0), (.lstore_n 1, [], 0), (.ldc2_w 317, [], 31), (.lload_n 1, [], 0), (.lmul, [], 0), (.aload_n 0, [], 0), (.bipush 7, [], 0), (.bipush 6, [], 0), (.iconst 1, [], 0), (.invokevirtual 294, [175, 4, 5], 0), (.i2l, [], 0), (.ladd, [], 0), (.lreturn, [], 0)]
def bk_194 : List (List ab_I) := [b_194_0, b_194_1, b_194_2, b_194_3, b_194_4]
def ab_MT : List ab_M := [mr_0, mr_1, mr_2, mr_3, mr_4, mr_5, mr_6, mr_7, mr_8, mr_9, mr_10, mr_11, mr_12, mr_13, mr_14, mr_15, mr_16, mr_17, mr_18, mr_19, mr_20, mr_21, mr_22, mr_23, mr_24, mr_25, mr_26, mr_27, mr_28, mr_29, mr_30, mr_31, mr_32, mr_33, mr_34, mr_35, mr_36, mr_37, mr_38, mr_39, mr_40, mr_41, mr_42, mr_43, mr_44, mr_45, mr_46, mr_47, mr_48, mr_49, mr_50, mr_51, mr_52, mr_53, mr_54, mr_55, mr_56, mr_57, mr_58, mr_59, mr_60, mr_61, mr_62, mr_63, mr_64, mr_65, mr_66, mr_67, mr_68, mr_69, mr_70, mr_71, mr_72, mr_73, mr_74, mr_75, mr_76, mr_77, mr_78, mr_79, mr_80, mr_81, mr_82, mr_83, mr_84, mr_85, mr_86, mr_87, mr_88, mr_89, mr_90, mr_91, mr_92, mr_93, mr_94, mr_95, mr_96, mr_97, mr_98, mr_99, mr_100, mr_101, mr_102, mr_103, mr_104, mr_105, mr_106, mr_107, mr_108, mr_109, mr_110, mr_111, mr_112, mr_113, mr_114, mr_115, mr_116, mr_117, mr_118, mr_119, mr_120, mr_121, mr_122, mr_123, mr_124, mr_125, mr_126, mr_127, mr_128, mr_129, mr_130, mr_131, mr_132, mr_133, mr_134, mr_135, mr_136, mr_137, mr_138, mr_139, mr_140, mr_141, mr_142, mr_143, mr_144, mr_145, mr_146, mr_147, mr_148, mr_149, mr_150, mr_151, mr_152, mr_153, mr_154, mr_155, mr_156, mr_157, mr_158, mr_159, mr_160, mr_161, mr_162, mr_163, mr_164, mr_165, mr_166, mr_167, mr_168, mr_169, mr_170, mr_171, mr_172, mr_173, mr_174, mr_175, mr_176, mr_177, mr_178, mr_179, mr_180, mr_181, mr_182, mr_183, mr_184, mr_185, mr_186, mr_187, mr_188, mr_189, mr_190, mr_191, mr_192, mr_193, mr_194]
def ab_BD : List (List Nat × List (List ab_I)) := [(pc_0, bk_0), (pc_1, bk_1), (pc_2, bk_2), (pc_3, bk_3), (pc_4, bk_4), (pc_5, bk_5), (pc_6, bk_6), (pc_7, bk_7), (pc_8, bk_8), (pc_9, bk_9), (pc_10, bk_10), (pc_11, bk_11), (pc_12, bk_12), (pc_13, bk_13), (pc_14, bk_14), (pc_15, bk_15), (pc_16, bk_16), (pc_17, bk_17), (pc_18, bk_18), (pc_19, bk_19), (pc_20, bk_20), (pc_21, bk_21), (pc_22, bk_22), (pc_23, bk_23), (pc_24, bk_24), (pc_25, bk_25), (pc_26, bk_26), (pc_27, bk_27), (pc_28, bk_28), (pc_29, bk_29), (pc_30, bk_30), (pc_31, bk_31), (pc_32, bk_32), (pc_33, bk_33), (pc_34, bk_34), (pc_35, bk_35), (pc_36, bk_36), (pc_37, bk_37), (pc_38, bk_38), (pc_39, bk_39), (pc_40, bk_40), (pc_41, bk_41), (pc_42, bk_42), (pc_43, bk_43), (pc_44, bk_44), (pc_45, bk_45), (pc_46, bk_46), (pc_47, bk_47), (pc_48, bk_48), (pc_49, bk_49), (pc_50, bk_50), (pc_51, bk_51), (pc_52, bk_52), (pc_53, bk_53), (pc_54, bk_54), (pc_55, bk_55), (pc_56, bk_56), (pc_57, bk_57), (pc_58, bk_58), (pc_59, bk_59), (pc_60, bk_60), (pc_61, bk_61), (pc_62, bk_62), (pc_63, bk_63), (pc_64, bk_64), (pc_65, bk_65), (pc_66, bk_66), (pc_67, bk_67), (pc_68, bk_68), (pc_69, bk_69), (pc_70, bk_70), (pc_71, bk_71), (pc_72, bk_72), (pc_73, bk_73), (pc_74, bk_74), (pc_75, bk_75), (pc_76, bk_76), (pc_77, bk_77), (pc_78, bk_78), (pc_79, bk_79), (pc_80, bk_80), (pc_81, bk_81), (pc_82, bk_82), (pc_83, bk_83), (pc_84, bk_84), (pc_85, bk_85), (pc_86, bk_86), (pc_87, bk_87), (pc_88, bk_88), (pc_89, bk_89), (pc_90, bk_90), (pc_91, bk_91), (pc_92, bk_92), (pc_93, bk_93), (pc_94, bk_94), (pc_95, bk_95), (pc_96, bk_96), (pc_97, bk_97), (pc_98, bk_98), (pc_99, bk_99), (pc_100, bk_100), (pc_101, bk_101), (pc_102, bk_102), (pc_103, bk_103), (pc_104, bk_104), (pc_105, bk_105), (pc_106, bk_106), (pc_107, bk_107), (pc_108, bk_108), (pc_109, bk_109), (pc_110, bk_110), (pc_111, bk_111), (pc_112, bk_112), (pc_113, bk_113), (pc_114, bk_114), (pc_115, bk_115), (pc_116, bk_116), (pc_117, bk_117), (pc_118, bk_118), (pc_119, bk_119), (pc_120, bk_120), (pc_121, bk_121), (pc_122, bk_122), (pc_123, bk_123), (pc_124, bk_124), (pc_125, bk_125), (pc_126, bk_126), (pc_127, bk_127), (pc_128, bk_128), (pc_129, bk_129), (pc_130, bk_130), (pc_131, bk_131), (pc_132, bk_132), (pc_133, bk_133), (pc_134, bk_134), (pc_135, bk_135), (pc_136, bk_136), (pc_137, bk_137), (pc_138, bk_138), (pc_139, bk_139), (pc_140, bk_140), (pc_141, bk_141), (pc_142, bk_142), (pc_143, bk_143), (pc_144, bk_144), (pc_145, bk_145), (pc_146, bk_146), (pc_147, bk_147), (pc_148, bk_148), (pc_149, bk_149), (pc_150, bk_150), (pc_151, bk_151), (pc_152, bk_152), (pc_153, bk_153), (pc_154, bk_154), (pc_155, bk_155), (pc_156, bk_156), (pc_157, bk_157), (pc_158, bk_158), (pc_159, bk_159), (pc_160, bk_160), (pc_161, bk_161), (pc_162, bk_162), (pc_163, bk_163), (pc_164, bk_164), (pc_165, bk_165), (pc_166, bk_166), (pc_167, bk_167), (pc_168, bk_168), (pc_169, bk_169), (pc_170, bk_170), (pc_171, bk_171), (pc_172, bk_172), (pc_173, bk_173), (pc_174, bk_174), (pc_175, bk_175), (pc_176, bk_176), (pc_177, bk_177), (pc_178, bk_178), (pc_179, bk_179), (pc_180, bk_180), (pc_181, bk_181), (pc_182, bk_182), (pc_183, bk_183), (pc_184, bk_184), (pc_185, bk_185), (pc_186, bk_186), (pc_187, bk_187), (pc_188, bk_188), (pc_189, bk_189), (pc_190, bk_190), (pc_191, bk_191), (pc_192, bk_192), (pc_193, bk_193), (pc_194, bk_194)]
def ab_mt (k : Nat) : Option ab_M := ab_MT[k]?
def ab_bd (k : Nat) : Option (List Nat × List (List ab_I)) := ab_BD[k]?
abbrev Sm (Ls : Nat) : Nat → Nat → List ab_V → ab_W → (Option ab_V → ab_W → Prop) → Prop := ab_Sm Ls ab_mt ab_bd
theorem sm_0 {Ls d : Nat} {as : List ab_V} {w : ab_W} {post : Option ab_V → ab_W → Prop} : Sm Ls (d + 1) 0 as w post ↔ (ab_il as).length ≤ 1 ∧ Ev Ls (Sm Ls d) post bk_0 0 (ab_init 1 as) [] w := Iff.rfl
theorem sm_1 {Ls d : Nat} {as : List ab_V} {w : ab_W} {post : Option ab_V → ab_W → Prop} : Sm Ls (d + 1) 1 as w post ↔ (ab_il as).length ≤ 2 ∧ Ev Ls (Sm Ls d) post bk_1 0 (ab_init 2 as) [] w := Iff.rfl
theorem sm_2 {Ls d : Nat} {as : List ab_V} {w : ab_W} {post : Option ab_V → ab_W → Prop} : Sm Ls (d + 1) 2 as w post ↔ (ab_il as).length ≤ 3 ∧ Ev Ls (Sm Ls d) post bk_2 0 (ab_init 3 as) [] w := Iff.rfl
theorem sm_3 {Ls d : Nat} {as : List ab_V} {w : ab_W} {post : Option ab_V → ab_W → Prop} : Sm Ls (d + 1) 3 as w post ↔ (ab_il as).length ≤ 5 ∧ Ev Ls (Sm Ls d) post bk_3 0 (ab_init 5 as) [] w := Iff.rfl
theorem sm_4 {Ls d : Nat} {as : List ab_V} {w : ab_W} {post : Option ab_V → ab_W → Prop} : Sm Ls (d + 1) 4 as w post ↔ (ab_il as).length ≤ 4 ∧ Ev Ls (Sm Ls d) post bk_4 0 (ab_init 4 as) [] w := Iff.rfl
theorem sm_5 {Ls d : Nat} {as : List ab_V} {w : ab_W} {post : Option ab_V → ab_W → Prop} : Sm Ls (d + 1) 5 as w post ↔ (ab_il as).length ≤ 5 ∧ Ev Ls (Sm Ls d) post bk_5 0 (ab_init 5 as) [] w := Iff.rfl
theorem sm_6 {Ls d : Nat} {as : List ab_V} {w : ab_W} {post : Option ab_V → ab_W → Prop} : Sm Ls (d + 1) 6 as w post ↔ (ab_il as).length ≤ 5 ∧ Ev Ls (Sm Ls d) post bk_6 0 (ab_init 5 as) [] w := Iff.rfl
theorem sm_7 {Ls d : Nat} {as : List ab_V} {w : ab_W} {post : Option ab_V → ab_W → Prop} : Sm Ls (d + 1) 7 as w post ↔ (ab_il as).length ≤ 2 ∧ Ev Ls (Sm Ls d) post bk_7 0 (ab_init 2 as) [] w := Iff.rfl
theorem sm_8 {Ls d : Nat} {as : List ab_V} {w : ab_W} {post : Option ab_V → ab_W → Prop} : Sm Ls (d + 1) 8 as w post ↔ (ab_il as).length ≤ 5 ∧ Ev Ls (Sm Ls d) post bk_8 0 (ab_init 5 as) [] w := Iff.rfl
theorem sm_9 {Ls d : Nat} {as : List ab_V} {w : ab_W} {post : Option ab_V → ab_W → Prop} : Sm Ls (d + 1) 9 as w post ↔ (ab_il as).length ≤ 5 ∧ Ev Ls (Sm Ls d) post bk_9 0 (ab_init 5 as) [] w := Iff.rfl
theorem sm_10 {Ls d : Nat} {as : List ab_V} {w : ab_W} {post : Option ab_V → ab_W → Prop} : Sm Ls (d + 1) 10 as w post ↔ (ab_il as).length ≤ 4 ∧ Ev Ls (Sm Ls d) post bk_10 0 (ab_init 4 as) [] w := Iff.rfl
theorem sm_11 {Ls d : Nat} {as : List ab_V} {w : ab_W} {post : Option ab_V → ab_W → Prop} : Sm Ls (d + 1) 11 as w post ↔ (ab_il as).length ≤ 2 ∧ Ev Ls (Sm Ls d) post bk_11 0 (ab_init 2 as) [] w := Iff.rfl
theorem sm_12 {Ls d : Nat} {as : List ab_V} {w : ab_W} {post : Option ab_V → ab_W → Prop} : Sm Ls (d + 1) 12 as w post ↔ (ab_il as).length ≤ 7 ∧ Ev Ls (Sm Ls d) post bk_12 0 (ab_init 7 as) [] w := Iff.rfl
theorem sm_13 {Ls d : Nat} {as : List ab_V} {w : ab_W} {post : Option ab_V → ab_W → Prop} : Sm Ls (d + 1) 13 as w post ↔ (ab_il as).length ≤ 5 ∧ Ev Ls (Sm Ls d) post bk_13 0 (ab_init 5 as) [] w := Iff.rfl
theorem sm_14 {Ls d : Nat} {as : List ab_V} {w : ab_W} {post : Option ab_V → ab_W → Prop} : Sm Ls (d + 1) 14 as w post ↔ (ab_il as).length ≤ 3 ∧ Ev Ls (Sm Ls d) post bk_14 0 (ab_init 3 as) [] w := Iff.rfl
theorem sm_15 {Ls d : Nat} {as : List ab_V} {w : ab_W} {post : Option ab_V → ab_W → Prop} : Sm Ls (d + 1) 15 as w post ↔ (ab_il as).length ≤ 2 ∧ Ev Ls (Sm Ls d) post bk_15 0 (ab_init 2 as) [] w := Iff.rfl
theorem sm_16 {Ls d : Nat} {as : List ab_V} {w : ab_W} {post : Option ab_V → ab_W → Prop} : Sm Ls (d + 1) 16 as w post ↔ (ab_il as).length ≤ 6 ∧ Ev Ls (Sm Ls d) post bk_16 0 (ab_init 6 as) [] w := Iff.rfl
theorem sm_17 {Ls d : Nat} {as : List ab_V} {w : ab_W} {post : Option ab_V → ab_W → Prop} : Sm Ls (d + 1) 17 as w post ↔ (ab_il as).length ≤ 4 ∧ Ev Ls (Sm Ls d) post bk_17 0 (ab_init 4 as) [] w := Iff.rfl
theorem sm_18 {Ls d : Nat} {as : List ab_V} {w : ab_W} {post : Option ab_V → ab_W → Prop} : Sm Ls (d + 1) 18 as w post ↔ (ab_il as).length ≤ 5 ∧ Ev Ls (Sm Ls d) post bk_18 0 (ab_init 5 as) [] w := Iff.rfl
theorem sm_19 {Ls d : Nat} {as : List ab_V} {w : ab_W} {post : Option ab_V → ab_W → Prop} : Sm Ls (d + 1) 19 as w post ↔ (ab_il as).length ≤ 6 ∧ Ev Ls (Sm Ls d) post bk_19 0 (ab_init 6 as) [] w := Iff.rfl
theorem sm_20 {Ls d : Nat} {as : List ab_V} {w : ab_W} {post : Option ab_V → ab_W → Prop} : Sm Ls (d + 1) 20 as w post ↔ (ab_il as).length ≤ 6 ∧ Ev Ls (Sm Ls d) post bk_20 0 (ab_init 6 as) [] w := Iff.rfl
theorem sm_21 {Ls d : Nat} {as : List ab_V} {w : ab_W} {post : Option ab_V → ab_W → Prop} : Sm Ls (d + 1) 21 as w post ↔ (ab_il as).length ≤ 2 ∧ Ev Ls (Sm Ls d) post bk_21 0 (ab_init 2 as) [] w := Iff.rfl
theorem sm_22 {Ls d : Nat} {as : List ab_V} {w : ab_W} {post : Option ab_V → ab_W → Prop} : Sm Ls (d + 1) 22 as w post ↔ (ab_il as).length ≤ 4 ∧ Ev Ls (Sm Ls d) post bk_22 0 (ab_init 4 as) [] w := Iff.rfl
theorem sm_23 {Ls d : Nat} {as : List ab_V} {w : ab_W} {post : Option ab_V → ab_W → Prop} : Sm Ls (d + 1) 23 as w post ↔ (ab_il as).length ≤ 3 ∧ Ev Ls (Sm Ls d) post bk_23 0 (ab_init 3 as) [] w := Iff.rfl
theorem sm_24 {Ls d : Nat} {as : List ab_V} {w : ab_W} {post : Option ab_V → ab_W → Prop} : Sm Ls (d + 1) 24 as w post ↔ (ab_il as).length ≤ 3 ∧ Ev Ls (Sm Ls d) post bk_24 0 (ab_init 3 as) [] w := Iff.rfl
theorem sm_25 {Ls d : Nat} {as : List ab_V} {w : ab_W} {post : Option ab_V → ab_W → Prop} : Sm Ls (d + 1) 25 as w post ↔ (ab_il as).length ≤ 3 ∧ Ev Ls (Sm Ls d) post bk_25 0 (ab_init 3 as) [] w := Iff.rfl
theorem sm_26 {Ls d : Nat} {as : List ab_V} {w : ab_W} {post : Option ab_V → ab_W → Prop} : Sm Ls (d + 1) 26 as w post ↔ (ab_il as).length ≤ 2 ∧ Ev Ls (Sm Ls d) post bk_26 0 (ab_init 2 as) [] w := Iff.rfl
theorem sm_27 {Ls d : Nat} {as : List ab_V} {w : ab_W} {post : Option ab_V → ab_W → Prop} : Sm Ls (d + 1) 27 as w post ↔ (ab_il as).length ≤ 2 ∧ Ev Ls (Sm Ls d) post bk_27 0 (ab_init 2 as) [] w := Iff.rfl
theorem sm_28 {Ls d : Nat} {as : List ab_V} {w : ab_W} {post : Option ab_V → ab_W → Prop} : Sm Ls (d + 1) 28 as w post ↔ (ab_il as).length ≤ 3 ∧ Ev Ls (Sm Ls d) post bk_28 0 (ab_init 3 as) [] w := Iff.rfl
theorem sm_29 {Ls d : Nat} {as : List ab_V} {w : ab_W} {post : Option ab_V → ab_W → Prop} : Sm Ls (d + 1) 29 as w post ↔ (ab_il as).length ≤ 2 ∧ Ev Ls (Sm Ls d) post bk_29 0 (ab_init 2 as) [] w := Iff.rfl
theorem sm_30 {Ls d : Nat} {as : List ab_V} {w : ab_W} {post : Option ab_V → ab_W → Prop} : Sm Ls (d + 1) 30 as w post ↔ (ab_il as).length ≤ 4 ∧ Ev Ls (Sm Ls d) post bk_30 0 (ab_init 4 as) [] w := Iff.rfl
theorem sm_31 {Ls d : Nat} {as : List ab_V} {w : ab_W} {post : Option ab_V → ab_W → Prop} : Sm Ls (d + 1) 31 as w post ↔ (ab_il as).length ≤ 2 ∧ Ev Ls (Sm Ls d) post bk_31 0 (ab_init 2 as) [] w := Iff.rfl
theorem sm_32 {Ls d : Nat} {as : List ab_V} {w : ab_W} {post : Option ab_V → ab_W → Prop} : Sm Ls (d + 1) 32 as w post ↔ (ab_il as).length ≤ 2 ∧ Ev Ls (Sm Ls d) post bk_32 0 (ab_init 2 as) [] w := Iff.rfl
theorem sm_33 {Ls d : Nat} {as : List ab_V} {w : ab_W} {post : Option ab_V → ab_W → Prop} : Sm Ls (d + 1) 33 as w post ↔ (ab_il as).length ≤ 1 ∧ Ev Ls (Sm Ls d) post bk_33 0 (ab_init 1 as) [] w := Iff.rfl
theorem sm_34 {Ls d : Nat} {as : List ab_V} {w : ab_W} {post : Option ab_V → ab_W → Prop} : Sm Ls (d + 1) 34 as w post ↔ (ab_il as).length ≤ 1 ∧ Ev Ls (Sm Ls d) post bk_34 0 (ab_init 1 as) [] w := Iff.rfl
theorem sm_35 {Ls d : Nat} {as : List ab_V} {w : ab_W} {post : Option ab_V → ab_W → Prop} : Sm Ls (d + 1) 35 as w post ↔ (ab_il as).length ≤ 5 ∧ Ev Ls (Sm Ls d) post bk_35 0 (ab_init 5 as) [] w := Iff.rfl
theorem sm_36 {Ls d : Nat} {as : List ab_V} {w : ab_W} {post : Option ab_V → ab_W → Prop} : Sm Ls (d + 1) 36 as w post ↔ (ab_il as).length ≤ 3 ∧ Ev Ls (Sm Ls d) post bk_36 0 (ab_init 3 as) [] w := Iff.rfl
theorem sm_37 {Ls d : Nat} {as : List ab_V} {w : ab_W} {post : Option ab_V → ab_W → Prop} : Sm Ls (d + 1) 37 as w post ↔ (ab_il as).length ≤ 4 ∧ Ev Ls (Sm Ls d) post bk_37 0 (ab_init 4 as) [] w := Iff.rfl
theorem sm_38 {Ls d : Nat} {as : List ab_V} {w : ab_W} {post : Option ab_V → ab_W → Prop} : Sm Ls (d + 1) 38 as w post ↔ (ab_il as).length ≤ 1 ∧ Ev Ls (Sm Ls d) post bk_38 0 (ab_init 1 as) [] w := Iff.rfl
theorem sm_39 {Ls d : Nat} {as : List ab_V} {w : ab_W} {post : Option ab_V → ab_W → Prop} : Sm Ls (d + 1) 39 as w post ↔ (ab_il as).length ≤ 6 ∧ Ev Ls (Sm Ls d) post bk_39 0 (ab_init 6 as) [] w := Iff.rfl
theorem sm_40 {Ls d : Nat} {as : List ab_V} {w : ab_W} {post : Option ab_V → ab_W → Prop} : Sm Ls (d + 1) 40 as w post ↔ (ab_il as).length ≤ 1 ∧ Ev Ls (Sm Ls d) post bk_40 0 (ab_init 1 as) [] w := Iff.rfl
theorem sm_41 {Ls d : Nat} {as : List ab_V} {w : ab_W} {post : Option ab_V → ab_W → Prop} : Sm Ls (d + 1) 41 as w post ↔ (ab_il as).length ≤ 1 ∧ Ev Ls (Sm Ls d) post bk_41 0 (ab_init 1 as) [] w := Iff.rfl
theorem sm_42 {Ls d : Nat} {as : List ab_V} {w : ab_W} {post : Option ab_V → ab_W → Prop} : Sm Ls (d + 1) 42 as w post ↔ (ab_il as).length ≤ 4 ∧ Ev Ls (Sm Ls d) post bk_42 0 (ab_init 4 as) [] w := Iff.rfl
theorem sm_43 {Ls d : Nat} {as : List ab_V} {w : ab_W} {post : Option ab_V → ab_W → Prop} : Sm Ls (d + 1) 43 as w post ↔ (ab_il as).length ≤ 2 ∧ Ev Ls (Sm Ls d) post bk_43 0 (ab_init 2 as) [] w := Iff.rfl
theorem sm_44 {Ls d : Nat} {as : List ab_V} {w : ab_W} {post : Option ab_V → ab_W → Prop} : Sm Ls (d + 1) 44 as w post ↔ (ab_il as).length ≤ 5 ∧ Ev Ls (Sm Ls d) post bk_44 0 (ab_init 5 as) [] w := Iff.rfl
theorem sm_45 {Ls d : Nat} {as : List ab_V} {w : ab_W} {post : Option ab_V → ab_W → Prop} : Sm Ls (d + 1) 45 as w post ↔ (ab_il as).length ≤ 2 ∧ Ev Ls (Sm Ls d) post bk_45 0 (ab_init 2 as) [] w := Iff.rfl
theorem sm_46 {Ls d : Nat} {as : List ab_V} {w : ab_W} {post : Option ab_V → ab_W → Prop} : Sm Ls (d + 1) 46 as w post ↔ (ab_il as).length ≤ 3 ∧ Ev Ls (Sm Ls d) post bk_46 0 (ab_init 3 as) [] w := Iff.rfl
theorem sm_47 {Ls d : Nat} {as : List ab_V} {w : ab_W} {post : Option ab_V → ab_W → Prop} : Sm Ls (d + 1) 47 as w post ↔ (ab_il as).length ≤ 3 ∧ Ev Ls (Sm Ls d) post bk_47 0 (ab_init 3 as) [] w := Iff.rfl
theorem sm_48 {Ls d : Nat} {as : List ab_V} {w : ab_W} {post : Option ab_V → ab_W → Prop} : Sm Ls (d + 1) 48 as w post ↔ (ab_il as).length ≤ 6 ∧ Ev Ls (Sm Ls d) post bk_48 0 (ab_init 6 as) [] w := Iff.rfl
theorem sm_49 {Ls d : Nat} {as : List ab_V} {w : ab_W} {post : Option ab_V → ab_W → Prop} : Sm Ls (d + 1) 49 as w post ↔ (ab_il as).length ≤ 4 ∧ Ev Ls (Sm Ls d) post bk_49 0 (ab_init 4 as) [] w := Iff.rfl
theorem sm_50 {Ls d : Nat} {as : List ab_V} {w : ab_W} {post : Option ab_V → ab_W → Prop} : Sm Ls (d + 1) 50 as w post ↔ (ab_il as).length ≤ 2 ∧ Ev Ls (Sm Ls d) post bk_50 0 (ab_init 2 as) [] w := Iff.rfl
theorem sm_51 {Ls d : Nat} {as : List ab_V} {w : ab_W} {post : Option ab_V → ab_W → Prop} : Sm Ls (d + 1) 51 as w post ↔ (ab_il as).length ≤ 3 ∧ Ev Ls (Sm Ls d) post bk_51 0 (ab_init 3 as) [] w := Iff.rfl
theorem sm_52 {Ls d : Nat} {as : List ab_V} {w : ab_W} {post : Option ab_V → ab_W → Prop} : Sm Ls (d + 1) 52 as w post ↔ (ab_il as).length ≤ 5 ∧ Ev Ls (Sm Ls d) post bk_52 0 (ab_init 5 as) [] w := Iff.rfl
theorem sm_53 {Ls d : Nat} {as : List ab_V} {w : ab_W} {post : Option ab_V → ab_W → Prop} : Sm Ls (d + 1) 53 as w post ↔ (ab_il as).length ≤ 6 ∧ Ev Ls (Sm Ls d) post bk_53 0 (ab_init 6 as) [] w := Iff.rfl
theorem sm_54 {Ls d : Nat} {as : List ab_V} {w : ab_W} {post : Option ab_V → ab_W → Prop} : Sm Ls (d + 1) 54 as w post ↔ (ab_il as).length ≤ 7 ∧ Ev Ls (Sm Ls d) post bk_54 0 (ab_init 7 as) [] w := Iff.rfl
theorem sm_55 {Ls d : Nat} {as : List ab_V} {w : ab_W} {post : Option ab_V → ab_W → Prop} : Sm Ls (d + 1) 55 as w post ↔ (ab_il as).length ≤ 2 ∧ Ev Ls (Sm Ls d) post bk_55 0 (ab_init 2 as) [] w := Iff.rfl
theorem sm_56 {Ls d : Nat} {as : List ab_V} {w : ab_W} {post : Option ab_V → ab_W → Prop} : Sm Ls (d + 1) 56 as w post ↔ (ab_il as).length ≤ 3 ∧ Ev Ls (Sm Ls d) post bk_56 0 (ab_init 3 as) [] w := Iff.rfl
theorem sm_57 {Ls d : Nat} {as : List ab_V} {w : ab_W} {post : Option ab_V → ab_W → Prop} : Sm Ls (d + 1) 57 as w post ↔ (ab_il as).length ≤ 5 ∧ Ev Ls (Sm Ls d) post bk_57 0 (ab_init 5 as) [] w := Iff.rfl
theorem sm_58 {Ls d : Nat} {as : List ab_V} {w : ab_W} {post : Option ab_V → ab_W → Prop} : Sm Ls (d + 1) 58 as w post ↔ (ab_il as).length ≤ 4 ∧ Ev Ls (Sm Ls d) post bk_58 0 (ab_init 4 as) [] w := Iff.rfl
theorem sm_59 {Ls d : Nat} {as : List ab_V} {w : ab_W} {post : Option ab_V → ab_W → Prop} : Sm Ls (d + 1) 59 as w post ↔ (ab_il as).length ≤ 1 ∧ Ev Ls (Sm Ls d) post bk_59 0 (ab_init 1 as) [] w := Iff.rfl
theorem sm_60 {Ls d : Nat} {as : List ab_V} {w : ab_W} {post : Option ab_V → ab_W → Prop} : Sm Ls (d + 1) 60 as w post ↔ (ab_il as).length ≤ 6 ∧ Ev Ls (Sm Ls d) post bk_60 0 (ab_init 6 as) [] w := Iff.rfl
theorem sm_61 {Ls d : Nat} {as : List ab_V} {w : ab_W} {post : Option ab_V → ab_W → Prop} : Sm Ls (d + 1) 61 as w post ↔ (ab_il as).length ≤ 5 ∧ Ev Ls (Sm Ls d) post bk_61 0 (ab_init 5 as) [] w := Iff.rfl
theorem sm_62 {Ls d : Nat} {as : List ab_V} {w : ab_W} {post : Option ab_V → ab_W → Prop} : Sm Ls (d + 1) 62 as w post ↔ (ab_il as).length ≤ 4 ∧ Ev Ls (Sm Ls d) post bk_62 0 (ab_init 4 as) [] w := Iff.rfl
theorem sm_63 {Ls d : Nat} {as : List ab_V} {w : ab_W} {post : Option ab_V → ab_W → Prop} : Sm Ls (d + 1) 63 as w post ↔ (ab_il as).length ≤ 4 ∧ Ev Ls (Sm Ls d) post bk_63 0 (ab_init 4 as) [] w := Iff.rfl
theorem sm_64 {Ls d : Nat} {as : List ab_V} {w : ab_W} {post : Option ab_V → ab_W → Prop} : Sm Ls (d + 1) 64 as w post ↔ (ab_il as).length ≤ 2 ∧ Ev Ls (Sm Ls d) post bk_64 0 (ab_init 2 as) [] w := Iff.rfl
theorem sm_65 {Ls d : Nat} {as : List ab_V} {w : ab_W} {post : Option ab_V → ab_W → Prop} : Sm Ls (d + 1) 65 as w post ↔ (ab_il as).length ≤ 3 ∧ Ev Ls (Sm Ls d) post bk_65 0 (ab_init 3 as) [] w := Iff.rfl
theorem sm_66 {Ls d : Nat} {as : List ab_V} {w : ab_W} {post : Option ab_V → ab_W → Prop} : Sm Ls (d + 1) 66 as w post ↔ (ab_il as).length ≤ 4 ∧ Ev Ls (Sm Ls d) post bk_66 0 (ab_init 4 as) [] w := Iff.rfl
theorem sm_67 {Ls d : Nat} {as : List ab_V} {w : ab_W} {post : Option ab_V → ab_W → Prop} : Sm Ls (d + 1) 67 as w post ↔ (ab_il as).length ≤ 5 ∧ Ev Ls (Sm Ls d) post bk_67 0 (ab_init 5 as) [] w := Iff.rfl
theorem sm_68 {Ls d : Nat} {as : List ab_V} {w : ab_W} {post : Option ab_V → ab_W → Prop} : Sm Ls (d + 1) 68 as w post ↔ (ab_il as).length ≤ 5 ∧ Ev Ls (Sm Ls d) post bk_68 0 (ab_init 5 as) [] w := Iff.rfl
theorem sm_69 {Ls d : Nat} {as : List ab_V} {w : ab_W} {post : Option ab_V → ab_W → Prop} : Sm Ls (d + 1) 69 as w post ↔ (ab_il as).length ≤ 5 ∧ Ev Ls (Sm Ls d) post bk_69 0 (ab_init 5 as) [] w := Iff.rfl
theorem sm_70 {Ls d : Nat} {as : List ab_V} {w : ab_W} {post : Option ab_V → ab_W → Prop} : Sm Ls (d + 1) 70 as w post ↔ (ab_il as).length ≤ 3 ∧ Ev Ls (Sm Ls d) post bk_70 0 (ab_init 3 as) [] w := Iff.rfl
theorem sm_71 {Ls d : Nat} {as : List ab_V} {w : ab_W} {post : Option ab_V → ab_W → Prop} : Sm Ls (d + 1) 71 as w post ↔ (ab_il as).length ≤ 4 ∧ Ev Ls (Sm Ls d) post bk_71 0 (ab_init 4 as) [] w := Iff.rfl
theorem sm_72 {Ls d : Nat} {as : List ab_V} {w : ab_W} {post : Option ab_V → ab_W → Prop} : Sm Ls (d + 1) 72 as w post ↔ (ab_il as).length ≤ 7 ∧ Ev Ls (Sm Ls d) post bk_72 0 (ab_init 7 as) [] w := Iff.rfl
theorem sm_73 {Ls d : Nat} {as : List ab_V} {w : ab_W} {post : Option ab_V → ab_W → Prop} : Sm Ls (d + 1) 73 as w post ↔ (ab_il as).length ≤ 4 ∧ Ev Ls (Sm Ls d) post bk_73 0 (ab_init 4 as) [] w := Iff.rfl
theorem sm_74 {Ls d : Nat} {as : List ab_V} {w : ab_W} {post : Option ab_V → ab_W → Prop} : Sm Ls (d + 1) 74 as w post ↔ (ab_il as).length ≤ 6 ∧ Ev Ls (Sm Ls d) post bk_74 0 (ab_init 6 as) [] w := Iff.rfl
theorem sm_75 {Ls d : Nat} {as : List ab_V} {w : ab_W} {post : Option ab_V → ab_W → Prop} : Sm Ls (d + 1) 75 as w post ↔ (ab_il as).length ≤ 4 ∧ Ev Ls (Sm Ls d) post bk_75 0 (ab_init 4 as) [] w := Iff.rfl
theorem sm_76 {Ls d : Nat} {as : List ab_V} {w : ab_W} {post : Option ab_V → ab_W → Prop} : Sm Ls (d + 1) 76 as w post ↔ (ab_il as).length ≤ 7 ∧ Ev Ls (Sm Ls d) post bk_76 0 (ab_init 7 as) [] w := Iff.rfl
theorem sm_77 {Ls d : Nat} {as : List ab_V} {w : ab_W} {post : Option ab_V → ab_W → Prop} : Sm Ls (d + 1) 77 as w post ↔ (ab_il as).length ≤ 1 ∧ Ev Ls (Sm Ls d) post bk_77 0 (ab_init 1 as) [] w := Iff.rfl
theorem sm_78 {Ls d : Nat} {as : List ab_V} {w : ab_W} {post : Option ab_V → ab_W → Prop} : Sm Ls (d + 1) 78 as w post ↔ (ab_il as).length ≤ 4 ∧ Ev Ls (Sm Ls d) post bk_78 0 (ab_init 4 as) [] w := Iff.rfl
theorem sm_79 {Ls d : Nat} {as : List ab_V} {w : ab_W} {post : Option ab_V → ab_W → Prop} : Sm Ls (d + 1) 79 as w post ↔ (ab_il as).length ≤ 2 ∧ Ev Ls (Sm Ls d) post bk_79 0 (ab_init 2 as) [] w := Iff.rfl
theorem sm_80 {Ls d : Nat} {as : List ab_V} {w : ab_W} {post : Option ab_V → ab_W → Prop} : Sm Ls (d + 1) 80 as w post ↔ (ab_il as).length ≤ 6 ∧ Ev Ls (Sm Ls d) post bk_80 0 (ab_init 6 as) [] w := Iff.rfl
theorem sm_81 {Ls d : Nat} {as : List ab_V} {w : ab_W} {post : Option ab_V → ab_W → Prop} : Sm Ls (d + 1) 81 as w post ↔ (ab_il as).length ≤ 5 ∧ Ev Ls (Sm Ls d) post bk_81 0 (ab_init 5 as) [] w := Iff.rfl
theorem sm_82 {Ls d : Nat} {as : List ab_V} {w : ab_W} {post : Option ab_V → ab_W → Prop} : Sm Ls (d + 1) 82 as w post ↔ (ab_il as).length ≤ 3 ∧ Ev Ls (Sm Ls d) post bk_82 0 (ab_init 3 as) [] w := Iff.rfl
theorem sm_83 {Ls d : Nat} {as : List ab_V} {w : ab_W} {post : Option ab_V → ab_W → Prop} : Sm Ls (d + 1) 83 as w post ↔ (ab_il as).length ≤ 8 ∧ Ev Ls (Sm Ls d) post bk_83 0 (ab_init 8 as) [] w := Iff.rfl
theorem sm_84 {Ls d : Nat} {as : List ab_V} {w : ab_W} {post : Option ab_V → ab_W → Prop} : Sm Ls (d + 1) 84 as w post ↔ (ab_il as).length ≤ 6 ∧ Ev Ls (Sm Ls d) post bk_84 0 (ab_init 6 as) [] w := Iff.rfl
theorem sm_85 {Ls d : Nat} {as : List ab_V} {w : ab_W} {post : Option ab_V → ab_W → Prop} : Sm Ls (d + 1) 85 as w post ↔ (ab_il as).length ≤ 2 ∧ Ev Ls (Sm Ls d) post bk_85 0 (ab_init 2 as) [] w := Iff.rfl
theorem sm_86 {Ls d : Nat} {as : List ab_V} {w : ab_W} {post : Option ab_V → ab_W → Prop} : Sm Ls (d + 1) 86 as w post ↔ (ab_il as).length ≤ 3 ∧ Ev Ls (Sm Ls d) post bk_86 0 (ab_init 3 as) [] w := Iff.rfl
theorem sm_87 {Ls d : Nat} {as : List ab_V} {w : ab_W} {post : Option ab_V → ab_W → Prop} : Sm Ls (d + 1) 87 as w post ↔ (ab_il as).length ≤ 3 ∧ Ev Ls (Sm Ls d) post bk_87 0 (ab_init 3 as) [] w := Iff.rfl
theorem sm_88 {Ls d : Nat} {as : List ab_V} {w : ab_W} {post : Option ab_V → ab_W → Prop} : Sm Ls (d + 1) 88 as w post ↔ (ab_il as).length ≤ 4 ∧ Ev Ls (Sm Ls d) post bk_88 0 (ab_init 4 as) [] w := Iff.rfl
theorem sm_89 {Ls d : Nat} {as : List ab_V} {w : ab_W} {post : Option ab_V → ab_W → Prop} : Sm Ls (d + 1) 89 as w post ↔ (ab_il as).length ≤ 11 ∧ Ev Ls (Sm Ls d) post bk_89 0 (ab_init 11 as) [] w := Iff.rfl
theorem sm_90 {Ls d : Nat} {as : List ab_V} {w : ab_W} {post : Option ab_V → ab_W → Prop} : Sm Ls (d + 1) 90 as w post ↔ (ab_il as).length ≤ 7 ∧ Ev Ls (Sm Ls d) post bk_90 0 (ab_init 7 as) [] w := Iff.rfl
theorem sm_91 {Ls d : Nat} {as : List ab_V} {w : ab_W} {post : Option ab_V → ab_W → Prop} : Sm Ls (d + 1) 91 as w post ↔ (ab_il as).length ≤ 7 ∧ Ev Ls (Sm Ls d) post bk_91 0 (ab_init 7 as) [] w := Iff.rfl
theorem sm_92 {Ls d : Nat} {as : List ab_V} {w : ab_W} {post : Option ab_V → ab_W → Prop} : Sm Ls (d + 1) 92 as w post ↔ (ab_il as).length ≤ 2 ∧ Ev Ls (Sm Ls d) post bk_92 0 (ab_init 2 as) [] w := Iff.rfl
theorem sm_93 {Ls d : Nat} {as : List ab_V} {w : ab_W} {post : Option ab_V → ab_W → Prop} : Sm Ls (d + 1) 93 as w post ↔ (ab_il as).length ≤ 1 ∧ Ev Ls (Sm Ls d) post bk_93 0 (ab_init 1 as) [] w := Iff.rfl
theorem sm_94 {Ls d : Nat} {as : List ab_V} {w : ab_W} {post : Option ab_V → ab_W → Prop} : Sm Ls (d + 1) 94 as w post ↔ (ab_il as).length ≤ 1 ∧ Ev Ls (Sm Ls d) post bk_94 0 (ab_init 1 as) [] w := Iff.rfl
theorem sm_95 {Ls d : Nat} {as : List ab_V} {w : ab_W} {post : Option ab_V → ab_W → Prop} : Sm Ls (d + 1) 95 as w post ↔ (ab_il as).length ≤ 1 ∧ Ev Ls (Sm Ls d) post bk_95 0 (ab_init 1 as) [] w := Iff.rfl
theorem sm_96 {Ls d : Nat} {as : List ab_V} {w : ab_W} {post : Option ab_V → ab_W → Prop} : Sm Ls (d + 1) 96 as w post ↔ (ab_il as).length ≤ 3 ∧ Ev Ls (Sm Ls d) post bk_96 0 (ab_init 3 as) [] w := Iff.rfl
theorem sm_97 {Ls d : Nat} {as : List ab_V} {w : ab_W} {post : Option ab_V → ab_W → Prop} : Sm Ls (d + 1) 97 as w post ↔ (ab_il as).length ≤ 1 ∧ Ev Ls (Sm Ls d) post bk_97 0 (ab_init 1 as) [] w := Iff.rfl
theorem sm_98 {Ls d : Nat} {as : List ab_V} {w : ab_W} {post : Option ab_V → ab_W → Prop} : Sm Ls (d + 1) 98 as w post ↔ (ab_il as).length ≤ 1 ∧ Ev Ls (Sm Ls d) post bk_98 0 (ab_init 1 as) [] w := Iff.rfl
theorem sm_99 {Ls d : Nat} {as : List ab_V} {w : ab_W} {post : Option ab_V → ab_W → Prop} : Sm Ls (d + 1) 99 as w post ↔ (ab_il as).length ≤ 1 ∧ Ev Ls (Sm Ls d) post bk_99 0 (ab_init 1 as) [] w := Iff.rfl
theorem sm_100 {Ls d : Nat} {as : List ab_V} {w : ab_W} {post : Option ab_V → ab_W → Prop} : Sm Ls (d + 1) 100 as w post ↔ (ab_il as).length ≤ 2 ∧ Ev Ls (Sm Ls d) post bk_100 0 (ab_init 2 as) [] w := Iff.rfl
theorem sm_101 {Ls d : Nat} {as : List ab_V} {w : ab_W} {post : Option ab_V → ab_W → Prop} : Sm Ls (d + 1) 101 as w post ↔ (ab_il as).length ≤ 3 ∧ Ev Ls (Sm Ls d) post bk_101 0 (ab_init 3 as) [] w := Iff.rfl
theorem sm_102 {Ls d : Nat} {as : List ab_V} {w : ab_W} {post : Option ab_V → ab_W → Prop} : Sm Ls (d + 1) 102 as w post ↔ (ab_il as).length ≤ 2 ∧ Ev Ls (Sm Ls d) post bk_102 0 (ab_init 2 as) [] w := Iff.rfl
theorem sm_103 {Ls d : Nat} {as : List ab_V} {w : ab_W} {post : Option ab_V → ab_W → Prop} : Sm Ls (d + 1) 103 as w post ↔ (ab_il as).length ≤ 1 ∧ Ev Ls (Sm Ls d) post bk_103 0 (ab_init 1 as) [] w := Iff.rfl
theorem sm_104 {Ls d : Nat} {as : List ab_V} {w : ab_W} {post : Option ab_V → ab_W → Prop} : Sm Ls (d + 1) 104 as w post ↔ (ab_il as).length ≤ 11 ∧ Ev Ls (Sm Ls d) post bk_104 0 (ab_init 11 as) [] w := Iff.rfl
theorem sm_105 {Ls d : Nat} {as : List ab_V} {w : ab_W} {post : Option ab_V → ab_W → Prop} : Sm Ls (d + 1) 105 as w post ↔ (ab_il as).length ≤ 1 ∧ Ev Ls (Sm Ls d) post bk_105 0 (ab_init 1 as) [] w := Iff.rfl
theorem sm_106 {Ls d : Nat} {as : List ab_V} {w : ab_W} {post : Option ab_V → ab_W → Prop} : Sm Ls (d + 1) 106 as w post ↔ (ab_il as).length ≤ 1 ∧ Ev Ls (Sm Ls d) post bk_106 0 (ab_init 1 as) [] w := Iff.rfl
theorem sm_107 {Ls d : Nat} {as : List ab_V} {w : ab_W} {post : Option ab_V → ab_W → Prop} : Sm Ls (d + 1) 107 as w post ↔ (ab_il as).length ≤ 1 ∧ Ev Ls (Sm Ls d) post bk_107 0 (ab_init 1 as) [] w := Iff.rfl
theorem sm_108 {Ls d : Nat} {as : List ab_V} {w : ab_W} {post : Option ab_V → ab_W → Prop} : Sm Ls (d + 1) 108 as w post ↔ (ab_il as).length ≤ 1 ∧ Ev Ls (Sm Ls d) post bk_108 0 (ab_init 1 as) [] w := Iff.rfl
theorem sm_109 {Ls d : Nat} {as : List ab_V} {w : ab_W} {post : Option ab_V → ab_W → Prop} : Sm Ls (d + 1) 109 as w post ↔ (ab_il as).length ≤ 2 ∧ Ev Ls (Sm Ls d) post bk_109 0 (ab_init 2 as) [] w := Iff.rfl
theorem sm_110 {Ls d : Nat} {as : List ab_V} {w : ab_W} {post : Option ab_V → ab_W → Prop} : Sm Ls (d + 1) 110 as w post ↔ (ab_il as).length ≤ 2 ∧ Ev Ls (Sm Ls d) post bk_110 0 (ab_init 2 as) [] w := Iff.rfl
theorem sm_111 {Ls d : Nat} {as : List ab_V} {w : ab_W} {post : Option ab_V → ab_W → Prop} : Sm Ls (d + 1) 111 as w post ↔ (ab_il as).length ≤ 1 ∧ Ev Ls (Sm Ls d) post bk_111 0 (ab_init 1 as) [] w := Iff.rfl
theorem sm_112 {Ls d : Nat} {as : List ab_V} {w : ab_W} {post : Option ab_V → ab_W → Prop} : Sm Ls (d + 1) 112 as w post ↔ (ab_il as).length ≤ 2 ∧ Ev Ls (Sm Ls d) post bk_112 0 (ab_init 2 as) [] w := Iff.rfl
theorem sm_113 {Ls d : Nat} {as : List ab_V} {w : ab_W} {post : Option ab_V → ab_W → Prop} : Sm Ls (d + 1) 113 as w post ↔ (ab_il as).length ≤ 6 ∧ Ev Ls (Sm Ls d) post bk_113 0 (ab_init 6 as) [] w := Iff.rfl
theorem sm_114 {Ls d : Nat} {as : List ab_V} {w : ab_W} {post : Option ab_V → ab_W → Prop} : Sm Ls (d + 1) 114 as w post ↔ (ab_il as).length ≤ 5 ∧ Ev Ls (Sm Ls d) post bk_114 0 (ab_init 5 as) [] w := Iff.rfl
theorem sm_115 {Ls d : Nat} {as : List ab_V} {w : ab_W} {post : Option ab_V → ab_W → Prop} : Sm Ls (d + 1) 115 as w post ↔ (ab_il as).length ≤ 4 ∧ Ev Ls (Sm Ls d) post bk_115 0 (ab_init 4 as) [] w := Iff.rfl
theorem sm_116 {Ls d : Nat} {as : List ab_V} {w : ab_W} {post : Option ab_V → ab_W → Prop} : Sm Ls (d + 1) 116 as w post ↔ (ab_il as).length ≤ 2 ∧ Ev Ls (Sm Ls d) post bk_116 0 (ab_init 2 as) [] w := Iff.rfl
theorem sm_117 {Ls d : Nat} {as : List ab_V} {w : ab_W} {post : Option ab_V → ab_W → Prop} : Sm Ls (d + 1) 117 as w post ↔ (ab_il as).length ≤ 1 ∧ Ev Ls (Sm Ls d) post bk_117 0 (ab_init 1 as) [] w := Iff.rfl
theorem sm_118 {Ls d : Nat} {as : List ab_V} {w : ab_W} {post : Option ab_V → ab_W → Prop} : Sm Ls (d + 1) 118 as w post ↔ (ab_il as).length ≤ 2 ∧ Ev Ls (Sm Ls d) post bk_118 0 (ab_init 2 as) [] w := Iff.rfl
theorem sm_119 {Ls d : Nat} {as : List ab_V} {w : ab_W} {post : Option ab_V → ab_W → Prop} : Sm Ls (d + 1) 119 as w post ↔ (ab_il as).length ≤ 4 ∧ Ev Ls (Sm Ls d) post bk_119 0 (ab_init 4 as) [] w := Iff.rfl
theorem sm_120 {Ls d : Nat} {as : List ab_V} {w : ab_W} {post : Option ab_V → ab_W → Prop} : Sm Ls (d + 1) 120 as w post ↔ (ab_il as).length ≤ 4 ∧ Ev Ls (Sm Ls d) post bk_120 0 (ab_init 4 as) [] w := Iff.rfl
theorem sm_121 {Ls d : Nat} {as : List ab_V} {w : ab_W} {post : Option ab_V → ab_W → Prop} : Sm Ls (d + 1) 121 as w post ↔ (ab_il as).length ≤ 3 ∧ Ev Ls (Sm Ls d) post bk_121 0 (ab_init 3 as) [] w := Iff.rfl
theorem sm_122 {Ls d : Nat} {as : List ab_V} {w : ab_W} {post : Option ab_V → ab_W → Prop} : Sm Ls (d + 1) 122 as w post ↔ (ab_il as).length ≤ 4 ∧ Ev Ls (Sm Ls d) post bk_122 0 (ab_init 4 as) [] w := Iff.rfl
theorem sm_123 {Ls d : Nat} {as : List ab_V} {w : ab_W} {post : Option ab_V → ab_W → Prop} : Sm Ls (d + 1) 123 as w post ↔ (ab_il as).length ≤ 1 ∧ Ev Ls (Sm Ls d) post bk_123 0 (ab_init 1 as) [] w := Iff.rfl
theorem sm_124 {Ls d : Nat} {as : List ab_V} {w : ab_W} {post : Option ab_V → ab_W → Prop} : Sm Ls (d + 1) 124 as w post ↔ (ab_il as).length ≤ 4 ∧ Ev Ls (Sm Ls d) post bk_124 0 (ab_init 4 as) [] w := Iff.rfl
theorem sm_125 {Ls d : Nat} {as : List ab_V} {w : ab_W} {post : Option ab_V → ab_W → Prop} : Sm Ls (d + 1) 125 as w post ↔ (ab_il as).length ≤ 2 ∧ Ev Ls (Sm Ls d) post bk_125 0 (ab_init 2 as) [] w := Iff.rfl
theorem sm_126 {Ls d : Nat} {as : List ab_V} {w : ab_W} {post : Option ab_V → ab_W → Prop} : Sm Ls (d + 1) 126 as w post ↔ (ab_il as).length ≤ 4 ∧ Ev Ls (Sm Ls d) post bk_126 0 (ab_init 4 as) [] w := Iff.rfl
theorem sm_127 {Ls d : Nat} {as : List ab_V} {w : ab_W} {post : Option ab_V → ab_W → Prop} : Sm Ls (d + 1) 127 as w post ↔ (ab_il as).length ≤ 7 ∧ Ev Ls (Sm Ls d) post bk_127 0 (ab_init 7 as) [] w := Iff.rfl
theorem sm_128 {Ls d : Nat} {as : List ab_V} {w : ab_W} {post : Option ab_V → ab_W → Prop} : Sm Ls (d + 1) 128 as w post ↔ (ab_il as).length ≤ 5 ∧ Ev Ls (Sm Ls d) post bk_128 0 (ab_init 5 as) [] w := Iff.rfl
theorem sm_129 {Ls d : Nat} {as : List ab_V} {w : ab_W} {post : Option ab_V → ab_W → Prop} : Sm Ls (d + 1) 129 as w post ↔ (ab_il as).length ≤ 5 ∧ Ev Ls (Sm Ls d) post bk_129 0 (ab_init 5 as) [] w := Iff.rfl
theorem sm_130 {Ls d : Nat} {as : List ab_V} {w : ab_W} {post : Option ab_V → ab_W → Prop} : Sm Ls (d + 1) 130 as w post ↔ (ab_il as).length ≤ 5 ∧ Ev Ls (Sm Ls d) post bk_130 0 (ab_init 5 as) [] w := Iff.rfl
theorem sm_131 {Ls d : Nat} {as : List ab_V} {w : ab_W} {post : Option ab_V → ab_W → Prop} : Sm Ls (d + 1) 131 as w post ↔ (ab_il as).length ≤ 6 ∧ Ev Ls (Sm Ls d) post bk_131 0 (ab_init 6 as) [] w := Iff.rfl
theorem sm_132 {Ls d : Nat} {as : List ab_V} {w : ab_W} {post : Option ab_V → ab_W → Prop} : Sm Ls (d + 1) 132 as w post ↔ (ab_il as).length ≤ 2 ∧ Ev Ls (Sm Ls d) post bk_132 0 (ab_init 2 as) [] w := Iff.rfl
theorem sm_133 {Ls d : Nat} {as : List ab_V} {w : ab_W} {post : Option ab_V → ab_W → Prop} : Sm Ls (d + 1) 133 as w post ↔ (ab_il as).length ≤ 1 ∧ Ev Ls (Sm Ls d) post bk_133 0 (ab_init 1 as) [] w := Iff.rfl
theorem sm_134 {Ls d : Nat} {as : List ab_V} {w : ab_W} {post : Option ab_V → ab_W → Prop} : Sm Ls (d + 1) 134 as w post ↔ (ab_il as).length ≤ 5 ∧ Ev Ls (Sm Ls d) post bk_134 0 (ab_init 5 as) [] w := Iff.rfl
theorem sm_135 {Ls d : Nat} {as : List ab_V} {w : ab_W} {post : Option ab_V → ab_W → Prop} : Sm Ls (d + 1) 135 as w post ↔ (ab_il as).length ≤ 4 ∧ Ev Ls (Sm Ls d) post bk_135 0 (ab_init 4 as) [] w := Iff.rfl
theorem sm_136 {Ls d : Nat} {as : List ab_V} {w : ab_W} {post : Option ab_V → ab_W → Prop} : Sm Ls (d + 1) 136 as w post ↔ (ab_il as).length ≤ 2 ∧ Ev Ls (Sm Ls d) post bk_136 0 (ab_init 2 as) [] w := Iff.rfl
theorem sm_137 {Ls d : Nat} {as : List ab_V} {w : ab_W} {post : Option ab_V → ab_W → Prop} : Sm Ls (d + 1) 137 as w post ↔ (ab_il as).length ≤ 2 ∧ Ev Ls (Sm Ls d) post bk_137 0 (ab_init 2 as) [] w := Iff.rfl
theorem sm_138 {Ls d : Nat} {as : List ab_V} {w : ab_W} {post : Option ab_V → ab_W → Prop} : Sm Ls (d + 1) 138 as w post ↔ (ab_il as).length ≤ 3 ∧ Ev Ls (Sm Ls d) post bk_138 0 (ab_init 3 as) [] w := Iff.rfl
theorem sm_139 {Ls d : Nat} {as : List ab_V} {w : ab_W} {post : Option ab_V → ab_W → Prop} : Sm Ls (d + 1) 139 as w post ↔ (ab_il as).length ≤ 3 ∧ Ev Ls (Sm Ls d) post bk_139 0 (ab_init 3 as) [] w := Iff.rfl
theorem sm_140 {Ls d : Nat} {as : List ab_V} {w : ab_W} {post : Option ab_V → ab_W → Prop} : Sm Ls (d + 1) 140 as w post ↔ (ab_il as).length ≤ 3 ∧ Ev Ls (Sm Ls d) post bk_140 0 (ab_init 3 as) [] w := Iff.rfl
theorem sm_141 {Ls d : Nat} {as : List ab_V} {w : ab_W} {post : Option ab_V → ab_W → Prop} : Sm Ls (d + 1) 141 as w post ↔ (ab_il as).length ≤ 3 ∧ Ev Ls (Sm Ls d) post bk_141 0 (ab_init 3 as) [] w := Iff.rfl
theorem sm_142 {Ls d : Nat} {as : List ab_V} {w : ab_W} {post : Option ab_V → ab_W → Prop} : Sm Ls (d + 1) 142 as w post ↔ (ab_il as).length ≤ 2 ∧ Ev Ls (Sm Ls d) post bk_142 0 (ab_init 2 as) [] w := Iff.rfl
theorem sm_143 {Ls d : Nat} {as : List ab_V} {w : ab_W} {post : Option ab_V → ab_W → Prop} : Sm Ls (d + 1) 143 as w post ↔ (ab_il as).length ≤ 2 ∧ Ev Ls (Sm Ls d) post bk_143 0 (ab_init 2 as) [] w := Iff.rfl
theorem sm_144 {Ls d : Nat} {as : List ab_V} {w : ab_W} {post : Option ab_V → ab_W → Prop} : Sm Ls (d + 1) 144 as w post ↔ (ab_il as).length ≤ 4 ∧ Ev Ls (Sm Ls d) post bk_144 0 (ab_init 4 as) [] w := Iff.rfl
theorem sm_145 {Ls d : Nat} {as : List ab_V} {w : ab_W} {post : Option ab_V → ab_W → Prop} : Sm Ls (d + 1) 145 as w post ↔ (ab_il as).length ≤ 3 ∧ Ev Ls (Sm Ls d) post bk_145 0 (ab_init 3 as) [] w := Iff.rfl
theorem sm_146 {Ls d : Nat} {as : List ab_V} {w : ab_W} {post : Option ab_V → ab_W → Prop} : Sm Ls (d + 1) 146 as w post ↔ (ab_il as).length ≤ 1 ∧ Ev Ls (Sm Ls d) post bk_146 0 (ab_init 1 as) [] w := Iff.rfl
theorem sm_147 {Ls d : Nat} {as : List ab_V} {w : ab_W} {post : Option ab_V → ab_W → Prop} : Sm Ls (d + 1) 147 as w post ↔ (ab_il as).length ≤ 7 ∧ Ev Ls (Sm Ls d) post bk_147 0 (ab_init 7 as) [] w := Iff.rfl
theorem sm_148 {Ls d : Nat} {as : List ab_V} {w : ab_W} {post : Option ab_V → ab_W → Prop} : Sm Ls (d + 1) 148 as w post ↔ (ab_il as).length ≤ 2 ∧ Ev Ls (Sm Ls d) post bk_148 0 (ab_init 2 as) [] w := Iff.rfl
theorem sm_149 {Ls d : Nat} {as : List ab_V} {w : ab_W} {post : Option ab_V → ab_W → Prop} : Sm Ls (d + 1) 149 as w post ↔ (ab_il as).length ≤ 2 ∧ Ev Ls (Sm Ls d) post bk_149 0 (ab_init 2 as) [] w := Iff.rfl
theorem sm_150 {Ls d : Nat} {as : List ab_V} {w : ab_W} {post : Option ab_V → ab_W → Prop} : Sm Ls (d + 1) 150 as w post ↔ (ab_il as).length ≤ 2 ∧ Ev Ls (Sm Ls d) post bk_150 0 (ab_init 2 as) [] w := Iff.rfl
theorem sm_151 {Ls d : Nat} {as : List ab_V} {w : ab_W} {post : Option ab_V → ab_W → Prop} : Sm Ls (d + 1) 151 as w post ↔ (ab_il as).length ≤ 4 ∧ Ev Ls (Sm Ls d) post bk_151 0 (ab_init 4 as) [] w := Iff.rfl
theorem sm_152 {Ls d : Nat} {as : List ab_V} {w : ab_W} {post : Option ab_V → ab_W → Prop} : Sm Ls (d + 1) 152 as w post ↔ (ab_il as).length ≤ 1 ∧ Ev Ls (Sm Ls d) post bk_152 0 (ab_init 1 as) [] w := Iff.rfl
theorem sm_153 {Ls d : Nat} {as : List ab_V} {w : ab_W} {post : Option ab_V → ab_W → Prop} : Sm Ls (d + 1) 153 as w post ↔ (ab_il as).length ≤ 7 ∧ Ev Ls (Sm Ls d) post bk_153 0 (ab_init 7 as) [] w := Iff.rfl
theorem sm_154 {Ls d : Nat} {as : List ab_V} {w : ab_W} {post : Option ab_V → ab_W → Prop} : Sm Ls (d + 1) 154 as w post ↔ (ab_il as).length ≤ 3 ∧ Ev Ls (Sm Ls d) post bk_154 0 (ab_init 3 as) [] w := Iff.rfl
theorem sm_155 {Ls d : Nat} {as : List ab_V} {w : ab_W} {post : Option ab_V → ab_W → Prop} : Sm Ls (d + 1) 155 as w post ↔ (ab_il as).length ≤ 8 ∧ Ev Ls (Sm Ls d) post bk_155 0 (ab_init 8 as) [] w := Iff.rfl
theorem sm_156 {Ls d : Nat} {as : List ab_V} {w : ab_W} {post : Option ab_V → ab_W → Prop} : Sm Ls (d + 1) 156 as w post ↔ (ab_il as).length ≤ 3 ∧ Ev Ls (Sm Ls d) post bk_156 0 (ab_init 3 as) [] w := Iff.rfl
theorem sm_157 {Ls d : Nat} {as : List ab_V} {w : ab_W} {post : Option ab_V → ab_W → Prop} : Sm Ls (d + 1) 157 as w post ↔ (ab_il as).length ≤ 3 ∧ Ev Ls (Sm Ls d) post bk_157 0 (ab_init 3 as) [] w := Iff.rfl
theorem sm_158 {Ls d : Nat} {as : List ab_V} {w : ab_W} {post : Option ab_V → ab_W → Prop} : Sm Ls (d + 1) 158 as w post ↔ (ab_il as).length ≤ 2 ∧ Ev Ls (Sm Ls d) post bk_158 0 (ab_init 2 as) [] w := Iff.rfl
theorem sm_159 {Ls d : Nat} {as : List ab_V} {w : ab_W} {post : Option ab_V → ab_W → Prop} : Sm Ls (d + 1) 159 as w post ↔ (ab_il as).length ≤ 2 ∧ Ev Ls (Sm Ls d) post bk_159 0 (ab_init 2 as) [] w := Iff.rfl
theorem sm_160 {Ls d : Nat} {as : List ab_V} {w : ab_W} {post : Option ab_V → ab_W → Prop} : Sm Ls (d + 1) 160 as w post ↔ (ab_il as).length ≤ 3 ∧ Ev Ls (Sm Ls d) post bk_160 0 (ab_init 3 as) [] w := Iff.rfl
theorem sm_161 {Ls d : Nat} {as : List ab_V} {w : ab_W} {post : Option ab_V → ab_W → Prop} : Sm Ls (d + 1) 161 as w post ↔ (ab_il as).length ≤ 3 ∧ Ev Ls (Sm Ls d) post bk_161 0 (ab_init 3 as) [] w := Iff.rfl
theorem sm_162 {Ls d : Nat} {as : List ab_V} {w : ab_W} {post : Option ab_V → ab_W → Prop} : Sm Ls (d + 1) 162 as w post ↔ (ab_il as).length ≤ 2 ∧ Ev Ls (Sm Ls d) post bk_162 0 (ab_init 2 as) [] w := Iff.rfl
theorem sm_163 {Ls d : Nat} {as : List ab_V} {w : ab_W} {post : Option ab_V → ab_W → Prop} : Sm Ls (d + 1) 163 as w post ↔ (ab_il as).length ≤ 4 ∧ Ev Ls (Sm Ls d) post bk_163 0 (ab_init 4 as) [] w := Iff.rfl
theorem sm_164 {Ls d : Nat} {as : List ab_V} {w : ab_W} {post : Option ab_V → ab_W → Prop} : Sm Ls (d + 1) 164 as w post ↔ (ab_il as).length ≤ 2 ∧ Ev Ls (Sm Ls d) post bk_164 0 (ab_init 2 as) [] w := Iff.rfl
theorem sm_165 {Ls d : Nat} {as : List ab_V} {w : ab_W} {post : Option ab_V → ab_W → Prop} : Sm Ls (d + 1) 165 as w post ↔ (ab_il as).length ≤ 3 ∧ Ev Ls (Sm Ls d) post bk_165 0 (ab_init 3 as) [] w := Iff.rfl
theorem sm_166 {Ls d : Nat} {as : List ab_V} {w : ab_W} {post : Option ab_V → ab_W → Prop} : Sm Ls (d + 1) 166 as w post ↔ (ab_il as).length ≤ 3 ∧ Ev Ls (Sm Ls d) post bk_166 0 (ab_init 3 as) [] w := Iff.rfl
theorem sm_167 {Ls d : Nat} {as : List ab_V} {w : ab_W} {post : Option ab_V → ab_W → Prop} : Sm Ls (d + 1) 167 as w post ↔ (ab_il as).length ≤ 1 ∧ Ev Ls (Sm Ls d) post bk_167 0 (ab_init 1 as) [] w := Iff.rfl
theorem sm_168 {Ls d : Nat} {as : List ab_V} {w : ab_W} {post : Option ab_V → ab_W → Prop} : Sm Ls (d + 1) 168 as w post ↔ (ab_il as).length ≤ 8 ∧ Ev Ls (Sm Ls d) post bk_168 0 (ab_init 8 as) [] w := Iff.rfl
theorem sm_169 {Ls d : Nat} {as : List ab_V} {w : ab_W} {post : Option ab_V → ab_W → Prop} : Sm Ls (d + 1) 169 as w post ↔ (ab_il as).length ≤ 5 ∧ Ev Ls (Sm Ls d) post bk_169 0 (ab_init 5 as) [] w := Iff.rfl
theorem sm_170 {Ls d : Nat} {as : List ab_V} {w : ab_W} {post : Option ab_V → ab_W → Prop} : Sm Ls (d + 1) 170 as w post ↔ (ab_il as).length ≤ 4 ∧ Ev Ls (Sm Ls d) post bk_170 0 (ab_init 4 as) [] w := Iff.rfl
theorem sm_171 {Ls d : Nat} {as : List ab_V} {w : ab_W} {post : Option ab_V → ab_W → Prop} : Sm Ls (d + 1) 171 as w post ↔ (ab_il as).length ≤ 10 ∧ Ev Ls (Sm Ls d) post bk_171 0 (ab_init 10 as) [] w := Iff.rfl
theorem sm_172 {Ls d : Nat} {as : List ab_V} {w : ab_W} {post : Option ab_V → ab_W → Prop} : Sm Ls (d + 1) 172 as w post ↔ (ab_il as).length ≤ 3 ∧ Ev Ls (Sm Ls d) post bk_172 0 (ab_init 3 as) [] w := Iff.rfl
theorem sm_173 {Ls d : Nat} {as : List ab_V} {w : ab_W} {post : Option ab_V → ab_W → Prop} : Sm Ls (d + 1) 173 as w post ↔ (ab_il as).length ≤ 10 ∧ Ev Ls (Sm Ls d) post bk_173 0 (ab_init 10 as) [] w := Iff.rfl
theorem sm_174 {Ls d : Nat} {as : List ab_V} {w : ab_W} {post : Option ab_V → ab_W → Prop} : Sm Ls (d + 1) 174 as w post ↔ (ab_il as).length ≤ 4 ∧ Ev Ls (Sm Ls d) post bk_174 0 (ab_init 4 as) [] w := Iff.rfl
theorem sm_175 {Ls d : Nat} {as : List ab_V} {w : ab_W} {post : Option ab_V → ab_W → Prop} : Sm Ls (d + 1) 175 as w post ↔ (ab_il as).length ≤ 6 ∧ Ev Ls (Sm Ls d) post bk_175 0 (ab_init 6 as) [] w := Iff.rfl
theorem sm_176 {Ls d : Nat} {as : List ab_V} {w : ab_W} {post : Option ab_V → ab_W → Prop} : Sm Ls (d + 1) 176 as w post ↔ (ab_il as).length ≤ 4 ∧ Ev Ls (Sm Ls d) post bk_176 0 (ab_init 4 as) [] w := Iff.rfl
theorem sm_177 {Ls d : Nat} {as : List ab_V} {w : ab_W} {post : Option ab_V → ab_W → Prop} : Sm Ls (d + 1) 177 as w post ↔ (ab_il as).length ≤ 2 ∧ Ev Ls (Sm Ls d) post bk_177 0 (ab_init 2 as) [] w := Iff.rfl
theorem sm_178 {Ls d : Nat} {as : List ab_V} {w : ab_W} {post : Option ab_V → ab_W → Prop} : Sm Ls (d + 1) 178 as w post ↔ (ab_il as).length ≤ 1 ∧ Ev Ls (Sm Ls d) post bk_178 0 (ab_init 1 as) [] w := Iff.rfl
theorem sm_179 {Ls d : Nat} {as : List ab_V} {w : ab_W} {post : Option ab_V → ab_W → Prop} : Sm Ls (d + 1) 179 as w post ↔ (ab_il as).length ≤ 5 ∧ Ev Ls (Sm Ls d) post bk_179 0 (ab_init 5 as) [] w := Iff.rfl
theorem sm_180 {Ls d : Nat} {as : List ab_V} {w : ab_W} {post : Option ab_V → ab_W → Prop} : Sm Ls (d + 1) 180 as w post ↔ (ab_il as).length ≤ 2 ∧ Ev Ls (Sm Ls d) post bk_180 0 (ab_init 2 as) [] w := Iff.rfl
theorem sm_181 {Ls d : Nat} {as : List ab_V} {w : ab_W} {post : Option ab_V → ab_W → Prop} : Sm Ls (d + 1) 181 as w post ↔ (ab_il as).length ≤ 4 ∧ Ev Ls (Sm Ls d) post bk_181 0 (ab_init 4 as) [] w := Iff.rfl
theorem sm_182 {Ls d : Nat} {as : List ab_V} {w : ab_W} {post : Option ab_V → ab_W → Prop} : Sm Ls (d + 1) 182 as w post ↔ (ab_il as).length ≤ 4 ∧ Ev Ls (Sm Ls d) post bk_182 0 (ab_init 4 as) [] w := Iff.rfl
theorem sm_183 {Ls d : Nat} {as : List ab_V} {w : ab_W} {post : Option ab_V → ab_W → Prop} : Sm Ls (d + 1) 183 as w post ↔ (ab_il as).length ≤ 6 ∧ Ev Ls (Sm Ls d) post bk_183 0 (ab_init 6 as) [] w := Iff.rfl
theorem sm_184 {Ls d : Nat} {as : List ab_V} {w : ab_W} {post : Option ab_V → ab_W → Prop} : Sm Ls (d + 1) 184 as w post ↔ (ab_il as).length ≤ 5 ∧ Ev Ls (Sm Ls d) post bk_184 0 (ab_init 5 as) [] w := Iff.rfl
theorem sm_185 {Ls d : Nat} {as : List ab_V} {w : ab_W} {post : Option ab_V → ab_W → Prop} : Sm Ls (d + 1) 185 as w post ↔ (ab_il as).length ≤ 7 ∧ Ev Ls (Sm Ls d) post bk_185 0 (ab_init 7 as) [] w := Iff.rfl
theorem sm_186 {Ls d : Nat} {as : List ab_V} {w : ab_W} {post : Option ab_V → ab_W → Prop} : Sm Ls (d + 1) 186 as w post ↔ (ab_il as).length ≤ 4 ∧ Ev Ls (Sm Ls d) post bk_186 0 (ab_init 4 as) [] w := Iff.rfl
theorem sm_187 {Ls d : Nat} {as : List ab_V} {w : ab_W} {post : Option ab_V → ab_W → Prop} : Sm Ls (d + 1) 187 as w post ↔ (ab_il as).length ≤ 3 ∧ Ev Ls (Sm Ls d) post bk_187 0 (ab_init 3 as) [] w := Iff.rfl
theorem sm_188 {Ls d : Nat} {as : List ab_V} {w : ab_W} {post : Option ab_V → ab_W → Prop} : Sm Ls (d + 1) 188 as w post ↔ (ab_il as).length ≤ 1 ∧ Ev Ls (Sm Ls d) post bk_188 0 (ab_init 1 as) [] w := Iff.rfl
theorem sm_189 {Ls d : Nat} {as : List ab_V} {w : ab_W} {post : Option ab_V → ab_W → Prop} : Sm Ls (d + 1) 189 as w post ↔ (ab_il as).length ≤ 1 ∧ Ev Ls (Sm Ls d) post bk_189 0 (ab_init 1 as) [] w := Iff.rfl
theorem sm_190 {Ls d : Nat} {as : List ab_V} {w : ab_W} {post : Option ab_V → ab_W → Prop} : Sm Ls (d + 1) 190 as w post ↔ (ab_il as).length ≤ 2 ∧ Ev Ls (Sm Ls d) post bk_190 0 (ab_init 2 as) [] w := Iff.rfl
theorem sm_191 {Ls d : Nat} {as : List ab_V} {w : ab_W} {post : Option ab_V → ab_W → Prop} : Sm Ls (d + 1) 191 as w post ↔ (ab_il as).length ≤ 8 ∧ Ev Ls (Sm Ls d) post bk_191 0 (ab_init 8 as) [] w := Iff.rfl
theorem sm_192 {Ls d : Nat} {as : List ab_V} {w : ab_W} {post : Option ab_V → ab_W → Prop} : Sm Ls (d + 1) 192 as w post ↔ (ab_il as).length ≤ 8 ∧ Ev Ls (Sm Ls d) post bk_192 0 (ab_init 8 as) [] w := Iff.rfl
theorem sm_193 {Ls d : Nat} {as : List ab_V} {w : ab_W} {post : Option ab_V → ab_W → Prop} : Sm Ls (d + 1) 193 as w post ↔ (ab_il as).length ≤ 7 ∧ Ev Ls (Sm Ls d) post bk_193 0 (ab_init 7 as) [] w := Iff.rfl
theorem sm_194 {Ls d : Nat} {as : List ab_V} {w : ab_W} {post : Option ab_V → ab_W → Prop} : Sm Ls (d + 1) 194 as w post ↔ (ab_il as).length ≤ 4 ∧ Ev Ls (Sm Ls d) post bk_194 0 (ab_init 4 as) [] w := Iff.rfl
end
section
/-! the printed program is the bytecode: tables of what its instructions link, each a word of the Statement's tables; a check by counting, and what it shows -/
def ab_own (oc : Nat) : String := match oc with
  | 0 => RX0
  | 1 => RX1
  | 2 => RX2
  | 3 => RX3
  | 4 => RX4
  | 5 => RX5
  | 6 => RL
  | 7 => RJ6
  | 8 => RJ13
  | 9 => RJ9
  | _ => RJ7
def ab_fls : List (Nat × Nat × Nat × Nat × Nat) := [(0, 9, 0, 0, 144), (0, 15, 0, 1, 146), (0, 18, 0, 2, 148), (0, 22, 0, 3, 149), (0, 25, 0, 4, 150), (0, 28, 0, 5, 152), (0, 32, 0, 6, 154), (0, 35, 0, 7, 156), (0, 44, 2, 1, 104), (0, 51, 2, 0, 102), (0, 66, 3, 3, 127), (0, 71, 3, 0, 119), (0, 74, 3, 1, 122), (0, 77, 3, 2, 124), (1, 9, 1, 0, 182), (1, 15, 1, 1, 184), (1, 19, 1, 2, 186), (1, 23, 1, 3, 188), (2, 9, 2, 0, 101), (2, 15, 2, 1, 103), (3, 9, 3, 0, 118), (3, 15, 3, 1, 121), (3, 18, 3, 2, 123), (3, 21, 3, 3, 126), (4, 10, 4, 0, 199), (4, 19, 4, 1, 200), (4, 23, 4, 2, 201), (4, 26, 4, 3, 202), (4, 32, 4, 4, 203), (4, 36, 4, 5, 204), (4, 39, 4, 6, 205), (4, 43, 4, 7, 206), (4, 47, 4, 8, 207), (4, 50, 4, 9, 208), (4, 55, 4, 10, 209), (4, 59, 4, 11, 210), (4, 63, 4, 12, 211), (4, 67, 2, 1, 105), (4, 95, 0, 0, 145), (4, 98, 0, 1, 147), (4, 105, 3, 3, 128), (4, 114, 1, 1, 185), (4, 121, 1, 3, 189), (4, 122, 1, 0, 183), (4, 151, 0, 4, 151), (4, 164, 0, 5, 153), (4, 206, 0, 6, 155), (4, 226, 3, 0, 120), (4, 229, 3, 2, 125), (4, 293, 1, 2, 187), (5, 7, 5, 1, 684), (5, 13, 5, 3, 686), (5, 16, 5, 4, 687), (5, 19, 5, 7, 690), (5, 22, 5, 8, 691), (5, 25, 5, 9, 692), (5, 28, 5, 12, 695), (5, 31, 5, 13, 696), (5, 34, 5, 14, 697), (5, 37, 5, 16, 699), (5, 40, 5, 17, 700), (5, 43, 5, 18, 701), (5, 46, 5, 19, 702), (5, 49, 5, 20, 703), (5, 52, 5, 21, 704), (5, 55, 5, 22, 705), (5, 58, 5, 23, 706), (5, 61, 5, 24, 707), (5, 64, 5, 25, 708), (5, 67, 5, 26, 709), (5, 70, 5, 28, 711), (5, 73, 5, 29, 712), (5, 76, 5, 30, 713), (5, 79, 5, 31, 714), (5, 82, 5, 32, 715), (5, 86, 5, 33, 716), (5, 89, 5, 34, 717), (5, 92, 5, 35, 718), (5, 95, 5, 36, 719), (5, 98, 5, 5, 688), (5, 108, 5, 0, 683), (5, 119, 5, 2, 685), (5, 152, 5, 6, 689), (5, 164, 5, 10, 693), (5, 167, 5, 11, 694), (5, 170, 5, 15, 698), (5, 262, 5, 27, 710), (5, 297, 5, 37, 720)]
def ab_mls : List (Nat × Nat × Nat × Nat) := [(0, 38, 27, 251), (0, 47, 29, 263), (0, 60, 3, 276), (0, 80, 10, 279), (0, 86, 12, 288), (0, 90, 5, 292), (0, 93, 13, 298), (0, 103, 15, 388), (0, 106, 1, 438), (0, 112, 14, 392), (0, 115, 18, 384), (0, 118, 20, 413), (0, 121, 19, 525), (1, 26, 4, 593), (2, 19, 28, 255), (2, 23, 29, 259), (4, 70, 26, 243), (4, 74, 6, 247), (4, 78, 40, 264), (4, 81, 27, 317), (4, 85, 92, 322), (4, 89, 93, 326), (4, 92, 97, 329), (4, 101, 96, 340), (4, 108, 30, 349), (4, 111, 98, 361), (4, 117, 100, 364), (4, 125, 41, 268), (4, 128, 9, 272), (4, 132, 11, 284), (4, 135, 94, 343), (4, 138, 14, 372), (4, 142, 16, 376), (4, 145, 19, 380), (4, 148, 15, 397), (4, 154, 46, 406), (4, 158, 21, 409), (4, 161, 20, 421), (4, 167, 49, 426), (4, 170, 17, 434), (4, 173, 52, 448), (4, 176, 4, 452), (4, 182, 7, 455), (4, 186, 53, 462), (4, 190, 8, 466), (4, 194, 12, 470), (4, 197, 55, 471), (4, 207, 59, 489), (4, 210, 60, 493), (4, 213, 58, 506), (4, 217, 61, 497), (4, 220, 62, 501), (4, 223, 18, 505), (4, 232, 95, 346), (4, 235, 22, 521), (4, 239, 67, 530), (4, 242, 68, 534), (4, 245, 70, 542), (4, 248, 71, 546), (4, 258, 0, 556), (4, 263, 74, 562), (4, 267, 73, 566), (4, 271, 76, 574), (4, 275, 77, 578), (4, 279, 99, 586), (4, 282, 23, 589), (4, 285, 82, 602), (4, 289, 24, 605), (4, 296, 25, 618), (4, 305, 86, 631), (4, 308, 47, 635), (4, 311, 87, 636), (4, 318, 85, 646), (4, 321, 34, 647), (4, 324, 89, 648), (4, 328, 90, 655), (4, 331, 91, 663), (4, 334, 45, 672), (4, 337, 48, 673), (4, 340, 57, 674), (4, 343, 65, 675), (4, 346, 75, 676), (4, 353, 42, 654), (4, 356, 35, 659), (4, 359, 44, 660), (4, 362, 66, 661), (4, 365, 69, 662), (4, 368, 43, 667), (4, 371, 50, 668), (4, 374, 54, 669), (4, 377, 56, 670), (4, 380, 72, 671), (5, 104, 101, 803), (5, 111, 112, 830), (5, 115, 113, 826), (5, 122, 114, 822), (5, 125, 115, 818), (5, 129, 116, 842), (5, 132, 118, 838), (5, 136, 106, 846), (5, 139, 107, 849), (5, 142, 119, 852), (5, 146, 108, 864), (5, 149, 105, 867), (5, 155, 178, 878), (5, 158, 177, 881), (5, 161, 122, 885), (5, 173, 102, 914), (5, 177, 127, 921), (5, 180, 128, 925), (5, 184, 126, 910), (5, 187, 129, 917), (5, 191, 130, 929), (5, 194, 131, 906), (5, 198, 125, 898), (5, 201, 132, 902), (5, 204, 133, 894), (5, 207, 134, 890), (5, 210, 136, 937), (5, 213, 138, 945), (5, 216, 140, 961), (5, 219, 141, 957), (5, 222, 142, 953), (5, 225, 144, 973), (5, 228, 145, 969), (5, 231, 147, 981), (5, 234, 149, 989), (5, 237, 152, 1001), (5, 240, 151, 1004), (5, 244, 153, 997), (5, 247, 155, 1012), (5, 250, 157, 1020), (5, 253, 159, 1032), (5, 256, 160, 1028), (5, 259, 161, 1036), (5, 265, 165, 1056), (5, 269, 166, 1052), (5, 272, 168, 1064), (5, 275, 169, 1068), (5, 278, 171, 1076), (5, 281, 104, 1088), (5, 285, 173, 1084), (5, 289, 103, 1091), (5, 294, 175, 1099), (5, 300, 181, 1116), (5, 303, 182, 1120), (5, 308, 189, 1141), (5, 311, 187, 1145), (5, 314, 188, 1149), (5, 319, 191, 1164), (5, 323, 192, 1168), (5, 328, 190, 1159), (5, 331, 193, 1160), (6, 13, 31, 239), (6, 17, 109, 799), (6, 18, 32, 305), (6, 22, 110, 806), (6, 23, 33, 309), (6, 26, 111, 810), (6, 27, 34, 313), (6, 30, 117, 814), (6, 31, 35, 318), (6, 35, 120, 834), (6, 36, 36, 332), (6, 39, 121, 856), (6, 40, 37, 336), (6, 43, 122, 860), (6, 44, 38, 353), (6, 47, 123, 870), (6, 48, 39, 357), (6, 51, 124, 874), (6, 52, 42, 368), (6, 55, 135, 886), (6, 56, 43, 393), (6, 59, 137, 933), (6, 60, 44, 398), (6, 64, 139, 941), (6, 65, 45, 402), (6, 68, 143, 949), (6, 69, 47, 417), (6, 72, 146, 965), (6, 73, 48, 422), (6, 76, 148, 977), (6, 77, 50, 430), (6, 80, 150, 985), (6, 81, 51, 444), (6, 84, 154, 993), (6, 85, 54, 474), (6, 88, 156, 1008), (6, 89, 56, 481), (6, 92, 158, 1016), (6, 93, 57, 485), (6, 96, 162, 1024), (6, 97, 63, 509), (6, 100, 163, 1040), (6, 101, 64, 513), (6, 104, 164, 1044), (6, 105, 65, 517), (6, 108, 167, 1048), (6, 109, 66, 526), (6, 112, 170, 1060), (6, 113, 69, 538), (6, 116, 172, 1072), (6, 117, 72, 551), (6, 121, 174, 1080), (6, 122, 75, 570), (6, 125, 176, 1095), (6, 126, 78, 582), (6, 129, 179, 1104), (6, 130, 79, 594), (6, 133, 180, 1108), (6, 134, 80, 598), (6, 138, 183, 1112), (6, 139, 81, 609), (6, 142, 184, 1124), (6, 143, 83, 614), (6, 147, 185, 1129), (6, 148, 84, 623), (6, 151, 186, 1133), (6, 152, 85, 627), (6, 155, 190, 1137), (6, 156, 88, 640), (6, 160, 194, 1153), (10, 13, 2, 295)]
def ab_kis : List (Nat × Nat × Int × Nat) := [(4, 278, 1103515245, 581), (4, 292, -2147483648, 613), (5, 293, 1103515245, 1103), (5, 307, -2147483648, 1128), (7, 265, 1431655765, 559), (7, 266, 858993459, 560), (7, 267, 252645135, 561)]
def ab_kls : List (Nat × Nat × Int × Nat) := [(0, 84, 7, 283), (4, 256, -9223372036854775806, 555), (4, 314, 17, 644), (4, 316, 31, 645), (5, 102, -9223372036854775808, 1094), (5, 317, 31, 1158), (5, 326, 17, 1157), (8, 314, 6148914691236517205, 441), (8, 316, 3689348814741910323, 442), (8, 318, 1085102592571150095, 443)]
def ab_acs : List (Nat × Nat × Nat) := [(0, 54, 459), (4, 299, 622)]
def ab_mxs : List (Nat × Nat × Nat) := [(0, 97, 302), (4, 251, 550)]
def ab_mns : List (Nat × Nat × Nat) := [(4, 201, 478)]
def ab_gst : List (Nat × Nat × Nat) := [(4, 350, 652)]
/-- of each method: the places of its words code, initialized, static or (instanceMethod, selects) -/
def ab_mps : List (Nat × Nat × Nat × Nat × Nat) := [(7, 558, 86, 557, 0), (8, 440, 84, 439, 0), (10, 297, 82, 296, 0), (10, 278, 82, 277, 0), (10, 454, 82, 453, 0), (10, 294, 82, 293, 0), (0, 250, 79, 248, 249), (0, 458, 79, 456, 457), (0, 469, 79, 467, 468), (0, 275, 79, 273, 274), (0, 282, 79, 281, 3), (0, 287, 79, 285, 286), (0, 291, 79, 289, 290), (0, 301, 79, 300, 4), (0, 375, 79, 373, 374), (0, 391, 79, 389, 390), (0, 379, 79, 377, 378), (0, 437, 79, 435, 436), (0, 387, 79, 385, 386), (0, 383, 79, 381, 382), (0, 416, 79, 414, 415), (0, 412, 79, 410, 411), (0, 524, 79, 522, 523), (1, 592, 80, 590, 591), (1, 608, 80, 606, 607), (1, 621, 80, 619, 620), (2, 246, 77, 244, 245), (2, 254, 77, 252, 253), (2, 258, 77, 257, 0), (2, 262, 77, 260, 261), (3, 352, 78, 350, 351), (4, 242, 76, 240, 241), (4, 308, 76, 306, 307), (4, 312, 76, 310, 311), (4, 316, 76, 314, 315), (4, 321, 76, 319, 320), (4, 335, 76, 333, 334), (4, 339, 76, 337, 338), (4, 356, 76, 354, 355), (4, 360, 76, 358, 359), (4, 267, 76, 266, 1), (4, 271, 76, 270, 2), (4, 371, 76, 369, 370), (4, 396, 76, 394, 395), (4, 401, 76, 399, 400), (4, 405, 76, 403, 404), (4, 408, 76, 407, 0), (4, 420, 76, 418, 419), (4, 425, 76, 423, 424), (4, 429, 76, 428, 7), (4, 433, 76, 431, 432), (4, 447, 76, 445, 446), (4, 451, 76, 450, 8), (4, 465, 76, 464, 9), (4, 477, 76, 475, 476), (4, 473, 76, 472, 0), (4, 484, 76, 482, 483), (4, 488, 76, 486, 487), (4, 508, 76, 507, 0), (4, 492, 76, 491, 10), (4, 496, 76, 495, 11), (4, 500, 76, 499, 12), (4, 504, 76, 503, 13), (4, 512, 76, 510, 511), (4, 516, 76, 514, 515), (4, 520, 76, 518, 519), (4, 529, 76, 527, 528), (4, 533, 76, 532, 14), (4, 537, 76, 536, 15), (4, 541, 76, 539, 540), (4, 545, 76, 544, 16), (4, 549, 76, 548, 17), (4, 554, 76, 552, 553), (4, 569, 76, 568, 19), (4, 565, 76, 564, 18), (4, 573, 76, 571, 572), (4, 577, 76, 576, 20), (4, 580, 76, 579, 0), (4, 585, 76, 583, 584), (4, 597, 76, 595, 596), (4, 601, 76, 599, 600), (4, 612, 76, 610, 611), (4, 604, 76, 603, 0), (4, 617, 76, 615, 616), (4, 626, 76, 624, 625), (4, 630, 76, 628, 629), (4, 634, 76, 633, 21), (4, 639, 76, 638, 22), (4, 643, 76, 641, 642), (4, 651, 76, 650, 23), (4, 658, 76, 657, 24), (4, 666, 76, 665, 25), (4, 325, 76, 324, 5), (4, 328, 76, 327, 0), (4, 345, 76, 344, 0), (4, 348, 76, 347, 0), (4, 342, 76, 341, 0), (4, 331, 76, 330, 0), (4, 363, 76, 362, 0), (4, 588, 76, 587, 0), (4, 367, 76, 366, 6), (5, 805, 81, 804, 0), (5, 916, 81, 915, 0), (5, 1093, 81, 1092, 0), (5, 1090, 81, 1089, 0), (5, 869, 81, 868, 0), (5, 848, 81, 847, 0), (5, 851, 81, 850, 0), (5, 866, 81, 865, 0), (5, 802, 81, 800, 801), (5, 809, 81, 807, 808), (5, 813, 81, 811, 812), (5, 833, 81, 832, 29), (5, 829, 81, 828, 28), (5, 825, 81, 824, 27), (5, 821, 81, 820, 26), (5, 845, 81, 844, 31), (5, 817, 81, 815, 816), (5, 841, 81, 840, 30), (5, 855, 81, 854, 32), (5, 837, 81, 835, 836), (5, 859, 81, 857, 858), (5, 863, 81, 861, 862), (5, 873, 81, 871, 872), (5, 877, 81, 875, 876), (5, 901, 81, 900, 36), (5, 913, 81, 912, 39), (5, 924, 81, 923, 41), (5, 928, 81, 927, 42), (5, 920, 81, 919, 40), (5, 932, 81, 931, 43), (5, 909, 81, 908, 38), (5, 905, 81, 904, 37), (5, 897, 81, 896, 35), (5, 893, 81, 892, 34), (5, 889, 81, 887, 888), (5, 940, 81, 939, 44), (5, 936, 81, 934, 935), (5, 948, 81, 947, 45), (5, 944, 81, 942, 943), (5, 964, 81, 963, 48), (5, 960, 81, 959, 47), (5, 956, 81, 955, 46), (5, 952, 81, 950, 951), (5, 976, 81, 975, 50), (5, 972, 81, 971, 49), (5, 968, 81, 966, 967), (5, 984, 81, 983, 51), (5, 980, 81, 978, 979), (5, 992, 81, 991, 52), (5, 988, 81, 986, 987), (5, 1007, 81, 1006, 54), (5, 1003, 81, 1002, 0), (5, 1000, 81, 999, 53), (5, 996, 81, 994, 995), (5, 1015, 81, 1014, 55), (5, 1011, 81, 1009, 1010), (5, 1023, 81, 1022, 56), (5, 1019, 81, 1017, 1018), (5, 1035, 81, 1034, 58), (5, 1031, 81, 1030, 57), (5, 1039, 81, 1038, 59), (5, 1027, 81, 1025, 1026), (5, 1043, 81, 1041, 1042), (5, 1047, 81, 1045, 1046), (5, 1059, 81, 1058, 61), (5, 1055, 81, 1054, 60), (5, 1051, 81, 1049, 1050), (5, 1067, 81, 1066, 62), (5, 1071, 81, 1070, 63), (5, 1063, 81, 1061, 1062), (5, 1079, 81, 1078, 64), (5, 1075, 81, 1073, 1074), (5, 1087, 81, 1086, 65), (5, 1083, 81, 1081, 1082), (5, 1102, 81, 1101, 66), (5, 1098, 81, 1096, 1097), (5, 884, 81, 883, 33), (5, 880, 81, 879, 0), (5, 1107, 81, 1105, 1106), (5, 1111, 81, 1109, 1110), (5, 1119, 81, 1118, 67), (5, 1123, 81, 1122, 68), (5, 1115, 81, 1113, 1114), (5, 1127, 81, 1125, 1126), (5, 1132, 81, 1130, 1131), (5, 1136, 81, 1134, 1135), (5, 1148, 81, 1147, 70), (5, 1152, 81, 1151, 71), (5, 1144, 81, 1143, 69), (5, 1140, 81, 1138, 1139), (5, 1167, 81, 1166, 73), (5, 1171, 81, 1170, 74), (5, 1163, 81, 1162, 72), (5, 1156, 81, 1154, 1155)]
def ab_wd (i : Nat) (w : Cond) : Bool := decide (lw_tbl[i]? = some w) && goodWord w
theorem ab_wd_ok {i : Nat} {w : Cond} (h : ab_wd i w = true) : w ∈ ab_TB := by
  unfold ab_wd at h
  simp only [Bool.and_eq_true, decide_eq_true_eq] at h
  exact List.mem_filter.mpr ⟨List.mem_of_getElem? h.1, h.2⟩
def ab_fq (q : Nat × Nat × Nat × Nat × Nat) : Bool := match ab_cl[q.2.2.1]? with
  | some (_, T, N) => decide (q.2.2.2.1 < N) && ab_wd q.2.2.2.2 (.fieldLink (ab_own q.1) q.2.1 (T q.2.2.2.1).1 (T q.2.2.2.1).2.1 (T q.2.2.2.1).2.2.1)
  | none => false
set_option maxRecDepth 100000 in
theorem ab_fls_ok : ab_fls.all ab_fq = true := by decide +kernel
def ab_mq (q : Nat × Nat × Nat × Nat) : Bool := match ab_mt q.2.2.1 with
  | some r => ab_wd q.2.2.2 (.methodLink (ab_own q.1) q.2.1 r.1)
  | none => false
set_option maxRecDepth 100000 in
theorem ab_mls_ok : ab_mls.all ab_mq = true := by decide +kernel
set_option maxRecDepth 100000 in
theorem ab_kis_ok : (ab_kis.all fun q => decide (-2147483648 ≤ q.2.2.1) && decide (q.2.2.1 < 2147483648) && ab_wd q.2.2.2 (.constant (ab_own q.1) q.2.1 (Int32.ofInt q.2.2.1))) = true := by decide +kernel
set_option maxRecDepth 100000 in
theorem ab_kls_ok : (ab_kls.all fun q => decide (-9223372036854775808 ≤ q.2.2.1) && decide (q.2.2.1 < 9223372036854775808) && ab_wd q.2.2.2 (.constantLong (ab_own q.1) q.2.1 (Int64.ofInt q.2.2.1))) = true := by decide +kernel
set_option maxRecDepth 100000 in
theorem ab_acs_ok : (ab_acs.all fun q => ab_wd q.2.2 (.methodLink (ab_own q.1) q.2.1 arraycopyName)) = true := by decide +kernel
set_option maxRecDepth 100000 in
theorem ab_mxs_ok : (ab_mxs.all fun q => ab_wd q.2.2 (.methodLink (ab_own q.1) q.2.1 Lib.Math.max.name)) = true := by decide +kernel
set_option maxRecDepth 100000 in
theorem ab_mns_ok : (ab_mns.all fun q => ab_wd q.2.2 (.methodLink (ab_own q.1) q.2.1 Lib.Math.min.name)) = true := by decide +kernel
set_option maxRecDepth 100000 in
theorem ab_gst_ok : (ab_gst.all fun q => ab_wd q.2.2 (.fieldLink (ab_own q.1) q.2.1 "RelayRace" "DIGEST_MOMENTS" "[I")) = true := by decide +kernel
def ab_moq (k : Nat) : Bool := match ab_MT[k]?, ab_mps[k]? with
  | some r, some q => ab_wd q.2.1 (ab_cw r) && ab_wd q.2.2.1 (.initialized r.1.cls) && decide (r.1.cls ≠ "java/lang/invoke/MethodHandle" ∧ r.1.cls ≠ "java/lang/invoke/VarHandle" ∧ (parseMethodDescriptor r.1.desc).map (fun d => d.parameters.length) = some r.2.2.2.2.1) && decide (r.2.2.1 ≤ 23) && plainName r.1.cls && decide (ab_own q.1 = r.1.cls) &&
    (if r.2.2.2.2.2 = true then ab_wd q.2.2.2.1 (.static r.1) else ab_wd q.2.2.2.1 (.instanceMethod r.1) && ab_wd q.2.2.2.2 (.selects r.1.cls r.1 r.1))
  | _, _ => false
-- the check of an instruction
def ab_tq (pcs : List Nat) (pc b : Nat) (off : Int) : Bool := match pcs[b]? with
  | some t => decide ((pc : Int) + off = (t : Int))
  | none => false
theorem ab_tq_ok {pcs : List Nat} {pc b : Nat} {off : Int} (h : ab_tq pcs pc b off = true) : ∃ t : Nat, pcs[b]? = some t ∧ (pc : Int) + off = (t : Int) := by
  unfold ab_tq at h
  split at h
  next t e => exact ⟨t, e, of_decide_eq_true h⟩
  next => cases h
def ab_isb (ci k b : Nat) : Bool := match ab_cl[ci]? with
  | some (_, T, _) => decide ((T k).2.2.2 = false) && ((decide (b = 0) && decide ((T k).2.2.1 = "I")) || (decide (b = 1) && decide ((T k).2.2.1 = "Z")))
  | none => false
def ab_q (oc : Nat) (rt : Option FieldType) (nL : Nat) (pcs : List Nat) (pc : Nat) (op : Instr) (ex : List Nat) (z : Int) : Bool := match op with
  | .iconst n => decide (-2147483648 ≤ n) && decide (n < 2147483648)
  | .bipush n => decide (-128 ≤ n) && decide (n ≤ 127)
  | .sipush n => decide (-32768 ≤ n) && decide (n ≤ 32767)
  | .ldc i => ab_kis.any fun q => decide (q.1 = oc) && decide (q.2.1 = i) && decide (q.2.2.1 = z)
  | .ldc_w i => ab_kis.any fun q => decide (q.1 = oc) && decide (q.2.1 = i) && decide (q.2.2.1 = z)
  | .ldc2_w i => ab_kls.any fun q => decide (q.1 = oc) && decide (q.2.1 = i) && decide (q.2.2.1 = z)
  | .istore n => decide (n < nL)
  | .istore_n n => decide (n.val < nL)
  | .astore n => decide (n < nL)
  | .astore_n n => decide (n.val < nL)
  | .lstore n => decide (n + 1 < nL)
  | .lstore_n n => decide (n.val + 1 < nL)
  | .iinc n c => decide (n < nL) && decide (-2147483648 ≤ c) && decide (c < 2147483648)
  | .ifCond _ off => ab_tq pcs pc (ex.headD 0) off
  | .if_icmp _ off => ab_tq pcs pc (ex.headD 0) off
  | .goto off => ab_tq pcs pc (ex.headD 0) off
  | .tableswitch d lo hi offs => ab_tq pcs pc (ex.headD 0) d && decide (hi = lo + offs.size - 1) && decide (ex.tail.length = offs.size) && (List.range ex.tail.length).all (fun j => match ex.tail[j]?, offs[j]? with | some b, some off => ab_tq pcs pc b off | _, _ => false)
  | .lookupswitch d ps => ab_tq pcs pc (ex.headD 0) d && (ps.toList.zip (ps.toList.drop 1)).all (fun (a, next) => a.1 < next.1) && decide (ex.tail.length = ps.toList.length) && (List.range ex.tail.length).all (fun j => match ex.tail[j]?, ps.toList[j]? with | some b, some q => ab_tq pcs pc b q.2 | _, _ => false)
  | .ireturn => (decide (rt = some .int) && decide (ex = [0])) || (decide (rt = some .boolean) && decide (ex = [1]))
  | .lreturn => decide (rt = some .long)
  | .return_ => decide (rt = none)
  | .getfield i => (match ex with | [ci, k] => ab_fls.any (fun q => decide (q.1 = oc) && decide (q.2.1 = i) && decide (q.2.2.1 = ci) && decide (q.2.2.2.1 = k)) | _ => false)
  | .putfield i => (match ex with | [ci, k, b] => ab_fls.any (fun q => decide (q.1 = oc) && decide (q.2.1 = i) && decide (q.2.2.1 = ci) && decide (q.2.2.2.1 = k)) && ab_isb ci k b | _ => false)
  | .getstatic i => ab_gst.any (fun q => decide (q.1 = oc) && decide (q.2.1 = i))
  | .invokevirtual i => (match ex with | [k, n, ci] => ab_mls.any (fun q => decide (q.1 = oc) && decide (q.2.1 = i) && decide (q.2.2.1 = k)) && (match ab_mt k, ab_cl[ci]? with | some r, some c => decide (r.2.2.2.2.2 = false) && decide (n = r.2.2.2.2.1 + 1) && decide (c.1 = r.1.cls) | _, _ => false) | _ => false)
  | .invokestatic i => (match ex with | [] => ab_acs.any (fun q => decide (q.1 = oc) && decide (q.2.1 = i)) | [1] => ab_mxs.any (fun q => decide (q.1 = oc) && decide (q.2.1 = i)) | [2] => ab_mns.any (fun q => decide (q.1 = oc) && decide (q.2.1 = i)) | [k, n, _] => ab_mls.any (fun q => decide (q.1 = oc) && decide (q.2.1 = i) && decide (q.2.2.1 = k)) && (match ab_mt k with | some r => decide (r.2.2.2.2.2 = true) && decide (n = r.2.2.2.2.1) | _ => false) | _ => false)
  | _ => true
theorem ab_fls_mem {oc i ci k : Nat} (h : ab_fls.any (fun q => decide (q.1 = oc) && decide (q.2.1 = i) && decide (q.2.2.1 = ci) && decide (q.2.2.2.1 = k)) = true) : ∃ (C : String) (T : u_T) (N : Nat), ab_cl[ci]? = some (C, T, N) ∧ k < N ∧ Cond.fieldLink (ab_own oc) i (T k).1 (T k).2.1 (T k).2.2.1 ∈ ab_TB := by
  obtain ⟨q, hq, h⟩ := List.any_eq_true.mp h
  simp only [Bool.and_eq_true, decide_eq_true_eq] at h
  obtain ⟨⟨⟨rfl, rfl⟩, rfl⟩, rfl⟩ := h
  have h1 := List.all_eq_true.mp ab_fls_ok q hq
  unfold ab_fq at h1
  split at h1
  next C T N e =>
    simp only [Bool.and_eq_true, decide_eq_true_eq] at h1
    exact ⟨C, T, N, e, h1.1, ab_wd_ok h1.2⟩
  next => cases h1
theorem ab_mls_mem {oc i k : Nat} {r : ab_M} (h : ab_mls.any (fun q => decide (q.1 = oc) && decide (q.2.1 = i) && decide (q.2.2.1 = k)) = true) (hr : ab_mt k = some r) : Cond.methodLink (ab_own oc) i r.1 ∈ ab_TB := by
  obtain ⟨q, hq, h⟩ := List.any_eq_true.mp h
  simp only [Bool.and_eq_true, decide_eq_true_eq] at h
  obtain ⟨⟨rfl, rfl⟩, rfl⟩ := h
  have h1 := List.all_eq_true.mp ab_mls_ok q hq
  unfold ab_mq at h1
  rw [hr] at h1
  exact ab_wd_ok h1
theorem ab_kis_mem {oc i : Nat} {z : Int} (h : (ab_kis.any fun q => decide (q.1 = oc) && decide (q.2.1 = i) && decide (q.2.2.1 = z)) = true) : ab_r32 z ∧ Cond.constant (ab_own oc) i (Int32.ofInt z) ∈ ab_TB := by
  obtain ⟨q, hq, h⟩ := List.any_eq_true.mp h
  simp only [Bool.and_eq_true, decide_eq_true_eq] at h
  obtain ⟨⟨rfl, rfl⟩, rfl⟩ := h
  have h1 := List.all_eq_true.mp ab_kis_ok q hq
  simp only [Bool.and_eq_true, decide_eq_true_eq] at h1
  exact ⟨⟨h1.1.1, h1.1.2⟩, ab_wd_ok h1.2⟩
theorem ab_kls_mem {oc i : Nat} {z : Int} (h : (ab_kls.any fun q => decide (q.1 = oc) && decide (q.2.1 = i) && decide (q.2.2.1 = z)) = true) : ab_r64 z ∧ Cond.constantLong (ab_own oc) i (Int64.ofInt z) ∈ ab_TB := by
  obtain ⟨q, hq, h⟩ := List.any_eq_true.mp h
  simp only [Bool.and_eq_true, decide_eq_true_eq] at h
  obtain ⟨⟨rfl, rfl⟩, rfl⟩ := h
  have h1 := List.all_eq_true.mp ab_kls_ok q hq
  simp only [Bool.and_eq_true, decide_eq_true_eq] at h1
  exact ⟨⟨h1.1.1, h1.1.2⟩, ab_wd_ok h1.2⟩
theorem ab_q_ok {oc : Nat} {rt : Option FieldType} {nL : Nat} {pcs : List Nat} {pc : Nat} {op : Instr} {ex : List Nat} {z : Int} (h : ab_q oc rt nL pcs pc op ex z = true) : ab_ck ab_mt (ab_own oc) rt nL pcs pc op ex z := by
  cases op <;> first | trivial | skip
  case iconst n => simpa [ab_q, ab_ck, ab_r32] using h
  case bipush n => simpa [ab_q, ab_ck] using h
  case sipush n => simpa [ab_q, ab_ck] using h
  case ldc i => exact ab_kis_mem h
  case ldc_w i => exact ab_kis_mem h
  case ldc2_w i => exact ab_kls_mem h
  case istore n => simpa [ab_q, ab_ck] using h
  case istore_n n => simpa [ab_q, ab_ck] using h
  case astore n => simpa [ab_q, ab_ck] using h
  case astore_n n => simpa [ab_q, ab_ck] using h
  case lstore n => simpa [ab_q, ab_ck] using h
  case lstore_n n => simpa [ab_q, ab_ck] using h
  case iinc n c =>
    simp only [ab_q, Bool.and_eq_true, decide_eq_true_eq] at h
    exact ⟨h.1.1, h.1.2, h.2⟩
  case ifCond k off => exact ab_tq_ok h
  case if_icmp k off => exact ab_tq_ok h
  case goto off => exact ab_tq_ok h
  case tableswitch d lo hi offs =>
    simp only [ab_q, Bool.and_eq_true, decide_eq_true_eq] at h
    exact ⟨ab_tq_ok h.1.1.1, h.1.1.2, h.1.2, fun j b off h1 h2 => by
      have h3 := List.all_eq_true.mp h.2 j (List.mem_range.mpr (List.getElem?_eq_some_iff.mp h1).1)
      simp only [h1, h2] at h3
      exact ab_tq_ok h3⟩
  case lookupswitch d ps =>
    simp only [ab_q, Bool.and_eq_true, decide_eq_true_eq] at h
    exact ⟨ab_tq_ok h.1.1.1, h.1.1.2, h.1.2, fun j b q h1 h2 => by
      have h3 := List.all_eq_true.mp h.2 j (List.mem_range.mpr (List.getElem?_eq_some_iff.mp h1).1)
      simp only [h1, h2] at h3
      exact ab_tq_ok h3⟩
  case ireturn => simpa [ab_q, ab_ck] using h
  case lreturn => simpa [ab_q, ab_ck] using h
  case return_ => simpa [ab_q, ab_ck] using h
  case getfield i =>
    dsimp only [ab_q] at h
    split at h
    · rename_i ci k
      obtain ⟨C, T, N, h1, h2, h3⟩ := ab_fls_mem h
      exact ⟨ci, k, C, T, N, rfl, h1, h2, h3⟩
    · cases h
  case putfield i =>
    dsimp only [ab_q] at h
    split at h
    · rename_i ci k b
      rw [Bool.and_eq_true] at h
      obtain ⟨C, T, N, h1, h2, h3⟩ := ab_fls_mem h.1
      have h4 := h.2
      unfold ab_isb at h4
      rw [h1] at h4
      simp only [Bool.and_eq_true, Bool.or_eq_true, decide_eq_true_eq] at h4
      exact ⟨ci, k, b, C, T, N, rfl, h1, h2, h3, h4.1, h4.2⟩
    · cases h
  case getstatic i =>
    dsimp only [ab_q] at h
    obtain ⟨q, hq, h⟩ := List.any_eq_true.mp h
    simp only [Bool.and_eq_true, decide_eq_true_eq] at h
    obtain ⟨rfl, rfl⟩ := h
    exact ab_wd_ok (List.all_eq_true.mp ab_gst_ok q hq)
  case invokevirtual i =>
    dsimp only [ab_q] at h
    split at h
    · rename_i k n ci
      rw [Bool.and_eq_true] at h
      obtain ⟨h1, h2⟩ := h
      split at h2
      · rename_i r c e1 e2
        simp only [Bool.and_eq_true, decide_eq_true_eq] at h2
        exact ⟨k, n, ci, r, c, rfl, e1, h2.1.1, h2.1.2, ab_mls_mem h1 e1, e2, h2.2⟩
      · cases h2
    · cases h
  case invokestatic i =>
    dsimp only [ab_q] at h
    split at h
    · obtain ⟨q, hq, h⟩ := List.any_eq_true.mp h
      simp only [Bool.and_eq_true, decide_eq_true_eq] at h
      obtain ⟨rfl, rfl⟩ := h
      exact Or.inl ⟨rfl, ab_wd_ok (List.all_eq_true.mp ab_acs_ok q hq)⟩
    · obtain ⟨q, hq, h⟩ := List.any_eq_true.mp h
      simp only [Bool.and_eq_true, decide_eq_true_eq] at h
      obtain ⟨rfl, rfl⟩ := h
      exact Or.inr (Or.inl ⟨rfl, ab_wd_ok (List.all_eq_true.mp ab_mxs_ok q hq)⟩)
    · obtain ⟨q, hq, h⟩ := List.any_eq_true.mp h
      simp only [Bool.and_eq_true, decide_eq_true_eq] at h
      obtain ⟨rfl, rfl⟩ := h
      exact Or.inr (Or.inr (Or.inl ⟨rfl, ab_wd_ok (List.all_eq_true.mp ab_mns_ok q hq)⟩))
    · rename_i k n ci
      rw [Bool.and_eq_true] at h
      obtain ⟨h1, h2⟩ := h
      split at h2
      · rename_i r e1
        simp only [Bool.and_eq_true, decide_eq_true_eq] at h2
        exact Or.inr (Or.inr (Or.inr ⟨k, n, ci, r, rfl, e1, h2.1, h2.2, ab_mls_mem h1 e1⟩))
      · cases h2
    · cases h
def ab_qb (oc : Nat) (cc : ByteArray) (rt : Option FieldType) (nL : Nat) (pcs : List Nat) (nx : Nat) : Nat → List ab_I → Bool
  | pc, [] => decide (pcs[nx]? = some pc)
  | pc, i :: is => decide (i.1 = .athrow) || (match decode cc pc with
    | .ok (op, n) => decide (op = i.1) && (decide (ab_ln i.1 = 0) || decide (n = ab_ln i.1)) && ab_q oc rt nL pcs pc i.1 i.2.1 i.2.2 && (ab_stop i.1 || ab_qb oc cc rt nL pcs nx (pc + ab_ln i.1) is)
    | .error _ => false)
theorem ab_qb_ok {oc : Nat} {cc : ByteArray} {rt : Option FieldType} {nL : Nat} {pcs : List Nat} {nx : Nat} : ∀ (is : List ab_I) (pc : Nat), ab_qb oc cc rt nL pcs nx pc is = true → ab_ckb ab_mt (ab_own oc) cc rt nL pcs nx pc is := by
  intro is
  induction is with
  | nil => exact fun pc h => by simpa [ab_qb, ab_ckb] using h
  | cons i is ih =>
    intro pc h
    unfold ab_qb at h
    rw [Bool.or_eq_true] at h
    rcases h with h | h
    · exact Or.inl (of_decide_eq_true h)
    · refine Or.inr ?_
      split at h
      · rename_i op n e
        simp only [Bool.and_eq_true, Bool.or_eq_true, decide_eq_true_eq] at h
        obtain ⟨⟨⟨rfl, h2⟩, h3⟩, h4⟩ := h
        refine ⟨n, e, h2, ab_q_ok h3, ?_⟩
        rcases h4 with h4 | h4
        · exact Or.inl h4
        · exact Or.inr (ih _ h4)
      · cases h
def ab_qm (oc : Nat) (cc : ByteArray) (rt : Option FieldType) (nL : Nat) (pcs : List Nat) (bl : List (List ab_I)) : Bool := decide (pcs[0]? = some 0) && (List.range bl.length).all fun b => match bl[b]?, pcs[b]? with
  | some is, some pc => ab_qb oc cc rt nL pcs (b + 1) pc is
  | _, _ => false
theorem ab_qm_ok {oc : Nat} {cc : ByteArray} {rt : Option FieldType} {nL : Nat} {pcs : List Nat} {bl : List (List ab_I)} (h : ab_qm oc cc rt nL pcs bl = true) : ab_ckm ab_mt (ab_own oc) cc rt nL pcs bl := by
  unfold ab_qm at h
  rw [Bool.and_eq_true] at h
  refine ⟨of_decide_eq_true h.1, fun b is hb => ?_⟩
  have h1 := List.all_eq_true.mp h.2 b (List.mem_range.mpr (List.getElem?_eq_some_iff.mp hb).1)
  simp only [hb] at h1
  split at h1
  · rename_i is' pc e1 e2
    cases e1
    exact ⟨pc, e2, ab_qb_ok _ _ h1⟩
  · cases h1
end
section
/-! each printed body is its method's bytecode, by counting -/
set_option maxRecDepth 100000 in
theorem ck_0 : (ab_qm 7 mr_0.2.1 mr_0.2.2.2.1 mr_0.2.2.1 pc_0 bk_0 && ab_moq 0) = true := by decide +kernel
set_option maxRecDepth 100000 in
theorem ck_1 : (ab_qm 8 mr_1.2.1 mr_1.2.2.2.1 mr_1.2.2.1 pc_1 bk_1 && ab_moq 1) = true := by decide +kernel
set_option maxRecDepth 100000 in
theorem ck_2 : (ab_qm 10 mr_2.2.1 mr_2.2.2.2.1 mr_2.2.2.1 pc_2 bk_2 && ab_moq 2) = true := by decide +kernel
set_option maxRecDepth 100000 in
theorem ck_3 : (ab_qm 10 mr_3.2.1 mr_3.2.2.2.1 mr_3.2.2.1 pc_3 bk_3 && ab_moq 3) = true := by decide +kernel
set_option maxRecDepth 100000 in
theorem ck_4 : (ab_qm 10 mr_4.2.1 mr_4.2.2.2.1 mr_4.2.2.1 pc_4 bk_4 && ab_moq 4) = true := by decide +kernel
set_option maxRecDepth 100000 in
theorem ck_5 : (ab_qm 10 mr_5.2.1 mr_5.2.2.2.1 mr_5.2.2.1 pc_5 bk_5 && ab_moq 5) = true := by decide +kernel
set_option maxRecDepth 100000 in
theorem ck_6 : (ab_qm 0 mr_6.2.1 mr_6.2.2.2.1 mr_6.2.2.1 pc_6 bk_6 && ab_moq 6) = true := by decide +kernel
set_option maxRecDepth 100000 in
theorem ck_7 : (ab_qm 0 mr_7.2.1 mr_7.2.2.2.1 mr_7.2.2.1 pc_7 bk_7 && ab_moq 7) = true := by decide +kernel
set_option maxRecDepth 100000 in
theorem ck_8 : (ab_qm 0 mr_8.2.1 mr_8.2.2.2.1 mr_8.2.2.1 pc_8 bk_8 && ab_moq 8) = true := by decide +kernel
set_option maxRecDepth 100000 in
theorem ck_9 : (ab_qm 0 mr_9.2.1 mr_9.2.2.2.1 mr_9.2.2.1 pc_9 bk_9 && ab_moq 9) = true := by decide +kernel
set_option maxRecDepth 100000 in
theorem ck_10 : (ab_qm 0 mr_10.2.1 mr_10.2.2.2.1 mr_10.2.2.1 pc_10 bk_10 && ab_moq 10) = true := by decide +kernel
set_option maxRecDepth 100000 in
theorem ck_11 : (ab_qm 0 mr_11.2.1 mr_11.2.2.2.1 mr_11.2.2.1 pc_11 bk_11 && ab_moq 11) = true := by decide +kernel
set_option maxRecDepth 100000 in
theorem ck_12 : (ab_qm 0 mr_12.2.1 mr_12.2.2.2.1 mr_12.2.2.1 pc_12 bk_12 && ab_moq 12) = true := by decide +kernel
set_option maxRecDepth 100000 in
theorem ck_13 : (ab_qm 0 mr_13.2.1 mr_13.2.2.2.1 mr_13.2.2.1 pc_13 bk_13 && ab_moq 13) = true := by decide +kernel
set_option maxRecDepth 100000 in
theorem ck_14 : (ab_qm 0 mr_14.2.1 mr_14.2.2.2.1 mr_14.2.2.1 pc_14 bk_14 && ab_moq 14) = true := by decide +kernel
set_option maxRecDepth 100000 in
theorem ck_15 : (ab_qm 0 mr_15.2.1 mr_15.2.2.2.1 mr_15.2.2.1 pc_15 bk_15 && ab_moq 15) = true := by decide +kernel
set_option maxRecDepth 100000 in
theorem ck_16 : (ab_qm 0 mr_16.2.1 mr_16.2.2.2.1 mr_16.2.2.1 pc_16 bk_16 && ab_moq 16) = true := by decide +kernel
set_option maxRecDepth 100000 in
theorem ck_17 : (ab_qm 0 mr_17.2.1 mr_17.2.2.2.1 mr_17.2.2.1 pc_17 bk_17 && ab_moq 17) = true := by decide +kernel
set_option maxRecDepth 100000 in
theorem ck_18 : (ab_qm 0 mr_18.2.1 mr_18.2.2.2.1 mr_18.2.2.1 pc_18 bk_18 && ab_moq 18) = true := by decide +kernel
set_option maxRecDepth 100000 in
theorem ck_19 : (ab_qm 0 mr_19.2.1 mr_19.2.2.2.1 mr_19.2.2.1 pc_19 bk_19 && ab_moq 19) = true := by decide +kernel
set_option maxRecDepth 100000 in
theorem ck_20 : (ab_qm 0 mr_20.2.1 mr_20.2.2.2.1 mr_20.2.2.1 pc_20 bk_20 && ab_moq 20) = true := by decide +kernel
set_option maxRecDepth 100000 in
theorem ck_21 : (ab_qm 0 mr_21.2.1 mr_21.2.2.2.1 mr_21.2.2.1 pc_21 bk_21 && ab_moq 21) = true := by decide +kernel
set_option maxRecDepth 100000 in
theorem ck_22 : (ab_qm 0 mr_22.2.1 mr_22.2.2.2.1 mr_22.2.2.1 pc_22 bk_22 && ab_moq 22) = true := by decide +kernel
set_option maxRecDepth 100000 in
theorem ck_23 : (ab_qm 1 mr_23.2.1 mr_23.2.2.2.1 mr_23.2.2.1 pc_23 bk_23 && ab_moq 23) = true := by decide +kernel
set_option maxRecDepth 100000 in
theorem ck_24 : (ab_qm 1 mr_24.2.1 mr_24.2.2.2.1 mr_24.2.2.1 pc_24 bk_24 && ab_moq 24) = true := by decide +kernel
set_option maxRecDepth 100000 in
theorem ck_25 : (ab_qm 1 mr_25.2.1 mr_25.2.2.2.1 mr_25.2.2.1 pc_25 bk_25 && ab_moq 25) = true := by decide +kernel
set_option maxRecDepth 100000 in
theorem ck_26 : (ab_qm 2 mr_26.2.1 mr_26.2.2.2.1 mr_26.2.2.1 pc_26 bk_26 && ab_moq 26) = true := by decide +kernel
set_option maxRecDepth 100000 in
theorem ck_27 : (ab_qm 2 mr_27.2.1 mr_27.2.2.2.1 mr_27.2.2.1 pc_27 bk_27 && ab_moq 27) = true := by decide +kernel
set_option maxRecDepth 100000 in
theorem ck_28 : (ab_qm 2 mr_28.2.1 mr_28.2.2.2.1 mr_28.2.2.1 pc_28 bk_28 && ab_moq 28) = true := by decide +kernel
set_option maxRecDepth 100000 in
theorem ck_29 : (ab_qm 2 mr_29.2.1 mr_29.2.2.2.1 mr_29.2.2.1 pc_29 bk_29 && ab_moq 29) = true := by decide +kernel
set_option maxRecDepth 100000 in
theorem ck_30 : (ab_qm 3 mr_30.2.1 mr_30.2.2.2.1 mr_30.2.2.1 pc_30 bk_30 && ab_moq 30) = true := by decide +kernel
set_option maxRecDepth 100000 in
theorem ck_31 : (ab_qm 4 mr_31.2.1 mr_31.2.2.2.1 mr_31.2.2.1 pc_31 bk_31 && ab_moq 31) = true := by decide +kernel
set_option maxRecDepth 100000 in
theorem ck_32 : (ab_qm 4 mr_32.2.1 mr_32.2.2.2.1 mr_32.2.2.1 pc_32 bk_32 && ab_moq 32) = true := by decide +kernel
set_option maxRecDepth 100000 in
theorem ck_33 : (ab_qm 4 mr_33.2.1 mr_33.2.2.2.1 mr_33.2.2.1 pc_33 bk_33 && ab_moq 33) = true := by decide +kernel
set_option maxRecDepth 100000 in
theorem ck_34 : (ab_qm 4 mr_34.2.1 mr_34.2.2.2.1 mr_34.2.2.1 pc_34 bk_34 && ab_moq 34) = true := by decide +kernel
set_option maxRecDepth 100000 in
theorem ck_35 : (ab_qm 4 mr_35.2.1 mr_35.2.2.2.1 mr_35.2.2.1 pc_35 bk_35 && ab_moq 35) = true := by decide +kernel
set_option maxRecDepth 100000 in
theorem ck_36 : (ab_qm 4 mr_36.2.1 mr_36.2.2.2.1 mr_36.2.2.1 pc_36 bk_36 && ab_moq 36) = true := by decide +kernel
set_option maxRecDepth 100000 in
theorem ck_37 : (ab_qm 4 mr_37.2.1 mr_37.2.2.2.1 mr_37.2.2.1 pc_37 bk_37 && ab_moq 37) = true := by decide +kernel
set_option maxRecDepth 100000 in
theorem ck_38 : (ab_qm 4 mr_38.2.1 mr_38.2.2.2.1 mr_38.2.2.1 pc_38 bk_38 && ab_moq 38) = true := by decide +kernel
set_option maxRecDepth 100000 in
theorem ck_39 : (ab_qm 4 mr_39.2.1 mr_39.2.2.2.1 mr_39.2.2.1 pc_39 bk_39 && ab_moq 39) = true := by decide +kernel
set_option maxRecDepth 100000 in
theorem ck_40 : (ab_qm 4 mr_40.2.1 mr_40.2.2.2.1 mr_40.2.2.1 pc_40 bk_40 && ab_moq 40) = true := by decide +kernel
set_option maxRecDepth 100000 in
theorem ck_41 : (ab_qm 4 mr_41.2.1 mr_41.2.2.2.1 mr_41.2.2.1 pc_41 bk_41 && ab_moq 41) = true := by decide +kernel
set_option maxRecDepth 100000 in
theorem ck_42 : (ab_qm 4 mr_42.2.1 mr_42.2.2.2.1 mr_42.2.2.1 pc_42 bk_42 && ab_moq 42) = true := by decide +kernel
set_option maxRecDepth 100000 in
theorem ck_43 : (ab_qm 4 mr_43.2.1 mr_43.2.2.2.1 mr_43.2.2.1 pc_43 bk_43 && ab_moq 43) = true := by decide +kernel
set_option maxRecDepth 100000 in
theorem ck_44 : (ab_qm 4 mr_44.2.1 mr_44.2.2.2.1 mr_44.2.2.1 pc_44 bk_44 && ab_moq 44) = true := by decide +kernel
set_option maxRecDepth 100000 in
theorem ck_45 : (ab_qm 4 mr_45.2.1 mr_45.2.2.2.1 mr_45.2.2.1 pc_45 bk_45 && ab_moq 45) = true := by decide +kernel
set_option maxRecDepth 100000 in
theorem ck_46 : (ab_qm 4 mr_46.2.1 mr_46.2.2.2.1 mr_46.2.2.1 pc_46 bk_46 && ab_moq 46) = true := by decide +kernel
set_option maxRecDepth 100000 in
theorem ck_47 : (ab_qm 4 mr_47.2.1 mr_47.2.2.2.1 mr_47.2.2.1 pc_47 bk_47 && ab_moq 47) = true := by decide +kernel
set_option maxRecDepth 100000 in
theorem ck_48 : (ab_qm 4 mr_48.2.1 mr_48.2.2.2.1 mr_48.2.2.1 pc_48 bk_48 && ab_moq 48) = true := by decide +kernel
set_option maxRecDepth 100000 in
theorem ck_49 : (ab_qm 4 mr_49.2.1 mr_49.2.2.2.1 mr_49.2.2.1 pc_49 bk_49 && ab_moq 49) = true := by decide +kernel
end
section
/-! each printed body is its method's bytecode, by counting -/
set_option maxRecDepth 100000 in
theorem ck_50 : (ab_qm 4 mr_50.2.1 mr_50.2.2.2.1 mr_50.2.2.1 pc_50 bk_50 && ab_moq 50) = true := by decide +kernel
set_option maxRecDepth 100000 in
theorem ck_51 : (ab_qm 4 mr_51.2.1 mr_51.2.2.2.1 mr_51.2.2.1 pc_51 bk_51 && ab_moq 51) = true := by decide +kernel
set_option maxRecDepth 100000 in
theorem ck_52 : (ab_qm 4 mr_52.2.1 mr_52.2.2.2.1 mr_52.2.2.1 pc_52 bk_52 && ab_moq 52) = true := by decide +kernel
set_option maxRecDepth 100000 in
theorem ck_53 : (ab_qm 4 mr_53.2.1 mr_53.2.2.2.1 mr_53.2.2.1 pc_53 bk_53 && ab_moq 53) = true := by decide +kernel
set_option maxRecDepth 100000 in
theorem ck_54 : (ab_qm 4 mr_54.2.1 mr_54.2.2.2.1 mr_54.2.2.1 pc_54 bk_54 && ab_moq 54) = true := by decide +kernel
set_option maxRecDepth 100000 in
theorem ck_55 : (ab_qm 4 mr_55.2.1 mr_55.2.2.2.1 mr_55.2.2.1 pc_55 bk_55 && ab_moq 55) = true := by decide +kernel
set_option maxRecDepth 100000 in
theorem ck_56 : (ab_qm 4 mr_56.2.1 mr_56.2.2.2.1 mr_56.2.2.1 pc_56 bk_56 && ab_moq 56) = true := by decide +kernel
set_option maxRecDepth 100000 in
theorem ck_57 : (ab_qm 4 mr_57.2.1 mr_57.2.2.2.1 mr_57.2.2.1 pc_57 bk_57 && ab_moq 57) = true := by decide +kernel
set_option maxRecDepth 100000 in
theorem ck_58 : (ab_qm 4 mr_58.2.1 mr_58.2.2.2.1 mr_58.2.2.1 pc_58 bk_58 && ab_moq 58) = true := by decide +kernel
set_option maxRecDepth 100000 in
theorem ck_59 : (ab_qm 4 mr_59.2.1 mr_59.2.2.2.1 mr_59.2.2.1 pc_59 bk_59 && ab_moq 59) = true := by decide +kernel
set_option maxRecDepth 100000 in
theorem ck_60 : (ab_qm 4 mr_60.2.1 mr_60.2.2.2.1 mr_60.2.2.1 pc_60 bk_60 && ab_moq 60) = true := by decide +kernel
set_option maxRecDepth 100000 in
theorem ck_61 : (ab_qm 4 mr_61.2.1 mr_61.2.2.2.1 mr_61.2.2.1 pc_61 bk_61 && ab_moq 61) = true := by decide +kernel
set_option maxRecDepth 100000 in
theorem ck_62 : (ab_qm 4 mr_62.2.1 mr_62.2.2.2.1 mr_62.2.2.1 pc_62 bk_62 && ab_moq 62) = true := by decide +kernel
set_option maxRecDepth 100000 in
theorem ck_63 : (ab_qm 4 mr_63.2.1 mr_63.2.2.2.1 mr_63.2.2.1 pc_63 bk_63 && ab_moq 63) = true := by decide +kernel
set_option maxRecDepth 100000 in
theorem ck_64 : (ab_qm 4 mr_64.2.1 mr_64.2.2.2.1 mr_64.2.2.1 pc_64 bk_64 && ab_moq 64) = true := by decide +kernel
set_option maxRecDepth 100000 in
theorem ck_65 : (ab_qm 4 mr_65.2.1 mr_65.2.2.2.1 mr_65.2.2.1 pc_65 bk_65 && ab_moq 65) = true := by decide +kernel
set_option maxRecDepth 100000 in
theorem ck_66 : (ab_qm 4 mr_66.2.1 mr_66.2.2.2.1 mr_66.2.2.1 pc_66 bk_66 && ab_moq 66) = true := by decide +kernel
set_option maxRecDepth 100000 in
theorem ck_67 : (ab_qm 4 mr_67.2.1 mr_67.2.2.2.1 mr_67.2.2.1 pc_67 bk_67 && ab_moq 67) = true := by decide +kernel
set_option maxRecDepth 100000 in
theorem ck_68 : (ab_qm 4 mr_68.2.1 mr_68.2.2.2.1 mr_68.2.2.1 pc_68 bk_68 && ab_moq 68) = true := by decide +kernel
set_option maxRecDepth 100000 in
theorem ck_69 : (ab_qm 4 mr_69.2.1 mr_69.2.2.2.1 mr_69.2.2.1 pc_69 bk_69 && ab_moq 69) = true := by decide +kernel
set_option maxRecDepth 100000 in
theorem ck_70 : (ab_qm 4 mr_70.2.1 mr_70.2.2.2.1 mr_70.2.2.1 pc_70 bk_70 && ab_moq 70) = true := by decide +kernel
set_option maxRecDepth 100000 in
theorem ck_71 : (ab_qm 4 mr_71.2.1 mr_71.2.2.2.1 mr_71.2.2.1 pc_71 bk_71 && ab_moq 71) = true := by decide +kernel
set_option maxRecDepth 100000 in
theorem ck_72 : (ab_qm 4 mr_72.2.1 mr_72.2.2.2.1 mr_72.2.2.1 pc_72 bk_72 && ab_moq 72) = true := by decide +kernel
set_option maxRecDepth 100000 in
theorem ck_73 : (ab_qm 4 mr_73.2.1 mr_73.2.2.2.1 mr_73.2.2.1 pc_73 bk_73 && ab_moq 73) = true := by decide +kernel
set_option maxRecDepth 100000 in
theorem ck_74 : (ab_qm 4 mr_74.2.1 mr_74.2.2.2.1 mr_74.2.2.1 pc_74 bk_74 && ab_moq 74) = true := by decide +kernel
set_option maxRecDepth 100000 in
theorem ck_75 : (ab_qm 4 mr_75.2.1 mr_75.2.2.2.1 mr_75.2.2.1 pc_75 bk_75 && ab_moq 75) = true := by decide +kernel
set_option maxRecDepth 100000 in
theorem ck_76 : (ab_qm 4 mr_76.2.1 mr_76.2.2.2.1 mr_76.2.2.1 pc_76 bk_76 && ab_moq 76) = true := by decide +kernel
set_option maxRecDepth 100000 in
theorem ck_77 : (ab_qm 4 mr_77.2.1 mr_77.2.2.2.1 mr_77.2.2.1 pc_77 bk_77 && ab_moq 77) = true := by decide +kernel
set_option maxRecDepth 100000 in
theorem ck_78 : (ab_qm 4 mr_78.2.1 mr_78.2.2.2.1 mr_78.2.2.1 pc_78 bk_78 && ab_moq 78) = true := by decide +kernel
set_option maxRecDepth 100000 in
theorem ck_79 : (ab_qm 4 mr_79.2.1 mr_79.2.2.2.1 mr_79.2.2.1 pc_79 bk_79 && ab_moq 79) = true := by decide +kernel
set_option maxRecDepth 100000 in
theorem ck_80 : (ab_qm 4 mr_80.2.1 mr_80.2.2.2.1 mr_80.2.2.1 pc_80 bk_80 && ab_moq 80) = true := by decide +kernel
set_option maxRecDepth 100000 in
theorem ck_81 : (ab_qm 4 mr_81.2.1 mr_81.2.2.2.1 mr_81.2.2.1 pc_81 bk_81 && ab_moq 81) = true := by decide +kernel
set_option maxRecDepth 100000 in
theorem ck_82 : (ab_qm 4 mr_82.2.1 mr_82.2.2.2.1 mr_82.2.2.1 pc_82 bk_82 && ab_moq 82) = true := by decide +kernel
set_option maxRecDepth 100000 in
theorem ck_83 : (ab_qm 4 mr_83.2.1 mr_83.2.2.2.1 mr_83.2.2.1 pc_83 bk_83 && ab_moq 83) = true := by decide +kernel
set_option maxRecDepth 100000 in
theorem ck_84 : (ab_qm 4 mr_84.2.1 mr_84.2.2.2.1 mr_84.2.2.1 pc_84 bk_84 && ab_moq 84) = true := by decide +kernel
set_option maxRecDepth 100000 in
theorem ck_85 : (ab_qm 4 mr_85.2.1 mr_85.2.2.2.1 mr_85.2.2.1 pc_85 bk_85 && ab_moq 85) = true := by decide +kernel
set_option maxRecDepth 100000 in
theorem ck_86 : (ab_qm 4 mr_86.2.1 mr_86.2.2.2.1 mr_86.2.2.1 pc_86 bk_86 && ab_moq 86) = true := by decide +kernel
set_option maxRecDepth 100000 in
theorem ck_87 : (ab_qm 4 mr_87.2.1 mr_87.2.2.2.1 mr_87.2.2.1 pc_87 bk_87 && ab_moq 87) = true := by decide +kernel
set_option maxRecDepth 100000 in
theorem ck_88 : (ab_qm 4 mr_88.2.1 mr_88.2.2.2.1 mr_88.2.2.1 pc_88 bk_88 && ab_moq 88) = true := by decide +kernel
set_option maxRecDepth 100000 in
theorem ck_89 : (ab_qm 4 mr_89.2.1 mr_89.2.2.2.1 mr_89.2.2.1 pc_89 bk_89 && ab_moq 89) = true := by decide +kernel
set_option maxRecDepth 100000 in
theorem ck_90 : (ab_qm 4 mr_90.2.1 mr_90.2.2.2.1 mr_90.2.2.1 pc_90 bk_90 && ab_moq 90) = true := by decide +kernel
set_option maxRecDepth 100000 in
theorem ck_91 : (ab_qm 4 mr_91.2.1 mr_91.2.2.2.1 mr_91.2.2.1 pc_91 bk_91 && ab_moq 91) = true := by decide +kernel
set_option maxRecDepth 100000 in
theorem ck_92 : (ab_qm 4 mr_92.2.1 mr_92.2.2.2.1 mr_92.2.2.1 pc_92 bk_92 && ab_moq 92) = true := by decide +kernel
set_option maxRecDepth 100000 in
theorem ck_93 : (ab_qm 4 mr_93.2.1 mr_93.2.2.2.1 mr_93.2.2.1 pc_93 bk_93 && ab_moq 93) = true := by decide +kernel
set_option maxRecDepth 100000 in
theorem ck_94 : (ab_qm 4 mr_94.2.1 mr_94.2.2.2.1 mr_94.2.2.1 pc_94 bk_94 && ab_moq 94) = true := by decide +kernel
set_option maxRecDepth 100000 in
theorem ck_95 : (ab_qm 4 mr_95.2.1 mr_95.2.2.2.1 mr_95.2.2.1 pc_95 bk_95 && ab_moq 95) = true := by decide +kernel
set_option maxRecDepth 100000 in
theorem ck_96 : (ab_qm 4 mr_96.2.1 mr_96.2.2.2.1 mr_96.2.2.1 pc_96 bk_96 && ab_moq 96) = true := by decide +kernel
set_option maxRecDepth 100000 in
theorem ck_97 : (ab_qm 4 mr_97.2.1 mr_97.2.2.2.1 mr_97.2.2.1 pc_97 bk_97 && ab_moq 97) = true := by decide +kernel
set_option maxRecDepth 100000 in
theorem ck_98 : (ab_qm 4 mr_98.2.1 mr_98.2.2.2.1 mr_98.2.2.1 pc_98 bk_98 && ab_moq 98) = true := by decide +kernel
set_option maxRecDepth 100000 in
theorem ck_99 : (ab_qm 4 mr_99.2.1 mr_99.2.2.2.1 mr_99.2.2.1 pc_99 bk_99 && ab_moq 99) = true := by decide +kernel
end
section
/-! each printed body is its method's bytecode, by counting -/
set_option maxRecDepth 100000 in
theorem ck_100 : (ab_qm 4 mr_100.2.1 mr_100.2.2.2.1 mr_100.2.2.1 pc_100 bk_100 && ab_moq 100) = true := by decide +kernel
set_option maxRecDepth 100000 in
theorem ck_101 : (ab_qm 5 mr_101.2.1 mr_101.2.2.2.1 mr_101.2.2.1 pc_101 bk_101 && ab_moq 101) = true := by decide +kernel
set_option maxRecDepth 100000 in
theorem ck_102 : (ab_qm 5 mr_102.2.1 mr_102.2.2.2.1 mr_102.2.2.1 pc_102 bk_102 && ab_moq 102) = true := by decide +kernel
set_option maxRecDepth 100000 in
theorem ck_103 : (ab_qm 5 mr_103.2.1 mr_103.2.2.2.1 mr_103.2.2.1 pc_103 bk_103 && ab_moq 103) = true := by decide +kernel
set_option maxRecDepth 100000 in
theorem ck_104 : (ab_qm 5 mr_104.2.1 mr_104.2.2.2.1 mr_104.2.2.1 pc_104 bk_104 && ab_moq 104) = true := by decide +kernel
set_option maxRecDepth 100000 in
theorem ck_105 : (ab_qm 5 mr_105.2.1 mr_105.2.2.2.1 mr_105.2.2.1 pc_105 bk_105 && ab_moq 105) = true := by decide +kernel
set_option maxRecDepth 100000 in
theorem ck_106 : (ab_qm 5 mr_106.2.1 mr_106.2.2.2.1 mr_106.2.2.1 pc_106 bk_106 && ab_moq 106) = true := by decide +kernel
set_option maxRecDepth 100000 in
theorem ck_107 : (ab_qm 5 mr_107.2.1 mr_107.2.2.2.1 mr_107.2.2.1 pc_107 bk_107 && ab_moq 107) = true := by decide +kernel
set_option maxRecDepth 100000 in
theorem ck_108 : (ab_qm 5 mr_108.2.1 mr_108.2.2.2.1 mr_108.2.2.1 pc_108 bk_108 && ab_moq 108) = true := by decide +kernel
set_option maxRecDepth 100000 in
theorem ck_109 : (ab_qm 5 mr_109.2.1 mr_109.2.2.2.1 mr_109.2.2.1 pc_109 bk_109 && ab_moq 109) = true := by decide +kernel
set_option maxRecDepth 100000 in
theorem ck_110 : (ab_qm 5 mr_110.2.1 mr_110.2.2.2.1 mr_110.2.2.1 pc_110 bk_110 && ab_moq 110) = true := by decide +kernel
set_option maxRecDepth 100000 in
theorem ck_111 : (ab_qm 5 mr_111.2.1 mr_111.2.2.2.1 mr_111.2.2.1 pc_111 bk_111 && ab_moq 111) = true := by decide +kernel
set_option maxRecDepth 100000 in
theorem ck_112 : (ab_qm 5 mr_112.2.1 mr_112.2.2.2.1 mr_112.2.2.1 pc_112 bk_112 && ab_moq 112) = true := by decide +kernel
set_option maxRecDepth 100000 in
theorem ck_113 : (ab_qm 5 mr_113.2.1 mr_113.2.2.2.1 mr_113.2.2.1 pc_113 bk_113 && ab_moq 113) = true := by decide +kernel
set_option maxRecDepth 100000 in
theorem ck_114 : (ab_qm 5 mr_114.2.1 mr_114.2.2.2.1 mr_114.2.2.1 pc_114 bk_114 && ab_moq 114) = true := by decide +kernel
set_option maxRecDepth 100000 in
theorem ck_115 : (ab_qm 5 mr_115.2.1 mr_115.2.2.2.1 mr_115.2.2.1 pc_115 bk_115 && ab_moq 115) = true := by decide +kernel
set_option maxRecDepth 100000 in
theorem ck_116 : (ab_qm 5 mr_116.2.1 mr_116.2.2.2.1 mr_116.2.2.1 pc_116 bk_116 && ab_moq 116) = true := by decide +kernel
set_option maxRecDepth 100000 in
theorem ck_117 : (ab_qm 5 mr_117.2.1 mr_117.2.2.2.1 mr_117.2.2.1 pc_117 bk_117 && ab_moq 117) = true := by decide +kernel
set_option maxRecDepth 100000 in
theorem ck_118 : (ab_qm 5 mr_118.2.1 mr_118.2.2.2.1 mr_118.2.2.1 pc_118 bk_118 && ab_moq 118) = true := by decide +kernel
set_option maxRecDepth 100000 in
theorem ck_119 : (ab_qm 5 mr_119.2.1 mr_119.2.2.2.1 mr_119.2.2.1 pc_119 bk_119 && ab_moq 119) = true := by decide +kernel
set_option maxRecDepth 100000 in
theorem ck_120 : (ab_qm 5 mr_120.2.1 mr_120.2.2.2.1 mr_120.2.2.1 pc_120 bk_120 && ab_moq 120) = true := by decide +kernel
set_option maxRecDepth 100000 in
theorem ck_121 : (ab_qm 5 mr_121.2.1 mr_121.2.2.2.1 mr_121.2.2.1 pc_121 bk_121 && ab_moq 121) = true := by decide +kernel
set_option maxRecDepth 100000 in
theorem ck_122 : (ab_qm 5 mr_122.2.1 mr_122.2.2.2.1 mr_122.2.2.1 pc_122 bk_122 && ab_moq 122) = true := by decide +kernel
set_option maxRecDepth 100000 in
theorem ck_123 : (ab_qm 5 mr_123.2.1 mr_123.2.2.2.1 mr_123.2.2.1 pc_123 bk_123 && ab_moq 123) = true := by decide +kernel
set_option maxRecDepth 100000 in
theorem ck_124 : (ab_qm 5 mr_124.2.1 mr_124.2.2.2.1 mr_124.2.2.1 pc_124 bk_124 && ab_moq 124) = true := by decide +kernel
set_option maxRecDepth 100000 in
theorem ck_125 : (ab_qm 5 mr_125.2.1 mr_125.2.2.2.1 mr_125.2.2.1 pc_125 bk_125 && ab_moq 125) = true := by decide +kernel
set_option maxRecDepth 100000 in
theorem ck_126 : (ab_qm 5 mr_126.2.1 mr_126.2.2.2.1 mr_126.2.2.1 pc_126 bk_126 && ab_moq 126) = true := by decide +kernel
set_option maxRecDepth 100000 in
theorem ck_127 : (ab_qm 5 mr_127.2.1 mr_127.2.2.2.1 mr_127.2.2.1 pc_127 bk_127 && ab_moq 127) = true := by decide +kernel
set_option maxRecDepth 100000 in
theorem ck_128 : (ab_qm 5 mr_128.2.1 mr_128.2.2.2.1 mr_128.2.2.1 pc_128 bk_128 && ab_moq 128) = true := by decide +kernel
set_option maxRecDepth 100000 in
theorem ck_129 : (ab_qm 5 mr_129.2.1 mr_129.2.2.2.1 mr_129.2.2.1 pc_129 bk_129 && ab_moq 129) = true := by decide +kernel
set_option maxRecDepth 100000 in
theorem ck_130 : (ab_qm 5 mr_130.2.1 mr_130.2.2.2.1 mr_130.2.2.1 pc_130 bk_130 && ab_moq 130) = true := by decide +kernel
set_option maxRecDepth 100000 in
theorem ck_131 : (ab_qm 5 mr_131.2.1 mr_131.2.2.2.1 mr_131.2.2.1 pc_131 bk_131 && ab_moq 131) = true := by decide +kernel
set_option maxRecDepth 100000 in
theorem ck_132 : (ab_qm 5 mr_132.2.1 mr_132.2.2.2.1 mr_132.2.2.1 pc_132 bk_132 && ab_moq 132) = true := by decide +kernel
set_option maxRecDepth 100000 in
theorem ck_133 : (ab_qm 5 mr_133.2.1 mr_133.2.2.2.1 mr_133.2.2.1 pc_133 bk_133 && ab_moq 133) = true := by decide +kernel
set_option maxRecDepth 100000 in
theorem ck_134 : (ab_qm 5 mr_134.2.1 mr_134.2.2.2.1 mr_134.2.2.1 pc_134 bk_134 && ab_moq 134) = true := by decide +kernel
set_option maxRecDepth 100000 in
theorem ck_135 : (ab_qm 5 mr_135.2.1 mr_135.2.2.2.1 mr_135.2.2.1 pc_135 bk_135 && ab_moq 135) = true := by decide +kernel
set_option maxRecDepth 100000 in
theorem ck_136 : (ab_qm 5 mr_136.2.1 mr_136.2.2.2.1 mr_136.2.2.1 pc_136 bk_136 && ab_moq 136) = true := by decide +kernel
set_option maxRecDepth 100000 in
theorem ck_137 : (ab_qm 5 mr_137.2.1 mr_137.2.2.2.1 mr_137.2.2.1 pc_137 bk_137 && ab_moq 137) = true := by decide +kernel
set_option maxRecDepth 100000 in
theorem ck_138 : (ab_qm 5 mr_138.2.1 mr_138.2.2.2.1 mr_138.2.2.1 pc_138 bk_138 && ab_moq 138) = true := by decide +kernel
set_option maxRecDepth 100000 in
theorem ck_139 : (ab_qm 5 mr_139.2.1 mr_139.2.2.2.1 mr_139.2.2.1 pc_139 bk_139 && ab_moq 139) = true := by decide +kernel
set_option maxRecDepth 100000 in
theorem ck_140 : (ab_qm 5 mr_140.2.1 mr_140.2.2.2.1 mr_140.2.2.1 pc_140 bk_140 && ab_moq 140) = true := by decide +kernel
set_option maxRecDepth 100000 in
theorem ck_141 : (ab_qm 5 mr_141.2.1 mr_141.2.2.2.1 mr_141.2.2.1 pc_141 bk_141 && ab_moq 141) = true := by decide +kernel
set_option maxRecDepth 100000 in
theorem ck_142 : (ab_qm 5 mr_142.2.1 mr_142.2.2.2.1 mr_142.2.2.1 pc_142 bk_142 && ab_moq 142) = true := by decide +kernel
set_option maxRecDepth 100000 in
theorem ck_143 : (ab_qm 5 mr_143.2.1 mr_143.2.2.2.1 mr_143.2.2.1 pc_143 bk_143 && ab_moq 143) = true := by decide +kernel
set_option maxRecDepth 100000 in
theorem ck_144 : (ab_qm 5 mr_144.2.1 mr_144.2.2.2.1 mr_144.2.2.1 pc_144 bk_144 && ab_moq 144) = true := by decide +kernel
set_option maxRecDepth 100000 in
theorem ck_145 : (ab_qm 5 mr_145.2.1 mr_145.2.2.2.1 mr_145.2.2.1 pc_145 bk_145 && ab_moq 145) = true := by decide +kernel
set_option maxRecDepth 100000 in
theorem ck_146 : (ab_qm 5 mr_146.2.1 mr_146.2.2.2.1 mr_146.2.2.1 pc_146 bk_146 && ab_moq 146) = true := by decide +kernel
set_option maxRecDepth 100000 in
theorem ck_147 : (ab_qm 5 mr_147.2.1 mr_147.2.2.2.1 mr_147.2.2.1 pc_147 bk_147 && ab_moq 147) = true := by decide +kernel
set_option maxRecDepth 100000 in
theorem ck_148 : (ab_qm 5 mr_148.2.1 mr_148.2.2.2.1 mr_148.2.2.1 pc_148 bk_148 && ab_moq 148) = true := by decide +kernel
set_option maxRecDepth 100000 in
theorem ck_149 : (ab_qm 5 mr_149.2.1 mr_149.2.2.2.1 mr_149.2.2.1 pc_149 bk_149 && ab_moq 149) = true := by decide +kernel
end
section
/-! each printed body is its method's bytecode, by counting -/
set_option maxRecDepth 100000 in
theorem ck_150 : (ab_qm 5 mr_150.2.1 mr_150.2.2.2.1 mr_150.2.2.1 pc_150 bk_150 && ab_moq 150) = true := by decide +kernel
set_option maxRecDepth 100000 in
theorem ck_151 : (ab_qm 5 mr_151.2.1 mr_151.2.2.2.1 mr_151.2.2.1 pc_151 bk_151 && ab_moq 151) = true := by decide +kernel
set_option maxRecDepth 100000 in
theorem ck_152 : (ab_qm 5 mr_152.2.1 mr_152.2.2.2.1 mr_152.2.2.1 pc_152 bk_152 && ab_moq 152) = true := by decide +kernel
set_option maxRecDepth 100000 in
theorem ck_153 : (ab_qm 5 mr_153.2.1 mr_153.2.2.2.1 mr_153.2.2.1 pc_153 bk_153 && ab_moq 153) = true := by decide +kernel
set_option maxRecDepth 100000 in
theorem ck_154 : (ab_qm 5 mr_154.2.1 mr_154.2.2.2.1 mr_154.2.2.1 pc_154 bk_154 && ab_moq 154) = true := by decide +kernel
set_option maxRecDepth 100000 in
theorem ck_155 : (ab_qm 5 mr_155.2.1 mr_155.2.2.2.1 mr_155.2.2.1 pc_155 bk_155 && ab_moq 155) = true := by decide +kernel
set_option maxRecDepth 100000 in
theorem ck_156 : (ab_qm 5 mr_156.2.1 mr_156.2.2.2.1 mr_156.2.2.1 pc_156 bk_156 && ab_moq 156) = true := by decide +kernel
set_option maxRecDepth 100000 in
theorem ck_157 : (ab_qm 5 mr_157.2.1 mr_157.2.2.2.1 mr_157.2.2.1 pc_157 bk_157 && ab_moq 157) = true := by decide +kernel
set_option maxRecDepth 100000 in
theorem ck_158 : (ab_qm 5 mr_158.2.1 mr_158.2.2.2.1 mr_158.2.2.1 pc_158 bk_158 && ab_moq 158) = true := by decide +kernel
set_option maxRecDepth 100000 in
theorem ck_159 : (ab_qm 5 mr_159.2.1 mr_159.2.2.2.1 mr_159.2.2.1 pc_159 bk_159 && ab_moq 159) = true := by decide +kernel
set_option maxRecDepth 100000 in
theorem ck_160 : (ab_qm 5 mr_160.2.1 mr_160.2.2.2.1 mr_160.2.2.1 pc_160 bk_160 && ab_moq 160) = true := by decide +kernel
set_option maxRecDepth 100000 in
theorem ck_161 : (ab_qm 5 mr_161.2.1 mr_161.2.2.2.1 mr_161.2.2.1 pc_161 bk_161 && ab_moq 161) = true := by decide +kernel
set_option maxRecDepth 100000 in
theorem ck_162 : (ab_qm 5 mr_162.2.1 mr_162.2.2.2.1 mr_162.2.2.1 pc_162 bk_162 && ab_moq 162) = true := by decide +kernel
set_option maxRecDepth 100000 in
theorem ck_163 : (ab_qm 5 mr_163.2.1 mr_163.2.2.2.1 mr_163.2.2.1 pc_163 bk_163 && ab_moq 163) = true := by decide +kernel
set_option maxRecDepth 100000 in
theorem ck_164 : (ab_qm 5 mr_164.2.1 mr_164.2.2.2.1 mr_164.2.2.1 pc_164 bk_164 && ab_moq 164) = true := by decide +kernel
set_option maxRecDepth 100000 in
theorem ck_165 : (ab_qm 5 mr_165.2.1 mr_165.2.2.2.1 mr_165.2.2.1 pc_165 bk_165 && ab_moq 165) = true := by decide +kernel
set_option maxRecDepth 100000 in
theorem ck_166 : (ab_qm 5 mr_166.2.1 mr_166.2.2.2.1 mr_166.2.2.1 pc_166 bk_166 && ab_moq 166) = true := by decide +kernel
set_option maxRecDepth 100000 in
theorem ck_167 : (ab_qm 5 mr_167.2.1 mr_167.2.2.2.1 mr_167.2.2.1 pc_167 bk_167 && ab_moq 167) = true := by decide +kernel
set_option maxRecDepth 100000 in
theorem ck_168 : (ab_qm 5 mr_168.2.1 mr_168.2.2.2.1 mr_168.2.2.1 pc_168 bk_168 && ab_moq 168) = true := by decide +kernel
set_option maxRecDepth 100000 in
theorem ck_169 : (ab_qm 5 mr_169.2.1 mr_169.2.2.2.1 mr_169.2.2.1 pc_169 bk_169 && ab_moq 169) = true := by decide +kernel
set_option maxRecDepth 100000 in
theorem ck_170 : (ab_qm 5 mr_170.2.1 mr_170.2.2.2.1 mr_170.2.2.1 pc_170 bk_170 && ab_moq 170) = true := by decide +kernel
set_option maxRecDepth 100000 in
theorem ck_171 : (ab_qm 5 mr_171.2.1 mr_171.2.2.2.1 mr_171.2.2.1 pc_171 bk_171 && ab_moq 171) = true := by decide +kernel
set_option maxRecDepth 100000 in
theorem ck_172 : (ab_qm 5 mr_172.2.1 mr_172.2.2.2.1 mr_172.2.2.1 pc_172 bk_172 && ab_moq 172) = true := by decide +kernel
set_option maxRecDepth 100000 in
theorem ck_173 : (ab_qm 5 mr_173.2.1 mr_173.2.2.2.1 mr_173.2.2.1 pc_173 bk_173 && ab_moq 173) = true := by decide +kernel
set_option maxRecDepth 100000 in
theorem ck_174 : (ab_qm 5 mr_174.2.1 mr_174.2.2.2.1 mr_174.2.2.1 pc_174 bk_174 && ab_moq 174) = true := by decide +kernel
set_option maxRecDepth 100000 in
theorem ck_175 : (ab_qm 5 mr_175.2.1 mr_175.2.2.2.1 mr_175.2.2.1 pc_175 bk_175 && ab_moq 175) = true := by decide +kernel
set_option maxRecDepth 100000 in
theorem ck_176 : (ab_qm 5 mr_176.2.1 mr_176.2.2.2.1 mr_176.2.2.1 pc_176 bk_176 && ab_moq 176) = true := by decide +kernel
set_option maxRecDepth 100000 in
theorem ck_177 : (ab_qm 5 mr_177.2.1 mr_177.2.2.2.1 mr_177.2.2.1 pc_177 bk_177 && ab_moq 177) = true := by decide +kernel
set_option maxRecDepth 100000 in
theorem ck_178 : (ab_qm 5 mr_178.2.1 mr_178.2.2.2.1 mr_178.2.2.1 pc_178 bk_178 && ab_moq 178) = true := by decide +kernel
set_option maxRecDepth 100000 in
theorem ck_179 : (ab_qm 5 mr_179.2.1 mr_179.2.2.2.1 mr_179.2.2.1 pc_179 bk_179 && ab_moq 179) = true := by decide +kernel
set_option maxRecDepth 100000 in
theorem ck_180 : (ab_qm 5 mr_180.2.1 mr_180.2.2.2.1 mr_180.2.2.1 pc_180 bk_180 && ab_moq 180) = true := by decide +kernel
set_option maxRecDepth 100000 in
theorem ck_181 : (ab_qm 5 mr_181.2.1 mr_181.2.2.2.1 mr_181.2.2.1 pc_181 bk_181 && ab_moq 181) = true := by decide +kernel
set_option maxRecDepth 100000 in
theorem ck_182 : (ab_qm 5 mr_182.2.1 mr_182.2.2.2.1 mr_182.2.2.1 pc_182 bk_182 && ab_moq 182) = true := by decide +kernel
set_option maxRecDepth 100000 in
theorem ck_183 : (ab_qm 5 mr_183.2.1 mr_183.2.2.2.1 mr_183.2.2.1 pc_183 bk_183 && ab_moq 183) = true := by decide +kernel
set_option maxRecDepth 100000 in
theorem ck_184 : (ab_qm 5 mr_184.2.1 mr_184.2.2.2.1 mr_184.2.2.1 pc_184 bk_184 && ab_moq 184) = true := by decide +kernel
set_option maxRecDepth 100000 in
theorem ck_185 : (ab_qm 5 mr_185.2.1 mr_185.2.2.2.1 mr_185.2.2.1 pc_185 bk_185 && ab_moq 185) = true := by decide +kernel
set_option maxRecDepth 100000 in
theorem ck_186 : (ab_qm 5 mr_186.2.1 mr_186.2.2.2.1 mr_186.2.2.1 pc_186 bk_186 && ab_moq 186) = true := by decide +kernel
set_option maxRecDepth 100000 in
theorem ck_187 : (ab_qm 5 mr_187.2.1 mr_187.2.2.2.1 mr_187.2.2.1 pc_187 bk_187 && ab_moq 187) = true := by decide +kernel
set_option maxRecDepth 100000 in
theorem ck_188 : (ab_qm 5 mr_188.2.1 mr_188.2.2.2.1 mr_188.2.2.1 pc_188 bk_188 && ab_moq 188) = true := by decide +kernel
set_option maxRecDepth 100000 in
theorem ck_189 : (ab_qm 5 mr_189.2.1 mr_189.2.2.2.1 mr_189.2.2.1 pc_189 bk_189 && ab_moq 189) = true := by decide +kernel
set_option maxRecDepth 100000 in
theorem ck_190 : (ab_qm 5 mr_190.2.1 mr_190.2.2.2.1 mr_190.2.2.1 pc_190 bk_190 && ab_moq 190) = true := by decide +kernel
set_option maxRecDepth 100000 in
theorem ck_191 : (ab_qm 5 mr_191.2.1 mr_191.2.2.2.1 mr_191.2.2.1 pc_191 bk_191 && ab_moq 191) = true := by decide +kernel
set_option maxRecDepth 100000 in
theorem ck_192 : (ab_qm 5 mr_192.2.1 mr_192.2.2.2.1 mr_192.2.2.1 pc_192 bk_192 && ab_moq 192) = true := by decide +kernel
set_option maxRecDepth 100000 in
theorem ck_193 : (ab_qm 5 mr_193.2.1 mr_193.2.2.2.1 mr_193.2.2.1 pc_193 bk_193 && ab_moq 193) = true := by decide +kernel
set_option maxRecDepth 100000 in
theorem ck_194 : (ab_qm 5 mr_194.2.1 mr_194.2.2.2.1 mr_194.2.2.1 pc_194 bk_194 && ab_moq 194) = true := by decide +kernel
end
section
/-! so all calls keep their contracts, at any depth -/
theorem ab_moq_ok {k : Nat} {r : ab_M} (h : ab_moq k = true) (hr : ab_mt k = some r) : ab_mok r ∧ ∃ q, ab_mps[k]? = some q ∧ ab_own q.1 = r.1.cls := by
  unfold ab_moq at h
  have hr : ab_MT[k]? = some r := hr
  rw [hr] at h
  split at h
  · rename_i r' q e1 e2
    cases e1
    simp only [Bool.and_eq_true, decide_eq_true_eq] at h
    obtain ⟨⟨⟨⟨⟨⟨h1, h2⟩, h3⟩, h4⟩, h5⟩, h6⟩, h7⟩ := h
    refine ⟨⟨ab_wd_ok h1, ab_wd_ok h2, h3, h4, h5, fun hs => ?_, fun hs => ?_⟩, q, e2, h6⟩
    · rw [if_pos hs] at h7; exact ab_wd_ok h7
    · rw [if_neg (by rw [hs]; decide)] at h7
      rw [Bool.and_eq_true] at h7
      exact ⟨ab_wd_ok h7.1, ab_wd_ok h7.2⟩
  · cases h
theorem ab_ckn {k oc : Nat} {r : ab_M} {pcs : List Nat} {bl : List (List ab_I)} (h : (ab_qm oc r.2.1 r.2.2.2.1 r.2.2.1 pcs bl && ab_moq k) = true) (hr : ab_mt k = some r) (ho : ab_own oc = r.1.cls) : ab_mok r ∧ ab_ckm ab_mt r.1.cls r.2.1 r.2.2.2.1 r.2.2.1 pcs bl := by
  rw [Bool.and_eq_true] at h
  exact ⟨(ab_moq_ok h.2 hr).1, ho ▸ ab_qm_ok h.1⟩
def ab_fine (k : Nat) : Prop := ∀ r b, ab_mt k = some r → ab_bd k = some b → ab_mok r ∧ ab_ckm ab_mt r.1.cls r.2.1 r.2.2.2.1 r.2.2.1 b.1 b.2
theorem fi_0 : ab_fine 0 := fun r b h1 h2 => by
  cases h1; cases h2
  exact ab_ckn ck_0 rfl rfl
theorem fi_1 : ab_fine 1 := fun r b h1 h2 => by
  cases h1; cases h2
  exact ab_ckn ck_1 rfl rfl
theorem fi_2 : ab_fine 2 := fun r b h1 h2 => by
  cases h1; cases h2
  exact ab_ckn ck_2 rfl rfl
theorem fi_3 : ab_fine 3 := fun r b h1 h2 => by
  cases h1; cases h2
  exact ab_ckn ck_3 rfl rfl
theorem fi_4 : ab_fine 4 := fun r b h1 h2 => by
  cases h1; cases h2
  exact ab_ckn ck_4 rfl rfl
theorem fi_5 : ab_fine 5 := fun r b h1 h2 => by
  cases h1; cases h2
  exact ab_ckn ck_5 rfl rfl
theorem fi_6 : ab_fine 6 := fun r b h1 h2 => by
  cases h1; cases h2
  exact ab_ckn ck_6 rfl rfl
theorem fi_7 : ab_fine 7 := fun r b h1 h2 => by
  cases h1; cases h2
  exact ab_ckn ck_7 rfl rfl
theorem fi_8 : ab_fine 8 := fun r b h1 h2 => by
  cases h1; cases h2
  exact ab_ckn ck_8 rfl rfl
theorem fi_9 : ab_fine 9 := fun r b h1 h2 => by
  cases h1; cases h2
  exact ab_ckn ck_9 rfl rfl
theorem fi_10 : ab_fine 10 := fun r b h1 h2 => by
  cases h1; cases h2
  exact ab_ckn ck_10 rfl rfl
theorem fi_11 : ab_fine 11 := fun r b h1 h2 => by
  cases h1; cases h2
  exact ab_ckn ck_11 rfl rfl
theorem fi_12 : ab_fine 12 := fun r b h1 h2 => by
  cases h1; cases h2
  exact ab_ckn ck_12 rfl rfl
theorem fi_13 : ab_fine 13 := fun r b h1 h2 => by
  cases h1; cases h2
  exact ab_ckn ck_13 rfl rfl
theorem fi_14 : ab_fine 14 := fun r b h1 h2 => by
  cases h1; cases h2
  exact ab_ckn ck_14 rfl rfl
theorem fi_15 : ab_fine 15 := fun r b h1 h2 => by
  cases h1; cases h2
  exact ab_ckn ck_15 rfl rfl
theorem fi_16 : ab_fine 16 := fun r b h1 h2 => by
  cases h1; cases h2
  exact ab_ckn ck_16 rfl rfl
theorem fi_17 : ab_fine 17 := fun r b h1 h2 => by
  cases h1; cases h2
  exact ab_ckn ck_17 rfl rfl
theorem fi_18 : ab_fine 18 := fun r b h1 h2 => by
  cases h1; cases h2
  exact ab_ckn ck_18 rfl rfl
theorem fi_19 : ab_fine 19 := fun r b h1 h2 => by
  cases h1; cases h2
  exact ab_ckn ck_19 rfl rfl
theorem fi_20 : ab_fine 20 := fun r b h1 h2 => by
  cases h1; cases h2
  exact ab_ckn ck_20 rfl rfl
theorem fi_21 : ab_fine 21 := fun r b h1 h2 => by
  cases h1; cases h2
  exact ab_ckn ck_21 rfl rfl
theorem fi_22 : ab_fine 22 := fun r b h1 h2 => by
  cases h1; cases h2
  exact ab_ckn ck_22 rfl rfl
theorem fi_23 : ab_fine 23 := fun r b h1 h2 => by
  cases h1; cases h2
  exact ab_ckn ck_23 rfl rfl
theorem fi_24 : ab_fine 24 := fun r b h1 h2 => by
  cases h1; cases h2
  exact ab_ckn ck_24 rfl rfl
theorem fi_25 : ab_fine 25 := fun r b h1 h2 => by
  cases h1; cases h2
  exact ab_ckn ck_25 rfl rfl
theorem fi_26 : ab_fine 26 := fun r b h1 h2 => by
  cases h1; cases h2
  exact ab_ckn ck_26 rfl rfl
theorem fi_27 : ab_fine 27 := fun r b h1 h2 => by
  cases h1; cases h2
  exact ab_ckn ck_27 rfl rfl
theorem fi_28 : ab_fine 28 := fun r b h1 h2 => by
  cases h1; cases h2
  exact ab_ckn ck_28 rfl rfl
theorem fi_29 : ab_fine 29 := fun r b h1 h2 => by
  cases h1; cases h2
  exact ab_ckn ck_29 rfl rfl
theorem fi_30 : ab_fine 30 := fun r b h1 h2 => by
  cases h1; cases h2
  exact ab_ckn ck_30 rfl rfl
theorem fi_31 : ab_fine 31 := fun r b h1 h2 => by
  cases h1; cases h2
  exact ab_ckn ck_31 rfl rfl
theorem fi_32 : ab_fine 32 := fun r b h1 h2 => by
  cases h1; cases h2
  exact ab_ckn ck_32 rfl rfl
theorem fi_33 : ab_fine 33 := fun r b h1 h2 => by
  cases h1; cases h2
  exact ab_ckn ck_33 rfl rfl
theorem fi_34 : ab_fine 34 := fun r b h1 h2 => by
  cases h1; cases h2
  exact ab_ckn ck_34 rfl rfl
theorem fi_35 : ab_fine 35 := fun r b h1 h2 => by
  cases h1; cases h2
  exact ab_ckn ck_35 rfl rfl
theorem fi_36 : ab_fine 36 := fun r b h1 h2 => by
  cases h1; cases h2
  exact ab_ckn ck_36 rfl rfl
theorem fi_37 : ab_fine 37 := fun r b h1 h2 => by
  cases h1; cases h2
  exact ab_ckn ck_37 rfl rfl
theorem fi_38 : ab_fine 38 := fun r b h1 h2 => by
  cases h1; cases h2
  exact ab_ckn ck_38 rfl rfl
theorem fi_39 : ab_fine 39 := fun r b h1 h2 => by
  cases h1; cases h2
  exact ab_ckn ck_39 rfl rfl
theorem fi_40 : ab_fine 40 := fun r b h1 h2 => by
  cases h1; cases h2
  exact ab_ckn ck_40 rfl rfl
theorem fi_41 : ab_fine 41 := fun r b h1 h2 => by
  cases h1; cases h2
  exact ab_ckn ck_41 rfl rfl
theorem fi_42 : ab_fine 42 := fun r b h1 h2 => by
  cases h1; cases h2
  exact ab_ckn ck_42 rfl rfl
theorem fi_43 : ab_fine 43 := fun r b h1 h2 => by
  cases h1; cases h2
  exact ab_ckn ck_43 rfl rfl
theorem fi_44 : ab_fine 44 := fun r b h1 h2 => by
  cases h1; cases h2
  exact ab_ckn ck_44 rfl rfl
theorem fi_45 : ab_fine 45 := fun r b h1 h2 => by
  cases h1; cases h2
  exact ab_ckn ck_45 rfl rfl
theorem fi_46 : ab_fine 46 := fun r b h1 h2 => by
  cases h1; cases h2
  exact ab_ckn ck_46 rfl rfl
theorem fi_47 : ab_fine 47 := fun r b h1 h2 => by
  cases h1; cases h2
  exact ab_ckn ck_47 rfl rfl
theorem fi_48 : ab_fine 48 := fun r b h1 h2 => by
  cases h1; cases h2
  exact ab_ckn ck_48 rfl rfl
theorem fi_49 : ab_fine 49 := fun r b h1 h2 => by
  cases h1; cases h2
  exact ab_ckn ck_49 rfl rfl
theorem fi_50 : ab_fine 50 := fun r b h1 h2 => by
  cases h1; cases h2
  exact ab_ckn ck_50 rfl rfl
theorem fi_51 : ab_fine 51 := fun r b h1 h2 => by
  cases h1; cases h2
  exact ab_ckn ck_51 rfl rfl
theorem fi_52 : ab_fine 52 := fun r b h1 h2 => by
  cases h1; cases h2
  exact ab_ckn ck_52 rfl rfl
theorem fi_53 : ab_fine 53 := fun r b h1 h2 => by
  cases h1; cases h2
  exact ab_ckn ck_53 rfl rfl
theorem fi_54 : ab_fine 54 := fun r b h1 h2 => by
  cases h1; cases h2
  exact ab_ckn ck_54 rfl rfl
theorem fi_55 : ab_fine 55 := fun r b h1 h2 => by
  cases h1; cases h2
  exact ab_ckn ck_55 rfl rfl
theorem fi_56 : ab_fine 56 := fun r b h1 h2 => by
  cases h1; cases h2
  exact ab_ckn ck_56 rfl rfl
theorem fi_57 : ab_fine 57 := fun r b h1 h2 => by
  cases h1; cases h2
  exact ab_ckn ck_57 rfl rfl
theorem fi_58 : ab_fine 58 := fun r b h1 h2 => by
  cases h1; cases h2
  exact ab_ckn ck_58 rfl rfl
theorem fi_59 : ab_fine 59 := fun r b h1 h2 => by
  cases h1; cases h2
  exact ab_ckn ck_59 rfl rfl
theorem fi_60 : ab_fine 60 := fun r b h1 h2 => by
  cases h1; cases h2
  exact ab_ckn ck_60 rfl rfl
theorem fi_61 : ab_fine 61 := fun r b h1 h2 => by
  cases h1; cases h2
  exact ab_ckn ck_61 rfl rfl
theorem fi_62 : ab_fine 62 := fun r b h1 h2 => by
  cases h1; cases h2
  exact ab_ckn ck_62 rfl rfl
theorem fi_63 : ab_fine 63 := fun r b h1 h2 => by
  cases h1; cases h2
  exact ab_ckn ck_63 rfl rfl
theorem fi_64 : ab_fine 64 := fun r b h1 h2 => by
  cases h1; cases h2
  exact ab_ckn ck_64 rfl rfl
theorem fi_65 : ab_fine 65 := fun r b h1 h2 => by
  cases h1; cases h2
  exact ab_ckn ck_65 rfl rfl
theorem fi_66 : ab_fine 66 := fun r b h1 h2 => by
  cases h1; cases h2
  exact ab_ckn ck_66 rfl rfl
theorem fi_67 : ab_fine 67 := fun r b h1 h2 => by
  cases h1; cases h2
  exact ab_ckn ck_67 rfl rfl
theorem fi_68 : ab_fine 68 := fun r b h1 h2 => by
  cases h1; cases h2
  exact ab_ckn ck_68 rfl rfl
theorem fi_69 : ab_fine 69 := fun r b h1 h2 => by
  cases h1; cases h2
  exact ab_ckn ck_69 rfl rfl
theorem fi_70 : ab_fine 70 := fun r b h1 h2 => by
  cases h1; cases h2
  exact ab_ckn ck_70 rfl rfl
theorem fi_71 : ab_fine 71 := fun r b h1 h2 => by
  cases h1; cases h2
  exact ab_ckn ck_71 rfl rfl
theorem fi_72 : ab_fine 72 := fun r b h1 h2 => by
  cases h1; cases h2
  exact ab_ckn ck_72 rfl rfl
theorem fi_73 : ab_fine 73 := fun r b h1 h2 => by
  cases h1; cases h2
  exact ab_ckn ck_73 rfl rfl
theorem fi_74 : ab_fine 74 := fun r b h1 h2 => by
  cases h1; cases h2
  exact ab_ckn ck_74 rfl rfl
theorem fi_75 : ab_fine 75 := fun r b h1 h2 => by
  cases h1; cases h2
  exact ab_ckn ck_75 rfl rfl
theorem fi_76 : ab_fine 76 := fun r b h1 h2 => by
  cases h1; cases h2
  exact ab_ckn ck_76 rfl rfl
theorem fi_77 : ab_fine 77 := fun r b h1 h2 => by
  cases h1; cases h2
  exact ab_ckn ck_77 rfl rfl
theorem fi_78 : ab_fine 78 := fun r b h1 h2 => by
  cases h1; cases h2
  exact ab_ckn ck_78 rfl rfl
theorem fi_79 : ab_fine 79 := fun r b h1 h2 => by
  cases h1; cases h2
  exact ab_ckn ck_79 rfl rfl
theorem fi_80 : ab_fine 80 := fun r b h1 h2 => by
  cases h1; cases h2
  exact ab_ckn ck_80 rfl rfl
theorem fi_81 : ab_fine 81 := fun r b h1 h2 => by
  cases h1; cases h2
  exact ab_ckn ck_81 rfl rfl
theorem fi_82 : ab_fine 82 := fun r b h1 h2 => by
  cases h1; cases h2
  exact ab_ckn ck_82 rfl rfl
theorem fi_83 : ab_fine 83 := fun r b h1 h2 => by
  cases h1; cases h2
  exact ab_ckn ck_83 rfl rfl
theorem fi_84 : ab_fine 84 := fun r b h1 h2 => by
  cases h1; cases h2
  exact ab_ckn ck_84 rfl rfl
theorem fi_85 : ab_fine 85 := fun r b h1 h2 => by
  cases h1; cases h2
  exact ab_ckn ck_85 rfl rfl
theorem fi_86 : ab_fine 86 := fun r b h1 h2 => by
  cases h1; cases h2
  exact ab_ckn ck_86 rfl rfl
theorem fi_87 : ab_fine 87 := fun r b h1 h2 => by
  cases h1; cases h2
  exact ab_ckn ck_87 rfl rfl
theorem fi_88 : ab_fine 88 := fun r b h1 h2 => by
  cases h1; cases h2
  exact ab_ckn ck_88 rfl rfl
theorem fi_89 : ab_fine 89 := fun r b h1 h2 => by
  cases h1; cases h2
  exact ab_ckn ck_89 rfl rfl
theorem fi_90 : ab_fine 90 := fun r b h1 h2 => by
  cases h1; cases h2
  exact ab_ckn ck_90 rfl rfl
theorem fi_91 : ab_fine 91 := fun r b h1 h2 => by
  cases h1; cases h2
  exact ab_ckn ck_91 rfl rfl
theorem fi_92 : ab_fine 92 := fun r b h1 h2 => by
  cases h1; cases h2
  exact ab_ckn ck_92 rfl rfl
theorem fi_93 : ab_fine 93 := fun r b h1 h2 => by
  cases h1; cases h2
  exact ab_ckn ck_93 rfl rfl
theorem fi_94 : ab_fine 94 := fun r b h1 h2 => by
  cases h1; cases h2
  exact ab_ckn ck_94 rfl rfl
theorem fi_95 : ab_fine 95 := fun r b h1 h2 => by
  cases h1; cases h2
  exact ab_ckn ck_95 rfl rfl
theorem fi_96 : ab_fine 96 := fun r b h1 h2 => by
  cases h1; cases h2
  exact ab_ckn ck_96 rfl rfl
theorem fi_97 : ab_fine 97 := fun r b h1 h2 => by
  cases h1; cases h2
  exact ab_ckn ck_97 rfl rfl
theorem fi_98 : ab_fine 98 := fun r b h1 h2 => by
  cases h1; cases h2
  exact ab_ckn ck_98 rfl rfl
theorem fi_99 : ab_fine 99 := fun r b h1 h2 => by
  cases h1; cases h2
  exact ab_ckn ck_99 rfl rfl
theorem fi_100 : ab_fine 100 := fun r b h1 h2 => by
  cases h1; cases h2
  exact ab_ckn ck_100 rfl rfl
theorem fi_101 : ab_fine 101 := fun r b h1 h2 => by
  cases h1; cases h2
  exact ab_ckn ck_101 rfl rfl
theorem fi_102 : ab_fine 102 := fun r b h1 h2 => by
  cases h1; cases h2
  exact ab_ckn ck_102 rfl rfl
theorem fi_103 : ab_fine 103 := fun r b h1 h2 => by
  cases h1; cases h2
  exact ab_ckn ck_103 rfl rfl
theorem fi_104 : ab_fine 104 := fun r b h1 h2 => by
  cases h1; cases h2
  exact ab_ckn ck_104 rfl rfl
theorem fi_105 : ab_fine 105 := fun r b h1 h2 => by
  cases h1; cases h2
  exact ab_ckn ck_105 rfl rfl
theorem fi_106 : ab_fine 106 := fun r b h1 h2 => by
  cases h1; cases h2
  exact ab_ckn ck_106 rfl rfl
theorem fi_107 : ab_fine 107 := fun r b h1 h2 => by
  cases h1; cases h2
  exact ab_ckn ck_107 rfl rfl
theorem fi_108 : ab_fine 108 := fun r b h1 h2 => by
  cases h1; cases h2
  exact ab_ckn ck_108 rfl rfl
theorem fi_109 : ab_fine 109 := fun r b h1 h2 => by
  cases h1; cases h2
  exact ab_ckn ck_109 rfl rfl
theorem fi_110 : ab_fine 110 := fun r b h1 h2 => by
  cases h1; cases h2
  exact ab_ckn ck_110 rfl rfl
theorem fi_111 : ab_fine 111 := fun r b h1 h2 => by
  cases h1; cases h2
  exact ab_ckn ck_111 rfl rfl
theorem fi_112 : ab_fine 112 := fun r b h1 h2 => by
  cases h1; cases h2
  exact ab_ckn ck_112 rfl rfl
theorem fi_113 : ab_fine 113 := fun r b h1 h2 => by
  cases h1; cases h2
  exact ab_ckn ck_113 rfl rfl
theorem fi_114 : ab_fine 114 := fun r b h1 h2 => by
  cases h1; cases h2
  exact ab_ckn ck_114 rfl rfl
theorem fi_115 : ab_fine 115 := fun r b h1 h2 => by
  cases h1; cases h2
  exact ab_ckn ck_115 rfl rfl
theorem fi_116 : ab_fine 116 := fun r b h1 h2 => by
  cases h1; cases h2
  exact ab_ckn ck_116 rfl rfl
theorem fi_117 : ab_fine 117 := fun r b h1 h2 => by
  cases h1; cases h2
  exact ab_ckn ck_117 rfl rfl
theorem fi_118 : ab_fine 118 := fun r b h1 h2 => by
  cases h1; cases h2
  exact ab_ckn ck_118 rfl rfl
theorem fi_119 : ab_fine 119 := fun r b h1 h2 => by
  cases h1; cases h2
  exact ab_ckn ck_119 rfl rfl
theorem fi_120 : ab_fine 120 := fun r b h1 h2 => by
  cases h1; cases h2
  exact ab_ckn ck_120 rfl rfl
theorem fi_121 : ab_fine 121 := fun r b h1 h2 => by
  cases h1; cases h2
  exact ab_ckn ck_121 rfl rfl
theorem fi_122 : ab_fine 122 := fun r b h1 h2 => by
  cases h1; cases h2
  exact ab_ckn ck_122 rfl rfl
theorem fi_123 : ab_fine 123 := fun r b h1 h2 => by
  cases h1; cases h2
  exact ab_ckn ck_123 rfl rfl
theorem fi_124 : ab_fine 124 := fun r b h1 h2 => by
  cases h1; cases h2
  exact ab_ckn ck_124 rfl rfl
theorem fi_125 : ab_fine 125 := fun r b h1 h2 => by
  cases h1; cases h2
  exact ab_ckn ck_125 rfl rfl
theorem fi_126 : ab_fine 126 := fun r b h1 h2 => by
  cases h1; cases h2
  exact ab_ckn ck_126 rfl rfl
theorem fi_127 : ab_fine 127 := fun r b h1 h2 => by
  cases h1; cases h2
  exact ab_ckn ck_127 rfl rfl
theorem fi_128 : ab_fine 128 := fun r b h1 h2 => by
  cases h1; cases h2
  exact ab_ckn ck_128 rfl rfl
theorem fi_129 : ab_fine 129 := fun r b h1 h2 => by
  cases h1; cases h2
  exact ab_ckn ck_129 rfl rfl
theorem fi_130 : ab_fine 130 := fun r b h1 h2 => by
  cases h1; cases h2
  exact ab_ckn ck_130 rfl rfl
theorem fi_131 : ab_fine 131 := fun r b h1 h2 => by
  cases h1; cases h2
  exact ab_ckn ck_131 rfl rfl
theorem fi_132 : ab_fine 132 := fun r b h1 h2 => by
  cases h1; cases h2
  exact ab_ckn ck_132 rfl rfl
theorem fi_133 : ab_fine 133 := fun r b h1 h2 => by
  cases h1; cases h2
  exact ab_ckn ck_133 rfl rfl
theorem fi_134 : ab_fine 134 := fun r b h1 h2 => by
  cases h1; cases h2
  exact ab_ckn ck_134 rfl rfl
theorem fi_135 : ab_fine 135 := fun r b h1 h2 => by
  cases h1; cases h2
  exact ab_ckn ck_135 rfl rfl
theorem fi_136 : ab_fine 136 := fun r b h1 h2 => by
  cases h1; cases h2
  exact ab_ckn ck_136 rfl rfl
theorem fi_137 : ab_fine 137 := fun r b h1 h2 => by
  cases h1; cases h2
  exact ab_ckn ck_137 rfl rfl
theorem fi_138 : ab_fine 138 := fun r b h1 h2 => by
  cases h1; cases h2
  exact ab_ckn ck_138 rfl rfl
theorem fi_139 : ab_fine 139 := fun r b h1 h2 => by
  cases h1; cases h2
  exact ab_ckn ck_139 rfl rfl
theorem fi_140 : ab_fine 140 := fun r b h1 h2 => by
  cases h1; cases h2
  exact ab_ckn ck_140 rfl rfl
theorem fi_141 : ab_fine 141 := fun r b h1 h2 => by
  cases h1; cases h2
  exact ab_ckn ck_141 rfl rfl
theorem fi_142 : ab_fine 142 := fun r b h1 h2 => by
  cases h1; cases h2
  exact ab_ckn ck_142 rfl rfl
theorem fi_143 : ab_fine 143 := fun r b h1 h2 => by
  cases h1; cases h2
  exact ab_ckn ck_143 rfl rfl
theorem fi_144 : ab_fine 144 := fun r b h1 h2 => by
  cases h1; cases h2
  exact ab_ckn ck_144 rfl rfl
theorem fi_145 : ab_fine 145 := fun r b h1 h2 => by
  cases h1; cases h2
  exact ab_ckn ck_145 rfl rfl
theorem fi_146 : ab_fine 146 := fun r b h1 h2 => by
  cases h1; cases h2
  exact ab_ckn ck_146 rfl rfl
theorem fi_147 : ab_fine 147 := fun r b h1 h2 => by
  cases h1; cases h2
  exact ab_ckn ck_147 rfl rfl
theorem fi_148 : ab_fine 148 := fun r b h1 h2 => by
  cases h1; cases h2
  exact ab_ckn ck_148 rfl rfl
theorem fi_149 : ab_fine 149 := fun r b h1 h2 => by
  cases h1; cases h2
  exact ab_ckn ck_149 rfl rfl
theorem fi_150 : ab_fine 150 := fun r b h1 h2 => by
  cases h1; cases h2
  exact ab_ckn ck_150 rfl rfl
theorem fi_151 : ab_fine 151 := fun r b h1 h2 => by
  cases h1; cases h2
  exact ab_ckn ck_151 rfl rfl
theorem fi_152 : ab_fine 152 := fun r b h1 h2 => by
  cases h1; cases h2
  exact ab_ckn ck_152 rfl rfl
theorem fi_153 : ab_fine 153 := fun r b h1 h2 => by
  cases h1; cases h2
  exact ab_ckn ck_153 rfl rfl
theorem fi_154 : ab_fine 154 := fun r b h1 h2 => by
  cases h1; cases h2
  exact ab_ckn ck_154 rfl rfl
theorem fi_155 : ab_fine 155 := fun r b h1 h2 => by
  cases h1; cases h2
  exact ab_ckn ck_155 rfl rfl
theorem fi_156 : ab_fine 156 := fun r b h1 h2 => by
  cases h1; cases h2
  exact ab_ckn ck_156 rfl rfl
theorem fi_157 : ab_fine 157 := fun r b h1 h2 => by
  cases h1; cases h2
  exact ab_ckn ck_157 rfl rfl
theorem fi_158 : ab_fine 158 := fun r b h1 h2 => by
  cases h1; cases h2
  exact ab_ckn ck_158 rfl rfl
theorem fi_159 : ab_fine 159 := fun r b h1 h2 => by
  cases h1; cases h2
  exact ab_ckn ck_159 rfl rfl
theorem fi_160 : ab_fine 160 := fun r b h1 h2 => by
  cases h1; cases h2
  exact ab_ckn ck_160 rfl rfl
theorem fi_161 : ab_fine 161 := fun r b h1 h2 => by
  cases h1; cases h2
  exact ab_ckn ck_161 rfl rfl
theorem fi_162 : ab_fine 162 := fun r b h1 h2 => by
  cases h1; cases h2
  exact ab_ckn ck_162 rfl rfl
theorem fi_163 : ab_fine 163 := fun r b h1 h2 => by
  cases h1; cases h2
  exact ab_ckn ck_163 rfl rfl
theorem fi_164 : ab_fine 164 := fun r b h1 h2 => by
  cases h1; cases h2
  exact ab_ckn ck_164 rfl rfl
theorem fi_165 : ab_fine 165 := fun r b h1 h2 => by
  cases h1; cases h2
  exact ab_ckn ck_165 rfl rfl
theorem fi_166 : ab_fine 166 := fun r b h1 h2 => by
  cases h1; cases h2
  exact ab_ckn ck_166 rfl rfl
theorem fi_167 : ab_fine 167 := fun r b h1 h2 => by
  cases h1; cases h2
  exact ab_ckn ck_167 rfl rfl
theorem fi_168 : ab_fine 168 := fun r b h1 h2 => by
  cases h1; cases h2
  exact ab_ckn ck_168 rfl rfl
theorem fi_169 : ab_fine 169 := fun r b h1 h2 => by
  cases h1; cases h2
  exact ab_ckn ck_169 rfl rfl
theorem fi_170 : ab_fine 170 := fun r b h1 h2 => by
  cases h1; cases h2
  exact ab_ckn ck_170 rfl rfl
theorem fi_171 : ab_fine 171 := fun r b h1 h2 => by
  cases h1; cases h2
  exact ab_ckn ck_171 rfl rfl
theorem fi_172 : ab_fine 172 := fun r b h1 h2 => by
  cases h1; cases h2
  exact ab_ckn ck_172 rfl rfl
theorem fi_173 : ab_fine 173 := fun r b h1 h2 => by
  cases h1; cases h2
  exact ab_ckn ck_173 rfl rfl
theorem fi_174 : ab_fine 174 := fun r b h1 h2 => by
  cases h1; cases h2
  exact ab_ckn ck_174 rfl rfl
theorem fi_175 : ab_fine 175 := fun r b h1 h2 => by
  cases h1; cases h2
  exact ab_ckn ck_175 rfl rfl
theorem fi_176 : ab_fine 176 := fun r b h1 h2 => by
  cases h1; cases h2
  exact ab_ckn ck_176 rfl rfl
theorem fi_177 : ab_fine 177 := fun r b h1 h2 => by
  cases h1; cases h2
  exact ab_ckn ck_177 rfl rfl
theorem fi_178 : ab_fine 178 := fun r b h1 h2 => by
  cases h1; cases h2
  exact ab_ckn ck_178 rfl rfl
theorem fi_179 : ab_fine 179 := fun r b h1 h2 => by
  cases h1; cases h2
  exact ab_ckn ck_179 rfl rfl
theorem fi_180 : ab_fine 180 := fun r b h1 h2 => by
  cases h1; cases h2
  exact ab_ckn ck_180 rfl rfl
theorem fi_181 : ab_fine 181 := fun r b h1 h2 => by
  cases h1; cases h2
  exact ab_ckn ck_181 rfl rfl
theorem fi_182 : ab_fine 182 := fun r b h1 h2 => by
  cases h1; cases h2
  exact ab_ckn ck_182 rfl rfl
theorem fi_183 : ab_fine 183 := fun r b h1 h2 => by
  cases h1; cases h2
  exact ab_ckn ck_183 rfl rfl
theorem fi_184 : ab_fine 184 := fun r b h1 h2 => by
  cases h1; cases h2
  exact ab_ckn ck_184 rfl rfl
theorem fi_185 : ab_fine 185 := fun r b h1 h2 => by
  cases h1; cases h2
  exact ab_ckn ck_185 rfl rfl
theorem fi_186 : ab_fine 186 := fun r b h1 h2 => by
  cases h1; cases h2
  exact ab_ckn ck_186 rfl rfl
theorem fi_187 : ab_fine 187 := fun r b h1 h2 => by
  cases h1; cases h2
  exact ab_ckn ck_187 rfl rfl
theorem fi_188 : ab_fine 188 := fun r b h1 h2 => by
  cases h1; cases h2
  exact ab_ckn ck_188 rfl rfl
theorem fi_189 : ab_fine 189 := fun r b h1 h2 => by
  cases h1; cases h2
  exact ab_ckn ck_189 rfl rfl
theorem fi_190 : ab_fine 190 := fun r b h1 h2 => by
  cases h1; cases h2
  exact ab_ckn ck_190 rfl rfl
theorem fi_191 : ab_fine 191 := fun r b h1 h2 => by
  cases h1; cases h2
  exact ab_ckn ck_191 rfl rfl
theorem fi_192 : ab_fine 192 := fun r b h1 h2 => by
  cases h1; cases h2
  exact ab_ckn ck_192 rfl rfl
theorem fi_193 : ab_fine 193 := fun r b h1 h2 => by
  cases h1; cases h2
  exact ab_ckn ck_193 rfl rfl
theorem fi_194 : ab_fine 194 := fun r b h1 h2 => by
  cases h1; cases h2
  exact ab_ckn ck_194 rfl rfl
theorem ab_fine_all : ∀ k, ab_fine k := by
  intro k
  match k with
  | 0 => exact fi_0
  | 1 => exact fi_1
  | 2 => exact fi_2
  | 3 => exact fi_3
  | 4 => exact fi_4
  | 5 => exact fi_5
  | 6 => exact fi_6
  | 7 => exact fi_7
  | 8 => exact fi_8
  | 9 => exact fi_9
  | 10 => exact fi_10
  | 11 => exact fi_11
  | 12 => exact fi_12
  | 13 => exact fi_13
  | 14 => exact fi_14
  | 15 => exact fi_15
  | 16 => exact fi_16
  | 17 => exact fi_17
  | 18 => exact fi_18
  | 19 => exact fi_19
  | 20 => exact fi_20
  | 21 => exact fi_21
  | 22 => exact fi_22
  | 23 => exact fi_23
  | 24 => exact fi_24
  | 25 => exact fi_25
  | 26 => exact fi_26
  | 27 => exact fi_27
  | 28 => exact fi_28
  | 29 => exact fi_29
  | 30 => exact fi_30
  | 31 => exact fi_31
  | 32 => exact fi_32
  | 33 => exact fi_33
  | 34 => exact fi_34
  | 35 => exact fi_35
  | 36 => exact fi_36
  | 37 => exact fi_37
  | 38 => exact fi_38
  | 39 => exact fi_39
  | 40 => exact fi_40
  | 41 => exact fi_41
  | 42 => exact fi_42
  | 43 => exact fi_43
  | 44 => exact fi_44
  | 45 => exact fi_45
  | 46 => exact fi_46
  | 47 => exact fi_47
  | 48 => exact fi_48
  | 49 => exact fi_49
  | 50 => exact fi_50
  | 51 => exact fi_51
  | 52 => exact fi_52
  | 53 => exact fi_53
  | 54 => exact fi_54
  | 55 => exact fi_55
  | 56 => exact fi_56
  | 57 => exact fi_57
  | 58 => exact fi_58
  | 59 => exact fi_59
  | 60 => exact fi_60
  | 61 => exact fi_61
  | 62 => exact fi_62
  | 63 => exact fi_63
  | 64 => exact fi_64
  | 65 => exact fi_65
  | 66 => exact fi_66
  | 67 => exact fi_67
  | 68 => exact fi_68
  | 69 => exact fi_69
  | 70 => exact fi_70
  | 71 => exact fi_71
  | 72 => exact fi_72
  | 73 => exact fi_73
  | 74 => exact fi_74
  | 75 => exact fi_75
  | 76 => exact fi_76
  | 77 => exact fi_77
  | 78 => exact fi_78
  | 79 => exact fi_79
  | 80 => exact fi_80
  | 81 => exact fi_81
  | 82 => exact fi_82
  | 83 => exact fi_83
  | 84 => exact fi_84
  | 85 => exact fi_85
  | 86 => exact fi_86
  | 87 => exact fi_87
  | 88 => exact fi_88
  | 89 => exact fi_89
  | 90 => exact fi_90
  | 91 => exact fi_91
  | 92 => exact fi_92
  | 93 => exact fi_93
  | 94 => exact fi_94
  | 95 => exact fi_95
  | 96 => exact fi_96
  | 97 => exact fi_97
  | 98 => exact fi_98
  | 99 => exact fi_99
  | 100 => exact fi_100
  | 101 => exact fi_101
  | 102 => exact fi_102
  | 103 => exact fi_103
  | 104 => exact fi_104
  | 105 => exact fi_105
  | 106 => exact fi_106
  | 107 => exact fi_107
  | 108 => exact fi_108
  | 109 => exact fi_109
  | 110 => exact fi_110
  | 111 => exact fi_111
  | 112 => exact fi_112
  | 113 => exact fi_113
  | 114 => exact fi_114
  | 115 => exact fi_115
  | 116 => exact fi_116
  | 117 => exact fi_117
  | 118 => exact fi_118
  | 119 => exact fi_119
  | 120 => exact fi_120
  | 121 => exact fi_121
  | 122 => exact fi_122
  | 123 => exact fi_123
  | 124 => exact fi_124
  | 125 => exact fi_125
  | 126 => exact fi_126
  | 127 => exact fi_127
  | 128 => exact fi_128
  | 129 => exact fi_129
  | 130 => exact fi_130
  | 131 => exact fi_131
  | 132 => exact fi_132
  | 133 => exact fi_133
  | 134 => exact fi_134
  | 135 => exact fi_135
  | 136 => exact fi_136
  | 137 => exact fi_137
  | 138 => exact fi_138
  | 139 => exact fi_139
  | 140 => exact fi_140
  | 141 => exact fi_141
  | 142 => exact fi_142
  | 143 => exact fi_143
  | 144 => exact fi_144
  | 145 => exact fi_145
  | 146 => exact fi_146
  | 147 => exact fi_147
  | 148 => exact fi_148
  | 149 => exact fi_149
  | 150 => exact fi_150
  | 151 => exact fi_151
  | 152 => exact fi_152
  | 153 => exact fi_153
  | 154 => exact fi_154
  | 155 => exact fi_155
  | 156 => exact fi_156
  | 157 => exact fi_157
  | 158 => exact fi_158
  | 159 => exact fi_159
  | 160 => exact fi_160
  | 161 => exact fi_161
  | 162 => exact fi_162
  | 163 => exact fi_163
  | 164 => exact fi_164
  | 165 => exact fi_165
  | 166 => exact fi_166
  | 167 => exact fi_167
  | 168 => exact fi_168
  | 169 => exact fi_169
  | 170 => exact fi_170
  | 171 => exact fi_171
  | 172 => exact fi_172
  | 173 => exact fi_173
  | 174 => exact fi_174
  | 175 => exact fi_175
  | 176 => exact fi_176
  | 177 => exact fi_177
  | 178 => exact fi_178
  | 179 => exact fi_179
  | 180 => exact fi_180
  | 181 => exact fi_181
  | 182 => exact fi_182
  | 183 => exact fi_183
  | 184 => exact fi_184
  | 185 => exact fi_185
  | 186 => exact fi_186
  | 187 => exact fi_187
  | 188 => exact fi_188
  | 189 => exact fi_189
  | 190 => exact fi_190
  | 191 => exact fi_191
  | 192 => exact fi_192
  | 193 => exact fi_193
  | 194 => exact fi_194
  | k + 195 =>
    intro r b h1
    have h : ab_MT[k + 195]? = some r := h1
    rw [List.getElem?_eq_none (by show ab_MT.length ≤ _; rw [show ab_MT.length = 195 from rfl]; omega)] at h
    cases h
theorem ab_bd_all : ∀ k r, ab_mt k = some r → ∃ b, ab_bd k = some b := by
  intro k r h
  have hl : k < ab_MT.length := (List.getElem?_eq_some_iff.mp h).1
  have hl2 : k < ab_BD.length := hl
  exact ⟨ab_BD[k], List.getElem?_eq_getElem hl2⟩
/-- every method of the program keeps its contract -/
theorem ab_calls {l : Launch} {ad : Nat → Nat} {cA : Nat → ClassId} {D : va_G} {Ls : Nat} (d : Nat) : ab_hC l (ab_rm (d + 1)) (ab_rm d) ad cA D Ls ab_mt (Sm Ls (d + 1)) := (ab_snd (fun k r b h1 h2 => ab_fine_all k r b h1 h2) ab_bd_all d).1
end
section
/-! one step each, as equations (all by rfl) -/
section Steps15
variable {Ls : Nat} {C : Nat → List ab_V → ab_W → (Option ab_V → ab_W → Prop) → Prop} {J : Nat → List ab_V → List ab_V → ab_W → Prop} {Rt : Option ab_V → ab_W → Prop} {nx : Nat} {is : List ab_I} {ex : List Nat} {z : Int} {L S : List ab_V} {w : ab_W}
theorem e_nil : ab_wb Ls C J Rt nx [] L S w = J nx L S w := propext Iff.rfl
theorem e_iconst {n : Int} : ab_wb Ls C J Rt nx ((.iconst n, ex, z) :: is) L S w = ab_wb Ls C J Rt nx is L (vI n :: S) w := propext Iff.rfl
theorem e_bipush {n : Int} : ab_wb Ls C J Rt nx ((.bipush n, ex, z) :: is) L S w = ab_wb Ls C J Rt nx is L (vI n :: S) w := propext Iff.rfl
theorem e_sipush {n : Int} : ab_wb Ls C J Rt nx ((.sipush n, ex, z) :: is) L S w = ab_wb Ls C J Rt nx is L (vI n :: S) w := propext Iff.rfl
theorem e_lconst0  : ab_wb Ls C J Rt nx ((.lconst 0, ex, z) :: is) L S w = ab_wb Ls C J Rt nx is L (vL 0 :: S) w := propext Iff.rfl
theorem e_lconst1  : ab_wb Ls C J Rt nx ((.lconst 1, ex, z) :: is) L S w = ab_wb Ls C J Rt nx is L (vL 1 :: S) w := propext Iff.rfl
theorem e_ldc {n : Nat} : ab_wb Ls C J Rt nx ((.ldc n, ex, z) :: is) L S w = ab_wb Ls C J Rt nx is L (vI z :: S) w := propext Iff.rfl
theorem e_ldc_w {n : Nat} : ab_wb Ls C J Rt nx ((.ldc_w n, ex, z) :: is) L S w = ab_wb Ls C J Rt nx is L (vI z :: S) w := propext Iff.rfl
theorem e_ldc2_w {n : Nat} : ab_wb Ls C J Rt nx ((.ldc2_w n, ex, z) :: is) L S w = ab_wb Ls C J Rt nx is L (vL z :: S) w := propext Iff.rfl
theorem e_iload0 {a : Int} : ab_wb Ls C J Rt nx ((.iload_n 0, ex, z) :: is) (vI a :: L) S w = ab_wb Ls C J Rt nx is (vI a :: L) (vI a :: S) w := propext Iff.rfl
theorem e_istore0 {lk : ab_V} {a : Int} : ab_wb Ls C J Rt nx ((.istore_n 0, ex, z) :: is) (lk :: L) (vI a :: S) w = ab_wb Ls C J Rt nx is (vI a :: L) S w := propext Iff.rfl
theorem e_lload0 {a : Int} : ab_wb Ls C J Rt nx ((.lload_n 0, ex, z) :: is) (vL a :: L) S w = ab_wb Ls C J Rt nx is (vL a :: L) (vL a :: S) w := propext Iff.rfl
theorem e_lstore0 {lk lm : ab_V} {a : Int} : ab_wb Ls C J Rt nx ((.lstore_n 0, ex, z) :: is) (lk :: lm :: L) (vL a :: S) w = ab_wb Ls C J Rt nx is (vL a :: vX :: L) S w := propext Iff.rfl
theorem e_aload0 {a : Nat} : ab_wb Ls C J Rt nx ((.aload_n 0, ex, z) :: is) (vR a :: L) S w = ab_wb Ls C J Rt nx is (vR a :: L) (vR a :: S) w := propext Iff.rfl
theorem e_astore0 {lk : ab_V} {a : Nat} : ab_wb Ls C J Rt nx ((.astore_n 0, ex, z) :: is) (lk :: L) (vR a :: S) w = ab_wb Ls C J Rt nx is (vR a :: L) S w := propext Iff.rfl
theorem e_iinc0 {a c : Int} : ab_wb Ls C J Rt nx ((.iinc 0 c, ex, z) :: is) (vI a :: L) S w = ab_wb Ls C J Rt nx is (vI (iW (a + c)) :: L) S w := propext Iff.rfl
theorem e_iload1 {l0 : ab_V} {a : Int} : ab_wb Ls C J Rt nx ((.iload_n 1, ex, z) :: is) (l0 :: vI a :: L) S w = ab_wb Ls C J Rt nx is (l0 :: vI a :: L) (vI a :: S) w := propext Iff.rfl
theorem e_istore1 {l0 : ab_V} {lk : ab_V} {a : Int} : ab_wb Ls C J Rt nx ((.istore_n 1, ex, z) :: is) (l0 :: lk :: L) (vI a :: S) w = ab_wb Ls C J Rt nx is (ab_kl l0 0 :: vI a :: L) S w := propext Iff.rfl
theorem e_lload1 {l0 : ab_V} {a : Int} : ab_wb Ls C J Rt nx ((.lload_n 1, ex, z) :: is) (l0 :: vL a :: L) S w = ab_wb Ls C J Rt nx is (l0 :: vL a :: L) (vL a :: S) w := propext Iff.rfl
theorem e_lstore1 {l0 : ab_V} {lk lm : ab_V} {a : Int} : ab_wb Ls C J Rt nx ((.lstore_n 1, ex, z) :: is) (l0 :: lk :: lm :: L) (vL a :: S) w = ab_wb Ls C J Rt nx is (ab_kl l0 0 :: vL a :: vX :: L) S w := propext Iff.rfl
theorem e_aload1 {l0 : ab_V} {a : Nat} : ab_wb Ls C J Rt nx ((.aload_n 1, ex, z) :: is) (l0 :: vR a :: L) S w = ab_wb Ls C J Rt nx is (l0 :: vR a :: L) (vR a :: S) w := propext Iff.rfl
theorem e_astore1 {l0 : ab_V} {lk : ab_V} {a : Nat} : ab_wb Ls C J Rt nx ((.astore_n 1, ex, z) :: is) (l0 :: lk :: L) (vR a :: S) w = ab_wb Ls C J Rt nx is (ab_kl l0 0 :: vR a :: L) S w := propext Iff.rfl
theorem e_iinc1 {l0 : ab_V} {a c : Int} : ab_wb Ls C J Rt nx ((.iinc 1 c, ex, z) :: is) (l0 :: vI a :: L) S w = ab_wb Ls C J Rt nx is (ab_kl l0 0 :: vI (iW (a + c)) :: L) S w := propext Iff.rfl
theorem e_iload2 {l0 l1 : ab_V} {a : Int} : ab_wb Ls C J Rt nx ((.iload_n 2, ex, z) :: is) (l0 :: l1 :: vI a :: L) S w = ab_wb Ls C J Rt nx is (l0 :: l1 :: vI a :: L) (vI a :: S) w := propext Iff.rfl
theorem e_istore2 {l0 l1 : ab_V} {lk : ab_V} {a : Int} : ab_wb Ls C J Rt nx ((.istore_n 2, ex, z) :: is) (l0 :: l1 :: lk :: L) (vI a :: S) w = ab_wb Ls C J Rt nx is (l0 :: ab_kl l1 0 :: vI a :: L) S w := propext Iff.rfl
theorem e_lload2 {l0 l1 : ab_V} {a : Int} : ab_wb Ls C J Rt nx ((.lload_n 2, ex, z) :: is) (l0 :: l1 :: vL a :: L) S w = ab_wb Ls C J Rt nx is (l0 :: l1 :: vL a :: L) (vL a :: S) w := propext Iff.rfl
theorem e_lstore2 {l0 l1 : ab_V} {lk lm : ab_V} {a : Int} : ab_wb Ls C J Rt nx ((.lstore_n 2, ex, z) :: is) (l0 :: l1 :: lk :: lm :: L) (vL a :: S) w = ab_wb Ls C J Rt nx is (l0 :: ab_kl l1 0 :: vL a :: vX :: L) S w := propext Iff.rfl
theorem e_aload2 {l0 l1 : ab_V} {a : Nat} : ab_wb Ls C J Rt nx ((.aload_n 2, ex, z) :: is) (l0 :: l1 :: vR a :: L) S w = ab_wb Ls C J Rt nx is (l0 :: l1 :: vR a :: L) (vR a :: S) w := propext Iff.rfl
theorem e_astore2 {l0 l1 : ab_V} {lk : ab_V} {a : Nat} : ab_wb Ls C J Rt nx ((.astore_n 2, ex, z) :: is) (l0 :: l1 :: lk :: L) (vR a :: S) w = ab_wb Ls C J Rt nx is (l0 :: ab_kl l1 0 :: vR a :: L) S w := propext Iff.rfl
theorem e_iinc2 {l0 l1 : ab_V} {a c : Int} : ab_wb Ls C J Rt nx ((.iinc 2 c, ex, z) :: is) (l0 :: l1 :: vI a :: L) S w = ab_wb Ls C J Rt nx is (l0 :: ab_kl l1 0 :: vI (iW (a + c)) :: L) S w := propext Iff.rfl
theorem e_iload3 {l0 l1 l2 : ab_V} {a : Int} : ab_wb Ls C J Rt nx ((.iload_n 3, ex, z) :: is) (l0 :: l1 :: l2 :: vI a :: L) S w = ab_wb Ls C J Rt nx is (l0 :: l1 :: l2 :: vI a :: L) (vI a :: S) w := propext Iff.rfl
theorem e_istore3 {l0 l1 l2 : ab_V} {lk : ab_V} {a : Int} : ab_wb Ls C J Rt nx ((.istore_n 3, ex, z) :: is) (l0 :: l1 :: l2 :: lk :: L) (vI a :: S) w = ab_wb Ls C J Rt nx is (l0 :: l1 :: ab_kl l2 0 :: vI a :: L) S w := propext Iff.rfl
theorem e_lload3 {l0 l1 l2 : ab_V} {a : Int} : ab_wb Ls C J Rt nx ((.lload_n 3, ex, z) :: is) (l0 :: l1 :: l2 :: vL a :: L) S w = ab_wb Ls C J Rt nx is (l0 :: l1 :: l2 :: vL a :: L) (vL a :: S) w := propext Iff.rfl
theorem e_lstore3 {l0 l1 l2 : ab_V} {lk lm : ab_V} {a : Int} : ab_wb Ls C J Rt nx ((.lstore_n 3, ex, z) :: is) (l0 :: l1 :: l2 :: lk :: lm :: L) (vL a :: S) w = ab_wb Ls C J Rt nx is (l0 :: l1 :: ab_kl l2 0 :: vL a :: vX :: L) S w := propext Iff.rfl
theorem e_aload3 {l0 l1 l2 : ab_V} {a : Nat} : ab_wb Ls C J Rt nx ((.aload_n 3, ex, z) :: is) (l0 :: l1 :: l2 :: vR a :: L) S w = ab_wb Ls C J Rt nx is (l0 :: l1 :: l2 :: vR a :: L) (vR a :: S) w := propext Iff.rfl
theorem e_astore3 {l0 l1 l2 : ab_V} {lk : ab_V} {a : Nat} : ab_wb Ls C J Rt nx ((.astore_n 3, ex, z) :: is) (l0 :: l1 :: l2 :: lk :: L) (vR a :: S) w = ab_wb Ls C J Rt nx is (l0 :: l1 :: ab_kl l2 0 :: vR a :: L) S w := propext Iff.rfl
theorem e_iinc3 {l0 l1 l2 : ab_V} {a c : Int} : ab_wb Ls C J Rt nx ((.iinc 3 c, ex, z) :: is) (l0 :: l1 :: l2 :: vI a :: L) S w = ab_wb Ls C J Rt nx is (l0 :: l1 :: ab_kl l2 0 :: vI (iW (a + c)) :: L) S w := propext Iff.rfl
theorem e_iload4 {l0 l1 l2 l3 : ab_V} {a : Int} : ab_wb Ls C J Rt nx ((.iload 4, ex, z) :: is) (l0 :: l1 :: l2 :: l3 :: vI a :: L) S w = ab_wb Ls C J Rt nx is (l0 :: l1 :: l2 :: l3 :: vI a :: L) (vI a :: S) w := propext Iff.rfl
theorem e_istore4 {l0 l1 l2 l3 : ab_V} {lk : ab_V} {a : Int} : ab_wb Ls C J Rt nx ((.istore 4, ex, z) :: is) (l0 :: l1 :: l2 :: l3 :: lk :: L) (vI a :: S) w = ab_wb Ls C J Rt nx is (l0 :: l1 :: l2 :: ab_kl l3 0 :: vI a :: L) S w := propext Iff.rfl
theorem e_lload4 {l0 l1 l2 l3 : ab_V} {a : Int} : ab_wb Ls C J Rt nx ((.lload 4, ex, z) :: is) (l0 :: l1 :: l2 :: l3 :: vL a :: L) S w = ab_wb Ls C J Rt nx is (l0 :: l1 :: l2 :: l3 :: vL a :: L) (vL a :: S) w := propext Iff.rfl
theorem e_lstore4 {l0 l1 l2 l3 : ab_V} {lk lm : ab_V} {a : Int} : ab_wb Ls C J Rt nx ((.lstore 4, ex, z) :: is) (l0 :: l1 :: l2 :: l3 :: lk :: lm :: L) (vL a :: S) w = ab_wb Ls C J Rt nx is (l0 :: l1 :: l2 :: ab_kl l3 0 :: vL a :: vX :: L) S w := propext Iff.rfl
theorem e_aload4 {l0 l1 l2 l3 : ab_V} {a : Nat} : ab_wb Ls C J Rt nx ((.aload 4, ex, z) :: is) (l0 :: l1 :: l2 :: l3 :: vR a :: L) S w = ab_wb Ls C J Rt nx is (l0 :: l1 :: l2 :: l3 :: vR a :: L) (vR a :: S) w := propext Iff.rfl
theorem e_astore4 {l0 l1 l2 l3 : ab_V} {lk : ab_V} {a : Nat} : ab_wb Ls C J Rt nx ((.astore 4, ex, z) :: is) (l0 :: l1 :: l2 :: l3 :: lk :: L) (vR a :: S) w = ab_wb Ls C J Rt nx is (l0 :: l1 :: l2 :: ab_kl l3 0 :: vR a :: L) S w := propext Iff.rfl
theorem e_iinc4 {l0 l1 l2 l3 : ab_V} {a c : Int} : ab_wb Ls C J Rt nx ((.iinc 4 c, ex, z) :: is) (l0 :: l1 :: l2 :: l3 :: vI a :: L) S w = ab_wb Ls C J Rt nx is (l0 :: l1 :: l2 :: ab_kl l3 0 :: vI (iW (a + c)) :: L) S w := propext Iff.rfl
theorem e_iload5 {l0 l1 l2 l3 l4 : ab_V} {a : Int} : ab_wb Ls C J Rt nx ((.iload 5, ex, z) :: is) (l0 :: l1 :: l2 :: l3 :: l4 :: vI a :: L) S w = ab_wb Ls C J Rt nx is (l0 :: l1 :: l2 :: l3 :: l4 :: vI a :: L) (vI a :: S) w := propext Iff.rfl
theorem e_istore5 {l0 l1 l2 l3 l4 : ab_V} {lk : ab_V} {a : Int} : ab_wb Ls C J Rt nx ((.istore 5, ex, z) :: is) (l0 :: l1 :: l2 :: l3 :: l4 :: lk :: L) (vI a :: S) w = ab_wb Ls C J Rt nx is (l0 :: l1 :: l2 :: l3 :: ab_kl l4 0 :: vI a :: L) S w := propext Iff.rfl
theorem e_lload5 {l0 l1 l2 l3 l4 : ab_V} {a : Int} : ab_wb Ls C J Rt nx ((.lload 5, ex, z) :: is) (l0 :: l1 :: l2 :: l3 :: l4 :: vL a :: L) S w = ab_wb Ls C J Rt nx is (l0 :: l1 :: l2 :: l3 :: l4 :: vL a :: L) (vL a :: S) w := propext Iff.rfl
theorem e_lstore5 {l0 l1 l2 l3 l4 : ab_V} {lk lm : ab_V} {a : Int} : ab_wb Ls C J Rt nx ((.lstore 5, ex, z) :: is) (l0 :: l1 :: l2 :: l3 :: l4 :: lk :: lm :: L) (vL a :: S) w = ab_wb Ls C J Rt nx is (l0 :: l1 :: l2 :: l3 :: ab_kl l4 0 :: vL a :: vX :: L) S w := propext Iff.rfl
theorem e_aload5 {l0 l1 l2 l3 l4 : ab_V} {a : Nat} : ab_wb Ls C J Rt nx ((.aload 5, ex, z) :: is) (l0 :: l1 :: l2 :: l3 :: l4 :: vR a :: L) S w = ab_wb Ls C J Rt nx is (l0 :: l1 :: l2 :: l3 :: l4 :: vR a :: L) (vR a :: S) w := propext Iff.rfl
theorem e_astore5 {l0 l1 l2 l3 l4 : ab_V} {lk : ab_V} {a : Nat} : ab_wb Ls C J Rt nx ((.astore 5, ex, z) :: is) (l0 :: l1 :: l2 :: l3 :: l4 :: lk :: L) (vR a :: S) w = ab_wb Ls C J Rt nx is (l0 :: l1 :: l2 :: l3 :: ab_kl l4 0 :: vR a :: L) S w := propext Iff.rfl
theorem e_iinc5 {l0 l1 l2 l3 l4 : ab_V} {a c : Int} : ab_wb Ls C J Rt nx ((.iinc 5 c, ex, z) :: is) (l0 :: l1 :: l2 :: l3 :: l4 :: vI a :: L) S w = ab_wb Ls C J Rt nx is (l0 :: l1 :: l2 :: l3 :: ab_kl l4 0 :: vI (iW (a + c)) :: L) S w := propext Iff.rfl
theorem e_iload6 {l0 l1 l2 l3 l4 l5 : ab_V} {a : Int} : ab_wb Ls C J Rt nx ((.iload 6, ex, z) :: is) (l0 :: l1 :: l2 :: l3 :: l4 :: l5 :: vI a :: L) S w = ab_wb Ls C J Rt nx is (l0 :: l1 :: l2 :: l3 :: l4 :: l5 :: vI a :: L) (vI a :: S) w := propext Iff.rfl
theorem e_istore6 {l0 l1 l2 l3 l4 l5 : ab_V} {lk : ab_V} {a : Int} : ab_wb Ls C J Rt nx ((.istore 6, ex, z) :: is) (l0 :: l1 :: l2 :: l3 :: l4 :: l5 :: lk :: L) (vI a :: S) w = ab_wb Ls C J Rt nx is (l0 :: l1 :: l2 :: l3 :: l4 :: ab_kl l5 0 :: vI a :: L) S w := propext Iff.rfl
theorem e_lload6 {l0 l1 l2 l3 l4 l5 : ab_V} {a : Int} : ab_wb Ls C J Rt nx ((.lload 6, ex, z) :: is) (l0 :: l1 :: l2 :: l3 :: l4 :: l5 :: vL a :: L) S w = ab_wb Ls C J Rt nx is (l0 :: l1 :: l2 :: l3 :: l4 :: l5 :: vL a :: L) (vL a :: S) w := propext Iff.rfl
theorem e_lstore6 {l0 l1 l2 l3 l4 l5 : ab_V} {lk lm : ab_V} {a : Int} : ab_wb Ls C J Rt nx ((.lstore 6, ex, z) :: is) (l0 :: l1 :: l2 :: l3 :: l4 :: l5 :: lk :: lm :: L) (vL a :: S) w = ab_wb Ls C J Rt nx is (l0 :: l1 :: l2 :: l3 :: l4 :: ab_kl l5 0 :: vL a :: vX :: L) S w := propext Iff.rfl
theorem e_aload6 {l0 l1 l2 l3 l4 l5 : ab_V} {a : Nat} : ab_wb Ls C J Rt nx ((.aload 6, ex, z) :: is) (l0 :: l1 :: l2 :: l3 :: l4 :: l5 :: vR a :: L) S w = ab_wb Ls C J Rt nx is (l0 :: l1 :: l2 :: l3 :: l4 :: l5 :: vR a :: L) (vR a :: S) w := propext Iff.rfl
theorem e_astore6 {l0 l1 l2 l3 l4 l5 : ab_V} {lk : ab_V} {a : Nat} : ab_wb Ls C J Rt nx ((.astore 6, ex, z) :: is) (l0 :: l1 :: l2 :: l3 :: l4 :: l5 :: lk :: L) (vR a :: S) w = ab_wb Ls C J Rt nx is (l0 :: l1 :: l2 :: l3 :: l4 :: ab_kl l5 0 :: vR a :: L) S w := propext Iff.rfl
theorem e_iinc6 {l0 l1 l2 l3 l4 l5 : ab_V} {a c : Int} : ab_wb Ls C J Rt nx ((.iinc 6 c, ex, z) :: is) (l0 :: l1 :: l2 :: l3 :: l4 :: l5 :: vI a :: L) S w = ab_wb Ls C J Rt nx is (l0 :: l1 :: l2 :: l3 :: l4 :: ab_kl l5 0 :: vI (iW (a + c)) :: L) S w := propext Iff.rfl
theorem e_iload7 {l0 l1 l2 l3 l4 l5 l6 : ab_V} {a : Int} : ab_wb Ls C J Rt nx ((.iload 7, ex, z) :: is) (l0 :: l1 :: l2 :: l3 :: l4 :: l5 :: l6 :: vI a :: L) S w = ab_wb Ls C J Rt nx is (l0 :: l1 :: l2 :: l3 :: l4 :: l5 :: l6 :: vI a :: L) (vI a :: S) w := propext Iff.rfl
theorem e_istore7 {l0 l1 l2 l3 l4 l5 l6 : ab_V} {lk : ab_V} {a : Int} : ab_wb Ls C J Rt nx ((.istore 7, ex, z) :: is) (l0 :: l1 :: l2 :: l3 :: l4 :: l5 :: l6 :: lk :: L) (vI a :: S) w = ab_wb Ls C J Rt nx is (l0 :: l1 :: l2 :: l3 :: l4 :: l5 :: ab_kl l6 0 :: vI a :: L) S w := propext Iff.rfl
theorem e_lload7 {l0 l1 l2 l3 l4 l5 l6 : ab_V} {a : Int} : ab_wb Ls C J Rt nx ((.lload 7, ex, z) :: is) (l0 :: l1 :: l2 :: l3 :: l4 :: l5 :: l6 :: vL a :: L) S w = ab_wb Ls C J Rt nx is (l0 :: l1 :: l2 :: l3 :: l4 :: l5 :: l6 :: vL a :: L) (vL a :: S) w := propext Iff.rfl
theorem e_lstore7 {l0 l1 l2 l3 l4 l5 l6 : ab_V} {lk lm : ab_V} {a : Int} : ab_wb Ls C J Rt nx ((.lstore 7, ex, z) :: is) (l0 :: l1 :: l2 :: l3 :: l4 :: l5 :: l6 :: lk :: lm :: L) (vL a :: S) w = ab_wb Ls C J Rt nx is (l0 :: l1 :: l2 :: l3 :: l4 :: l5 :: ab_kl l6 0 :: vL a :: vX :: L) S w := propext Iff.rfl
theorem e_aload7 {l0 l1 l2 l3 l4 l5 l6 : ab_V} {a : Nat} : ab_wb Ls C J Rt nx ((.aload 7, ex, z) :: is) (l0 :: l1 :: l2 :: l3 :: l4 :: l5 :: l6 :: vR a :: L) S w = ab_wb Ls C J Rt nx is (l0 :: l1 :: l2 :: l3 :: l4 :: l5 :: l6 :: vR a :: L) (vR a :: S) w := propext Iff.rfl
theorem e_astore7 {l0 l1 l2 l3 l4 l5 l6 : ab_V} {lk : ab_V} {a : Nat} : ab_wb Ls C J Rt nx ((.astore 7, ex, z) :: is) (l0 :: l1 :: l2 :: l3 :: l4 :: l5 :: l6 :: lk :: L) (vR a :: S) w = ab_wb Ls C J Rt nx is (l0 :: l1 :: l2 :: l3 :: l4 :: l5 :: ab_kl l6 0 :: vR a :: L) S w := propext Iff.rfl
theorem e_iinc7 {l0 l1 l2 l3 l4 l5 l6 : ab_V} {a c : Int} : ab_wb Ls C J Rt nx ((.iinc 7 c, ex, z) :: is) (l0 :: l1 :: l2 :: l3 :: l4 :: l5 :: l6 :: vI a :: L) S w = ab_wb Ls C J Rt nx is (l0 :: l1 :: l2 :: l3 :: l4 :: l5 :: ab_kl l6 0 :: vI (iW (a + c)) :: L) S w := propext Iff.rfl
theorem e_iload8 {l0 l1 l2 l3 l4 l5 l6 l7 : ab_V} {a : Int} : ab_wb Ls C J Rt nx ((.iload 8, ex, z) :: is) (l0 :: l1 :: l2 :: l3 :: l4 :: l5 :: l6 :: l7 :: vI a :: L) S w = ab_wb Ls C J Rt nx is (l0 :: l1 :: l2 :: l3 :: l4 :: l5 :: l6 :: l7 :: vI a :: L) (vI a :: S) w := propext Iff.rfl
theorem e_istore8 {l0 l1 l2 l3 l4 l5 l6 l7 : ab_V} {lk : ab_V} {a : Int} : ab_wb Ls C J Rt nx ((.istore 8, ex, z) :: is) (l0 :: l1 :: l2 :: l3 :: l4 :: l5 :: l6 :: l7 :: lk :: L) (vI a :: S) w = ab_wb Ls C J Rt nx is (l0 :: l1 :: l2 :: l3 :: l4 :: l5 :: l6 :: ab_kl l7 0 :: vI a :: L) S w := propext Iff.rfl
theorem e_lload8 {l0 l1 l2 l3 l4 l5 l6 l7 : ab_V} {a : Int} : ab_wb Ls C J Rt nx ((.lload 8, ex, z) :: is) (l0 :: l1 :: l2 :: l3 :: l4 :: l5 :: l6 :: l7 :: vL a :: L) S w = ab_wb Ls C J Rt nx is (l0 :: l1 :: l2 :: l3 :: l4 :: l5 :: l6 :: l7 :: vL a :: L) (vL a :: S) w := propext Iff.rfl
theorem e_lstore8 {l0 l1 l2 l3 l4 l5 l6 l7 : ab_V} {lk lm : ab_V} {a : Int} : ab_wb Ls C J Rt nx ((.lstore 8, ex, z) :: is) (l0 :: l1 :: l2 :: l3 :: l4 :: l5 :: l6 :: l7 :: lk :: lm :: L) (vL a :: S) w = ab_wb Ls C J Rt nx is (l0 :: l1 :: l2 :: l3 :: l4 :: l5 :: l6 :: ab_kl l7 0 :: vL a :: vX :: L) S w := propext Iff.rfl
theorem e_aload8 {l0 l1 l2 l3 l4 l5 l6 l7 : ab_V} {a : Nat} : ab_wb Ls C J Rt nx ((.aload 8, ex, z) :: is) (l0 :: l1 :: l2 :: l3 :: l4 :: l5 :: l6 :: l7 :: vR a :: L) S w = ab_wb Ls C J Rt nx is (l0 :: l1 :: l2 :: l3 :: l4 :: l5 :: l6 :: l7 :: vR a :: L) (vR a :: S) w := propext Iff.rfl
theorem e_astore8 {l0 l1 l2 l3 l4 l5 l6 l7 : ab_V} {lk : ab_V} {a : Nat} : ab_wb Ls C J Rt nx ((.astore 8, ex, z) :: is) (l0 :: l1 :: l2 :: l3 :: l4 :: l5 :: l6 :: l7 :: lk :: L) (vR a :: S) w = ab_wb Ls C J Rt nx is (l0 :: l1 :: l2 :: l3 :: l4 :: l5 :: l6 :: ab_kl l7 0 :: vR a :: L) S w := propext Iff.rfl
theorem e_iinc8 {l0 l1 l2 l3 l4 l5 l6 l7 : ab_V} {a c : Int} : ab_wb Ls C J Rt nx ((.iinc 8 c, ex, z) :: is) (l0 :: l1 :: l2 :: l3 :: l4 :: l5 :: l6 :: l7 :: vI a :: L) S w = ab_wb Ls C J Rt nx is (l0 :: l1 :: l2 :: l3 :: l4 :: l5 :: l6 :: ab_kl l7 0 :: vI (iW (a + c)) :: L) S w := propext Iff.rfl
theorem e_iload9 {l0 l1 l2 l3 l4 l5 l6 l7 l8 : ab_V} {a : Int} : ab_wb Ls C J Rt nx ((.iload 9, ex, z) :: is) (l0 :: l1 :: l2 :: l3 :: l4 :: l5 :: l6 :: l7 :: l8 :: vI a :: L) S w = ab_wb Ls C J Rt nx is (l0 :: l1 :: l2 :: l3 :: l4 :: l5 :: l6 :: l7 :: l8 :: vI a :: L) (vI a :: S) w := propext Iff.rfl
theorem e_istore9 {l0 l1 l2 l3 l4 l5 l6 l7 l8 : ab_V} {lk : ab_V} {a : Int} : ab_wb Ls C J Rt nx ((.istore 9, ex, z) :: is) (l0 :: l1 :: l2 :: l3 :: l4 :: l5 :: l6 :: l7 :: l8 :: lk :: L) (vI a :: S) w = ab_wb Ls C J Rt nx is (l0 :: l1 :: l2 :: l3 :: l4 :: l5 :: l6 :: l7 :: ab_kl l8 0 :: vI a :: L) S w := propext Iff.rfl
theorem e_lload9 {l0 l1 l2 l3 l4 l5 l6 l7 l8 : ab_V} {a : Int} : ab_wb Ls C J Rt nx ((.lload 9, ex, z) :: is) (l0 :: l1 :: l2 :: l3 :: l4 :: l5 :: l6 :: l7 :: l8 :: vL a :: L) S w = ab_wb Ls C J Rt nx is (l0 :: l1 :: l2 :: l3 :: l4 :: l5 :: l6 :: l7 :: l8 :: vL a :: L) (vL a :: S) w := propext Iff.rfl
theorem e_lstore9 {l0 l1 l2 l3 l4 l5 l6 l7 l8 : ab_V} {lk lm : ab_V} {a : Int} : ab_wb Ls C J Rt nx ((.lstore 9, ex, z) :: is) (l0 :: l1 :: l2 :: l3 :: l4 :: l5 :: l6 :: l7 :: l8 :: lk :: lm :: L) (vL a :: S) w = ab_wb Ls C J Rt nx is (l0 :: l1 :: l2 :: l3 :: l4 :: l5 :: l6 :: l7 :: ab_kl l8 0 :: vL a :: vX :: L) S w := propext Iff.rfl
theorem e_aload9 {l0 l1 l2 l3 l4 l5 l6 l7 l8 : ab_V} {a : Nat} : ab_wb Ls C J Rt nx ((.aload 9, ex, z) :: is) (l0 :: l1 :: l2 :: l3 :: l4 :: l5 :: l6 :: l7 :: l8 :: vR a :: L) S w = ab_wb Ls C J Rt nx is (l0 :: l1 :: l2 :: l3 :: l4 :: l5 :: l6 :: l7 :: l8 :: vR a :: L) (vR a :: S) w := propext Iff.rfl
theorem e_astore9 {l0 l1 l2 l3 l4 l5 l6 l7 l8 : ab_V} {lk : ab_V} {a : Nat} : ab_wb Ls C J Rt nx ((.astore 9, ex, z) :: is) (l0 :: l1 :: l2 :: l3 :: l4 :: l5 :: l6 :: l7 :: l8 :: lk :: L) (vR a :: S) w = ab_wb Ls C J Rt nx is (l0 :: l1 :: l2 :: l3 :: l4 :: l5 :: l6 :: l7 :: ab_kl l8 0 :: vR a :: L) S w := propext Iff.rfl
theorem e_iinc9 {l0 l1 l2 l3 l4 l5 l6 l7 l8 : ab_V} {a c : Int} : ab_wb Ls C J Rt nx ((.iinc 9 c, ex, z) :: is) (l0 :: l1 :: l2 :: l3 :: l4 :: l5 :: l6 :: l7 :: l8 :: vI a :: L) S w = ab_wb Ls C J Rt nx is (l0 :: l1 :: l2 :: l3 :: l4 :: l5 :: l6 :: l7 :: ab_kl l8 0 :: vI (iW (a + c)) :: L) S w := propext Iff.rfl
theorem e_iload10 {l0 l1 l2 l3 l4 l5 l6 l7 l8 l9 : ab_V} {a : Int} : ab_wb Ls C J Rt nx ((.iload 10, ex, z) :: is) (l0 :: l1 :: l2 :: l3 :: l4 :: l5 :: l6 :: l7 :: l8 :: l9 :: vI a :: L) S w = ab_wb Ls C J Rt nx is (l0 :: l1 :: l2 :: l3 :: l4 :: l5 :: l6 :: l7 :: l8 :: l9 :: vI a :: L) (vI a :: S) w := propext Iff.rfl
theorem e_istore10 {l0 l1 l2 l3 l4 l5 l6 l7 l8 l9 : ab_V} {lk : ab_V} {a : Int} : ab_wb Ls C J Rt nx ((.istore 10, ex, z) :: is) (l0 :: l1 :: l2 :: l3 :: l4 :: l5 :: l6 :: l7 :: l8 :: l9 :: lk :: L) (vI a :: S) w = ab_wb Ls C J Rt nx is (l0 :: l1 :: l2 :: l3 :: l4 :: l5 :: l6 :: l7 :: l8 :: ab_kl l9 0 :: vI a :: L) S w := propext Iff.rfl
theorem e_lload10 {l0 l1 l2 l3 l4 l5 l6 l7 l8 l9 : ab_V} {a : Int} : ab_wb Ls C J Rt nx ((.lload 10, ex, z) :: is) (l0 :: l1 :: l2 :: l3 :: l4 :: l5 :: l6 :: l7 :: l8 :: l9 :: vL a :: L) S w = ab_wb Ls C J Rt nx is (l0 :: l1 :: l2 :: l3 :: l4 :: l5 :: l6 :: l7 :: l8 :: l9 :: vL a :: L) (vL a :: S) w := propext Iff.rfl
theorem e_lstore10 {l0 l1 l2 l3 l4 l5 l6 l7 l8 l9 : ab_V} {lk lm : ab_V} {a : Int} : ab_wb Ls C J Rt nx ((.lstore 10, ex, z) :: is) (l0 :: l1 :: l2 :: l3 :: l4 :: l5 :: l6 :: l7 :: l8 :: l9 :: lk :: lm :: L) (vL a :: S) w = ab_wb Ls C J Rt nx is (l0 :: l1 :: l2 :: l3 :: l4 :: l5 :: l6 :: l7 :: l8 :: ab_kl l9 0 :: vL a :: vX :: L) S w := propext Iff.rfl
theorem e_aload10 {l0 l1 l2 l3 l4 l5 l6 l7 l8 l9 : ab_V} {a : Nat} : ab_wb Ls C J Rt nx ((.aload 10, ex, z) :: is) (l0 :: l1 :: l2 :: l3 :: l4 :: l5 :: l6 :: l7 :: l8 :: l9 :: vR a :: L) S w = ab_wb Ls C J Rt nx is (l0 :: l1 :: l2 :: l3 :: l4 :: l5 :: l6 :: l7 :: l8 :: l9 :: vR a :: L) (vR a :: S) w := propext Iff.rfl
theorem e_astore10 {l0 l1 l2 l3 l4 l5 l6 l7 l8 l9 : ab_V} {lk : ab_V} {a : Nat} : ab_wb Ls C J Rt nx ((.astore 10, ex, z) :: is) (l0 :: l1 :: l2 :: l3 :: l4 :: l5 :: l6 :: l7 :: l8 :: l9 :: lk :: L) (vR a :: S) w = ab_wb Ls C J Rt nx is (l0 :: l1 :: l2 :: l3 :: l4 :: l5 :: l6 :: l7 :: l8 :: ab_kl l9 0 :: vR a :: L) S w := propext Iff.rfl
theorem e_iinc10 {l0 l1 l2 l3 l4 l5 l6 l7 l8 l9 : ab_V} {a c : Int} : ab_wb Ls C J Rt nx ((.iinc 10 c, ex, z) :: is) (l0 :: l1 :: l2 :: l3 :: l4 :: l5 :: l6 :: l7 :: l8 :: l9 :: vI a :: L) S w = ab_wb Ls C J Rt nx is (l0 :: l1 :: l2 :: l3 :: l4 :: l5 :: l6 :: l7 :: l8 :: ab_kl l9 0 :: vI (iW (a + c)) :: L) S w := propext Iff.rfl
theorem e_klI {a : Int} : ab_kl (vI a) 0 = vI a := congrArg (fun x => x) (Eq.refl (vI a))
theorem e_klR {a : Nat} : ab_kl (vR a) 0 = vR a := congrArg (fun x => x) (Eq.refl (vR a))
theorem e_klX : ab_kl vX 0 = vX := congrArg (fun x => x) (Eq.refl vX)
theorem e_klL {a : Int} : ab_kl (vL a) 0 = vX := congrArg (fun x => x) (Eq.refl vX)
theorem e_iadd {x y : Int} : ab_wb Ls C J Rt nx ((.iadd, ex, z) :: is) L (vI y :: vI x :: S) w = ab_wb Ls C J Rt nx is L (vI (iW (x + y)) :: S) w := propext Iff.rfl
theorem e_isub {x y : Int} : ab_wb Ls C J Rt nx ((.isub, ex, z) :: is) L (vI y :: vI x :: S) w = ab_wb Ls C J Rt nx is L (vI (iW (x - y)) :: S) w := propext Iff.rfl
theorem e_imul {x y : Int} : ab_wb Ls C J Rt nx ((.imul, ex, z) :: is) L (vI y :: vI x :: S) w = ab_wb Ls C J Rt nx is L (vI (iW (x * y)) :: S) w := propext Iff.rfl
theorem e_iand {x y : Int} : ab_wb Ls C J Rt nx ((.iand, ex, z) :: is) L (vI y :: vI x :: S) w = ab_wb Ls C J Rt nx is L (vI (i_and x y) :: S) w := propext Iff.rfl
theorem e_ior {x y : Int} : ab_wb Ls C J Rt nx ((.ior, ex, z) :: is) L (vI y :: vI x :: S) w = ab_wb Ls C J Rt nx is L (vI (i_or x y) :: S) w := propext Iff.rfl
theorem e_ixor {x y : Int} : ab_wb Ls C J Rt nx ((.ixor, ex, z) :: is) L (vI y :: vI x :: S) w = ab_wb Ls C J Rt nx is L (vI (i_xor x y) :: S) w := propext Iff.rfl
theorem e_ishl {x y : Int} : ab_wb Ls C J Rt nx ((.ishl, ex, z) :: is) L (vI y :: vI x :: S) w = ab_wb Ls C J Rt nx is L (vI (i_shl x y) :: S) w := propext Iff.rfl
theorem e_ishr {x y : Int} : ab_wb Ls C J Rt nx ((.ishr, ex, z) :: is) L (vI y :: vI x :: S) w = ab_wb Ls C J Rt nx is L (vI (i_shr x y) :: S) w := propext Iff.rfl
theorem e_iushr {x y : Int} : ab_wb Ls C J Rt nx ((.iushr, ex, z) :: is) L (vI y :: vI x :: S) w = ab_wb Ls C J Rt nx is L (vI (i_ushr x y) :: S) w := propext Iff.rfl
theorem e_idiv {x y : Int} : ab_wb Ls C J Rt nx ((.idiv, ex, z) :: is) L (vI y :: vI x :: S) w = (y ≠ 0 ∧ ab_wb Ls C J Rt nx is L (vI (i_div x y) :: S) w) := propext Iff.rfl
theorem e_irem {x y : Int} : ab_wb Ls C J Rt nx ((.irem, ex, z) :: is) L (vI y :: vI x :: S) w = (y ≠ 0 ∧ ab_wb Ls C J Rt nx is L (vI (i_rem x y) :: S) w) := propext Iff.rfl
theorem e_ladd {x y : Int} : ab_wb Ls C J Rt nx ((.ladd, ex, z) :: is) L (vL y :: vL x :: S) w = ab_wb Ls C J Rt nx is L (vL (lW (x + y)) :: S) w := propext Iff.rfl
theorem e_lsub {x y : Int} : ab_wb Ls C J Rt nx ((.lsub, ex, z) :: is) L (vL y :: vL x :: S) w = ab_wb Ls C J Rt nx is L (vL (lW (x - y)) :: S) w := propext Iff.rfl
theorem e_lmul {x y : Int} : ab_wb Ls C J Rt nx ((.lmul, ex, z) :: is) L (vL y :: vL x :: S) w = ab_wb Ls C J Rt nx is L (vL (lW (x * y)) :: S) w := propext Iff.rfl
theorem e_land {x y : Int} : ab_wb Ls C J Rt nx ((.land, ex, z) :: is) L (vL y :: vL x :: S) w = ab_wb Ls C J Rt nx is L (vL (l_and x y) :: S) w := propext Iff.rfl
theorem e_lor {x y : Int} : ab_wb Ls C J Rt nx ((.lor, ex, z) :: is) L (vL y :: vL x :: S) w = ab_wb Ls C J Rt nx is L (vL (l_or x y) :: S) w := propext Iff.rfl
theorem e_ldiv {x y : Int} : ab_wb Ls C J Rt nx ((.ldiv, ex, z) :: is) L (vL y :: vL x :: S) w = (y ≠ 0 ∧ ab_wb Ls C J Rt nx is L (vL (l_div x y) :: S) w) := propext Iff.rfl
theorem e_lrem {x y : Int} : ab_wb Ls C J Rt nx ((.lrem, ex, z) :: is) L (vL y :: vL x :: S) w = (y ≠ 0 ∧ ab_wb Ls C J Rt nx is L (vL (l_rem x y) :: S) w) := propext Iff.rfl
theorem e_lshl {x y : Int} : ab_wb Ls C J Rt nx ((.lshl, ex, z) :: is) L (vI y :: vL x :: S) w = ab_wb Ls C J Rt nx is L (vL (l_shl x y) :: S) w := propext Iff.rfl
theorem e_lshr {x y : Int} : ab_wb Ls C J Rt nx ((.lshr, ex, z) :: is) L (vI y :: vL x :: S) w = ab_wb Ls C J Rt nx is L (vL (l_shr x y) :: S) w := propext Iff.rfl
theorem e_lushr {x y : Int} : ab_wb Ls C J Rt nx ((.lushr, ex, z) :: is) L (vI y :: vL x :: S) w = ab_wb Ls C J Rt nx is L (vL (l_ushr x y) :: S) w := propext Iff.rfl
theorem e_i2l {x : Int} : ab_wb Ls C J Rt nx ((.i2l, ex, z) :: is) L (vI x :: S) w = ab_wb Ls C J Rt nx is L (vL x :: S) w := propext Iff.rfl
theorem e_l2i {x : Int} : ab_wb Ls C J Rt nx ((.l2i, ex, z) :: is) L (vL x :: S) w = ab_wb Ls C J Rt nx is L (vI (iW x) :: S) w := propext Iff.rfl
theorem e_i2b {x : Int} : ab_wb Ls C J Rt nx ((.i2b, ex, z) :: is) L (vI x :: S) w = ab_wb Ls C J Rt nx is L (vI (i_2b x) :: S) w := propext Iff.rfl
theorem e_i2s {x : Int} : ab_wb Ls C J Rt nx ((.i2s, ex, z) :: is) L (vI x :: S) w = ab_wb Ls C J Rt nx is L (vI (i_2s x) :: S) w := propext Iff.rfl
theorem e_lcmp {x y : Int} : ab_wb Ls C J Rt nx ((.lcmp, ex, z) :: is) L (vL y :: vL x :: S) w = ab_wb Ls C J Rt nx is L (vI (l_cmp x y) :: S) w := propext Iff.rfl
theorem e_dupI {x : Int} : ab_wb Ls C J Rt nx ((.dup, ex, z) :: is) L (vI x :: S) w = ab_wb Ls C J Rt nx is L (vI x :: vI x :: S) w := propext Iff.rfl
theorem e_dupR {x : Nat} : ab_wb Ls C J Rt nx ((.dup, ex, z) :: is) L (vR x :: S) w = ab_wb Ls C J Rt nx is L (vR x :: vR x :: S) w := propext Iff.rfl
theorem e_dup2 {i : Int} {p : Nat} : ab_wb Ls C J Rt nx ((.dup2, ex, z) :: is) L (vI i :: vR p :: S) w = ab_wb Ls C J Rt nx is L (vI i :: vR p :: vI i :: vR p :: S) w := propext Iff.rfl
theorem e_if_eq {x o : Int} {b : Nat} : ab_wb Ls C J Rt nx ((.ifCond .eq o, [b], z) :: is) L (vI x :: S) w = ((x = 0 → J b L S w) ∧ (¬ (x = 0) → ab_wb Ls C J Rt nx is L S w)) := propext Iff.rfl
theorem e_cmp_eq {x y o : Int} {b : Nat} : ab_wb Ls C J Rt nx ((.if_icmp .eq o, [b], z) :: is) L (vI y :: vI x :: S) w = ((x = y → J b L S w) ∧ (¬ (x = y) → ab_wb Ls C J Rt nx is L S w)) := propext Iff.rfl
theorem e_if_ne {x o : Int} {b : Nat} : ab_wb Ls C J Rt nx ((.ifCond .ne o, [b], z) :: is) L (vI x :: S) w = ((¬ x = 0 → J b L S w) ∧ (¬ (¬ x = 0) → ab_wb Ls C J Rt nx is L S w)) := propext Iff.rfl
theorem e_cmp_ne {x y o : Int} {b : Nat} : ab_wb Ls C J Rt nx ((.if_icmp .ne o, [b], z) :: is) L (vI y :: vI x :: S) w = ((¬ x = y → J b L S w) ∧ (¬ (¬ x = y) → ab_wb Ls C J Rt nx is L S w)) := propext Iff.rfl
theorem e_if_lt {x o : Int} {b : Nat} : ab_wb Ls C J Rt nx ((.ifCond .lt o, [b], z) :: is) L (vI x :: S) w = ((x < 0 → J b L S w) ∧ (¬ (x < 0) → ab_wb Ls C J Rt nx is L S w)) := propext Iff.rfl
theorem e_cmp_lt {x y o : Int} {b : Nat} : ab_wb Ls C J Rt nx ((.if_icmp .lt o, [b], z) :: is) L (vI y :: vI x :: S) w = ((x < y → J b L S w) ∧ (¬ (x < y) → ab_wb Ls C J Rt nx is L S w)) := propext Iff.rfl
theorem e_if_ge {x o : Int} {b : Nat} : ab_wb Ls C J Rt nx ((.ifCond .ge o, [b], z) :: is) L (vI x :: S) w = ((0 ≤ x → J b L S w) ∧ (¬ (0 ≤ x) → ab_wb Ls C J Rt nx is L S w)) := propext Iff.rfl
theorem e_cmp_ge {x y o : Int} {b : Nat} : ab_wb Ls C J Rt nx ((.if_icmp .ge o, [b], z) :: is) L (vI y :: vI x :: S) w = ((y ≤ x → J b L S w) ∧ (¬ (y ≤ x) → ab_wb Ls C J Rt nx is L S w)) := propext Iff.rfl
theorem e_if_gt {x o : Int} {b : Nat} : ab_wb Ls C J Rt nx ((.ifCond .gt o, [b], z) :: is) L (vI x :: S) w = ((0 < x → J b L S w) ∧ (¬ (0 < x) → ab_wb Ls C J Rt nx is L S w)) := propext Iff.rfl
theorem e_cmp_gt {x y o : Int} {b : Nat} : ab_wb Ls C J Rt nx ((.if_icmp .gt o, [b], z) :: is) L (vI y :: vI x :: S) w = ((y < x → J b L S w) ∧ (¬ (y < x) → ab_wb Ls C J Rt nx is L S w)) := propext Iff.rfl
theorem e_if_le {x o : Int} {b : Nat} : ab_wb Ls C J Rt nx ((.ifCond .le o, [b], z) :: is) L (vI x :: S) w = ((x ≤ 0 → J b L S w) ∧ (¬ (x ≤ 0) → ab_wb Ls C J Rt nx is L S w)) := propext Iff.rfl
theorem e_cmp_le {x y o : Int} {b : Nat} : ab_wb Ls C J Rt nx ((.if_icmp .le o, [b], z) :: is) L (vI y :: vI x :: S) w = ((x ≤ y → J b L S w) ∧ (¬ (x ≤ y) → ab_wb Ls C J Rt nx is L S w)) := propext Iff.rfl
theorem e_goto {o : Int} {b : Nat} : ab_wb Ls C J Rt nx ((.goto o, [b], z) :: is) L S w = J b L S w := propext Iff.rfl
theorem e_tsw {x d lo hi : Int} {o : Array Int} {b : Nat} {bs : List Nat} : ab_wb Ls C J Rt nx ((.tableswitch d lo hi o, b :: bs, z) :: is) L (vI x :: S) w = J (ab_sw lo bs b x) L S w := propext Iff.rfl
theorem e_lsw {x d : Int} {o : Array (Int × Int)} {b : Nat} {bs : List Nat} : ab_wb Ls C J Rt nx ((.lookupswitch d o, b :: bs, z) :: is) L (vI x :: S) w = J (ab_lsw o.toList bs b x) L S w := propext Iff.rfl
theorem e_iret {x : Int} : ab_wb Ls C J Rt nx ((.ireturn, [0], z) :: is) L [vI x] w = Rt (some (vI x)) w := propext ⟨fun h => h.2, fun h => ⟨fun q => (by cases q), h⟩⟩
theorem e_zret {x : Int} : ab_wb Ls C J Rt nx ((.ireturn, [1], z) :: is) L [vI x] w = ((x = 0 ∨ x = 1) ∧ Rt (some (vI x)) w) := propext ⟨fun h => ⟨h.1 rfl, h.2⟩, fun h => ⟨fun _ => h.1, h.2⟩⟩
theorem e_lret {x : Int} : ab_wb Ls C J Rt nx ((.lreturn, ex, z) :: is) L [vL x] w = Rt (some (vL x)) w := propext Iff.rfl
theorem e_vret : ab_wb Ls C J Rt nx ((.return_, ex, z) :: is) L [] w = Rt none w := propext Iff.rfl
theorem e_gets {i : Nat} : ab_wb Ls C J Rt nx ((.getstatic i, ex, z) :: is) L S w = ab_wb Ls C J Rt nx is L (vR 100 :: S) w := propext Iff.rfl
theorem g_0_0 {i : Nat} : ab_wb Ls C J Rt nx ((.getfield i, [4, 0], z) :: is) L (vR 0 :: S) w = ab_wb Ls C J Rt nx is L (vR 1 :: S) w := propext Iff.rfl
theorem g_0_1 {i : Nat} : ab_wb Ls C J Rt nx ((.getfield i, [4, 1], z) :: is) L (vR 0 :: S) w = ab_wb Ls C J Rt nx is L (vR 3 :: S) w := propext Iff.rfl
theorem g_0_2 {i : Nat} : ab_wb Ls C J Rt nx ((.getfield i, [4, 2], z) :: is) L (vR 0 :: S) w = ab_wb Ls C J Rt nx is L (vR 7 :: S) w := propext Iff.rfl
theorem g_0_3 {i : Nat} : ab_wb Ls C J Rt nx ((.getfield i, [4, 3], z) :: is) L (vR 0 :: S) w = ab_wb Ls C J Rt nx is L (vR 11 :: S) w := propext Iff.rfl
theorem g_0_4 {i : Nat} : ab_wb Ls C J Rt nx ((.getfield i, [4, 4], z) :: is) L (vR 0 :: S) w = ab_wb Ls C J Rt nx is L (vR 15 :: S) w := propext Iff.rfl
theorem g_0_5 {i : Nat} : ab_wb Ls C J Rt nx ((.getfield i, [4, 5], z) :: is) L (vR 0 :: S) w = ab_wb Ls C J Rt nx is L (vR 21 :: S) w := propext Iff.rfl
theorem g_0_6 {i : Nat} : ab_wb Ls C J Rt nx ((.getfield i, [4, 6], z) :: is) L (vR 0 :: S) w = ab_wb Ls C J Rt nx is L (vR 27 :: S) w := propext Iff.rfl
theorem g_0_7 {i : Nat} : ab_wb Ls C J Rt nx ((.getfield i, [4, 7], z) :: is) L (vR 0 :: S) w = ab_wb Ls C J Rt nx is L (vI (w 0 7) :: S) w := propext Iff.rfl
theorem p_0_7 {i : Nat} {x : Int} : ab_wb Ls C J Rt nx ((.putfield i, [4, 7, 1], z) :: is) L (vI x :: vR 0 :: S) w = ((x = 0 ∨ x = 1) ∧ ab_wb Ls C J Rt nx is L S (ab_up w 0 7 x)) := propext ⟨fun h => ⟨h.2.1 rfl, h.2.2⟩, fun h => ⟨rfl, fun _ => h.1, h.2⟩⟩
theorem g_0_8 {i : Nat} : ab_wb Ls C J Rt nx ((.getfield i, [4, 8], z) :: is) L (vR 0 :: S) w = ab_wb Ls C J Rt nx is L (vR 28 :: S) w := propext Iff.rfl
theorem g_0_9 {i : Nat} : ab_wb Ls C J Rt nx ((.getfield i, [4, 9], z) :: is) L (vR 0 :: S) w = ab_wb Ls C J Rt nx is L (vR 29 :: S) w := propext Iff.rfl
theorem g_0_10 {i : Nat} : ab_wb Ls C J Rt nx ((.getfield i, [4, 10], z) :: is) L (vR 0 :: S) w = ab_wb Ls C J Rt nx is L (vR 30 :: S) w := propext Iff.rfl
theorem g_0_11 {i : Nat} : ab_wb Ls C J Rt nx ((.getfield i, [4, 11], z) :: is) L (vR 0 :: S) w = ab_wb Ls C J Rt nx is L (vI (w 0 11) :: S) w := propext Iff.rfl
theorem p_0_11 {i : Nat} {x : Int} : ab_wb Ls C J Rt nx ((.putfield i, [4, 11, 0], z) :: is) L (vI x :: vR 0 :: S) w = ab_wb Ls C J Rt nx is L S (ab_up w 0 11 x) := propext ⟨fun h => h.2.2, fun h => ⟨rfl, fun q => (by cases q), h⟩⟩
theorem g_0_12 {i : Nat} : ab_wb Ls C J Rt nx ((.getfield i, [4, 12], z) :: is) L (vR 0 :: S) w = ab_wb Ls C J Rt nx is L (vI (w 0 12) :: S) w := propext Iff.rfl
theorem p_0_12 {i : Nat} {x : Int} : ab_wb Ls C J Rt nx ((.putfield i, [4, 12, 0], z) :: is) L (vI x :: vR 0 :: S) w = ab_wb Ls C J Rt nx is L S (ab_up w 0 12 x) := propext ⟨fun h => h.2.2, fun h => ⟨rfl, fun q => (by cases q), h⟩⟩
theorem g_1_0 {i : Nat} : ab_wb Ls C J Rt nx ((.getfield i, [2, 0], z) :: is) L (vR 1 :: S) w = ab_wb Ls C J Rt nx is L (vR 2 :: S) w := propext Iff.rfl
theorem g_1_1 {i : Nat} : ab_wb Ls C J Rt nx ((.getfield i, [2, 1], z) :: is) L (vR 1 :: S) w = ab_wb Ls C J Rt nx is L (vI (w 1 1) :: S) w := propext Iff.rfl
theorem p_1_1 {i : Nat} {x : Int} : ab_wb Ls C J Rt nx ((.putfield i, [2, 1, 0], z) :: is) L (vI x :: vR 1 :: S) w = ab_wb Ls C J Rt nx is L S (ab_up w 1 1 x) := propext ⟨fun h => h.2.2, fun h => ⟨rfl, fun q => (by cases q), h⟩⟩
theorem x_2 {i : Int} : ab_wb Ls C J Rt nx ((.iaload, ex, z) :: is) L (vI i :: vR 2 :: S) w = ((0 ≤ i ∧ i < 35) ∧ ab_wb Ls C J Rt nx is L (vI (w 2 i) :: S) w) := propext Iff.rfl
theorem y_2 {i x : Int} : ab_wb Ls C J Rt nx ((.iastore, ex, z) :: is) L (vI x :: vI i :: vR 2 :: S) w = ((0 ≤ i ∧ i < 35) ∧ ab_wb Ls C J Rt nx is L S (ab_up w 2 i x)) := propext Iff.rfl
theorem n_2  : ab_wb Ls C J Rt nx ((.arraylength, ex, z) :: is) L (vR 2 :: S) w = ab_wb Ls C J Rt nx is L (vI 35 :: S) w := propext Iff.rfl
theorem g_3_0 {i : Nat} : ab_wb Ls C J Rt nx ((.getfield i, [3, 0], z) :: is) L (vR 3 :: S) w = ab_wb Ls C J Rt nx is L (vR 4 :: S) w := propext Iff.rfl
theorem g_3_1 {i : Nat} : ab_wb Ls C J Rt nx ((.getfield i, [3, 1], z) :: is) L (vR 3 :: S) w = ab_wb Ls C J Rt nx is L (vR 5 :: S) w := propext Iff.rfl
theorem g_3_2 {i : Nat} : ab_wb Ls C J Rt nx ((.getfield i, [3, 2], z) :: is) L (vR 3 :: S) w = ab_wb Ls C J Rt nx is L (vR 6 :: S) w := propext Iff.rfl
theorem g_3_3 {i : Nat} : ab_wb Ls C J Rt nx ((.getfield i, [3, 3], z) :: is) L (vR 3 :: S) w = ab_wb Ls C J Rt nx is L (vI (w 3 3) :: S) w := propext Iff.rfl
theorem p_3_3 {i : Nat} {x : Int} : ab_wb Ls C J Rt nx ((.putfield i, [3, 3, 0], z) :: is) L (vI x :: vR 3 :: S) w = ab_wb Ls C J Rt nx is L S (ab_up w 3 3 x) := propext ⟨fun h => h.2.2, fun h => ⟨rfl, fun q => (by cases q), h⟩⟩
theorem x_4 {i : Int} : ab_wb Ls C J Rt nx ((.iaload, ex, z) :: is) L (vI i :: vR 4 :: S) w = ((0 ≤ i ∧ i < 8) ∧ ab_wb Ls C J Rt nx is L (vI (w 4 i) :: S) w) := propext Iff.rfl
theorem y_4 {i x : Int} : ab_wb Ls C J Rt nx ((.iastore, ex, z) :: is) L (vI x :: vI i :: vR 4 :: S) w = ((0 ≤ i ∧ i < 8) ∧ ab_wb Ls C J Rt nx is L S (ab_up w 4 i x)) := propext Iff.rfl
theorem n_4  : ab_wb Ls C J Rt nx ((.arraylength, ex, z) :: is) L (vR 4 :: S) w = ab_wb Ls C J Rt nx is L (vI 8 :: S) w := propext Iff.rfl
theorem x_5 {i : Int} : ab_wb Ls C J Rt nx ((.iaload, ex, z) :: is) L (vI i :: vR 5 :: S) w = ((0 ≤ i ∧ i < 8) ∧ ab_wb Ls C J Rt nx is L (vI (w 5 i) :: S) w) := propext Iff.rfl
theorem y_5 {i x : Int} : ab_wb Ls C J Rt nx ((.iastore, ex, z) :: is) L (vI x :: vI i :: vR 5 :: S) w = ((0 ≤ i ∧ i < 8) ∧ ab_wb Ls C J Rt nx is L S (ab_up w 5 i x)) := propext Iff.rfl
theorem n_5  : ab_wb Ls C J Rt nx ((.arraylength, ex, z) :: is) L (vR 5 :: S) w = ab_wb Ls C J Rt nx is L (vI 8 :: S) w := propext Iff.rfl
theorem x_6 {i : Int} : ab_wb Ls C J Rt nx ((.iaload, ex, z) :: is) L (vI i :: vR 6 :: S) w = ((0 ≤ i ∧ i < 8) ∧ ab_wb Ls C J Rt nx is L (vI (w 6 i) :: S) w) := propext Iff.rfl
theorem y_6 {i x : Int} : ab_wb Ls C J Rt nx ((.iastore, ex, z) :: is) L (vI x :: vI i :: vR 6 :: S) w = ((0 ≤ i ∧ i < 8) ∧ ab_wb Ls C J Rt nx is L S (ab_up w 6 i x)) := propext Iff.rfl
theorem n_6  : ab_wb Ls C J Rt nx ((.arraylength, ex, z) :: is) L (vR 6 :: S) w = ab_wb Ls C J Rt nx is L (vI 8 :: S) w := propext Iff.rfl
theorem g_7_0 {i : Nat} : ab_wb Ls C J Rt nx ((.getfield i, [3, 0], z) :: is) L (vR 7 :: S) w = ab_wb Ls C J Rt nx is L (vR 8 :: S) w := propext Iff.rfl
theorem g_7_1 {i : Nat} : ab_wb Ls C J Rt nx ((.getfield i, [3, 1], z) :: is) L (vR 7 :: S) w = ab_wb Ls C J Rt nx is L (vR 9 :: S) w := propext Iff.rfl
theorem g_7_2 {i : Nat} : ab_wb Ls C J Rt nx ((.getfield i, [3, 2], z) :: is) L (vR 7 :: S) w = ab_wb Ls C J Rt nx is L (vR 10 :: S) w := propext Iff.rfl
theorem g_7_3 {i : Nat} : ab_wb Ls C J Rt nx ((.getfield i, [3, 3], z) :: is) L (vR 7 :: S) w = ab_wb Ls C J Rt nx is L (vI (w 7 3) :: S) w := propext Iff.rfl
theorem p_7_3 {i : Nat} {x : Int} : ab_wb Ls C J Rt nx ((.putfield i, [3, 3, 0], z) :: is) L (vI x :: vR 7 :: S) w = ab_wb Ls C J Rt nx is L S (ab_up w 7 3 x) := propext ⟨fun h => h.2.2, fun h => ⟨rfl, fun q => (by cases q), h⟩⟩
theorem x_8 {i : Int} : ab_wb Ls C J Rt nx ((.iaload, ex, z) :: is) L (vI i :: vR 8 :: S) w = ((0 ≤ i ∧ i < 8) ∧ ab_wb Ls C J Rt nx is L (vI (w 8 i) :: S) w) := propext Iff.rfl
theorem y_8 {i x : Int} : ab_wb Ls C J Rt nx ((.iastore, ex, z) :: is) L (vI x :: vI i :: vR 8 :: S) w = ((0 ≤ i ∧ i < 8) ∧ ab_wb Ls C J Rt nx is L S (ab_up w 8 i x)) := propext Iff.rfl
theorem n_8  : ab_wb Ls C J Rt nx ((.arraylength, ex, z) :: is) L (vR 8 :: S) w = ab_wb Ls C J Rt nx is L (vI 8 :: S) w := propext Iff.rfl
theorem x_9 {i : Int} : ab_wb Ls C J Rt nx ((.iaload, ex, z) :: is) L (vI i :: vR 9 :: S) w = ((0 ≤ i ∧ i < 8) ∧ ab_wb Ls C J Rt nx is L (vI (w 9 i) :: S) w) := propext Iff.rfl
theorem y_9 {i x : Int} : ab_wb Ls C J Rt nx ((.iastore, ex, z) :: is) L (vI x :: vI i :: vR 9 :: S) w = ((0 ≤ i ∧ i < 8) ∧ ab_wb Ls C J Rt nx is L S (ab_up w 9 i x)) := propext Iff.rfl
theorem n_9  : ab_wb Ls C J Rt nx ((.arraylength, ex, z) :: is) L (vR 9 :: S) w = ab_wb Ls C J Rt nx is L (vI 8 :: S) w := propext Iff.rfl
theorem x_10 {i : Int} : ab_wb Ls C J Rt nx ((.iaload, ex, z) :: is) L (vI i :: vR 10 :: S) w = ((0 ≤ i ∧ i < 8) ∧ ab_wb Ls C J Rt nx is L (vI (w 10 i) :: S) w) := propext Iff.rfl
theorem y_10 {i x : Int} : ab_wb Ls C J Rt nx ((.iastore, ex, z) :: is) L (vI x :: vI i :: vR 10 :: S) w = ((0 ≤ i ∧ i < 8) ∧ ab_wb Ls C J Rt nx is L S (ab_up w 10 i x)) := propext Iff.rfl
theorem n_10  : ab_wb Ls C J Rt nx ((.arraylength, ex, z) :: is) L (vR 10 :: S) w = ab_wb Ls C J Rt nx is L (vI 8 :: S) w := propext Iff.rfl
theorem g_11_0 {i : Nat} : ab_wb Ls C J Rt nx ((.getfield i, [3, 0], z) :: is) L (vR 11 :: S) w = ab_wb Ls C J Rt nx is L (vR 12 :: S) w := propext Iff.rfl
theorem g_11_1 {i : Nat} : ab_wb Ls C J Rt nx ((.getfield i, [3, 1], z) :: is) L (vR 11 :: S) w = ab_wb Ls C J Rt nx is L (vR 13 :: S) w := propext Iff.rfl
theorem g_11_2 {i : Nat} : ab_wb Ls C J Rt nx ((.getfield i, [3, 2], z) :: is) L (vR 11 :: S) w = ab_wb Ls C J Rt nx is L (vR 14 :: S) w := propext Iff.rfl
theorem g_11_3 {i : Nat} : ab_wb Ls C J Rt nx ((.getfield i, [3, 3], z) :: is) L (vR 11 :: S) w = ab_wb Ls C J Rt nx is L (vI (w 11 3) :: S) w := propext Iff.rfl
theorem p_11_3 {i : Nat} {x : Int} : ab_wb Ls C J Rt nx ((.putfield i, [3, 3, 0], z) :: is) L (vI x :: vR 11 :: S) w = ab_wb Ls C J Rt nx is L S (ab_up w 11 3 x) := propext ⟨fun h => h.2.2, fun h => ⟨rfl, fun q => (by cases q), h⟩⟩
theorem x_12 {i : Int} : ab_wb Ls C J Rt nx ((.iaload, ex, z) :: is) L (vI i :: vR 12 :: S) w = ((0 ≤ i ∧ i < 8) ∧ ab_wb Ls C J Rt nx is L (vI (w 12 i) :: S) w) := propext Iff.rfl
theorem y_12 {i x : Int} : ab_wb Ls C J Rt nx ((.iastore, ex, z) :: is) L (vI x :: vI i :: vR 12 :: S) w = ((0 ≤ i ∧ i < 8) ∧ ab_wb Ls C J Rt nx is L S (ab_up w 12 i x)) := propext Iff.rfl
theorem n_12  : ab_wb Ls C J Rt nx ((.arraylength, ex, z) :: is) L (vR 12 :: S) w = ab_wb Ls C J Rt nx is L (vI 8 :: S) w := propext Iff.rfl
theorem x_13 {i : Int} : ab_wb Ls C J Rt nx ((.iaload, ex, z) :: is) L (vI i :: vR 13 :: S) w = ((0 ≤ i ∧ i < 8) ∧ ab_wb Ls C J Rt nx is L (vI (w 13 i) :: S) w) := propext Iff.rfl
theorem y_13 {i x : Int} : ab_wb Ls C J Rt nx ((.iastore, ex, z) :: is) L (vI x :: vI i :: vR 13 :: S) w = ((0 ≤ i ∧ i < 8) ∧ ab_wb Ls C J Rt nx is L S (ab_up w 13 i x)) := propext Iff.rfl
theorem n_13  : ab_wb Ls C J Rt nx ((.arraylength, ex, z) :: is) L (vR 13 :: S) w = ab_wb Ls C J Rt nx is L (vI 8 :: S) w := propext Iff.rfl
theorem x_14 {i : Int} : ab_wb Ls C J Rt nx ((.iaload, ex, z) :: is) L (vI i :: vR 14 :: S) w = ((0 ≤ i ∧ i < 8) ∧ ab_wb Ls C J Rt nx is L (vI (w 14 i) :: S) w) := propext Iff.rfl
theorem y_14 {i x : Int} : ab_wb Ls C J Rt nx ((.iastore, ex, z) :: is) L (vI x :: vI i :: vR 14 :: S) w = ((0 ≤ i ∧ i < 8) ∧ ab_wb Ls C J Rt nx is L S (ab_up w 14 i x)) := propext Iff.rfl
theorem n_14  : ab_wb Ls C J Rt nx ((.arraylength, ex, z) :: is) L (vR 14 :: S) w = ab_wb Ls C J Rt nx is L (vI 8 :: S) w := propext Iff.rfl
theorem g_15_0 {i : Nat} : ab_wb Ls C J Rt nx ((.getfield i, [0, 0], z) :: is) L (vR 15 :: S) w = ab_wb Ls C J Rt nx is L (vR 16 :: S) w := propext Iff.rfl
theorem g_15_1 {i : Nat} : ab_wb Ls C J Rt nx ((.getfield i, [0, 1], z) :: is) L (vR 15 :: S) w = ab_wb Ls C J Rt nx is L (vR 17 :: S) w := propext Iff.rfl
theorem g_15_2 {i : Nat} : ab_wb Ls C J Rt nx ((.getfield i, [0, 2], z) :: is) L (vR 15 :: S) w = ab_wb Ls C J Rt nx is L (vR 18 :: S) w := propext Iff.rfl
theorem g_15_3 {i : Nat} : ab_wb Ls C J Rt nx ((.getfield i, [0, 3], z) :: is) L (vR 15 :: S) w = ab_wb Ls C J Rt nx is L (vR 19 :: S) w := propext Iff.rfl
theorem g_15_4 {i : Nat} : ab_wb Ls C J Rt nx ((.getfield i, [0, 4], z) :: is) L (vR 15 :: S) w = ab_wb Ls C J Rt nx is L (vR 20 :: S) w := propext Iff.rfl
theorem g_15_5 {i : Nat} : ab_wb Ls C J Rt nx ((.getfield i, [0, 5], z) :: is) L (vR 15 :: S) w = ab_wb Ls C J Rt nx is L (vI (w 15 5) :: S) w := propext Iff.rfl
theorem p_15_5 {i : Nat} {x : Int} : ab_wb Ls C J Rt nx ((.putfield i, [0, 5, 0], z) :: is) L (vI x :: vR 15 :: S) w = ab_wb Ls C J Rt nx is L S (ab_up w 15 5 x) := propext ⟨fun h => h.2.2, fun h => ⟨rfl, fun q => (by cases q), h⟩⟩
theorem g_15_6 {i : Nat} : ab_wb Ls C J Rt nx ((.getfield i, [0, 6], z) :: is) L (vR 15 :: S) w = ab_wb Ls C J Rt nx is L (vI (w 15 6) :: S) w := propext Iff.rfl
theorem p_15_6 {i : Nat} {x : Int} : ab_wb Ls C J Rt nx ((.putfield i, [0, 6, 0], z) :: is) L (vI x :: vR 15 :: S) w = ab_wb Ls C J Rt nx is L S (ab_up w 15 6 x) := propext ⟨fun h => h.2.2, fun h => ⟨rfl, fun q => (by cases q), h⟩⟩
theorem g_15_7 {i : Nat} : ab_wb Ls C J Rt nx ((.getfield i, [0, 7], z) :: is) L (vR 15 :: S) w = ab_wb Ls C J Rt nx is L (vI (w 15 7) :: S) w := propext Iff.rfl
theorem p_15_7 {i : Nat} {x : Int} : ab_wb Ls C J Rt nx ((.putfield i, [0, 7, 0], z) :: is) L (vI x :: vR 15 :: S) w = ab_wb Ls C J Rt nx is L S (ab_up w 15 7 x) := propext ⟨fun h => h.2.2, fun h => ⟨rfl, fun q => (by cases q), h⟩⟩
theorem x_16 {i : Int} : ab_wb Ls C J Rt nx ((.iaload, ex, z) :: is) L (vI i :: vR 16 :: S) w = ((0 ≤ i ∧ i < 16) ∧ ab_wb Ls C J Rt nx is L (vI (w 16 i) :: S) w) := propext Iff.rfl
theorem y_16 {i x : Int} : ab_wb Ls C J Rt nx ((.iastore, ex, z) :: is) L (vI x :: vI i :: vR 16 :: S) w = ((0 ≤ i ∧ i < 16) ∧ ab_wb Ls C J Rt nx is L S (ab_up w 16 i x)) := propext Iff.rfl
theorem n_16  : ab_wb Ls C J Rt nx ((.arraylength, ex, z) :: is) L (vR 16 :: S) w = ab_wb Ls C J Rt nx is L (vI 16 :: S) w := propext Iff.rfl
theorem x_17 {i : Int} : ab_wb Ls C J Rt nx ((.iaload, ex, z) :: is) L (vI i :: vR 17 :: S) w = ((0 ≤ i ∧ i < 16) ∧ ab_wb Ls C J Rt nx is L (vI (w 17 i) :: S) w) := propext Iff.rfl
theorem y_17 {i x : Int} : ab_wb Ls C J Rt nx ((.iastore, ex, z) :: is) L (vI x :: vI i :: vR 17 :: S) w = ((0 ≤ i ∧ i < 16) ∧ ab_wb Ls C J Rt nx is L S (ab_up w 17 i x)) := propext Iff.rfl
theorem n_17  : ab_wb Ls C J Rt nx ((.arraylength, ex, z) :: is) L (vR 17 :: S) w = ab_wb Ls C J Rt nx is L (vI 16 :: S) w := propext Iff.rfl
theorem x_18 {i : Int} : ab_wb Ls C J Rt nx ((.laload, ex, z) :: is) L (vI i :: vR 18 :: S) w = ((0 ≤ i ∧ i < 4) ∧ ab_wb Ls C J Rt nx is L (vL (w 18 i) :: S) w) := propext Iff.rfl
theorem y_18 {i x : Int} : ab_wb Ls C J Rt nx ((.lastore, ex, z) :: is) L (vL x :: vI i :: vR 18 :: S) w = ((0 ≤ i ∧ i < 4) ∧ ab_wb Ls C J Rt nx is L S (ab_up w 18 i x)) := propext Iff.rfl
theorem n_18  : ab_wb Ls C J Rt nx ((.arraylength, ex, z) :: is) L (vR 18 :: S) w = ab_wb Ls C J Rt nx is L (vI 4 :: S) w := propext Iff.rfl
theorem x_19 {i : Int} : ab_wb Ls C J Rt nx ((.iaload, ex, z) :: is) L (vI i :: vR 19 :: S) w = ((0 ≤ i ∧ i < 192) ∧ ab_wb Ls C J Rt nx is L (vI (w 19 i) :: S) w) := propext Iff.rfl
theorem y_19 {i x : Int} : ab_wb Ls C J Rt nx ((.iastore, ex, z) :: is) L (vI x :: vI i :: vR 19 :: S) w = ((0 ≤ i ∧ i < 192) ∧ ab_wb Ls C J Rt nx is L S (ab_up w 19 i x)) := propext Iff.rfl
theorem n_19  : ab_wb Ls C J Rt nx ((.arraylength, ex, z) :: is) L (vR 19 :: S) w = ab_wb Ls C J Rt nx is L (vI 192 :: S) w := propext Iff.rfl
theorem x_20 {i : Int} : ab_wb Ls C J Rt nx ((.iaload, ex, z) :: is) L (vI i :: vR 20 :: S) w = ((0 ≤ i ∧ i < 16) ∧ ab_wb Ls C J Rt nx is L (vI (w 20 i) :: S) w) := propext Iff.rfl
theorem y_20 {i x : Int} : ab_wb Ls C J Rt nx ((.iastore, ex, z) :: is) L (vI x :: vI i :: vR 20 :: S) w = ((0 ≤ i ∧ i < 16) ∧ ab_wb Ls C J Rt nx is L S (ab_up w 20 i x)) := propext Iff.rfl
theorem n_20  : ab_wb Ls C J Rt nx ((.arraylength, ex, z) :: is) L (vR 20 :: S) w = ab_wb Ls C J Rt nx is L (vI 16 :: S) w := propext Iff.rfl
theorem g_21_0 {i : Nat} : ab_wb Ls C J Rt nx ((.getfield i, [0, 0], z) :: is) L (vR 21 :: S) w = ab_wb Ls C J Rt nx is L (vR 22 :: S) w := propext Iff.rfl
theorem g_21_1 {i : Nat} : ab_wb Ls C J Rt nx ((.getfield i, [0, 1], z) :: is) L (vR 21 :: S) w = ab_wb Ls C J Rt nx is L (vR 23 :: S) w := propext Iff.rfl
theorem g_21_2 {i : Nat} : ab_wb Ls C J Rt nx ((.getfield i, [0, 2], z) :: is) L (vR 21 :: S) w = ab_wb Ls C J Rt nx is L (vR 24 :: S) w := propext Iff.rfl
theorem g_21_3 {i : Nat} : ab_wb Ls C J Rt nx ((.getfield i, [0, 3], z) :: is) L (vR 21 :: S) w = ab_wb Ls C J Rt nx is L (vR 25 :: S) w := propext Iff.rfl
theorem g_21_4 {i : Nat} : ab_wb Ls C J Rt nx ((.getfield i, [0, 4], z) :: is) L (vR 21 :: S) w = ab_wb Ls C J Rt nx is L (vR 26 :: S) w := propext Iff.rfl
theorem g_21_5 {i : Nat} : ab_wb Ls C J Rt nx ((.getfield i, [0, 5], z) :: is) L (vR 21 :: S) w = ab_wb Ls C J Rt nx is L (vI (w 21 5) :: S) w := propext Iff.rfl
theorem p_21_5 {i : Nat} {x : Int} : ab_wb Ls C J Rt nx ((.putfield i, [0, 5, 0], z) :: is) L (vI x :: vR 21 :: S) w = ab_wb Ls C J Rt nx is L S (ab_up w 21 5 x) := propext ⟨fun h => h.2.2, fun h => ⟨rfl, fun q => (by cases q), h⟩⟩
theorem g_21_6 {i : Nat} : ab_wb Ls C J Rt nx ((.getfield i, [0, 6], z) :: is) L (vR 21 :: S) w = ab_wb Ls C J Rt nx is L (vI (w 21 6) :: S) w := propext Iff.rfl
theorem p_21_6 {i : Nat} {x : Int} : ab_wb Ls C J Rt nx ((.putfield i, [0, 6, 0], z) :: is) L (vI x :: vR 21 :: S) w = ab_wb Ls C J Rt nx is L S (ab_up w 21 6 x) := propext ⟨fun h => h.2.2, fun h => ⟨rfl, fun q => (by cases q), h⟩⟩
theorem g_21_7 {i : Nat} : ab_wb Ls C J Rt nx ((.getfield i, [0, 7], z) :: is) L (vR 21 :: S) w = ab_wb Ls C J Rt nx is L (vI (w 21 7) :: S) w := propext Iff.rfl
theorem p_21_7 {i : Nat} {x : Int} : ab_wb Ls C J Rt nx ((.putfield i, [0, 7, 0], z) :: is) L (vI x :: vR 21 :: S) w = ab_wb Ls C J Rt nx is L S (ab_up w 21 7 x) := propext ⟨fun h => h.2.2, fun h => ⟨rfl, fun q => (by cases q), h⟩⟩
theorem x_22 {i : Int} : ab_wb Ls C J Rt nx ((.iaload, ex, z) :: is) L (vI i :: vR 22 :: S) w = ((0 ≤ i ∧ i < 16) ∧ ab_wb Ls C J Rt nx is L (vI (w 22 i) :: S) w) := propext Iff.rfl
theorem y_22 {i x : Int} : ab_wb Ls C J Rt nx ((.iastore, ex, z) :: is) L (vI x :: vI i :: vR 22 :: S) w = ((0 ≤ i ∧ i < 16) ∧ ab_wb Ls C J Rt nx is L S (ab_up w 22 i x)) := propext Iff.rfl
theorem n_22  : ab_wb Ls C J Rt nx ((.arraylength, ex, z) :: is) L (vR 22 :: S) w = ab_wb Ls C J Rt nx is L (vI 16 :: S) w := propext Iff.rfl
theorem x_23 {i : Int} : ab_wb Ls C J Rt nx ((.iaload, ex, z) :: is) L (vI i :: vR 23 :: S) w = ((0 ≤ i ∧ i < 16) ∧ ab_wb Ls C J Rt nx is L (vI (w 23 i) :: S) w) := propext Iff.rfl
theorem y_23 {i x : Int} : ab_wb Ls C J Rt nx ((.iastore, ex, z) :: is) L (vI x :: vI i :: vR 23 :: S) w = ((0 ≤ i ∧ i < 16) ∧ ab_wb Ls C J Rt nx is L S (ab_up w 23 i x)) := propext Iff.rfl
theorem n_23  : ab_wb Ls C J Rt nx ((.arraylength, ex, z) :: is) L (vR 23 :: S) w = ab_wb Ls C J Rt nx is L (vI 16 :: S) w := propext Iff.rfl
theorem x_24 {i : Int} : ab_wb Ls C J Rt nx ((.laload, ex, z) :: is) L (vI i :: vR 24 :: S) w = ((0 ≤ i ∧ i < 4) ∧ ab_wb Ls C J Rt nx is L (vL (w 24 i) :: S) w) := propext Iff.rfl
theorem y_24 {i x : Int} : ab_wb Ls C J Rt nx ((.lastore, ex, z) :: is) L (vL x :: vI i :: vR 24 :: S) w = ((0 ≤ i ∧ i < 4) ∧ ab_wb Ls C J Rt nx is L S (ab_up w 24 i x)) := propext Iff.rfl
theorem n_24  : ab_wb Ls C J Rt nx ((.arraylength, ex, z) :: is) L (vR 24 :: S) w = ab_wb Ls C J Rt nx is L (vI 4 :: S) w := propext Iff.rfl
theorem x_25 {i : Int} : ab_wb Ls C J Rt nx ((.iaload, ex, z) :: is) L (vI i :: vR 25 :: S) w = ((0 ≤ i ∧ i < 192) ∧ ab_wb Ls C J Rt nx is L (vI (w 25 i) :: S) w) := propext Iff.rfl
theorem y_25 {i x : Int} : ab_wb Ls C J Rt nx ((.iastore, ex, z) :: is) L (vI x :: vI i :: vR 25 :: S) w = ((0 ≤ i ∧ i < 192) ∧ ab_wb Ls C J Rt nx is L S (ab_up w 25 i x)) := propext Iff.rfl
theorem n_25  : ab_wb Ls C J Rt nx ((.arraylength, ex, z) :: is) L (vR 25 :: S) w = ab_wb Ls C J Rt nx is L (vI 192 :: S) w := propext Iff.rfl
theorem x_26 {i : Int} : ab_wb Ls C J Rt nx ((.iaload, ex, z) :: is) L (vI i :: vR 26 :: S) w = ((0 ≤ i ∧ i < 16) ∧ ab_wb Ls C J Rt nx is L (vI (w 26 i) :: S) w) := propext Iff.rfl
theorem y_26 {i x : Int} : ab_wb Ls C J Rt nx ((.iastore, ex, z) :: is) L (vI x :: vI i :: vR 26 :: S) w = ((0 ≤ i ∧ i < 16) ∧ ab_wb Ls C J Rt nx is L S (ab_up w 26 i x)) := propext Iff.rfl
theorem n_26  : ab_wb Ls C J Rt nx ((.arraylength, ex, z) :: is) L (vR 26 :: S) w = ab_wb Ls C J Rt nx is L (vI 16 :: S) w := propext Iff.rfl
theorem x_27 {i : Int} : ab_wb Ls C J Rt nx ((.iaload, ex, z) :: is) L (vI i :: vR 27 :: S) w = ((0 ≤ i ∧ i < 1024) ∧ ab_wb Ls C J Rt nx is L (vI (w 27 i) :: S) w) := propext Iff.rfl
theorem y_27 {i x : Int} : ab_wb Ls C J Rt nx ((.iastore, ex, z) :: is) L (vI x :: vI i :: vR 27 :: S) w = ((0 ≤ i ∧ i < 1024) ∧ ab_wb Ls C J Rt nx is L S (ab_up w 27 i x)) := propext Iff.rfl
theorem n_27  : ab_wb Ls C J Rt nx ((.arraylength, ex, z) :: is) L (vR 27 :: S) w = ab_wb Ls C J Rt nx is L (vI 1024 :: S) w := propext Iff.rfl
theorem x_28 {i : Int} : ab_wb Ls C J Rt nx ((.iaload, ex, z) :: is) L (vI i :: vR 28 :: S) w = ((0 ≤ i ∧ i < 5) ∧ ab_wb Ls C J Rt nx is L (vI (w 28 i) :: S) w) := propext Iff.rfl
theorem y_28 {i x : Int} : ab_wb Ls C J Rt nx ((.iastore, ex, z) :: is) L (vI x :: vI i :: vR 28 :: S) w = ((0 ≤ i ∧ i < 5) ∧ ab_wb Ls C J Rt nx is L S (ab_up w 28 i x)) := propext Iff.rfl
theorem n_28  : ab_wb Ls C J Rt nx ((.arraylength, ex, z) :: is) L (vR 28 :: S) w = ab_wb Ls C J Rt nx is L (vI 5 :: S) w := propext Iff.rfl
theorem x_29 {i : Int} : ab_wb Ls C J Rt nx ((.iaload, ex, z) :: is) L (vI i :: vR 29 :: S) w = ((0 ≤ i ∧ i < 192) ∧ ab_wb Ls C J Rt nx is L (vI (w 29 i) :: S) w) := propext Iff.rfl
theorem y_29 {i x : Int} : ab_wb Ls C J Rt nx ((.iastore, ex, z) :: is) L (vI x :: vI i :: vR 29 :: S) w = ((0 ≤ i ∧ i < 192) ∧ ab_wb Ls C J Rt nx is L S (ab_up w 29 i x)) := propext Iff.rfl
theorem n_29  : ab_wb Ls C J Rt nx ((.arraylength, ex, z) :: is) L (vR 29 :: S) w = ab_wb Ls C J Rt nx is L (vI 192 :: S) w := propext Iff.rfl
theorem x_30 {i : Int} : ab_wb Ls C J Rt nx ((.aaload, ex, z) :: is) L (vI i :: vR 30 :: S) w = (match ([31, 33, 35, 37] : List Nat)[i.toNat]? with | some q => 0 ≤ i ∧ ab_wb Ls C J Rt nx is L (vR q :: S) w | none => False) := propext Iff.rfl
theorem g_31_0 {i : Nat} : ab_wb Ls C J Rt nx ((.getfield i, [1, 0], z) :: is) L (vR 31 :: S) w = ab_wb Ls C J Rt nx is L (vR 32 :: S) w := propext Iff.rfl
theorem g_31_1 {i : Nat} : ab_wb Ls C J Rt nx ((.getfield i, [1, 1], z) :: is) L (vR 31 :: S) w = ab_wb Ls C J Rt nx is L (vI (w 31 1) :: S) w := propext Iff.rfl
theorem p_31_1 {i : Nat} {x : Int} : ab_wb Ls C J Rt nx ((.putfield i, [1, 1, 1], z) :: is) L (vI x :: vR 31 :: S) w = ((x = 0 ∨ x = 1) ∧ ab_wb Ls C J Rt nx is L S (ab_up w 31 1 x)) := propext ⟨fun h => ⟨h.2.1 rfl, h.2.2⟩, fun h => ⟨rfl, fun _ => h.1, h.2⟩⟩
theorem g_31_2 {i : Nat} : ab_wb Ls C J Rt nx ((.getfield i, [1, 2], z) :: is) L (vR 31 :: S) w = ab_wb Ls C J Rt nx is L (vI (w 31 2) :: S) w := propext Iff.rfl
theorem p_31_2 {i : Nat} {x : Int} : ab_wb Ls C J Rt nx ((.putfield i, [1, 2, 0], z) :: is) L (vI x :: vR 31 :: S) w = ab_wb Ls C J Rt nx is L S (ab_up w 31 2 x) := propext ⟨fun h => h.2.2, fun h => ⟨rfl, fun q => (by cases q), h⟩⟩
theorem g_31_3 {i : Nat} : ab_wb Ls C J Rt nx ((.getfield i, [1, 3], z) :: is) L (vR 31 :: S) w = ab_wb Ls C J Rt nx is L (vI (w 31 3) :: S) w := propext Iff.rfl
theorem p_31_3 {i : Nat} {x : Int} : ab_wb Ls C J Rt nx ((.putfield i, [1, 3, 0], z) :: is) L (vI x :: vR 31 :: S) w = ab_wb Ls C J Rt nx is L S (ab_up w 31 3 x) := propext ⟨fun h => h.2.2, fun h => ⟨rfl, fun q => (by cases q), h⟩⟩
theorem x_32 {i : Int} : ab_wb Ls C J Rt nx ((.iaload, ex, z) :: is) L (vI i :: vR 32 :: S) w = ((0 ≤ i ∧ i < 60) ∧ ab_wb Ls C J Rt nx is L (vI (w 32 i) :: S) w) := propext Iff.rfl
theorem y_32 {i x : Int} : ab_wb Ls C J Rt nx ((.iastore, ex, z) :: is) L (vI x :: vI i :: vR 32 :: S) w = ((0 ≤ i ∧ i < 60) ∧ ab_wb Ls C J Rt nx is L S (ab_up w 32 i x)) := propext Iff.rfl
theorem n_32  : ab_wb Ls C J Rt nx ((.arraylength, ex, z) :: is) L (vR 32 :: S) w = ab_wb Ls C J Rt nx is L (vI 60 :: S) w := propext Iff.rfl
theorem g_33_0 {i : Nat} : ab_wb Ls C J Rt nx ((.getfield i, [1, 0], z) :: is) L (vR 33 :: S) w = ab_wb Ls C J Rt nx is L (vR 34 :: S) w := propext Iff.rfl
theorem g_33_1 {i : Nat} : ab_wb Ls C J Rt nx ((.getfield i, [1, 1], z) :: is) L (vR 33 :: S) w = ab_wb Ls C J Rt nx is L (vI (w 33 1) :: S) w := propext Iff.rfl
theorem p_33_1 {i : Nat} {x : Int} : ab_wb Ls C J Rt nx ((.putfield i, [1, 1, 1], z) :: is) L (vI x :: vR 33 :: S) w = ((x = 0 ∨ x = 1) ∧ ab_wb Ls C J Rt nx is L S (ab_up w 33 1 x)) := propext ⟨fun h => ⟨h.2.1 rfl, h.2.2⟩, fun h => ⟨rfl, fun _ => h.1, h.2⟩⟩
theorem g_33_2 {i : Nat} : ab_wb Ls C J Rt nx ((.getfield i, [1, 2], z) :: is) L (vR 33 :: S) w = ab_wb Ls C J Rt nx is L (vI (w 33 2) :: S) w := propext Iff.rfl
theorem p_33_2 {i : Nat} {x : Int} : ab_wb Ls C J Rt nx ((.putfield i, [1, 2, 0], z) :: is) L (vI x :: vR 33 :: S) w = ab_wb Ls C J Rt nx is L S (ab_up w 33 2 x) := propext ⟨fun h => h.2.2, fun h => ⟨rfl, fun q => (by cases q), h⟩⟩
theorem g_33_3 {i : Nat} : ab_wb Ls C J Rt nx ((.getfield i, [1, 3], z) :: is) L (vR 33 :: S) w = ab_wb Ls C J Rt nx is L (vI (w 33 3) :: S) w := propext Iff.rfl
theorem p_33_3 {i : Nat} {x : Int} : ab_wb Ls C J Rt nx ((.putfield i, [1, 3, 0], z) :: is) L (vI x :: vR 33 :: S) w = ab_wb Ls C J Rt nx is L S (ab_up w 33 3 x) := propext ⟨fun h => h.2.2, fun h => ⟨rfl, fun q => (by cases q), h⟩⟩
theorem x_34 {i : Int} : ab_wb Ls C J Rt nx ((.iaload, ex, z) :: is) L (vI i :: vR 34 :: S) w = ((0 ≤ i ∧ i < 60) ∧ ab_wb Ls C J Rt nx is L (vI (w 34 i) :: S) w) := propext Iff.rfl
theorem y_34 {i x : Int} : ab_wb Ls C J Rt nx ((.iastore, ex, z) :: is) L (vI x :: vI i :: vR 34 :: S) w = ((0 ≤ i ∧ i < 60) ∧ ab_wb Ls C J Rt nx is L S (ab_up w 34 i x)) := propext Iff.rfl
theorem n_34  : ab_wb Ls C J Rt nx ((.arraylength, ex, z) :: is) L (vR 34 :: S) w = ab_wb Ls C J Rt nx is L (vI 60 :: S) w := propext Iff.rfl
theorem g_35_0 {i : Nat} : ab_wb Ls C J Rt nx ((.getfield i, [1, 0], z) :: is) L (vR 35 :: S) w = ab_wb Ls C J Rt nx is L (vR 36 :: S) w := propext Iff.rfl
theorem g_35_1 {i : Nat} : ab_wb Ls C J Rt nx ((.getfield i, [1, 1], z) :: is) L (vR 35 :: S) w = ab_wb Ls C J Rt nx is L (vI (w 35 1) :: S) w := propext Iff.rfl
theorem p_35_1 {i : Nat} {x : Int} : ab_wb Ls C J Rt nx ((.putfield i, [1, 1, 1], z) :: is) L (vI x :: vR 35 :: S) w = ((x = 0 ∨ x = 1) ∧ ab_wb Ls C J Rt nx is L S (ab_up w 35 1 x)) := propext ⟨fun h => ⟨h.2.1 rfl, h.2.2⟩, fun h => ⟨rfl, fun _ => h.1, h.2⟩⟩
theorem g_35_2 {i : Nat} : ab_wb Ls C J Rt nx ((.getfield i, [1, 2], z) :: is) L (vR 35 :: S) w = ab_wb Ls C J Rt nx is L (vI (w 35 2) :: S) w := propext Iff.rfl
theorem p_35_2 {i : Nat} {x : Int} : ab_wb Ls C J Rt nx ((.putfield i, [1, 2, 0], z) :: is) L (vI x :: vR 35 :: S) w = ab_wb Ls C J Rt nx is L S (ab_up w 35 2 x) := propext ⟨fun h => h.2.2, fun h => ⟨rfl, fun q => (by cases q), h⟩⟩
theorem g_35_3 {i : Nat} : ab_wb Ls C J Rt nx ((.getfield i, [1, 3], z) :: is) L (vR 35 :: S) w = ab_wb Ls C J Rt nx is L (vI (w 35 3) :: S) w := propext Iff.rfl
theorem p_35_3 {i : Nat} {x : Int} : ab_wb Ls C J Rt nx ((.putfield i, [1, 3, 0], z) :: is) L (vI x :: vR 35 :: S) w = ab_wb Ls C J Rt nx is L S (ab_up w 35 3 x) := propext ⟨fun h => h.2.2, fun h => ⟨rfl, fun q => (by cases q), h⟩⟩
theorem x_36 {i : Int} : ab_wb Ls C J Rt nx ((.iaload, ex, z) :: is) L (vI i :: vR 36 :: S) w = ((0 ≤ i ∧ i < 60) ∧ ab_wb Ls C J Rt nx is L (vI (w 36 i) :: S) w) := propext Iff.rfl
theorem y_36 {i x : Int} : ab_wb Ls C J Rt nx ((.iastore, ex, z) :: is) L (vI x :: vI i :: vR 36 :: S) w = ((0 ≤ i ∧ i < 60) ∧ ab_wb Ls C J Rt nx is L S (ab_up w 36 i x)) := propext Iff.rfl
theorem n_36  : ab_wb Ls C J Rt nx ((.arraylength, ex, z) :: is) L (vR 36 :: S) w = ab_wb Ls C J Rt nx is L (vI 60 :: S) w := propext Iff.rfl
theorem g_37_0 {i : Nat} : ab_wb Ls C J Rt nx ((.getfield i, [1, 0], z) :: is) L (vR 37 :: S) w = ab_wb Ls C J Rt nx is L (vR 38 :: S) w := propext Iff.rfl
theorem g_37_1 {i : Nat} : ab_wb Ls C J Rt nx ((.getfield i, [1, 1], z) :: is) L (vR 37 :: S) w = ab_wb Ls C J Rt nx is L (vI (w 37 1) :: S) w := propext Iff.rfl
theorem p_37_1 {i : Nat} {x : Int} : ab_wb Ls C J Rt nx ((.putfield i, [1, 1, 1], z) :: is) L (vI x :: vR 37 :: S) w = ((x = 0 ∨ x = 1) ∧ ab_wb Ls C J Rt nx is L S (ab_up w 37 1 x)) := propext ⟨fun h => ⟨h.2.1 rfl, h.2.2⟩, fun h => ⟨rfl, fun _ => h.1, h.2⟩⟩
theorem g_37_2 {i : Nat} : ab_wb Ls C J Rt nx ((.getfield i, [1, 2], z) :: is) L (vR 37 :: S) w = ab_wb Ls C J Rt nx is L (vI (w 37 2) :: S) w := propext Iff.rfl
theorem p_37_2 {i : Nat} {x : Int} : ab_wb Ls C J Rt nx ((.putfield i, [1, 2, 0], z) :: is) L (vI x :: vR 37 :: S) w = ab_wb Ls C J Rt nx is L S (ab_up w 37 2 x) := propext ⟨fun h => h.2.2, fun h => ⟨rfl, fun q => (by cases q), h⟩⟩
theorem g_37_3 {i : Nat} : ab_wb Ls C J Rt nx ((.getfield i, [1, 3], z) :: is) L (vR 37 :: S) w = ab_wb Ls C J Rt nx is L (vI (w 37 3) :: S) w := propext Iff.rfl
theorem p_37_3 {i : Nat} {x : Int} : ab_wb Ls C J Rt nx ((.putfield i, [1, 3, 0], z) :: is) L (vI x :: vR 37 :: S) w = ab_wb Ls C J Rt nx is L S (ab_up w 37 3 x) := propext ⟨fun h => h.2.2, fun h => ⟨rfl, fun q => (by cases q), h⟩⟩
theorem x_38 {i : Int} : ab_wb Ls C J Rt nx ((.iaload, ex, z) :: is) L (vI i :: vR 38 :: S) w = ((0 ≤ i ∧ i < 60) ∧ ab_wb Ls C J Rt nx is L (vI (w 38 i) :: S) w) := propext Iff.rfl
theorem y_38 {i x : Int} : ab_wb Ls C J Rt nx ((.iastore, ex, z) :: is) L (vI x :: vI i :: vR 38 :: S) w = ((0 ≤ i ∧ i < 60) ∧ ab_wb Ls C J Rt nx is L S (ab_up w 38 i x)) := propext Iff.rfl
theorem n_38  : ab_wb Ls C J Rt nx ((.arraylength, ex, z) :: is) L (vR 38 :: S) w = ab_wb Ls C J Rt nx is L (vI 60 :: S) w := propext Iff.rfl
theorem g_39_0 {i : Nat} : ab_wb Ls C J Rt nx ((.getfield i, [5, 0], z) :: is) L (vR 39 :: S) w = ab_wb Ls C J Rt nx is L (vI (w 39 0) :: S) w := propext Iff.rfl
theorem p_39_0 {i : Nat} {x : Int} : ab_wb Ls C J Rt nx ((.putfield i, [5, 0, 0], z) :: is) L (vI x :: vR 39 :: S) w = ab_wb Ls C J Rt nx is L S (ab_up w 39 0 x) := propext ⟨fun h => h.2.2, fun h => ⟨rfl, fun q => (by cases q), h⟩⟩
theorem g_39_1 {i : Nat} : ab_wb Ls C J Rt nx ((.getfield i, [5, 1], z) :: is) L (vR 39 :: S) w = ab_wb Ls C J Rt nx is L (vR 40 :: S) w := propext Iff.rfl
theorem g_39_2 {i : Nat} : ab_wb Ls C J Rt nx ((.getfield i, [5, 2], z) :: is) L (vR 39 :: S) w = ab_wb Ls C J Rt nx is L (vI (w 39 2) :: S) w := propext Iff.rfl
theorem p_39_2 {i : Nat} {x : Int} : ab_wb Ls C J Rt nx ((.putfield i, [5, 2, 0], z) :: is) L (vI x :: vR 39 :: S) w = ab_wb Ls C J Rt nx is L S (ab_up w 39 2 x) := propext ⟨fun h => h.2.2, fun h => ⟨rfl, fun q => (by cases q), h⟩⟩
theorem g_39_3 {i : Nat} : ab_wb Ls C J Rt nx ((.getfield i, [5, 3], z) :: is) L (vR 39 :: S) w = ab_wb Ls C J Rt nx is L (vR 41 :: S) w := propext Iff.rfl
theorem g_39_4 {i : Nat} : ab_wb Ls C J Rt nx ((.getfield i, [5, 4], z) :: is) L (vR 39 :: S) w = ab_wb Ls C J Rt nx is L (vR 42 :: S) w := propext Iff.rfl
theorem g_39_5 {i : Nat} : ab_wb Ls C J Rt nx ((.getfield i, [5, 5], z) :: is) L (vR 39 :: S) w = ab_wb Ls C J Rt nx is L (vI (w 39 5) :: S) w := propext Iff.rfl
theorem p_39_5 {i : Nat} {x : Int} : ab_wb Ls C J Rt nx ((.putfield i, [5, 5, 0], z) :: is) L (vI x :: vR 39 :: S) w = ab_wb Ls C J Rt nx is L S (ab_up w 39 5 x) := propext ⟨fun h => h.2.2, fun h => ⟨rfl, fun q => (by cases q), h⟩⟩
theorem g_39_6 {i : Nat} : ab_wb Ls C J Rt nx ((.getfield i, [5, 6], z) :: is) L (vR 39 :: S) w = ab_wb Ls C J Rt nx is L (vI (w 39 6) :: S) w := propext Iff.rfl
theorem p_39_6 {i : Nat} {x : Int} : ab_wb Ls C J Rt nx ((.putfield i, [5, 6, 0], z) :: is) L (vI x :: vR 39 :: S) w = ab_wb Ls C J Rt nx is L S (ab_up w 39 6 x) := propext ⟨fun h => h.2.2, fun h => ⟨rfl, fun q => (by cases q), h⟩⟩
theorem g_39_7 {i : Nat} : ab_wb Ls C J Rt nx ((.getfield i, [5, 7], z) :: is) L (vR 39 :: S) w = ab_wb Ls C J Rt nx is L (vR 43 :: S) w := propext Iff.rfl
theorem g_39_8 {i : Nat} : ab_wb Ls C J Rt nx ((.getfield i, [5, 8], z) :: is) L (vR 39 :: S) w = ab_wb Ls C J Rt nx is L (vR 44 :: S) w := propext Iff.rfl
theorem g_39_9 {i : Nat} : ab_wb Ls C J Rt nx ((.getfield i, [5, 9], z) :: is) L (vR 39 :: S) w = ab_wb Ls C J Rt nx is L (vR 45 :: S) w := propext Iff.rfl
theorem g_39_10 {i : Nat} : ab_wb Ls C J Rt nx ((.getfield i, [5, 10], z) :: is) L (vR 39 :: S) w = ab_wb Ls C J Rt nx is L (vI (w 39 10) :: S) w := propext Iff.rfl
theorem p_39_10 {i : Nat} {x : Int} : ab_wb Ls C J Rt nx ((.putfield i, [5, 10, 0], z) :: is) L (vI x :: vR 39 :: S) w = ab_wb Ls C J Rt nx is L S (ab_up w 39 10 x) := propext ⟨fun h => h.2.2, fun h => ⟨rfl, fun q => (by cases q), h⟩⟩
theorem g_39_11 {i : Nat} : ab_wb Ls C J Rt nx ((.getfield i, [5, 11], z) :: is) L (vR 39 :: S) w = ab_wb Ls C J Rt nx is L (vI (w 39 11) :: S) w := propext Iff.rfl
theorem p_39_11 {i : Nat} {x : Int} : ab_wb Ls C J Rt nx ((.putfield i, [5, 11, 0], z) :: is) L (vI x :: vR 39 :: S) w = ab_wb Ls C J Rt nx is L S (ab_up w 39 11 x) := propext ⟨fun h => h.2.2, fun h => ⟨rfl, fun q => (by cases q), h⟩⟩
theorem g_39_12 {i : Nat} : ab_wb Ls C J Rt nx ((.getfield i, [5, 12], z) :: is) L (vR 39 :: S) w = ab_wb Ls C J Rt nx is L (vR 46 :: S) w := propext Iff.rfl
theorem g_39_13 {i : Nat} : ab_wb Ls C J Rt nx ((.getfield i, [5, 13], z) :: is) L (vR 39 :: S) w = ab_wb Ls C J Rt nx is L (vR 47 :: S) w := propext Iff.rfl
theorem g_39_14 {i : Nat} : ab_wb Ls C J Rt nx ((.getfield i, [5, 14], z) :: is) L (vR 39 :: S) w = ab_wb Ls C J Rt nx is L (vR 48 :: S) w := propext Iff.rfl
theorem g_39_15 {i : Nat} : ab_wb Ls C J Rt nx ((.getfield i, [5, 15], z) :: is) L (vR 39 :: S) w = ab_wb Ls C J Rt nx is L (vI (w 39 15) :: S) w := propext Iff.rfl
theorem p_39_15 {i : Nat} {x : Int} : ab_wb Ls C J Rt nx ((.putfield i, [5, 15, 0], z) :: is) L (vI x :: vR 39 :: S) w = ab_wb Ls C J Rt nx is L S (ab_up w 39 15 x) := propext ⟨fun h => h.2.2, fun h => ⟨rfl, fun q => (by cases q), h⟩⟩
theorem g_39_16 {i : Nat} : ab_wb Ls C J Rt nx ((.getfield i, [5, 16], z) :: is) L (vR 39 :: S) w = ab_wb Ls C J Rt nx is L (vR 49 :: S) w := propext Iff.rfl
theorem g_39_17 {i : Nat} : ab_wb Ls C J Rt nx ((.getfield i, [5, 17], z) :: is) L (vR 39 :: S) w = ab_wb Ls C J Rt nx is L (vR 50 :: S) w := propext Iff.rfl
theorem g_39_18 {i : Nat} : ab_wb Ls C J Rt nx ((.getfield i, [5, 18], z) :: is) L (vR 39 :: S) w = ab_wb Ls C J Rt nx is L (vR 51 :: S) w := propext Iff.rfl
theorem g_39_19 {i : Nat} : ab_wb Ls C J Rt nx ((.getfield i, [5, 19], z) :: is) L (vR 39 :: S) w = ab_wb Ls C J Rt nx is L (vR 52 :: S) w := propext Iff.rfl
theorem g_39_20 {i : Nat} : ab_wb Ls C J Rt nx ((.getfield i, [5, 20], z) :: is) L (vR 39 :: S) w = ab_wb Ls C J Rt nx is L (vR 53 :: S) w := propext Iff.rfl
theorem g_39_21 {i : Nat} : ab_wb Ls C J Rt nx ((.getfield i, [5, 21], z) :: is) L (vR 39 :: S) w = ab_wb Ls C J Rt nx is L (vR 54 :: S) w := propext Iff.rfl
theorem g_39_22 {i : Nat} : ab_wb Ls C J Rt nx ((.getfield i, [5, 22], z) :: is) L (vR 39 :: S) w = ab_wb Ls C J Rt nx is L (vR 55 :: S) w := propext Iff.rfl
theorem g_39_23 {i : Nat} : ab_wb Ls C J Rt nx ((.getfield i, [5, 23], z) :: is) L (vR 39 :: S) w = ab_wb Ls C J Rt nx is L (vR 56 :: S) w := propext Iff.rfl
theorem g_39_24 {i : Nat} : ab_wb Ls C J Rt nx ((.getfield i, [5, 24], z) :: is) L (vR 39 :: S) w = ab_wb Ls C J Rt nx is L (vR 57 :: S) w := propext Iff.rfl
theorem g_39_25 {i : Nat} : ab_wb Ls C J Rt nx ((.getfield i, [5, 25], z) :: is) L (vR 39 :: S) w = ab_wb Ls C J Rt nx is L (vR 58 :: S) w := propext Iff.rfl
theorem g_39_26 {i : Nat} : ab_wb Ls C J Rt nx ((.getfield i, [5, 26], z) :: is) L (vR 39 :: S) w = ab_wb Ls C J Rt nx is L (vR 59 :: S) w := propext Iff.rfl
theorem g_39_27 {i : Nat} : ab_wb Ls C J Rt nx ((.getfield i, [5, 27], z) :: is) L (vR 39 :: S) w = ab_wb Ls C J Rt nx is L (vI (w 39 27) :: S) w := propext Iff.rfl
theorem p_39_27 {i : Nat} {x : Int} : ab_wb Ls C J Rt nx ((.putfield i, [5, 27, 0], z) :: is) L (vI x :: vR 39 :: S) w = ab_wb Ls C J Rt nx is L S (ab_up w 39 27 x) := propext ⟨fun h => h.2.2, fun h => ⟨rfl, fun q => (by cases q), h⟩⟩
theorem g_39_28 {i : Nat} : ab_wb Ls C J Rt nx ((.getfield i, [5, 28], z) :: is) L (vR 39 :: S) w = ab_wb Ls C J Rt nx is L (vR 60 :: S) w := propext Iff.rfl
theorem g_39_29 {i : Nat} : ab_wb Ls C J Rt nx ((.getfield i, [5, 29], z) :: is) L (vR 39 :: S) w = ab_wb Ls C J Rt nx is L (vR 61 :: S) w := propext Iff.rfl
theorem g_39_30 {i : Nat} : ab_wb Ls C J Rt nx ((.getfield i, [5, 30], z) :: is) L (vR 39 :: S) w = ab_wb Ls C J Rt nx is L (vR 62 :: S) w := propext Iff.rfl
theorem g_39_31 {i : Nat} : ab_wb Ls C J Rt nx ((.getfield i, [5, 31], z) :: is) L (vR 39 :: S) w = ab_wb Ls C J Rt nx is L (vR 63 :: S) w := propext Iff.rfl
theorem g_39_32 {i : Nat} : ab_wb Ls C J Rt nx ((.getfield i, [5, 32], z) :: is) L (vR 39 :: S) w = ab_wb Ls C J Rt nx is L (vR 64 :: S) w := propext Iff.rfl
theorem g_39_33 {i : Nat} : ab_wb Ls C J Rt nx ((.getfield i, [5, 33], z) :: is) L (vR 39 :: S) w = ab_wb Ls C J Rt nx is L (vR 65 :: S) w := propext Iff.rfl
theorem g_39_34 {i : Nat} : ab_wb Ls C J Rt nx ((.getfield i, [5, 34], z) :: is) L (vR 39 :: S) w = ab_wb Ls C J Rt nx is L (vR 66 :: S) w := propext Iff.rfl
theorem g_39_35 {i : Nat} : ab_wb Ls C J Rt nx ((.getfield i, [5, 35], z) :: is) L (vR 39 :: S) w = ab_wb Ls C J Rt nx is L (vR 67 :: S) w := propext Iff.rfl
theorem g_39_36 {i : Nat} : ab_wb Ls C J Rt nx ((.getfield i, [5, 36], z) :: is) L (vR 39 :: S) w = ab_wb Ls C J Rt nx is L (vR 68 :: S) w := propext Iff.rfl
theorem g_39_37 {i : Nat} : ab_wb Ls C J Rt nx ((.getfield i, [5, 37], z) :: is) L (vR 39 :: S) w = ab_wb Ls C J Rt nx is L (vI (w 39 37) :: S) w := propext Iff.rfl
theorem p_39_37 {i : Nat} {x : Int} : ab_wb Ls C J Rt nx ((.putfield i, [5, 37, 0], z) :: is) L (vI x :: vR 39 :: S) w = ab_wb Ls C J Rt nx is L S (ab_up w 39 37 x) := propext ⟨fun h => h.2.2, fun h => ⟨rfl, fun q => (by cases q), h⟩⟩
theorem x_40 {i : Int} : ab_wb Ls C J Rt nx ((.iaload, ex, z) :: is) L (vI i :: vR 40 :: S) w = ((0 ≤ i ∧ i < 35) ∧ ab_wb Ls C J Rt nx is L (vI (w 40 i) :: S) w) := propext Iff.rfl
theorem y_40 {i x : Int} : ab_wb Ls C J Rt nx ((.iastore, ex, z) :: is) L (vI x :: vI i :: vR 40 :: S) w = ((0 ≤ i ∧ i < 35) ∧ ab_wb Ls C J Rt nx is L S (ab_up w 40 i x)) := propext Iff.rfl
theorem n_40  : ab_wb Ls C J Rt nx ((.arraylength, ex, z) :: is) L (vR 40 :: S) w = ab_wb Ls C J Rt nx is L (vI 35 :: S) w := propext Iff.rfl
theorem x_41 {i : Int} : ab_wb Ls C J Rt nx ((.iaload, ex, z) :: is) L (vI i :: vR 41 :: S) w = ((0 ≤ i ∧ i < 20) ∧ ab_wb Ls C J Rt nx is L (vI (w 41 i) :: S) w) := propext Iff.rfl
theorem y_41 {i x : Int} : ab_wb Ls C J Rt nx ((.iastore, ex, z) :: is) L (vI x :: vI i :: vR 41 :: S) w = ((0 ≤ i ∧ i < 20) ∧ ab_wb Ls C J Rt nx is L S (ab_up w 41 i x)) := propext Iff.rfl
theorem n_41  : ab_wb Ls C J Rt nx ((.arraylength, ex, z) :: is) L (vR 41 :: S) w = ab_wb Ls C J Rt nx is L (vI 20 :: S) w := propext Iff.rfl
theorem x_42 {i : Int} : ab_wb Ls C J Rt nx ((.iaload, ex, z) :: is) L (vI i :: vR 42 :: S) w = ((0 ≤ i ∧ i < 20) ∧ ab_wb Ls C J Rt nx is L (vI (w 42 i) :: S) w) := propext Iff.rfl
theorem y_42 {i x : Int} : ab_wb Ls C J Rt nx ((.iastore, ex, z) :: is) L (vI x :: vI i :: vR 42 :: S) w = ((0 ≤ i ∧ i < 20) ∧ ab_wb Ls C J Rt nx is L S (ab_up w 42 i x)) := propext Iff.rfl
theorem n_42  : ab_wb Ls C J Rt nx ((.arraylength, ex, z) :: is) L (vR 42 :: S) w = ab_wb Ls C J Rt nx is L (vI 20 :: S) w := propext Iff.rfl
theorem x_43 {i : Int} : ab_wb Ls C J Rt nx ((.iaload, ex, z) :: is) L (vI i :: vR 43 :: S) w = ((0 ≤ i ∧ i < 8) ∧ ab_wb Ls C J Rt nx is L (vI (w 43 i) :: S) w) := propext Iff.rfl
theorem y_43 {i x : Int} : ab_wb Ls C J Rt nx ((.iastore, ex, z) :: is) L (vI x :: vI i :: vR 43 :: S) w = ((0 ≤ i ∧ i < 8) ∧ ab_wb Ls C J Rt nx is L S (ab_up w 43 i x)) := propext Iff.rfl
theorem n_43  : ab_wb Ls C J Rt nx ((.arraylength, ex, z) :: is) L (vR 43 :: S) w = ab_wb Ls C J Rt nx is L (vI 8 :: S) w := propext Iff.rfl
theorem x_44 {i : Int} : ab_wb Ls C J Rt nx ((.iaload, ex, z) :: is) L (vI i :: vR 44 :: S) w = ((0 ≤ i ∧ i < 8) ∧ ab_wb Ls C J Rt nx is L (vI (w 44 i) :: S) w) := propext Iff.rfl
theorem y_44 {i x : Int} : ab_wb Ls C J Rt nx ((.iastore, ex, z) :: is) L (vI x :: vI i :: vR 44 :: S) w = ((0 ≤ i ∧ i < 8) ∧ ab_wb Ls C J Rt nx is L S (ab_up w 44 i x)) := propext Iff.rfl
theorem n_44  : ab_wb Ls C J Rt nx ((.arraylength, ex, z) :: is) L (vR 44 :: S) w = ab_wb Ls C J Rt nx is L (vI 8 :: S) w := propext Iff.rfl
theorem x_45 {i : Int} : ab_wb Ls C J Rt nx ((.iaload, ex, z) :: is) L (vI i :: vR 45 :: S) w = ((0 ≤ i ∧ i < 8) ∧ ab_wb Ls C J Rt nx is L (vI (w 45 i) :: S) w) := propext Iff.rfl
theorem y_45 {i x : Int} : ab_wb Ls C J Rt nx ((.iastore, ex, z) :: is) L (vI x :: vI i :: vR 45 :: S) w = ((0 ≤ i ∧ i < 8) ∧ ab_wb Ls C J Rt nx is L S (ab_up w 45 i x)) := propext Iff.rfl
theorem n_45  : ab_wb Ls C J Rt nx ((.arraylength, ex, z) :: is) L (vR 45 :: S) w = ab_wb Ls C J Rt nx is L (vI 8 :: S) w := propext Iff.rfl
theorem x_46 {i : Int} : ab_wb Ls C J Rt nx ((.iaload, ex, z) :: is) L (vI i :: vR 46 :: S) w = ((0 ≤ i ∧ i < 8) ∧ ab_wb Ls C J Rt nx is L (vI (w 46 i) :: S) w) := propext Iff.rfl
theorem y_46 {i x : Int} : ab_wb Ls C J Rt nx ((.iastore, ex, z) :: is) L (vI x :: vI i :: vR 46 :: S) w = ((0 ≤ i ∧ i < 8) ∧ ab_wb Ls C J Rt nx is L S (ab_up w 46 i x)) := propext Iff.rfl
theorem n_46  : ab_wb Ls C J Rt nx ((.arraylength, ex, z) :: is) L (vR 46 :: S) w = ab_wb Ls C J Rt nx is L (vI 8 :: S) w := propext Iff.rfl
theorem x_47 {i : Int} : ab_wb Ls C J Rt nx ((.iaload, ex, z) :: is) L (vI i :: vR 47 :: S) w = ((0 ≤ i ∧ i < 8) ∧ ab_wb Ls C J Rt nx is L (vI (w 47 i) :: S) w) := propext Iff.rfl
theorem y_47 {i x : Int} : ab_wb Ls C J Rt nx ((.iastore, ex, z) :: is) L (vI x :: vI i :: vR 47 :: S) w = ((0 ≤ i ∧ i < 8) ∧ ab_wb Ls C J Rt nx is L S (ab_up w 47 i x)) := propext Iff.rfl
theorem n_47  : ab_wb Ls C J Rt nx ((.arraylength, ex, z) :: is) L (vR 47 :: S) w = ab_wb Ls C J Rt nx is L (vI 8 :: S) w := propext Iff.rfl
theorem x_48 {i : Int} : ab_wb Ls C J Rt nx ((.iaload, ex, z) :: is) L (vI i :: vR 48 :: S) w = ((0 ≤ i ∧ i < 8) ∧ ab_wb Ls C J Rt nx is L (vI (w 48 i) :: S) w) := propext Iff.rfl
theorem y_48 {i x : Int} : ab_wb Ls C J Rt nx ((.iastore, ex, z) :: is) L (vI x :: vI i :: vR 48 :: S) w = ((0 ≤ i ∧ i < 8) ∧ ab_wb Ls C J Rt nx is L S (ab_up w 48 i x)) := propext Iff.rfl
theorem n_48  : ab_wb Ls C J Rt nx ((.arraylength, ex, z) :: is) L (vR 48 :: S) w = ab_wb Ls C J Rt nx is L (vI 8 :: S) w := propext Iff.rfl
theorem x_49 {i : Int} : ab_wb Ls C J Rt nx ((.iaload, ex, z) :: is) L (vI i :: vR 49 :: S) w = ((0 ≤ i ∧ i < 16) ∧ ab_wb Ls C J Rt nx is L (vI (w 49 i) :: S) w) := propext Iff.rfl
theorem y_49 {i x : Int} : ab_wb Ls C J Rt nx ((.iastore, ex, z) :: is) L (vI x :: vI i :: vR 49 :: S) w = ((0 ≤ i ∧ i < 16) ∧ ab_wb Ls C J Rt nx is L S (ab_up w 49 i x)) := propext Iff.rfl
theorem n_49  : ab_wb Ls C J Rt nx ((.arraylength, ex, z) :: is) L (vR 49 :: S) w = ab_wb Ls C J Rt nx is L (vI 16 :: S) w := propext Iff.rfl
theorem x_50 {i : Int} : ab_wb Ls C J Rt nx ((.iaload, ex, z) :: is) L (vI i :: vR 50 :: S) w = ((0 ≤ i ∧ i < 4) ∧ ab_wb Ls C J Rt nx is L (vI (w 50 i) :: S) w) := propext Iff.rfl
theorem y_50 {i x : Int} : ab_wb Ls C J Rt nx ((.iastore, ex, z) :: is) L (vI x :: vI i :: vR 50 :: S) w = ((0 ≤ i ∧ i < 4) ∧ ab_wb Ls C J Rt nx is L S (ab_up w 50 i x)) := propext Iff.rfl
theorem n_50  : ab_wb Ls C J Rt nx ((.arraylength, ex, z) :: is) L (vR 50 :: S) w = ab_wb Ls C J Rt nx is L (vI 4 :: S) w := propext Iff.rfl
theorem x_51 {i : Int} : ab_wb Ls C J Rt nx ((.iaload, ex, z) :: is) L (vI i :: vR 51 :: S) w = ((0 ≤ i ∧ i < 4) ∧ ab_wb Ls C J Rt nx is L (vI (w 51 i) :: S) w) := propext Iff.rfl
theorem y_51 {i x : Int} : ab_wb Ls C J Rt nx ((.iastore, ex, z) :: is) L (vI x :: vI i :: vR 51 :: S) w = ((0 ≤ i ∧ i < 4) ∧ ab_wb Ls C J Rt nx is L S (ab_up w 51 i x)) := propext Iff.rfl
theorem n_51  : ab_wb Ls C J Rt nx ((.arraylength, ex, z) :: is) L (vR 51 :: S) w = ab_wb Ls C J Rt nx is L (vI 4 :: S) w := propext Iff.rfl
theorem x_52 {i : Int} : ab_wb Ls C J Rt nx ((.iaload, ex, z) :: is) L (vI i :: vR 52 :: S) w = ((0 ≤ i ∧ i < 4) ∧ ab_wb Ls C J Rt nx is L (vI (w 52 i) :: S) w) := propext Iff.rfl
theorem y_52 {i x : Int} : ab_wb Ls C J Rt nx ((.iastore, ex, z) :: is) L (vI x :: vI i :: vR 52 :: S) w = ((0 ≤ i ∧ i < 4) ∧ ab_wb Ls C J Rt nx is L S (ab_up w 52 i x)) := propext Iff.rfl
theorem n_52  : ab_wb Ls C J Rt nx ((.arraylength, ex, z) :: is) L (vR 52 :: S) w = ab_wb Ls C J Rt nx is L (vI 4 :: S) w := propext Iff.rfl
theorem x_53 {i : Int} : ab_wb Ls C J Rt nx ((.iaload, ex, z) :: is) L (vI i :: vR 53 :: S) w = ((0 ≤ i ∧ i < 4) ∧ ab_wb Ls C J Rt nx is L (vI (w 53 i) :: S) w) := propext Iff.rfl
theorem y_53 {i x : Int} : ab_wb Ls C J Rt nx ((.iastore, ex, z) :: is) L (vI x :: vI i :: vR 53 :: S) w = ((0 ≤ i ∧ i < 4) ∧ ab_wb Ls C J Rt nx is L S (ab_up w 53 i x)) := propext Iff.rfl
theorem n_53  : ab_wb Ls C J Rt nx ((.arraylength, ex, z) :: is) L (vR 53 :: S) w = ab_wb Ls C J Rt nx is L (vI 4 :: S) w := propext Iff.rfl
theorem x_54 {i : Int} : ab_wb Ls C J Rt nx ((.iaload, ex, z) :: is) L (vI i :: vR 54 :: S) w = ((0 ≤ i ∧ i < 4) ∧ ab_wb Ls C J Rt nx is L (vI (w 54 i) :: S) w) := propext Iff.rfl
theorem y_54 {i x : Int} : ab_wb Ls C J Rt nx ((.iastore, ex, z) :: is) L (vI x :: vI i :: vR 54 :: S) w = ((0 ≤ i ∧ i < 4) ∧ ab_wb Ls C J Rt nx is L S (ab_up w 54 i x)) := propext Iff.rfl
theorem n_54  : ab_wb Ls C J Rt nx ((.arraylength, ex, z) :: is) L (vR 54 :: S) w = ab_wb Ls C J Rt nx is L (vI 4 :: S) w := propext Iff.rfl
theorem x_55 {i : Int} : ab_wb Ls C J Rt nx ((.iaload, ex, z) :: is) L (vI i :: vR 55 :: S) w = ((0 ≤ i ∧ i < 16) ∧ ab_wb Ls C J Rt nx is L (vI (w 55 i) :: S) w) := propext Iff.rfl
theorem y_55 {i x : Int} : ab_wb Ls C J Rt nx ((.iastore, ex, z) :: is) L (vI x :: vI i :: vR 55 :: S) w = ((0 ≤ i ∧ i < 16) ∧ ab_wb Ls C J Rt nx is L S (ab_up w 55 i x)) := propext Iff.rfl
theorem n_55  : ab_wb Ls C J Rt nx ((.arraylength, ex, z) :: is) L (vR 55 :: S) w = ab_wb Ls C J Rt nx is L (vI 16 :: S) w := propext Iff.rfl
theorem x_56 {i : Int} : ab_wb Ls C J Rt nx ((.iaload, ex, z) :: is) L (vI i :: vR 56 :: S) w = ((0 ≤ i ∧ i < 192) ∧ ab_wb Ls C J Rt nx is L (vI (w 56 i) :: S) w) := propext Iff.rfl
theorem y_56 {i x : Int} : ab_wb Ls C J Rt nx ((.iastore, ex, z) :: is) L (vI x :: vI i :: vR 56 :: S) w = ((0 ≤ i ∧ i < 192) ∧ ab_wb Ls C J Rt nx is L S (ab_up w 56 i x)) := propext Iff.rfl
theorem n_56  : ab_wb Ls C J Rt nx ((.arraylength, ex, z) :: is) L (vR 56 :: S) w = ab_wb Ls C J Rt nx is L (vI 192 :: S) w := propext Iff.rfl
theorem x_57 {i : Int} : ab_wb Ls C J Rt nx ((.iaload, ex, z) :: is) L (vI i :: vR 57 :: S) w = ((0 ≤ i ∧ i < 192) ∧ ab_wb Ls C J Rt nx is L (vI (w 57 i) :: S) w) := propext Iff.rfl
theorem y_57 {i x : Int} : ab_wb Ls C J Rt nx ((.iastore, ex, z) :: is) L (vI x :: vI i :: vR 57 :: S) w = ((0 ≤ i ∧ i < 192) ∧ ab_wb Ls C J Rt nx is L S (ab_up w 57 i x)) := propext Iff.rfl
theorem n_57  : ab_wb Ls C J Rt nx ((.arraylength, ex, z) :: is) L (vR 57 :: S) w = ab_wb Ls C J Rt nx is L (vI 192 :: S) w := propext Iff.rfl
theorem x_58 {i : Int} : ab_wb Ls C J Rt nx ((.iaload, ex, z) :: is) L (vI i :: vR 58 :: S) w = ((0 ≤ i ∧ i < 192) ∧ ab_wb Ls C J Rt nx is L (vI (w 58 i) :: S) w) := propext Iff.rfl
theorem y_58 {i x : Int} : ab_wb Ls C J Rt nx ((.iastore, ex, z) :: is) L (vI x :: vI i :: vR 58 :: S) w = ((0 ≤ i ∧ i < 192) ∧ ab_wb Ls C J Rt nx is L S (ab_up w 58 i x)) := propext Iff.rfl
theorem n_58  : ab_wb Ls C J Rt nx ((.arraylength, ex, z) :: is) L (vR 58 :: S) w = ab_wb Ls C J Rt nx is L (vI 192 :: S) w := propext Iff.rfl
theorem x_59 {i : Int} : ab_wb Ls C J Rt nx ((.iaload, ex, z) :: is) L (vI i :: vR 59 :: S) w = ((0 ≤ i ∧ i < 2) ∧ ab_wb Ls C J Rt nx is L (vI (w 59 i) :: S) w) := propext Iff.rfl
theorem y_59 {i x : Int} : ab_wb Ls C J Rt nx ((.iastore, ex, z) :: is) L (vI x :: vI i :: vR 59 :: S) w = ((0 ≤ i ∧ i < 2) ∧ ab_wb Ls C J Rt nx is L S (ab_up w 59 i x)) := propext Iff.rfl
theorem n_59  : ab_wb Ls C J Rt nx ((.arraylength, ex, z) :: is) L (vR 59 :: S) w = ab_wb Ls C J Rt nx is L (vI 2 :: S) w := propext Iff.rfl
theorem x_60 {i : Int} : ab_wb Ls C J Rt nx ((.iaload, ex, z) :: is) L (vI i :: vR 60 :: S) w = ((0 ≤ i ∧ i < 8) ∧ ab_wb Ls C J Rt nx is L (vI (w 60 i) :: S) w) := propext Iff.rfl
theorem y_60 {i x : Int} : ab_wb Ls C J Rt nx ((.iastore, ex, z) :: is) L (vI x :: vI i :: vR 60 :: S) w = ((0 ≤ i ∧ i < 8) ∧ ab_wb Ls C J Rt nx is L S (ab_up w 60 i x)) := propext Iff.rfl
theorem n_60  : ab_wb Ls C J Rt nx ((.arraylength, ex, z) :: is) L (vR 60 :: S) w = ab_wb Ls C J Rt nx is L (vI 8 :: S) w := propext Iff.rfl
theorem x_61 {i : Int} : ab_wb Ls C J Rt nx ((.iaload, ex, z) :: is) L (vI i :: vR 61 :: S) w = ((0 ≤ i ∧ i < 8) ∧ ab_wb Ls C J Rt nx is L (vI (w 61 i) :: S) w) := propext Iff.rfl
theorem y_61 {i x : Int} : ab_wb Ls C J Rt nx ((.iastore, ex, z) :: is) L (vI x :: vI i :: vR 61 :: S) w = ((0 ≤ i ∧ i < 8) ∧ ab_wb Ls C J Rt nx is L S (ab_up w 61 i x)) := propext Iff.rfl
theorem n_61  : ab_wb Ls C J Rt nx ((.arraylength, ex, z) :: is) L (vR 61 :: S) w = ab_wb Ls C J Rt nx is L (vI 8 :: S) w := propext Iff.rfl
theorem x_62 {i : Int} : ab_wb Ls C J Rt nx ((.iaload, ex, z) :: is) L (vI i :: vR 62 :: S) w = ((0 ≤ i ∧ i < 8) ∧ ab_wb Ls C J Rt nx is L (vI (w 62 i) :: S) w) := propext Iff.rfl
theorem y_62 {i x : Int} : ab_wb Ls C J Rt nx ((.iastore, ex, z) :: is) L (vI x :: vI i :: vR 62 :: S) w = ((0 ≤ i ∧ i < 8) ∧ ab_wb Ls C J Rt nx is L S (ab_up w 62 i x)) := propext Iff.rfl
theorem n_62  : ab_wb Ls C J Rt nx ((.arraylength, ex, z) :: is) L (vR 62 :: S) w = ab_wb Ls C J Rt nx is L (vI 8 :: S) w := propext Iff.rfl
theorem x_63 {i : Int} : ab_wb Ls C J Rt nx ((.iaload, ex, z) :: is) L (vI i :: vR 63 :: S) w = ((0 ≤ i ∧ i < 480) ∧ ab_wb Ls C J Rt nx is L (vI (w 63 i) :: S) w) := propext Iff.rfl
theorem y_63 {i x : Int} : ab_wb Ls C J Rt nx ((.iastore, ex, z) :: is) L (vI x :: vI i :: vR 63 :: S) w = ((0 ≤ i ∧ i < 480) ∧ ab_wb Ls C J Rt nx is L S (ab_up w 63 i x)) := propext Iff.rfl
theorem n_63  : ab_wb Ls C J Rt nx ((.arraylength, ex, z) :: is) L (vR 63 :: S) w = ab_wb Ls C J Rt nx is L (vI 480 :: S) w := propext Iff.rfl
theorem x_64 {i : Int} : ab_wb Ls C J Rt nx ((.baload, ex, z) :: is) L (vI i :: vR 64 :: S) w = ((0 ≤ i ∧ i < 4) ∧ ab_wb Ls C J Rt nx is L (vI (w 64 i) :: S) w) := propext Iff.rfl
theorem y_64 {i x : Int} : ab_wb Ls C J Rt nx ((.bastore, ex, z) :: is) L (vI x :: vI i :: vR 64 :: S) w = ((0 ≤ i ∧ i < 4) ∧ (x = 0 ∨ x = 1) ∧ ab_wb Ls C J Rt nx is L S (ab_up w 64 i x)) := propext Iff.rfl
theorem n_64  : ab_wb Ls C J Rt nx ((.arraylength, ex, z) :: is) L (vR 64 :: S) w = ab_wb Ls C J Rt nx is L (vI 4 :: S) w := propext Iff.rfl
theorem x_65 {i : Int} : ab_wb Ls C J Rt nx ((.iaload, ex, z) :: is) L (vI i :: vR 65 :: S) w = ((0 ≤ i ∧ i < 4) ∧ ab_wb Ls C J Rt nx is L (vI (w 65 i) :: S) w) := propext Iff.rfl
theorem y_65 {i x : Int} : ab_wb Ls C J Rt nx ((.iastore, ex, z) :: is) L (vI x :: vI i :: vR 65 :: S) w = ((0 ≤ i ∧ i < 4) ∧ ab_wb Ls C J Rt nx is L S (ab_up w 65 i x)) := propext Iff.rfl
theorem n_65  : ab_wb Ls C J Rt nx ((.arraylength, ex, z) :: is) L (vR 65 :: S) w = ab_wb Ls C J Rt nx is L (vI 4 :: S) w := propext Iff.rfl
theorem x_66 {i : Int} : ab_wb Ls C J Rt nx ((.iaload, ex, z) :: is) L (vI i :: vR 66 :: S) w = ((0 ≤ i ∧ i < 4) ∧ ab_wb Ls C J Rt nx is L (vI (w 66 i) :: S) w) := propext Iff.rfl
theorem y_66 {i x : Int} : ab_wb Ls C J Rt nx ((.iastore, ex, z) :: is) L (vI x :: vI i :: vR 66 :: S) w = ((0 ≤ i ∧ i < 4) ∧ ab_wb Ls C J Rt nx is L S (ab_up w 66 i x)) := propext Iff.rfl
theorem n_66  : ab_wb Ls C J Rt nx ((.arraylength, ex, z) :: is) L (vR 66 :: S) w = ab_wb Ls C J Rt nx is L (vI 4 :: S) w := propext Iff.rfl
theorem x_67 {i : Int} : ab_wb Ls C J Rt nx ((.iaload, ex, z) :: is) L (vI i :: vR 67 :: S) w = ((0 ≤ i ∧ i < 240) ∧ ab_wb Ls C J Rt nx is L (vI (w 67 i) :: S) w) := propext Iff.rfl
theorem y_67 {i x : Int} : ab_wb Ls C J Rt nx ((.iastore, ex, z) :: is) L (vI x :: vI i :: vR 67 :: S) w = ((0 ≤ i ∧ i < 240) ∧ ab_wb Ls C J Rt nx is L S (ab_up w 67 i x)) := propext Iff.rfl
theorem n_67  : ab_wb Ls C J Rt nx ((.arraylength, ex, z) :: is) L (vR 67 :: S) w = ab_wb Ls C J Rt nx is L (vI 240 :: S) w := propext Iff.rfl
theorem x_68 {i : Int} : ab_wb Ls C J Rt nx ((.iaload, ex, z) :: is) L (vI i :: vR 68 :: S) w = ((0 ≤ i ∧ i < 60) ∧ ab_wb Ls C J Rt nx is L (vI (w 68 i) :: S) w) := propext Iff.rfl
theorem y_68 {i x : Int} : ab_wb Ls C J Rt nx ((.iastore, ex, z) :: is) L (vI x :: vI i :: vR 68 :: S) w = ((0 ≤ i ∧ i < 60) ∧ ab_wb Ls C J Rt nx is L S (ab_up w 68 i x)) := propext Iff.rfl
theorem n_68  : ab_wb Ls C J Rt nx ((.arraylength, ex, z) :: is) L (vR 68 :: S) w = ab_wb Ls C J Rt nx is L (vI 60 :: S) w := propext Iff.rfl
theorem x_100 {i : Int} : ab_wb Ls C J Rt nx ((.iaload, ex, z) :: is) L (vI i :: vR 100 :: S) w = ((0 ≤ i ∧ i < 5) ∧ ab_wb Ls C J Rt nx is L (vI (w 100 i) :: S) w) := propext Iff.rfl
theorem x_101 {i : Int} : ab_wb Ls C J Rt nx ((.iaload, ex, z) :: is) L (vI i :: vR 101 :: S) w = ((0 ≤ i ∧ i < (Ls : Int)) ∧ ab_wb Ls C J Rt nx is L (vI (w 101 i) :: S) w) := propext Iff.rfl
theorem n_100  : ab_wb Ls C J Rt nx ((.arraylength, ex, z) :: is) L (vR 100 :: S) w = ab_wb Ls C J Rt nx is L (vI 5 :: S) w := propext Iff.rfl
theorem n_101  : ab_wb Ls C J Rt nx ((.arraylength, ex, z) :: is) L (vR 101 :: S) w = ab_wb Ls C J Rt nx is L (vI (Ls : Int) :: S) w := propext Iff.rfl
theorem e_mmax {i : Nat} {x y : Int} : ab_wb Ls C J Rt nx ((.invokestatic i, [1], z) :: is) L (vI y :: vI x :: S) w = (ab_few S ∧ C 999 [] w (fun _ _ => True) ∧ ab_wb Ls C J Rt nx is L (vI (i_max x y) :: S) w) := propext Iff.rfl
theorem e_mmin {i : Nat} {x y : Int} : ab_wb Ls C J Rt nx ((.invokestatic i, [2], z) :: is) L (vI y :: vI x :: S) w = (ab_few S ∧ C 999 [] w (fun _ _ => True) ∧ ab_wb Ls C J Rt nx is L (vI (i_min x y) :: S) w) := propext Iff.rfl
theorem e_copy {i p q : Nat} {sp dp n : Int} : ab_wb Ls C J Rt nx ((.invokestatic i, [], z) :: is) L (vI n :: vI dp :: vR q :: vI sp :: vR p :: S) w = (ab_few S ∧ C 999 [] w (fun _ _ => True) ∧ (∃ kd a b, (kd = 0 ∨ kd = 1) ∧ ab_arr kd p = some a ∧ ab_arr kd q = some b ∧ 0 ≤ sp ∧ 0 ≤ dp ∧ 0 ≤ n ∧ sp + n ≤ a ∧ dp + n ≤ b) ∧ ab_wb Ls C J Rt nx is L S (ab_cp w p q sp dp n)) := propext Iff.rfl
theorem ab_is3 {i k n c : Nat} : ab_wb Ls C J Rt nx ((.invokestatic i, [k, n, c], z) :: is) L S w = ab_call C [k, n, c] S w false (fun S w => ab_wb Ls C J Rt nx is L S w) := by
  simp only [ab_wb, ab_wp]
  rw [if_neg (by simp), if_neg (by simp), if_neg (by simp)]
theorem e_cs0 {i k c : Nat} : ab_wb Ls C J Rt nx ((.invokestatic i, [k, 0, c], z) :: is) L (S) w = (ab_few S ∧ C k [] w (fun r w' => ab_wb Ls C J Rt nx is L (ab_rp r S) w')) := ab_is3.trans (propext ⟨fun h => ⟨h.2.1, h.2.2⟩, fun h => ⟨fun q => (by cases q), h.1, h.2⟩⟩)
theorem e_cs1 {a0 : ab_V} {i k c : Nat} : ab_wb Ls C J Rt nx ((.invokestatic i, [k, 1, c], z) :: is) L (a0 :: S) w = (ab_few S ∧ C k [a0] w (fun r w' => ab_wb Ls C J Rt nx is L (ab_rp r S) w')) := ab_is3.trans (propext ⟨fun h => ⟨h.2.1, h.2.2⟩, fun h => ⟨fun q => (by cases q), h.1, h.2⟩⟩)
theorem e_cv1 {i k c p : Nat} : ab_wb Ls C J Rt nx ((.invokevirtual i, [k, 1, c], z) :: is) L (vR p :: S) w = (ab_ci p = some c ∧ ab_few S ∧ C k [vR p] w (fun r w' => ab_wb Ls C J Rt nx is L (ab_rp r S) w')) := propext ⟨fun h => ⟨h.1 rfl, h.2.1, h.2.2⟩, fun h => ⟨fun _ => h.1, h.2.1, h.2.2⟩⟩
theorem e_cs2 {a0 a1 : ab_V} {i k c : Nat} : ab_wb Ls C J Rt nx ((.invokestatic i, [k, 2, c], z) :: is) L (a1 :: a0 :: S) w = (ab_few S ∧ C k [a0, a1] w (fun r w' => ab_wb Ls C J Rt nx is L (ab_rp r S) w')) := ab_is3.trans (propext ⟨fun h => ⟨h.2.1, h.2.2⟩, fun h => ⟨fun q => (by cases q), h.1, h.2⟩⟩)
theorem e_cv2 {a1 : ab_V} {i k c p : Nat} : ab_wb Ls C J Rt nx ((.invokevirtual i, [k, 2, c], z) :: is) L (a1 :: vR p :: S) w = (ab_ci p = some c ∧ ab_few S ∧ C k [vR p, a1] w (fun r w' => ab_wb Ls C J Rt nx is L (ab_rp r S) w')) := propext ⟨fun h => ⟨h.1 rfl, h.2.1, h.2.2⟩, fun h => ⟨fun _ => h.1, h.2.1, h.2.2⟩⟩
theorem e_cs3 {a0 a1 a2 : ab_V} {i k c : Nat} : ab_wb Ls C J Rt nx ((.invokestatic i, [k, 3, c], z) :: is) L (a2 :: a1 :: a0 :: S) w = (ab_few S ∧ C k [a0, a1, a2] w (fun r w' => ab_wb Ls C J Rt nx is L (ab_rp r S) w')) := ab_is3.trans (propext ⟨fun h => ⟨h.2.1, h.2.2⟩, fun h => ⟨fun q => (by cases q), h.1, h.2⟩⟩)
theorem e_cv3 {a1 a2 : ab_V} {i k c p : Nat} : ab_wb Ls C J Rt nx ((.invokevirtual i, [k, 3, c], z) :: is) L (a2 :: a1 :: vR p :: S) w = (ab_ci p = some c ∧ ab_few S ∧ C k [vR p, a1, a2] w (fun r w' => ab_wb Ls C J Rt nx is L (ab_rp r S) w')) := propext ⟨fun h => ⟨h.1 rfl, h.2.1, h.2.2⟩, fun h => ⟨fun _ => h.1, h.2.1, h.2.2⟩⟩
theorem e_cs4 {a0 a1 a2 a3 : ab_V} {i k c : Nat} : ab_wb Ls C J Rt nx ((.invokestatic i, [k, 4, c], z) :: is) L (a3 :: a2 :: a1 :: a0 :: S) w = (ab_few S ∧ C k [a0, a1, a2, a3] w (fun r w' => ab_wb Ls C J Rt nx is L (ab_rp r S) w')) := ab_is3.trans (propext ⟨fun h => ⟨h.2.1, h.2.2⟩, fun h => ⟨fun q => (by cases q), h.1, h.2⟩⟩)
theorem e_cv4 {a1 a2 a3 : ab_V} {i k c p : Nat} : ab_wb Ls C J Rt nx ((.invokevirtual i, [k, 4, c], z) :: is) L (a3 :: a2 :: a1 :: vR p :: S) w = (ab_ci p = some c ∧ ab_few S ∧ C k [vR p, a1, a2, a3] w (fun r w' => ab_wb Ls C J Rt nx is L (ab_rp r S) w')) := propext ⟨fun h => ⟨h.1 rfl, h.2.1, h.2.2⟩, fun h => ⟨fun _ => h.1, h.2.1, h.2.2⟩⟩
theorem e_cs5 {a0 a1 a2 a3 a4 : ab_V} {i k c : Nat} : ab_wb Ls C J Rt nx ((.invokestatic i, [k, 5, c], z) :: is) L (a4 :: a3 :: a2 :: a1 :: a0 :: S) w = (ab_few S ∧ C k [a0, a1, a2, a3, a4] w (fun r w' => ab_wb Ls C J Rt nx is L (ab_rp r S) w')) := ab_is3.trans (propext ⟨fun h => ⟨h.2.1, h.2.2⟩, fun h => ⟨fun q => (by cases q), h.1, h.2⟩⟩)
theorem e_cv5 {a1 a2 a3 a4 : ab_V} {i k c p : Nat} : ab_wb Ls C J Rt nx ((.invokevirtual i, [k, 5, c], z) :: is) L (a4 :: a3 :: a2 :: a1 :: vR p :: S) w = (ab_ci p = some c ∧ ab_few S ∧ C k [vR p, a1, a2, a3, a4] w (fun r w' => ab_wb Ls C J Rt nx is L (ab_rp r S) w')) := propext ⟨fun h => ⟨h.1 rfl, h.2.1, h.2.2⟩, fun h => ⟨fun _ => h.1, h.2.1, h.2.2⟩⟩
theorem e_cs6 {a0 a1 a2 a3 a4 a5 : ab_V} {i k c : Nat} : ab_wb Ls C J Rt nx ((.invokestatic i, [k, 6, c], z) :: is) L (a5 :: a4 :: a3 :: a2 :: a1 :: a0 :: S) w = (ab_few S ∧ C k [a0, a1, a2, a3, a4, a5] w (fun r w' => ab_wb Ls C J Rt nx is L (ab_rp r S) w')) := ab_is3.trans (propext ⟨fun h => ⟨h.2.1, h.2.2⟩, fun h => ⟨fun q => (by cases q), h.1, h.2⟩⟩)
theorem e_cv6 {a1 a2 a3 a4 a5 : ab_V} {i k c p : Nat} : ab_wb Ls C J Rt nx ((.invokevirtual i, [k, 6, c], z) :: is) L (a5 :: a4 :: a3 :: a2 :: a1 :: vR p :: S) w = (ab_ci p = some c ∧ ab_few S ∧ C k [vR p, a1, a2, a3, a4, a5] w (fun r w' => ab_wb Ls C J Rt nx is L (ab_rp r S) w')) := propext ⟨fun h => ⟨h.1 rfl, h.2.1, h.2.2⟩, fun h => ⟨fun _ => h.1, h.2.1, h.2.2⟩⟩
theorem e_cs7 {a0 a1 a2 a3 a4 a5 a6 : ab_V} {i k c : Nat} : ab_wb Ls C J Rt nx ((.invokestatic i, [k, 7, c], z) :: is) L (a6 :: a5 :: a4 :: a3 :: a2 :: a1 :: a0 :: S) w = (ab_few S ∧ C k [a0, a1, a2, a3, a4, a5, a6] w (fun r w' => ab_wb Ls C J Rt nx is L (ab_rp r S) w')) := ab_is3.trans (propext ⟨fun h => ⟨h.2.1, h.2.2⟩, fun h => ⟨fun q => (by cases q), h.1, h.2⟩⟩)
theorem e_cv7 {a1 a2 a3 a4 a5 a6 : ab_V} {i k c p : Nat} : ab_wb Ls C J Rt nx ((.invokevirtual i, [k, 7, c], z) :: is) L (a6 :: a5 :: a4 :: a3 :: a2 :: a1 :: vR p :: S) w = (ab_ci p = some c ∧ ab_few S ∧ C k [vR p, a1, a2, a3, a4, a5, a6] w (fun r w' => ab_wb Ls C J Rt nx is L (ab_rp r S) w')) := propext ⟨fun h => ⟨h.1 rfl, h.2.1, h.2.2⟩, fun h => ⟨fun _ => h.1, h.2.1, h.2.2⟩⟩
theorem e_rpn : ab_rp none S = S := congrArg (fun x => x) (Eq.refl S)
theorem e_rps {v : ab_V} : ab_rp (some v) S = v :: S := congrArg (fun x => x) (Eq.refl (v :: S))
theorem e_few0 : ab_few [] = True := propext Iff.rfl
theorem e_few1 {a : ab_V} : ab_few [a] = True := propext Iff.rfl
theorem e_few2 {a b : ab_V} : ab_few [a, b] = True := propext Iff.rfl
theorem e_few3 {a b c : ab_V} : ab_few [a, b, c] = True := propext Iff.rfl
theorem e_few4 {a b c d : ab_V} : ab_few [a, b, c, d] = True := propext Iff.rfl
theorem i_0 : (ab_ci 0 = some 4) = True := propext ⟨fun _ => trivial, fun _ => rfl⟩
theorem i_1 : (ab_ci 1 = some 2) = True := propext ⟨fun _ => trivial, fun _ => rfl⟩
theorem i_3 : (ab_ci 3 = some 3) = True := propext ⟨fun _ => trivial, fun _ => rfl⟩
theorem i_7 : (ab_ci 7 = some 3) = True := propext ⟨fun _ => trivial, fun _ => rfl⟩
theorem i_11 : (ab_ci 11 = some 3) = True := propext ⟨fun _ => trivial, fun _ => rfl⟩
theorem i_15 : (ab_ci 15 = some 0) = True := propext ⟨fun _ => trivial, fun _ => rfl⟩
theorem i_21 : (ab_ci 21 = some 0) = True := propext ⟨fun _ => trivial, fun _ => rfl⟩
theorem i_31 : (ab_ci 31 = some 1) = True := propext ⟨fun _ => trivial, fun _ => rfl⟩
theorem i_33 : (ab_ci 33 = some 1) = True := propext ⟨fun _ => trivial, fun _ => rfl⟩
theorem i_35 : (ab_ci 35 = some 1) = True := propext ⟨fun _ => trivial, fun _ => rfl⟩
theorem i_37 : (ab_ci 37 = some 1) = True := propext ⟨fun _ => trivial, fun _ => rfl⟩
theorem i_39 : (ab_ci 39 = some 5) = True := propext ⟨fun _ => trivial, fun _ => rfl⟩
end Steps15
theorem e_999 {Ls d : Nat} {w : ab_W} {q : Option ab_V → ab_W → Prop} : Sm Ls (d + 1) 999 [] w q = q none w := propext ⟨fun h => h.2, fun h => ⟨rfl, h⟩⟩
end
section
/-! entries of methods, and their blocks -/
theorem en_0 {Ls d : Nat} {a0 : Int} {w : ab_W} {q : Option ab_V → ab_W → Prop} : Sm Ls (d + 1) 0 [vI a0] w q = ab_wb Ls (Sm Ls d) (Ev Ls (Sm Ls d) q bk_0) q 1 b_0_0 [vI a0] [] w := propext ⟨fun h => Ev.unfold (ab_Sm_mono d) h.2, fun h => ⟨Nat.le_of_ble_eq_true rfl, Ev.fold (ab_Sm_mono d) h⟩⟩
theorem ev_0_0 {Ls d : Nat} {q : Option ab_V → ab_W → Prop} {L S : List ab_V} {w : ab_W} : Ev Ls (Sm Ls d) q bk_0 0 L S w = ab_wb Ls (Sm Ls d) (Ev Ls (Sm Ls d) q bk_0) q 1 b_0_0 L S w := propext ⟨fun h => Ev.unfold (ab_Sm_mono d) h, fun h => Ev.fold (ab_Sm_mono d) h⟩
theorem en_1 {Ls d : Nat} {a0 : Int} {w : ab_W} {q : Option ab_V → ab_W → Prop} : Sm Ls (d + 1) 1 [vL a0] w q = ab_wb Ls (Sm Ls d) (Ev Ls (Sm Ls d) q bk_1) q 1 b_1_0 [vL a0, vX] [] w := propext ⟨fun h => Ev.unfold (ab_Sm_mono d) h.2, fun h => ⟨Nat.le_of_ble_eq_true rfl, Ev.fold (ab_Sm_mono d) h⟩⟩
theorem ev_1_0 {Ls d : Nat} {q : Option ab_V → ab_W → Prop} {L S : List ab_V} {w : ab_W} : Ev Ls (Sm Ls d) q bk_1 0 L S w = ab_wb Ls (Sm Ls d) (Ev Ls (Sm Ls d) q bk_1) q 1 b_1_0 L S w := propext ⟨fun h => Ev.unfold (ab_Sm_mono d) h, fun h => Ev.fold (ab_Sm_mono d) h⟩
theorem en_2 {Ls d : Nat} {a0 : Int} {a1 : Int} {a2 : Int} {w : ab_W} {q : Option ab_V → ab_W → Prop} : Sm Ls (d + 1) 2 [vI a0, vI a1, vI a2] w q = ab_wb Ls (Sm Ls d) (Ev Ls (Sm Ls d) q bk_2) q 1 b_2_0 [vI a0, vI a1, vI a2] [] w := propext ⟨fun h => Ev.unfold (ab_Sm_mono d) h.2, fun h => ⟨Nat.le_of_ble_eq_true rfl, Ev.fold (ab_Sm_mono d) h⟩⟩
theorem ev_2_0 {Ls d : Nat} {q : Option ab_V → ab_W → Prop} {L S : List ab_V} {w : ab_W} : Ev Ls (Sm Ls d) q bk_2 0 L S w = ab_wb Ls (Sm Ls d) (Ev Ls (Sm Ls d) q bk_2) q 1 b_2_0 L S w := propext ⟨fun h => Ev.unfold (ab_Sm_mono d) h, fun h => Ev.fold (ab_Sm_mono d) h⟩
theorem ev_2_1 {Ls d : Nat} {q : Option ab_V → ab_W → Prop} {L S : List ab_V} {w : ab_W} : Ev Ls (Sm Ls d) q bk_2 1 L S w = ab_wb Ls (Sm Ls d) (Ev Ls (Sm Ls d) q bk_2) q 2 b_2_1 L S w := propext ⟨fun h => Ev.unfold (ab_Sm_mono d) h, fun h => Ev.fold (ab_Sm_mono d) h⟩
theorem ev_2_2 {Ls d : Nat} {q : Option ab_V → ab_W → Prop} {L S : List ab_V} {w : ab_W} : Ev Ls (Sm Ls d) q bk_2 2 L S w = ab_wb Ls (Sm Ls d) (Ev Ls (Sm Ls d) q bk_2) q 3 b_2_2 L S w := propext ⟨fun h => Ev.unfold (ab_Sm_mono d) h, fun h => Ev.fold (ab_Sm_mono d) h⟩
theorem ev_2_3 {Ls d : Nat} {q : Option ab_V → ab_W → Prop} {L S : List ab_V} {w : ab_W} : Ev Ls (Sm Ls d) q bk_2 3 L S w = ab_wb Ls (Sm Ls d) (Ev Ls (Sm Ls d) q bk_2) q 4 b_2_3 L S w := propext ⟨fun h => Ev.unfold (ab_Sm_mono d) h, fun h => Ev.fold (ab_Sm_mono d) h⟩
theorem ev_2_4 {Ls d : Nat} {q : Option ab_V → ab_W → Prop} {L S : List ab_V} {w : ab_W} : Ev Ls (Sm Ls d) q bk_2 4 L S w = ab_wb Ls (Sm Ls d) (Ev Ls (Sm Ls d) q bk_2) q 5 b_2_4 L S w := propext ⟨fun h => Ev.unfold (ab_Sm_mono d) h, fun h => Ev.fold (ab_Sm_mono d) h⟩
theorem ev_2_5 {Ls d : Nat} {q : Option ab_V → ab_W → Prop} {L S : List ab_V} {w : ab_W} : Ev Ls (Sm Ls d) q bk_2 5 L S w = ab_wb Ls (Sm Ls d) (Ev Ls (Sm Ls d) q bk_2) q 6 b_2_5 L S w := propext ⟨fun h => Ev.unfold (ab_Sm_mono d) h, fun h => Ev.fold (ab_Sm_mono d) h⟩
theorem ev_2_6 {Ls d : Nat} {q : Option ab_V → ab_W → Prop} {L S : List ab_V} {w : ab_W} : Ev Ls (Sm Ls d) q bk_2 6 L S w = ab_wb Ls (Sm Ls d) (Ev Ls (Sm Ls d) q bk_2) q 7 b_2_6 L S w := propext ⟨fun h => Ev.unfold (ab_Sm_mono d) h, fun h => Ev.fold (ab_Sm_mono d) h⟩
theorem en_3 {Ls d : Nat} {a0 : Nat} {a1 : Int} {w : ab_W} {q : Option ab_V → ab_W → Prop} : Sm Ls (d + 1) 3 [vR a0, vL a1] w q = ab_wb Ls (Sm Ls d) (Ev Ls (Sm Ls d) q bk_3) q 1 b_3_0 [vR a0, vL a1, vX, vX, vX] [] w := propext ⟨fun h => Ev.unfold (ab_Sm_mono d) h.2, fun h => ⟨Nat.le_of_ble_eq_true rfl, Ev.fold (ab_Sm_mono d) h⟩⟩
theorem ev_3_0 {Ls d : Nat} {q : Option ab_V → ab_W → Prop} {L S : List ab_V} {w : ab_W} : Ev Ls (Sm Ls d) q bk_3 0 L S w = ab_wb Ls (Sm Ls d) (Ev Ls (Sm Ls d) q bk_3) q 1 b_3_0 L S w := propext ⟨fun h => Ev.unfold (ab_Sm_mono d) h, fun h => Ev.fold (ab_Sm_mono d) h⟩
theorem ev_3_1 {Ls d : Nat} {q : Option ab_V → ab_W → Prop} {L S : List ab_V} {w : ab_W} : Ev Ls (Sm Ls d) q bk_3 1 L S w = ab_wb Ls (Sm Ls d) (Ev Ls (Sm Ls d) q bk_3) q 2 b_3_1 L S w := propext ⟨fun h => Ev.unfold (ab_Sm_mono d) h, fun h => Ev.fold (ab_Sm_mono d) h⟩
theorem ev_3_2 {Ls d : Nat} {q : Option ab_V → ab_W → Prop} {L S : List ab_V} {w : ab_W} : Ev Ls (Sm Ls d) q bk_3 2 L S w = ab_wb Ls (Sm Ls d) (Ev Ls (Sm Ls d) q bk_3) q 3 b_3_2 L S w := propext ⟨fun h => Ev.unfold (ab_Sm_mono d) h, fun h => Ev.fold (ab_Sm_mono d) h⟩
theorem en_4 {Ls d : Nat} {a0 : Nat} {a1 : Int} {w : ab_W} {q : Option ab_V → ab_W → Prop} : Sm Ls (d + 1) 4 [vR a0, vI a1] w q = ab_wb Ls (Sm Ls d) (Ev Ls (Sm Ls d) q bk_4) q 1 b_4_0 [vR a0, vI a1, vX, vX] [] w := propext ⟨fun h => Ev.unfold (ab_Sm_mono d) h.2, fun h => ⟨Nat.le_of_ble_eq_true rfl, Ev.fold (ab_Sm_mono d) h⟩⟩
theorem ev_4_0 {Ls d : Nat} {q : Option ab_V → ab_W → Prop} {L S : List ab_V} {w : ab_W} : Ev Ls (Sm Ls d) q bk_4 0 L S w = ab_wb Ls (Sm Ls d) (Ev Ls (Sm Ls d) q bk_4) q 1 b_4_0 L S w := propext ⟨fun h => Ev.unfold (ab_Sm_mono d) h, fun h => Ev.fold (ab_Sm_mono d) h⟩
theorem ev_4_1 {Ls d : Nat} {q : Option ab_V → ab_W → Prop} {L S : List ab_V} {w : ab_W} : Ev Ls (Sm Ls d) q bk_4 1 L S w = ab_wb Ls (Sm Ls d) (Ev Ls (Sm Ls d) q bk_4) q 2 b_4_1 L S w := propext ⟨fun h => Ev.unfold (ab_Sm_mono d) h, fun h => Ev.fold (ab_Sm_mono d) h⟩
theorem ev_4_2 {Ls d : Nat} {q : Option ab_V → ab_W → Prop} {L S : List ab_V} {w : ab_W} : Ev Ls (Sm Ls d) q bk_4 2 L S w = ab_wb Ls (Sm Ls d) (Ev Ls (Sm Ls d) q bk_4) q 3 b_4_2 L S w := propext ⟨fun h => Ev.unfold (ab_Sm_mono d) h, fun h => Ev.fold (ab_Sm_mono d) h⟩
theorem en_5 {Ls d : Nat} {a0 : Nat} {a1 : Int} {a2 : Int} {a3 : Int} {w : ab_W} {q : Option ab_V → ab_W → Prop} : Sm Ls (d + 1) 5 [vR a0, vI a1, vI a2, vI a3] w q = ab_wb Ls (Sm Ls d) (Ev Ls (Sm Ls d) q bk_5) q 1 b_5_0 [vR a0, vI a1, vI a2, vI a3, vX] [] w := propext ⟨fun h => Ev.unfold (ab_Sm_mono d) h.2, fun h => ⟨Nat.le_of_ble_eq_true rfl, Ev.fold (ab_Sm_mono d) h⟩⟩
theorem ev_5_0 {Ls d : Nat} {q : Option ab_V → ab_W → Prop} {L S : List ab_V} {w : ab_W} : Ev Ls (Sm Ls d) q bk_5 0 L S w = ab_wb Ls (Sm Ls d) (Ev Ls (Sm Ls d) q bk_5) q 1 b_5_0 L S w := propext ⟨fun h => Ev.unfold (ab_Sm_mono d) h, fun h => Ev.fold (ab_Sm_mono d) h⟩
theorem ev_5_1 {Ls d : Nat} {q : Option ab_V → ab_W → Prop} {L S : List ab_V} {w : ab_W} : Ev Ls (Sm Ls d) q bk_5 1 L S w = ab_wb Ls (Sm Ls d) (Ev Ls (Sm Ls d) q bk_5) q 2 b_5_1 L S w := propext ⟨fun h => Ev.unfold (ab_Sm_mono d) h, fun h => Ev.fold (ab_Sm_mono d) h⟩
theorem ev_5_2 {Ls d : Nat} {q : Option ab_V → ab_W → Prop} {L S : List ab_V} {w : ab_W} : Ev Ls (Sm Ls d) q bk_5 2 L S w = ab_wb Ls (Sm Ls d) (Ev Ls (Sm Ls d) q bk_5) q 3 b_5_2 L S w := propext ⟨fun h => Ev.unfold (ab_Sm_mono d) h, fun h => Ev.fold (ab_Sm_mono d) h⟩
theorem en_6 {Ls d : Nat} {a0 : Nat} {a1 : Nat} {w : ab_W} {q : Option ab_V → ab_W → Prop} : Sm Ls (d + 1) 6 [vR a0, vR a1] w q = ab_wb Ls (Sm Ls d) (Ev Ls (Sm Ls d) q bk_6) q 1 b_6_0 [vR a0, vR a1, vX, vX, vX] [] w := propext ⟨fun h => Ev.unfold (ab_Sm_mono d) h.2, fun h => ⟨Nat.le_of_ble_eq_true rfl, Ev.fold (ab_Sm_mono d) h⟩⟩
theorem ev_6_0 {Ls d : Nat} {q : Option ab_V → ab_W → Prop} {L S : List ab_V} {w : ab_W} : Ev Ls (Sm Ls d) q bk_6 0 L S w = ab_wb Ls (Sm Ls d) (Ev Ls (Sm Ls d) q bk_6) q 1 b_6_0 L S w := propext ⟨fun h => Ev.unfold (ab_Sm_mono d) h, fun h => Ev.fold (ab_Sm_mono d) h⟩
theorem ev_6_1 {Ls d : Nat} {q : Option ab_V → ab_W → Prop} {L S : List ab_V} {w : ab_W} : Ev Ls (Sm Ls d) q bk_6 1 L S w = ab_wb Ls (Sm Ls d) (Ev Ls (Sm Ls d) q bk_6) q 2 b_6_1 L S w := propext ⟨fun h => Ev.unfold (ab_Sm_mono d) h, fun h => Ev.fold (ab_Sm_mono d) h⟩
theorem ev_6_2 {Ls d : Nat} {q : Option ab_V → ab_W → Prop} {L S : List ab_V} {w : ab_W} : Ev Ls (Sm Ls d) q bk_6 2 L S w = ab_wb Ls (Sm Ls d) (Ev Ls (Sm Ls d) q bk_6) q 3 b_6_2 L S w := propext ⟨fun h => Ev.unfold (ab_Sm_mono d) h, fun h => Ev.fold (ab_Sm_mono d) h⟩
theorem ev_6_3 {Ls d : Nat} {q : Option ab_V → ab_W → Prop} {L S : List ab_V} {w : ab_W} : Ev Ls (Sm Ls d) q bk_6 3 L S w = ab_wb Ls (Sm Ls d) (Ev Ls (Sm Ls d) q bk_6) q 4 b_6_3 L S w := propext ⟨fun h => Ev.unfold (ab_Sm_mono d) h, fun h => Ev.fold (ab_Sm_mono d) h⟩
theorem ev_6_4 {Ls d : Nat} {q : Option ab_V → ab_W → Prop} {L S : List ab_V} {w : ab_W} : Ev Ls (Sm Ls d) q bk_6 4 L S w = ab_wb Ls (Sm Ls d) (Ev Ls (Sm Ls d) q bk_6) q 5 b_6_4 L S w := propext ⟨fun h => Ev.unfold (ab_Sm_mono d) h, fun h => Ev.fold (ab_Sm_mono d) h⟩
theorem ev_6_5 {Ls d : Nat} {q : Option ab_V → ab_W → Prop} {L S : List ab_V} {w : ab_W} : Ev Ls (Sm Ls d) q bk_6 5 L S w = ab_wb Ls (Sm Ls d) (Ev Ls (Sm Ls d) q bk_6) q 6 b_6_5 L S w := propext ⟨fun h => Ev.unfold (ab_Sm_mono d) h, fun h => Ev.fold (ab_Sm_mono d) h⟩
theorem ev_6_6 {Ls d : Nat} {q : Option ab_V → ab_W → Prop} {L S : List ab_V} {w : ab_W} : Ev Ls (Sm Ls d) q bk_6 6 L S w = ab_wb Ls (Sm Ls d) (Ev Ls (Sm Ls d) q bk_6) q 7 b_6_6 L S w := propext ⟨fun h => Ev.unfold (ab_Sm_mono d) h, fun h => Ev.fold (ab_Sm_mono d) h⟩
theorem en_7 {Ls d : Nat} {a0 : Nat} {a1 : Nat} {w : ab_W} {q : Option ab_V → ab_W → Prop} : Sm Ls (d + 1) 7 [vR a0, vR a1] w q = ab_wb Ls (Sm Ls d) (Ev Ls (Sm Ls d) q bk_7) q 1 b_7_0 [vR a0, vR a1] [] w := propext ⟨fun h => Ev.unfold (ab_Sm_mono d) h.2, fun h => ⟨Nat.le_of_ble_eq_true rfl, Ev.fold (ab_Sm_mono d) h⟩⟩
theorem ev_7_0 {Ls d : Nat} {q : Option ab_V → ab_W → Prop} {L S : List ab_V} {w : ab_W} : Ev Ls (Sm Ls d) q bk_7 0 L S w = ab_wb Ls (Sm Ls d) (Ev Ls (Sm Ls d) q bk_7) q 1 b_7_0 L S w := propext ⟨fun h => Ev.unfold (ab_Sm_mono d) h, fun h => Ev.fold (ab_Sm_mono d) h⟩
theorem en_8 {Ls d : Nat} {a0 : Nat} {a1 : Nat} {a2 : Int} {a3 : Int} {a4 : Int} {w : ab_W} {q : Option ab_V → ab_W → Prop} : Sm Ls (d + 1) 8 [vR a0, vR a1, vI a2, vI a3, vI a4] w q = ab_wb Ls (Sm Ls d) (Ev Ls (Sm Ls d) q bk_8) q 1 b_8_0 [vR a0, vR a1, vI a2, vI a3, vI a4] [] w := propext ⟨fun h => Ev.unfold (ab_Sm_mono d) h.2, fun h => ⟨Nat.le_of_ble_eq_true rfl, Ev.fold (ab_Sm_mono d) h⟩⟩
theorem ev_8_0 {Ls d : Nat} {q : Option ab_V → ab_W → Prop} {L S : List ab_V} {w : ab_W} : Ev Ls (Sm Ls d) q bk_8 0 L S w = ab_wb Ls (Sm Ls d) (Ev Ls (Sm Ls d) q bk_8) q 1 b_8_0 L S w := propext ⟨fun h => Ev.unfold (ab_Sm_mono d) h, fun h => Ev.fold (ab_Sm_mono d) h⟩
theorem en_9 {Ls d : Nat} {a0 : Nat} {a1 : Int} {a2 : Nat} {a3 : Int} {w : ab_W} {q : Option ab_V → ab_W → Prop} : Sm Ls (d + 1) 9 [vR a0, vI a1, vR a2, vI a3] w q = ab_wb Ls (Sm Ls d) (Ev Ls (Sm Ls d) q bk_9) q 1 b_9_0 [vR a0, vI a1, vR a2, vI a3, vX] [] w := propext ⟨fun h => Ev.unfold (ab_Sm_mono d) h.2, fun h => ⟨Nat.le_of_ble_eq_true rfl, Ev.fold (ab_Sm_mono d) h⟩⟩
theorem ev_9_0 {Ls d : Nat} {q : Option ab_V → ab_W → Prop} {L S : List ab_V} {w : ab_W} : Ev Ls (Sm Ls d) q bk_9 0 L S w = ab_wb Ls (Sm Ls d) (Ev Ls (Sm Ls d) q bk_9) q 1 b_9_0 L S w := propext ⟨fun h => Ev.unfold (ab_Sm_mono d) h, fun h => Ev.fold (ab_Sm_mono d) h⟩
theorem ev_9_1 {Ls d : Nat} {q : Option ab_V → ab_W → Prop} {L S : List ab_V} {w : ab_W} : Ev Ls (Sm Ls d) q bk_9 1 L S w = ab_wb Ls (Sm Ls d) (Ev Ls (Sm Ls d) q bk_9) q 2 b_9_1 L S w := propext ⟨fun h => Ev.unfold (ab_Sm_mono d) h, fun h => Ev.fold (ab_Sm_mono d) h⟩
theorem ev_9_2 {Ls d : Nat} {q : Option ab_V → ab_W → Prop} {L S : List ab_V} {w : ab_W} : Ev Ls (Sm Ls d) q bk_9 2 L S w = ab_wb Ls (Sm Ls d) (Ev Ls (Sm Ls d) q bk_9) q 3 b_9_2 L S w := propext ⟨fun h => Ev.unfold (ab_Sm_mono d) h, fun h => Ev.fold (ab_Sm_mono d) h⟩
theorem ev_9_3 {Ls d : Nat} {q : Option ab_V → ab_W → Prop} {L S : List ab_V} {w : ab_W} : Ev Ls (Sm Ls d) q bk_9 3 L S w = ab_wb Ls (Sm Ls d) (Ev Ls (Sm Ls d) q bk_9) q 4 b_9_3 L S w := propext ⟨fun h => Ev.unfold (ab_Sm_mono d) h, fun h => Ev.fold (ab_Sm_mono d) h⟩
theorem en_10 {Ls d : Nat} {a0 : Nat} {a1 : Int} {a2 : Int} {a3 : Int} {w : ab_W} {q : Option ab_V → ab_W → Prop} : Sm Ls (d + 1) 10 [vR a0, vI a1, vI a2, vI a3] w q = ab_wb Ls (Sm Ls d) (Ev Ls (Sm Ls d) q bk_10) q 1 b_10_0 [vR a0, vI a1, vI a2, vI a3] [] w := propext ⟨fun h => Ev.unfold (ab_Sm_mono d) h.2, fun h => ⟨Nat.le_of_ble_eq_true rfl, Ev.fold (ab_Sm_mono d) h⟩⟩
theorem ev_10_0 {Ls d : Nat} {q : Option ab_V → ab_W → Prop} {L S : List ab_V} {w : ab_W} : Ev Ls (Sm Ls d) q bk_10 0 L S w = ab_wb Ls (Sm Ls d) (Ev Ls (Sm Ls d) q bk_10) q 1 b_10_0 L S w := propext ⟨fun h => Ev.unfold (ab_Sm_mono d) h, fun h => Ev.fold (ab_Sm_mono d) h⟩
theorem ev_10_1 {Ls d : Nat} {q : Option ab_V → ab_W → Prop} {L S : List ab_V} {w : ab_W} : Ev Ls (Sm Ls d) q bk_10 1 L S w = ab_wb Ls (Sm Ls d) (Ev Ls (Sm Ls d) q bk_10) q 2 b_10_1 L S w := propext ⟨fun h => Ev.unfold (ab_Sm_mono d) h, fun h => Ev.fold (ab_Sm_mono d) h⟩
theorem ev_10_2 {Ls d : Nat} {q : Option ab_V → ab_W → Prop} {L S : List ab_V} {w : ab_W} : Ev Ls (Sm Ls d) q bk_10 2 L S w = ab_wb Ls (Sm Ls d) (Ev Ls (Sm Ls d) q bk_10) q 3 b_10_2 L S w := propext ⟨fun h => Ev.unfold (ab_Sm_mono d) h, fun h => Ev.fold (ab_Sm_mono d) h⟩
theorem ev_10_3 {Ls d : Nat} {q : Option ab_V → ab_W → Prop} {L S : List ab_V} {w : ab_W} : Ev Ls (Sm Ls d) q bk_10 3 L S w = ab_wb Ls (Sm Ls d) (Ev Ls (Sm Ls d) q bk_10) q 4 b_10_3 L S w := propext ⟨fun h => Ev.unfold (ab_Sm_mono d) h, fun h => Ev.fold (ab_Sm_mono d) h⟩
theorem ev_10_4 {Ls d : Nat} {q : Option ab_V → ab_W → Prop} {L S : List ab_V} {w : ab_W} : Ev Ls (Sm Ls d) q bk_10 4 L S w = ab_wb Ls (Sm Ls d) (Ev Ls (Sm Ls d) q bk_10) q 5 b_10_4 L S w := propext ⟨fun h => Ev.unfold (ab_Sm_mono d) h, fun h => Ev.fold (ab_Sm_mono d) h⟩
theorem ev_10_5 {Ls d : Nat} {q : Option ab_V → ab_W → Prop} {L S : List ab_V} {w : ab_W} : Ev Ls (Sm Ls d) q bk_10 5 L S w = ab_wb Ls (Sm Ls d) (Ev Ls (Sm Ls d) q bk_10) q 6 b_10_5 L S w := propext ⟨fun h => Ev.unfold (ab_Sm_mono d) h, fun h => Ev.fold (ab_Sm_mono d) h⟩
theorem en_11 {Ls d : Nat} {a0 : Nat} {w : ab_W} {q : Option ab_V → ab_W → Prop} : Sm Ls (d + 1) 11 [vR a0] w q = ab_wb Ls (Sm Ls d) (Ev Ls (Sm Ls d) q bk_11) q 1 b_11_0 [vR a0, vX] [] w := propext ⟨fun h => Ev.unfold (ab_Sm_mono d) h.2, fun h => ⟨Nat.le_of_ble_eq_true rfl, Ev.fold (ab_Sm_mono d) h⟩⟩
theorem ev_11_0 {Ls d : Nat} {q : Option ab_V → ab_W → Prop} {L S : List ab_V} {w : ab_W} : Ev Ls (Sm Ls d) q bk_11 0 L S w = ab_wb Ls (Sm Ls d) (Ev Ls (Sm Ls d) q bk_11) q 1 b_11_0 L S w := propext ⟨fun h => Ev.unfold (ab_Sm_mono d) h, fun h => Ev.fold (ab_Sm_mono d) h⟩
theorem ev_11_1 {Ls d : Nat} {q : Option ab_V → ab_W → Prop} {L S : List ab_V} {w : ab_W} : Ev Ls (Sm Ls d) q bk_11 1 L S w = ab_wb Ls (Sm Ls d) (Ev Ls (Sm Ls d) q bk_11) q 2 b_11_1 L S w := propext ⟨fun h => Ev.unfold (ab_Sm_mono d) h, fun h => Ev.fold (ab_Sm_mono d) h⟩
theorem ev_11_2 {Ls d : Nat} {q : Option ab_V → ab_W → Prop} {L S : List ab_V} {w : ab_W} : Ev Ls (Sm Ls d) q bk_11 2 L S w = ab_wb Ls (Sm Ls d) (Ev Ls (Sm Ls d) q bk_11) q 3 b_11_2 L S w := propext ⟨fun h => Ev.unfold (ab_Sm_mono d) h, fun h => Ev.fold (ab_Sm_mono d) h⟩
theorem en_12 {Ls d : Nat} {a0 : Nat} {a1 : Int} {w : ab_W} {q : Option ab_V → ab_W → Prop} : Sm Ls (d + 1) 12 [vR a0, vI a1] w q = ab_wb Ls (Sm Ls d) (Ev Ls (Sm Ls d) q bk_12) q 1 b_12_0 [vR a0, vI a1, vX, vX, vX, vX, vX] [] w := propext ⟨fun h => Ev.unfold (ab_Sm_mono d) h.2, fun h => ⟨Nat.le_of_ble_eq_true rfl, Ev.fold (ab_Sm_mono d) h⟩⟩
theorem ev_12_0 {Ls d : Nat} {q : Option ab_V → ab_W → Prop} {L S : List ab_V} {w : ab_W} : Ev Ls (Sm Ls d) q bk_12 0 L S w = ab_wb Ls (Sm Ls d) (Ev Ls (Sm Ls d) q bk_12) q 1 b_12_0 L S w := propext ⟨fun h => Ev.unfold (ab_Sm_mono d) h, fun h => Ev.fold (ab_Sm_mono d) h⟩
theorem ev_12_1 {Ls d : Nat} {q : Option ab_V → ab_W → Prop} {L S : List ab_V} {w : ab_W} : Ev Ls (Sm Ls d) q bk_12 1 L S w = ab_wb Ls (Sm Ls d) (Ev Ls (Sm Ls d) q bk_12) q 2 b_12_1 L S w := propext ⟨fun h => Ev.unfold (ab_Sm_mono d) h, fun h => Ev.fold (ab_Sm_mono d) h⟩
theorem ev_12_2 {Ls d : Nat} {q : Option ab_V → ab_W → Prop} {L S : List ab_V} {w : ab_W} : Ev Ls (Sm Ls d) q bk_12 2 L S w = ab_wb Ls (Sm Ls d) (Ev Ls (Sm Ls d) q bk_12) q 3 b_12_2 L S w := propext ⟨fun h => Ev.unfold (ab_Sm_mono d) h, fun h => Ev.fold (ab_Sm_mono d) h⟩
theorem ev_12_3 {Ls d : Nat} {q : Option ab_V → ab_W → Prop} {L S : List ab_V} {w : ab_W} : Ev Ls (Sm Ls d) q bk_12 3 L S w = ab_wb Ls (Sm Ls d) (Ev Ls (Sm Ls d) q bk_12) q 4 b_12_3 L S w := propext ⟨fun h => Ev.unfold (ab_Sm_mono d) h, fun h => Ev.fold (ab_Sm_mono d) h⟩
theorem ev_12_4 {Ls d : Nat} {q : Option ab_V → ab_W → Prop} {L S : List ab_V} {w : ab_W} : Ev Ls (Sm Ls d) q bk_12 4 L S w = ab_wb Ls (Sm Ls d) (Ev Ls (Sm Ls d) q bk_12) q 5 b_12_4 L S w := propext ⟨fun h => Ev.unfold (ab_Sm_mono d) h, fun h => Ev.fold (ab_Sm_mono d) h⟩
theorem ev_12_5 {Ls d : Nat} {q : Option ab_V → ab_W → Prop} {L S : List ab_V} {w : ab_W} : Ev Ls (Sm Ls d) q bk_12 5 L S w = ab_wb Ls (Sm Ls d) (Ev Ls (Sm Ls d) q bk_12) q 6 b_12_5 L S w := propext ⟨fun h => Ev.unfold (ab_Sm_mono d) h, fun h => Ev.fold (ab_Sm_mono d) h⟩
theorem en_13 {Ls d : Nat} {a0 : Nat} {a1 : Int} {a2 : Int} {a3 : Int} {w : ab_W} {q : Option ab_V → ab_W → Prop} : Sm Ls (d + 1) 13 [vR a0, vI a1, vI a2, vI a3] w q = ab_wb Ls (Sm Ls d) (Ev Ls (Sm Ls d) q bk_13) q 1 b_13_0 [vR a0, vI a1, vI a2, vI a3, vX] [] w := propext ⟨fun h => Ev.unfold (ab_Sm_mono d) h.2, fun h => ⟨Nat.le_of_ble_eq_true rfl, Ev.fold (ab_Sm_mono d) h⟩⟩
theorem ev_13_0 {Ls d : Nat} {q : Option ab_V → ab_W → Prop} {L S : List ab_V} {w : ab_W} : Ev Ls (Sm Ls d) q bk_13 0 L S w = ab_wb Ls (Sm Ls d) (Ev Ls (Sm Ls d) q bk_13) q 1 b_13_0 L S w := propext ⟨fun h => Ev.unfold (ab_Sm_mono d) h, fun h => Ev.fold (ab_Sm_mono d) h⟩
theorem ev_13_1 {Ls d : Nat} {q : Option ab_V → ab_W → Prop} {L S : List ab_V} {w : ab_W} : Ev Ls (Sm Ls d) q bk_13 1 L S w = ab_wb Ls (Sm Ls d) (Ev Ls (Sm Ls d) q bk_13) q 2 b_13_1 L S w := propext ⟨fun h => Ev.unfold (ab_Sm_mono d) h, fun h => Ev.fold (ab_Sm_mono d) h⟩
theorem ev_13_2 {Ls d : Nat} {q : Option ab_V → ab_W → Prop} {L S : List ab_V} {w : ab_W} : Ev Ls (Sm Ls d) q bk_13 2 L S w = ab_wb Ls (Sm Ls d) (Ev Ls (Sm Ls d) q bk_13) q 3 b_13_2 L S w := propext ⟨fun h => Ev.unfold (ab_Sm_mono d) h, fun h => Ev.fold (ab_Sm_mono d) h⟩
theorem ev_13_3 {Ls d : Nat} {q : Option ab_V → ab_W → Prop} {L S : List ab_V} {w : ab_W} : Ev Ls (Sm Ls d) q bk_13 3 L S w = ab_wb Ls (Sm Ls d) (Ev Ls (Sm Ls d) q bk_13) q 4 b_13_3 L S w := propext ⟨fun h => Ev.unfold (ab_Sm_mono d) h, fun h => Ev.fold (ab_Sm_mono d) h⟩
theorem ev_13_4 {Ls d : Nat} {q : Option ab_V → ab_W → Prop} {L S : List ab_V} {w : ab_W} : Ev Ls (Sm Ls d) q bk_13 4 L S w = ab_wb Ls (Sm Ls d) (Ev Ls (Sm Ls d) q bk_13) q 5 b_13_4 L S w := propext ⟨fun h => Ev.unfold (ab_Sm_mono d) h, fun h => Ev.fold (ab_Sm_mono d) h⟩
theorem ev_13_5 {Ls d : Nat} {q : Option ab_V → ab_W → Prop} {L S : List ab_V} {w : ab_W} : Ev Ls (Sm Ls d) q bk_13 5 L S w = ab_wb Ls (Sm Ls d) (Ev Ls (Sm Ls d) q bk_13) q 6 b_13_5 L S w := propext ⟨fun h => Ev.unfold (ab_Sm_mono d) h, fun h => Ev.fold (ab_Sm_mono d) h⟩
theorem ev_13_6 {Ls d : Nat} {q : Option ab_V → ab_W → Prop} {L S : List ab_V} {w : ab_W} : Ev Ls (Sm Ls d) q bk_13 6 L S w = ab_wb Ls (Sm Ls d) (Ev Ls (Sm Ls d) q bk_13) q 7 b_13_6 L S w := propext ⟨fun h => Ev.unfold (ab_Sm_mono d) h, fun h => Ev.fold (ab_Sm_mono d) h⟩
theorem ev_13_7 {Ls d : Nat} {q : Option ab_V → ab_W → Prop} {L S : List ab_V} {w : ab_W} : Ev Ls (Sm Ls d) q bk_13 7 L S w = ab_wb Ls (Sm Ls d) (Ev Ls (Sm Ls d) q bk_13) q 8 b_13_7 L S w := propext ⟨fun h => Ev.unfold (ab_Sm_mono d) h, fun h => Ev.fold (ab_Sm_mono d) h⟩
theorem en_14 {Ls d : Nat} {a0 : Nat} {a1 : Int} {a2 : Int} {w : ab_W} {q : Option ab_V → ab_W → Prop} : Sm Ls (d + 1) 14 [vR a0, vI a1, vI a2] w q = ab_wb Ls (Sm Ls d) (Ev Ls (Sm Ls d) q bk_14) q 1 b_14_0 [vR a0, vI a1, vI a2] [] w := propext ⟨fun h => Ev.unfold (ab_Sm_mono d) h.2, fun h => ⟨Nat.le_of_ble_eq_true rfl, Ev.fold (ab_Sm_mono d) h⟩⟩
theorem ev_14_0 {Ls d : Nat} {q : Option ab_V → ab_W → Prop} {L S : List ab_V} {w : ab_W} : Ev Ls (Sm Ls d) q bk_14 0 L S w = ab_wb Ls (Sm Ls d) (Ev Ls (Sm Ls d) q bk_14) q 1 b_14_0 L S w := propext ⟨fun h => Ev.unfold (ab_Sm_mono d) h, fun h => Ev.fold (ab_Sm_mono d) h⟩
theorem en_15 {Ls d : Nat} {a0 : Nat} {a1 : Int} {w : ab_W} {q : Option ab_V → ab_W → Prop} : Sm Ls (d + 1) 15 [vR a0, vI a1] w q = ab_wb Ls (Sm Ls d) (Ev Ls (Sm Ls d) q bk_15) q 1 b_15_0 [vR a0, vI a1] [] w := propext ⟨fun h => Ev.unfold (ab_Sm_mono d) h.2, fun h => ⟨Nat.le_of_ble_eq_true rfl, Ev.fold (ab_Sm_mono d) h⟩⟩
theorem ev_15_0 {Ls d : Nat} {q : Option ab_V → ab_W → Prop} {L S : List ab_V} {w : ab_W} : Ev Ls (Sm Ls d) q bk_15 0 L S w = ab_wb Ls (Sm Ls d) (Ev Ls (Sm Ls d) q bk_15) q 1 b_15_0 L S w := propext ⟨fun h => Ev.unfold (ab_Sm_mono d) h, fun h => Ev.fold (ab_Sm_mono d) h⟩
theorem en_16 {Ls d : Nat} {a0 : Nat} {a1 : Int} {a2 : Int} {w : ab_W} {q : Option ab_V → ab_W → Prop} : Sm Ls (d + 1) 16 [vR a0, vI a1, vI a2] w q = ab_wb Ls (Sm Ls d) (Ev Ls (Sm Ls d) q bk_16) q 1 b_16_0 [vR a0, vI a1, vI a2, vX, vX, vX] [] w := propext ⟨fun h => Ev.unfold (ab_Sm_mono d) h.2, fun h => ⟨Nat.le_of_ble_eq_true rfl, Ev.fold (ab_Sm_mono d) h⟩⟩
theorem ev_16_0 {Ls d : Nat} {q : Option ab_V → ab_W → Prop} {L S : List ab_V} {w : ab_W} : Ev Ls (Sm Ls d) q bk_16 0 L S w = ab_wb Ls (Sm Ls d) (Ev Ls (Sm Ls d) q bk_16) q 1 b_16_0 L S w := propext ⟨fun h => Ev.unfold (ab_Sm_mono d) h, fun h => Ev.fold (ab_Sm_mono d) h⟩
theorem ev_16_1 {Ls d : Nat} {q : Option ab_V → ab_W → Prop} {L S : List ab_V} {w : ab_W} : Ev Ls (Sm Ls d) q bk_16 1 L S w = ab_wb Ls (Sm Ls d) (Ev Ls (Sm Ls d) q bk_16) q 2 b_16_1 L S w := propext ⟨fun h => Ev.unfold (ab_Sm_mono d) h, fun h => Ev.fold (ab_Sm_mono d) h⟩
theorem ev_16_2 {Ls d : Nat} {q : Option ab_V → ab_W → Prop} {L S : List ab_V} {w : ab_W} : Ev Ls (Sm Ls d) q bk_16 2 L S w = ab_wb Ls (Sm Ls d) (Ev Ls (Sm Ls d) q bk_16) q 3 b_16_2 L S w := propext ⟨fun h => Ev.unfold (ab_Sm_mono d) h, fun h => Ev.fold (ab_Sm_mono d) h⟩
theorem ev_16_3 {Ls d : Nat} {q : Option ab_V → ab_W → Prop} {L S : List ab_V} {w : ab_W} : Ev Ls (Sm Ls d) q bk_16 3 L S w = ab_wb Ls (Sm Ls d) (Ev Ls (Sm Ls d) q bk_16) q 4 b_16_3 L S w := propext ⟨fun h => Ev.unfold (ab_Sm_mono d) h, fun h => Ev.fold (ab_Sm_mono d) h⟩
theorem en_17 {Ls d : Nat} {a0 : Nat} {a1 : Int} {w : ab_W} {q : Option ab_V → ab_W → Prop} : Sm Ls (d + 1) 17 [vR a0, vI a1] w q = ab_wb Ls (Sm Ls d) (Ev Ls (Sm Ls d) q bk_17) q 1 b_17_0 [vR a0, vI a1, vX, vX] [] w := propext ⟨fun h => Ev.unfold (ab_Sm_mono d) h.2, fun h => ⟨Nat.le_of_ble_eq_true rfl, Ev.fold (ab_Sm_mono d) h⟩⟩
theorem ev_17_0 {Ls d : Nat} {q : Option ab_V → ab_W → Prop} {L S : List ab_V} {w : ab_W} : Ev Ls (Sm Ls d) q bk_17 0 L S w = ab_wb Ls (Sm Ls d) (Ev Ls (Sm Ls d) q bk_17) q 1 b_17_0 L S w := propext ⟨fun h => Ev.unfold (ab_Sm_mono d) h, fun h => Ev.fold (ab_Sm_mono d) h⟩
theorem ev_17_1 {Ls d : Nat} {q : Option ab_V → ab_W → Prop} {L S : List ab_V} {w : ab_W} : Ev Ls (Sm Ls d) q bk_17 1 L S w = ab_wb Ls (Sm Ls d) (Ev Ls (Sm Ls d) q bk_17) q 2 b_17_1 L S w := propext ⟨fun h => Ev.unfold (ab_Sm_mono d) h, fun h => Ev.fold (ab_Sm_mono d) h⟩
theorem ev_17_2 {Ls d : Nat} {q : Option ab_V → ab_W → Prop} {L S : List ab_V} {w : ab_W} : Ev Ls (Sm Ls d) q bk_17 2 L S w = ab_wb Ls (Sm Ls d) (Ev Ls (Sm Ls d) q bk_17) q 3 b_17_2 L S w := propext ⟨fun h => Ev.unfold (ab_Sm_mono d) h, fun h => Ev.fold (ab_Sm_mono d) h⟩
theorem en_18 {Ls d : Nat} {a0 : Nat} {a1 : Int} {a2 : Int} {w : ab_W} {q : Option ab_V → ab_W → Prop} : Sm Ls (d + 1) 18 [vR a0, vI a1, vI a2] w q = ab_wb Ls (Sm Ls d) (Ev Ls (Sm Ls d) q bk_18) q 1 b_18_0 [vR a0, vI a1, vI a2, vX, vX] [] w := propext ⟨fun h => Ev.unfold (ab_Sm_mono d) h.2, fun h => ⟨Nat.le_of_ble_eq_true rfl, Ev.fold (ab_Sm_mono d) h⟩⟩
theorem ev_18_0 {Ls d : Nat} {q : Option ab_V → ab_W → Prop} {L S : List ab_V} {w : ab_W} : Ev Ls (Sm Ls d) q bk_18 0 L S w = ab_wb Ls (Sm Ls d) (Ev Ls (Sm Ls d) q bk_18) q 1 b_18_0 L S w := propext ⟨fun h => Ev.unfold (ab_Sm_mono d) h, fun h => Ev.fold (ab_Sm_mono d) h⟩
theorem ev_18_1 {Ls d : Nat} {q : Option ab_V → ab_W → Prop} {L S : List ab_V} {w : ab_W} : Ev Ls (Sm Ls d) q bk_18 1 L S w = ab_wb Ls (Sm Ls d) (Ev Ls (Sm Ls d) q bk_18) q 2 b_18_1 L S w := propext ⟨fun h => Ev.unfold (ab_Sm_mono d) h, fun h => Ev.fold (ab_Sm_mono d) h⟩
theorem ev_18_2 {Ls d : Nat} {q : Option ab_V → ab_W → Prop} {L S : List ab_V} {w : ab_W} : Ev Ls (Sm Ls d) q bk_18 2 L S w = ab_wb Ls (Sm Ls d) (Ev Ls (Sm Ls d) q bk_18) q 3 b_18_2 L S w := propext ⟨fun h => Ev.unfold (ab_Sm_mono d) h, fun h => Ev.fold (ab_Sm_mono d) h⟩
theorem en_19 {Ls d : Nat} {a0 : Nat} {a1 : Int} {a2 : Int} {w : ab_W} {q : Option ab_V → ab_W → Prop} : Sm Ls (d + 1) 19 [vR a0, vI a1, vI a2] w q = ab_wb Ls (Sm Ls d) (Ev Ls (Sm Ls d) q bk_19) q 1 b_19_0 [vR a0, vI a1, vI a2, vX, vX, vX] [] w := propext ⟨fun h => Ev.unfold (ab_Sm_mono d) h.2, fun h => ⟨Nat.le_of_ble_eq_true rfl, Ev.fold (ab_Sm_mono d) h⟩⟩
theorem ev_19_0 {Ls d : Nat} {q : Option ab_V → ab_W → Prop} {L S : List ab_V} {w : ab_W} : Ev Ls (Sm Ls d) q bk_19 0 L S w = ab_wb Ls (Sm Ls d) (Ev Ls (Sm Ls d) q bk_19) q 1 b_19_0 L S w := propext ⟨fun h => Ev.unfold (ab_Sm_mono d) h, fun h => Ev.fold (ab_Sm_mono d) h⟩
theorem ev_19_1 {Ls d : Nat} {q : Option ab_V → ab_W → Prop} {L S : List ab_V} {w : ab_W} : Ev Ls (Sm Ls d) q bk_19 1 L S w = ab_wb Ls (Sm Ls d) (Ev Ls (Sm Ls d) q bk_19) q 2 b_19_1 L S w := propext ⟨fun h => Ev.unfold (ab_Sm_mono d) h, fun h => Ev.fold (ab_Sm_mono d) h⟩
theorem ev_19_2 {Ls d : Nat} {q : Option ab_V → ab_W → Prop} {L S : List ab_V} {w : ab_W} : Ev Ls (Sm Ls d) q bk_19 2 L S w = ab_wb Ls (Sm Ls d) (Ev Ls (Sm Ls d) q bk_19) q 3 b_19_2 L S w := propext ⟨fun h => Ev.unfold (ab_Sm_mono d) h, fun h => Ev.fold (ab_Sm_mono d) h⟩
theorem ev_19_3 {Ls d : Nat} {q : Option ab_V → ab_W → Prop} {L S : List ab_V} {w : ab_W} : Ev Ls (Sm Ls d) q bk_19 3 L S w = ab_wb Ls (Sm Ls d) (Ev Ls (Sm Ls d) q bk_19) q 4 b_19_3 L S w := propext ⟨fun h => Ev.unfold (ab_Sm_mono d) h, fun h => Ev.fold (ab_Sm_mono d) h⟩
theorem en_20 {Ls d : Nat} {a0 : Nat} {a1 : Int} {w : ab_W} {q : Option ab_V → ab_W → Prop} : Sm Ls (d + 1) 20 [vR a0, vI a1] w q = ab_wb Ls (Sm Ls d) (Ev Ls (Sm Ls d) q bk_20) q 1 b_20_0 [vR a0, vI a1, vX, vX, vX, vX] [] w := propext ⟨fun h => Ev.unfold (ab_Sm_mono d) h.2, fun h => ⟨Nat.le_of_ble_eq_true rfl, Ev.fold (ab_Sm_mono d) h⟩⟩
theorem ev_20_0 {Ls d : Nat} {q : Option ab_V → ab_W → Prop} {L S : List ab_V} {w : ab_W} : Ev Ls (Sm Ls d) q bk_20 0 L S w = ab_wb Ls (Sm Ls d) (Ev Ls (Sm Ls d) q bk_20) q 1 b_20_0 L S w := propext ⟨fun h => Ev.unfold (ab_Sm_mono d) h, fun h => Ev.fold (ab_Sm_mono d) h⟩
theorem ev_20_1 {Ls d : Nat} {q : Option ab_V → ab_W → Prop} {L S : List ab_V} {w : ab_W} : Ev Ls (Sm Ls d) q bk_20 1 L S w = ab_wb Ls (Sm Ls d) (Ev Ls (Sm Ls d) q bk_20) q 2 b_20_1 L S w := propext ⟨fun h => Ev.unfold (ab_Sm_mono d) h, fun h => Ev.fold (ab_Sm_mono d) h⟩
theorem ev_20_2 {Ls d : Nat} {q : Option ab_V → ab_W → Prop} {L S : List ab_V} {w : ab_W} : Ev Ls (Sm Ls d) q bk_20 2 L S w = ab_wb Ls (Sm Ls d) (Ev Ls (Sm Ls d) q bk_20) q 3 b_20_2 L S w := propext ⟨fun h => Ev.unfold (ab_Sm_mono d) h, fun h => Ev.fold (ab_Sm_mono d) h⟩
theorem ev_20_3 {Ls d : Nat} {q : Option ab_V → ab_W → Prop} {L S : List ab_V} {w : ab_W} : Ev Ls (Sm Ls d) q bk_20 3 L S w = ab_wb Ls (Sm Ls d) (Ev Ls (Sm Ls d) q bk_20) q 4 b_20_3 L S w := propext ⟨fun h => Ev.unfold (ab_Sm_mono d) h, fun h => Ev.fold (ab_Sm_mono d) h⟩
theorem en_21 {Ls d : Nat} {a0 : Nat} {w : ab_W} {q : Option ab_V → ab_W → Prop} : Sm Ls (d + 1) 21 [vR a0] w q = ab_wb Ls (Sm Ls d) (Ev Ls (Sm Ls d) q bk_21) q 1 b_21_0 [vR a0, vX] [] w := propext ⟨fun h => Ev.unfold (ab_Sm_mono d) h.2, fun h => ⟨Nat.le_of_ble_eq_true rfl, Ev.fold (ab_Sm_mono d) h⟩⟩
theorem ev_21_0 {Ls d : Nat} {q : Option ab_V → ab_W → Prop} {L S : List ab_V} {w : ab_W} : Ev Ls (Sm Ls d) q bk_21 0 L S w = ab_wb Ls (Sm Ls d) (Ev Ls (Sm Ls d) q bk_21) q 1 b_21_0 L S w := propext ⟨fun h => Ev.unfold (ab_Sm_mono d) h, fun h => Ev.fold (ab_Sm_mono d) h⟩
theorem ev_21_1 {Ls d : Nat} {q : Option ab_V → ab_W → Prop} {L S : List ab_V} {w : ab_W} : Ev Ls (Sm Ls d) q bk_21 1 L S w = ab_wb Ls (Sm Ls d) (Ev Ls (Sm Ls d) q bk_21) q 2 b_21_1 L S w := propext ⟨fun h => Ev.unfold (ab_Sm_mono d) h, fun h => Ev.fold (ab_Sm_mono d) h⟩
theorem ev_21_2 {Ls d : Nat} {q : Option ab_V → ab_W → Prop} {L S : List ab_V} {w : ab_W} : Ev Ls (Sm Ls d) q bk_21 2 L S w = ab_wb Ls (Sm Ls d) (Ev Ls (Sm Ls d) q bk_21) q 3 b_21_2 L S w := propext ⟨fun h => Ev.unfold (ab_Sm_mono d) h, fun h => Ev.fold (ab_Sm_mono d) h⟩
theorem en_22 {Ls d : Nat} {a0 : Nat} {a1 : Nat} {w : ab_W} {q : Option ab_V → ab_W → Prop} : Sm Ls (d + 1) 22 [vR a0, vR a1] w q = ab_wb Ls (Sm Ls d) (Ev Ls (Sm Ls d) q bk_22) q 1 b_22_0 [vR a0, vR a1, vX, vX] [] w := propext ⟨fun h => Ev.unfold (ab_Sm_mono d) h.2, fun h => ⟨Nat.le_of_ble_eq_true rfl, Ev.fold (ab_Sm_mono d) h⟩⟩
theorem ev_22_0 {Ls d : Nat} {q : Option ab_V → ab_W → Prop} {L S : List ab_V} {w : ab_W} : Ev Ls (Sm Ls d) q bk_22 0 L S w = ab_wb Ls (Sm Ls d) (Ev Ls (Sm Ls d) q bk_22) q 1 b_22_0 L S w := propext ⟨fun h => Ev.unfold (ab_Sm_mono d) h, fun h => Ev.fold (ab_Sm_mono d) h⟩
theorem ev_22_1 {Ls d : Nat} {q : Option ab_V → ab_W → Prop} {L S : List ab_V} {w : ab_W} : Ev Ls (Sm Ls d) q bk_22 1 L S w = ab_wb Ls (Sm Ls d) (Ev Ls (Sm Ls d) q bk_22) q 2 b_22_1 L S w := propext ⟨fun h => Ev.unfold (ab_Sm_mono d) h, fun h => Ev.fold (ab_Sm_mono d) h⟩
theorem ev_22_2 {Ls d : Nat} {q : Option ab_V → ab_W → Prop} {L S : List ab_V} {w : ab_W} : Ev Ls (Sm Ls d) q bk_22 2 L S w = ab_wb Ls (Sm Ls d) (Ev Ls (Sm Ls d) q bk_22) q 3 b_22_2 L S w := propext ⟨fun h => Ev.unfold (ab_Sm_mono d) h, fun h => Ev.fold (ab_Sm_mono d) h⟩
theorem ev_22_3 {Ls d : Nat} {q : Option ab_V → ab_W → Prop} {L S : List ab_V} {w : ab_W} : Ev Ls (Sm Ls d) q bk_22 3 L S w = ab_wb Ls (Sm Ls d) (Ev Ls (Sm Ls d) q bk_22) q 4 b_22_3 L S w := propext ⟨fun h => Ev.unfold (ab_Sm_mono d) h, fun h => Ev.fold (ab_Sm_mono d) h⟩
theorem ev_22_4 {Ls d : Nat} {q : Option ab_V → ab_W → Prop} {L S : List ab_V} {w : ab_W} : Ev Ls (Sm Ls d) q bk_22 4 L S w = ab_wb Ls (Sm Ls d) (Ev Ls (Sm Ls d) q bk_22) q 5 b_22_4 L S w := propext ⟨fun h => Ev.unfold (ab_Sm_mono d) h, fun h => Ev.fold (ab_Sm_mono d) h⟩
theorem en_23 {Ls d : Nat} {a0 : Nat} {a1 : Int} {a2 : Int} {w : ab_W} {q : Option ab_V → ab_W → Prop} : Sm Ls (d + 1) 23 [vR a0, vI a1, vI a2] w q = ab_wb Ls (Sm Ls d) (Ev Ls (Sm Ls d) q bk_23) q 1 b_23_0 [vR a0, vI a1, vI a2] [] w := propext ⟨fun h => Ev.unfold (ab_Sm_mono d) h.2, fun h => ⟨Nat.le_of_ble_eq_true rfl, Ev.fold (ab_Sm_mono d) h⟩⟩
theorem ev_23_0 {Ls d : Nat} {q : Option ab_V → ab_W → Prop} {L S : List ab_V} {w : ab_W} : Ev Ls (Sm Ls d) q bk_23 0 L S w = ab_wb Ls (Sm Ls d) (Ev Ls (Sm Ls d) q bk_23) q 1 b_23_0 L S w := propext ⟨fun h => Ev.unfold (ab_Sm_mono d) h, fun h => Ev.fold (ab_Sm_mono d) h⟩
theorem en_24 {Ls d : Nat} {a0 : Nat} {a1 : Int} {a2 : Int} {w : ab_W} {q : Option ab_V → ab_W → Prop} : Sm Ls (d + 1) 24 [vR a0, vI a1, vI a2] w q = ab_wb Ls (Sm Ls d) (Ev Ls (Sm Ls d) q bk_24) q 1 b_24_0 [vR a0, vI a1, vI a2] [] w := propext ⟨fun h => Ev.unfold (ab_Sm_mono d) h.2, fun h => ⟨Nat.le_of_ble_eq_true rfl, Ev.fold (ab_Sm_mono d) h⟩⟩
theorem ev_24_0 {Ls d : Nat} {q : Option ab_V → ab_W → Prop} {L S : List ab_V} {w : ab_W} : Ev Ls (Sm Ls d) q bk_24 0 L S w = ab_wb Ls (Sm Ls d) (Ev Ls (Sm Ls d) q bk_24) q 1 b_24_0 L S w := propext ⟨fun h => Ev.unfold (ab_Sm_mono d) h, fun h => Ev.fold (ab_Sm_mono d) h⟩
theorem ev_24_1 {Ls d : Nat} {q : Option ab_V → ab_W → Prop} {L S : List ab_V} {w : ab_W} : Ev Ls (Sm Ls d) q bk_24 1 L S w = ab_wb Ls (Sm Ls d) (Ev Ls (Sm Ls d) q bk_24) q 2 b_24_1 L S w := propext ⟨fun h => Ev.unfold (ab_Sm_mono d) h, fun h => Ev.fold (ab_Sm_mono d) h⟩
theorem ev_24_2 {Ls d : Nat} {q : Option ab_V → ab_W → Prop} {L S : List ab_V} {w : ab_W} : Ev Ls (Sm Ls d) q bk_24 2 L S w = ab_wb Ls (Sm Ls d) (Ev Ls (Sm Ls d) q bk_24) q 3 b_24_2 L S w := propext ⟨fun h => Ev.unfold (ab_Sm_mono d) h, fun h => Ev.fold (ab_Sm_mono d) h⟩
theorem ev_24_3 {Ls d : Nat} {q : Option ab_V → ab_W → Prop} {L S : List ab_V} {w : ab_W} : Ev Ls (Sm Ls d) q bk_24 3 L S w = ab_wb Ls (Sm Ls d) (Ev Ls (Sm Ls d) q bk_24) q 4 b_24_3 L S w := propext ⟨fun h => Ev.unfold (ab_Sm_mono d) h, fun h => Ev.fold (ab_Sm_mono d) h⟩
theorem en_25 {Ls d : Nat} {a0 : Nat} {a1 : Int} {a2 : Int} {w : ab_W} {q : Option ab_V → ab_W → Prop} : Sm Ls (d + 1) 25 [vR a0, vI a1, vI a2] w q = ab_wb Ls (Sm Ls d) (Ev Ls (Sm Ls d) q bk_25) q 1 b_25_0 [vR a0, vI a1, vI a2] [] w := propext ⟨fun h => Ev.unfold (ab_Sm_mono d) h.2, fun h => ⟨Nat.le_of_ble_eq_true rfl, Ev.fold (ab_Sm_mono d) h⟩⟩
theorem ev_25_0 {Ls d : Nat} {q : Option ab_V → ab_W → Prop} {L S : List ab_V} {w : ab_W} : Ev Ls (Sm Ls d) q bk_25 0 L S w = ab_wb Ls (Sm Ls d) (Ev Ls (Sm Ls d) q bk_25) q 1 b_25_0 L S w := propext ⟨fun h => Ev.unfold (ab_Sm_mono d) h, fun h => Ev.fold (ab_Sm_mono d) h⟩
theorem ev_25_1 {Ls d : Nat} {q : Option ab_V → ab_W → Prop} {L S : List ab_V} {w : ab_W} : Ev Ls (Sm Ls d) q bk_25 1 L S w = ab_wb Ls (Sm Ls d) (Ev Ls (Sm Ls d) q bk_25) q 2 b_25_1 L S w := propext ⟨fun h => Ev.unfold (ab_Sm_mono d) h, fun h => Ev.fold (ab_Sm_mono d) h⟩
theorem ev_25_2 {Ls d : Nat} {q : Option ab_V → ab_W → Prop} {L S : List ab_V} {w : ab_W} : Ev Ls (Sm Ls d) q bk_25 2 L S w = ab_wb Ls (Sm Ls d) (Ev Ls (Sm Ls d) q bk_25) q 3 b_25_2 L S w := propext ⟨fun h => Ev.unfold (ab_Sm_mono d) h, fun h => Ev.fold (ab_Sm_mono d) h⟩
theorem en_26 {Ls d : Nat} {a0 : Nat} {a1 : Int} {w : ab_W} {q : Option ab_V → ab_W → Prop} : Sm Ls (d + 1) 26 [vR a0, vI a1] w q = ab_wb Ls (Sm Ls d) (Ev Ls (Sm Ls d) q bk_26) q 1 b_26_0 [vR a0, vI a1] [] w := propext ⟨fun h => Ev.unfold (ab_Sm_mono d) h.2, fun h => ⟨Nat.le_of_ble_eq_true rfl, Ev.fold (ab_Sm_mono d) h⟩⟩
theorem ev_26_0 {Ls d : Nat} {q : Option ab_V → ab_W → Prop} {L S : List ab_V} {w : ab_W} : Ev Ls (Sm Ls d) q bk_26 0 L S w = ab_wb Ls (Sm Ls d) (Ev Ls (Sm Ls d) q bk_26) q 1 b_26_0 L S w := propext ⟨fun h => Ev.unfold (ab_Sm_mono d) h, fun h => Ev.fold (ab_Sm_mono d) h⟩
theorem en_27 {Ls d : Nat} {a0 : Nat} {w : ab_W} {q : Option ab_V → ab_W → Prop} : Sm Ls (d + 1) 27 [vR a0] w q = ab_wb Ls (Sm Ls d) (Ev Ls (Sm Ls d) q bk_27) q 1 b_27_0 [vR a0, vX] [] w := propext ⟨fun h => Ev.unfold (ab_Sm_mono d) h.2, fun h => ⟨Nat.le_of_ble_eq_true rfl, Ev.fold (ab_Sm_mono d) h⟩⟩
theorem ev_27_0 {Ls d : Nat} {q : Option ab_V → ab_W → Prop} {L S : List ab_V} {w : ab_W} : Ev Ls (Sm Ls d) q bk_27 0 L S w = ab_wb Ls (Sm Ls d) (Ev Ls (Sm Ls d) q bk_27) q 1 b_27_0 L S w := propext ⟨fun h => Ev.unfold (ab_Sm_mono d) h, fun h => Ev.fold (ab_Sm_mono d) h⟩
theorem ev_27_1 {Ls d : Nat} {q : Option ab_V → ab_W → Prop} {L S : List ab_V} {w : ab_W} : Ev Ls (Sm Ls d) q bk_27 1 L S w = ab_wb Ls (Sm Ls d) (Ev Ls (Sm Ls d) q bk_27) q 2 b_27_1 L S w := propext ⟨fun h => Ev.unfold (ab_Sm_mono d) h, fun h => Ev.fold (ab_Sm_mono d) h⟩
theorem ev_27_2 {Ls d : Nat} {q : Option ab_V → ab_W → Prop} {L S : List ab_V} {w : ab_W} : Ev Ls (Sm Ls d) q bk_27 2 L S w = ab_wb Ls (Sm Ls d) (Ev Ls (Sm Ls d) q bk_27) q 3 b_27_2 L S w := propext ⟨fun h => Ev.unfold (ab_Sm_mono d) h, fun h => Ev.fold (ab_Sm_mono d) h⟩
theorem ev_27_3 {Ls d : Nat} {q : Option ab_V → ab_W → Prop} {L S : List ab_V} {w : ab_W} : Ev Ls (Sm Ls d) q bk_27 3 L S w = ab_wb Ls (Sm Ls d) (Ev Ls (Sm Ls d) q bk_27) q 4 b_27_3 L S w := propext ⟨fun h => Ev.unfold (ab_Sm_mono d) h, fun h => Ev.fold (ab_Sm_mono d) h⟩
theorem ev_27_4 {Ls d : Nat} {q : Option ab_V → ab_W → Prop} {L S : List ab_V} {w : ab_W} : Ev Ls (Sm Ls d) q bk_27 4 L S w = ab_wb Ls (Sm Ls d) (Ev Ls (Sm Ls d) q bk_27) q 5 b_27_4 L S w := propext ⟨fun h => Ev.unfold (ab_Sm_mono d) h, fun h => Ev.fold (ab_Sm_mono d) h⟩
theorem ev_27_5 {Ls d : Nat} {q : Option ab_V → ab_W → Prop} {L S : List ab_V} {w : ab_W} : Ev Ls (Sm Ls d) q bk_27 5 L S w = ab_wb Ls (Sm Ls d) (Ev Ls (Sm Ls d) q bk_27) q 6 b_27_5 L S w := propext ⟨fun h => Ev.unfold (ab_Sm_mono d) h, fun h => Ev.fold (ab_Sm_mono d) h⟩
theorem ev_27_6 {Ls d : Nat} {q : Option ab_V → ab_W → Prop} {L S : List ab_V} {w : ab_W} : Ev Ls (Sm Ls d) q bk_27 6 L S w = ab_wb Ls (Sm Ls d) (Ev Ls (Sm Ls d) q bk_27) q 7 b_27_6 L S w := propext ⟨fun h => Ev.unfold (ab_Sm_mono d) h, fun h => Ev.fold (ab_Sm_mono d) h⟩
theorem en_28 {Ls d : Nat} {a0 : Nat} {a1 : Int} {w : ab_W} {q : Option ab_V → ab_W → Prop} : Sm Ls (d + 1) 28 [vR a0, vI a1] w q = ab_wb Ls (Sm Ls d) (Ev Ls (Sm Ls d) q bk_28) q 1 b_28_0 [vR a0, vI a1, vX] [] w := propext ⟨fun h => Ev.unfold (ab_Sm_mono d) h.2, fun h => ⟨Nat.le_of_ble_eq_true rfl, Ev.fold (ab_Sm_mono d) h⟩⟩
theorem ev_28_0 {Ls d : Nat} {q : Option ab_V → ab_W → Prop} {L S : List ab_V} {w : ab_W} : Ev Ls (Sm Ls d) q bk_28 0 L S w = ab_wb Ls (Sm Ls d) (Ev Ls (Sm Ls d) q bk_28) q 1 b_28_0 L S w := propext ⟨fun h => Ev.unfold (ab_Sm_mono d) h, fun h => Ev.fold (ab_Sm_mono d) h⟩
theorem ev_28_1 {Ls d : Nat} {q : Option ab_V → ab_W → Prop} {L S : List ab_V} {w : ab_W} : Ev Ls (Sm Ls d) q bk_28 1 L S w = ab_wb Ls (Sm Ls d) (Ev Ls (Sm Ls d) q bk_28) q 2 b_28_1 L S w := propext ⟨fun h => Ev.unfold (ab_Sm_mono d) h, fun h => Ev.fold (ab_Sm_mono d) h⟩
theorem ev_28_2 {Ls d : Nat} {q : Option ab_V → ab_W → Prop} {L S : List ab_V} {w : ab_W} : Ev Ls (Sm Ls d) q bk_28 2 L S w = ab_wb Ls (Sm Ls d) (Ev Ls (Sm Ls d) q bk_28) q 3 b_28_2 L S w := propext ⟨fun h => Ev.unfold (ab_Sm_mono d) h, fun h => Ev.fold (ab_Sm_mono d) h⟩
theorem ev_28_3 {Ls d : Nat} {q : Option ab_V → ab_W → Prop} {L S : List ab_V} {w : ab_W} : Ev Ls (Sm Ls d) q bk_28 3 L S w = ab_wb Ls (Sm Ls d) (Ev Ls (Sm Ls d) q bk_28) q 4 b_28_3 L S w := propext ⟨fun h => Ev.unfold (ab_Sm_mono d) h, fun h => Ev.fold (ab_Sm_mono d) h⟩
theorem ev_28_4 {Ls d : Nat} {q : Option ab_V → ab_W → Prop} {L S : List ab_V} {w : ab_W} : Ev Ls (Sm Ls d) q bk_28 4 L S w = ab_wb Ls (Sm Ls d) (Ev Ls (Sm Ls d) q bk_28) q 5 b_28_4 L S w := propext ⟨fun h => Ev.unfold (ab_Sm_mono d) h, fun h => Ev.fold (ab_Sm_mono d) h⟩
theorem ev_28_5 {Ls d : Nat} {q : Option ab_V → ab_W → Prop} {L S : List ab_V} {w : ab_W} : Ev Ls (Sm Ls d) q bk_28 5 L S w = ab_wb Ls (Sm Ls d) (Ev Ls (Sm Ls d) q bk_28) q 6 b_28_5 L S w := propext ⟨fun h => Ev.unfold (ab_Sm_mono d) h, fun h => Ev.fold (ab_Sm_mono d) h⟩
theorem ev_28_6 {Ls d : Nat} {q : Option ab_V → ab_W → Prop} {L S : List ab_V} {w : ab_W} : Ev Ls (Sm Ls d) q bk_28 6 L S w = ab_wb Ls (Sm Ls d) (Ev Ls (Sm Ls d) q bk_28) q 7 b_28_6 L S w := propext ⟨fun h => Ev.unfold (ab_Sm_mono d) h, fun h => Ev.fold (ab_Sm_mono d) h⟩
theorem ev_28_7 {Ls d : Nat} {q : Option ab_V → ab_W → Prop} {L S : List ab_V} {w : ab_W} : Ev Ls (Sm Ls d) q bk_28 7 L S w = ab_wb Ls (Sm Ls d) (Ev Ls (Sm Ls d) q bk_28) q 8 b_28_7 L S w := propext ⟨fun h => Ev.unfold (ab_Sm_mono d) h, fun h => Ev.fold (ab_Sm_mono d) h⟩
theorem ev_28_8 {Ls d : Nat} {q : Option ab_V → ab_W → Prop} {L S : List ab_V} {w : ab_W} : Ev Ls (Sm Ls d) q bk_28 8 L S w = ab_wb Ls (Sm Ls d) (Ev Ls (Sm Ls d) q bk_28) q 9 b_28_8 L S w := propext ⟨fun h => Ev.unfold (ab_Sm_mono d) h, fun h => Ev.fold (ab_Sm_mono d) h⟩
theorem en_29 {Ls d : Nat} {a0 : Nat} {a1 : Int} {w : ab_W} {q : Option ab_V → ab_W → Prop} : Sm Ls (d + 1) 29 [vR a0, vI a1] w q = ab_wb Ls (Sm Ls d) (Ev Ls (Sm Ls d) q bk_29) q 1 b_29_0 [vR a0, vI a1] [] w := propext ⟨fun h => Ev.unfold (ab_Sm_mono d) h.2, fun h => ⟨Nat.le_of_ble_eq_true rfl, Ev.fold (ab_Sm_mono d) h⟩⟩
theorem ev_29_0 {Ls d : Nat} {q : Option ab_V → ab_W → Prop} {L S : List ab_V} {w : ab_W} : Ev Ls (Sm Ls d) q bk_29 0 L S w = ab_wb Ls (Sm Ls d) (Ev Ls (Sm Ls d) q bk_29) q 1 b_29_0 L S w := propext ⟨fun h => Ev.unfold (ab_Sm_mono d) h, fun h => Ev.fold (ab_Sm_mono d) h⟩
theorem ev_29_1 {Ls d : Nat} {q : Option ab_V → ab_W → Prop} {L S : List ab_V} {w : ab_W} : Ev Ls (Sm Ls d) q bk_29 1 L S w = ab_wb Ls (Sm Ls d) (Ev Ls (Sm Ls d) q bk_29) q 2 b_29_1 L S w := propext ⟨fun h => Ev.unfold (ab_Sm_mono d) h, fun h => Ev.fold (ab_Sm_mono d) h⟩
theorem ev_29_2 {Ls d : Nat} {q : Option ab_V → ab_W → Prop} {L S : List ab_V} {w : ab_W} : Ev Ls (Sm Ls d) q bk_29 2 L S w = ab_wb Ls (Sm Ls d) (Ev Ls (Sm Ls d) q bk_29) q 3 b_29_2 L S w := propext ⟨fun h => Ev.unfold (ab_Sm_mono d) h, fun h => Ev.fold (ab_Sm_mono d) h⟩
theorem ev_29_3 {Ls d : Nat} {q : Option ab_V → ab_W → Prop} {L S : List ab_V} {w : ab_W} : Ev Ls (Sm Ls d) q bk_29 3 L S w = ab_wb Ls (Sm Ls d) (Ev Ls (Sm Ls d) q bk_29) q 4 b_29_3 L S w := propext ⟨fun h => Ev.unfold (ab_Sm_mono d) h, fun h => Ev.fold (ab_Sm_mono d) h⟩
theorem ev_29_4 {Ls d : Nat} {q : Option ab_V → ab_W → Prop} {L S : List ab_V} {w : ab_W} : Ev Ls (Sm Ls d) q bk_29 4 L S w = ab_wb Ls (Sm Ls d) (Ev Ls (Sm Ls d) q bk_29) q 5 b_29_4 L S w := propext ⟨fun h => Ev.unfold (ab_Sm_mono d) h, fun h => Ev.fold (ab_Sm_mono d) h⟩
theorem en_30 {Ls d : Nat} {a0 : Nat} {a1 : Int} {a2 : Int} {a3 : Int} {w : ab_W} {q : Option ab_V → ab_W → Prop} : Sm Ls (d + 1) 30 [vR a0, vI a1, vI a2, vI a3] w q = ab_wb Ls (Sm Ls d) (Ev Ls (Sm Ls d) q bk_30) q 1 b_30_0 [vR a0, vI a1, vI a2, vI a3] [] w := propext ⟨fun h => Ev.unfold (ab_Sm_mono d) h.2, fun h => ⟨Nat.le_of_ble_eq_true rfl, Ev.fold (ab_Sm_mono d) h⟩⟩
theorem ev_30_0 {Ls d : Nat} {q : Option ab_V → ab_W → Prop} {L S : List ab_V} {w : ab_W} : Ev Ls (Sm Ls d) q bk_30 0 L S w = ab_wb Ls (Sm Ls d) (Ev Ls (Sm Ls d) q bk_30) q 1 b_30_0 L S w := propext ⟨fun h => Ev.unfold (ab_Sm_mono d) h, fun h => Ev.fold (ab_Sm_mono d) h⟩
theorem en_31 {Ls d : Nat} {a0 : Nat} {a1 : Int} {w : ab_W} {q : Option ab_V → ab_W → Prop} : Sm Ls (d + 1) 31 [vR a0, vI a1] w q = ab_wb Ls (Sm Ls d) (Ev Ls (Sm Ls d) q bk_31) q 1 b_31_0 [vR a0, vI a1] [] w := propext ⟨fun h => Ev.unfold (ab_Sm_mono d) h.2, fun h => ⟨Nat.le_of_ble_eq_true rfl, Ev.fold (ab_Sm_mono d) h⟩⟩
theorem ev_31_0 {Ls d : Nat} {q : Option ab_V → ab_W → Prop} {L S : List ab_V} {w : ab_W} : Ev Ls (Sm Ls d) q bk_31 0 L S w = ab_wb Ls (Sm Ls d) (Ev Ls (Sm Ls d) q bk_31) q 1 b_31_0 L S w := propext ⟨fun h => Ev.unfold (ab_Sm_mono d) h, fun h => Ev.fold (ab_Sm_mono d) h⟩
theorem ev_31_1 {Ls d : Nat} {q : Option ab_V → ab_W → Prop} {L S : List ab_V} {w : ab_W} : Ev Ls (Sm Ls d) q bk_31 1 L S w = ab_wb Ls (Sm Ls d) (Ev Ls (Sm Ls d) q bk_31) q 2 b_31_1 L S w := propext ⟨fun h => Ev.unfold (ab_Sm_mono d) h, fun h => Ev.fold (ab_Sm_mono d) h⟩
theorem ev_31_2 {Ls d : Nat} {q : Option ab_V → ab_W → Prop} {L S : List ab_V} {w : ab_W} : Ev Ls (Sm Ls d) q bk_31 2 L S w = ab_wb Ls (Sm Ls d) (Ev Ls (Sm Ls d) q bk_31) q 3 b_31_2 L S w := propext ⟨fun h => Ev.unfold (ab_Sm_mono d) h, fun h => Ev.fold (ab_Sm_mono d) h⟩
theorem ev_31_3 {Ls d : Nat} {q : Option ab_V → ab_W → Prop} {L S : List ab_V} {w : ab_W} : Ev Ls (Sm Ls d) q bk_31 3 L S w = ab_wb Ls (Sm Ls d) (Ev Ls (Sm Ls d) q bk_31) q 4 b_31_3 L S w := propext ⟨fun h => Ev.unfold (ab_Sm_mono d) h, fun h => Ev.fold (ab_Sm_mono d) h⟩
theorem en_32 {Ls d : Nat} {a0 : Nat} {w : ab_W} {q : Option ab_V → ab_W → Prop} : Sm Ls (d + 1) 32 [vR a0] w q = ab_wb Ls (Sm Ls d) (Ev Ls (Sm Ls d) q bk_32) q 1 b_32_0 [vR a0, vX] [] w := propext ⟨fun h => Ev.unfold (ab_Sm_mono d) h.2, fun h => ⟨Nat.le_of_ble_eq_true rfl, Ev.fold (ab_Sm_mono d) h⟩⟩
theorem ev_32_0 {Ls d : Nat} {q : Option ab_V → ab_W → Prop} {L S : List ab_V} {w : ab_W} : Ev Ls (Sm Ls d) q bk_32 0 L S w = ab_wb Ls (Sm Ls d) (Ev Ls (Sm Ls d) q bk_32) q 1 b_32_0 L S w := propext ⟨fun h => Ev.unfold (ab_Sm_mono d) h, fun h => Ev.fold (ab_Sm_mono d) h⟩
theorem en_33 {Ls d : Nat} {a0 : Nat} {w : ab_W} {q : Option ab_V → ab_W → Prop} : Sm Ls (d + 1) 33 [vR a0] w q = ab_wb Ls (Sm Ls d) (Ev Ls (Sm Ls d) q bk_33) q 1 b_33_0 [vR a0] [] w := propext ⟨fun h => Ev.unfold (ab_Sm_mono d) h.2, fun h => ⟨Nat.le_of_ble_eq_true rfl, Ev.fold (ab_Sm_mono d) h⟩⟩
theorem ev_33_0 {Ls d : Nat} {q : Option ab_V → ab_W → Prop} {L S : List ab_V} {w : ab_W} : Ev Ls (Sm Ls d) q bk_33 0 L S w = ab_wb Ls (Sm Ls d) (Ev Ls (Sm Ls d) q bk_33) q 1 b_33_0 L S w := propext ⟨fun h => Ev.unfold (ab_Sm_mono d) h, fun h => Ev.fold (ab_Sm_mono d) h⟩
theorem ev_33_1 {Ls d : Nat} {q : Option ab_V → ab_W → Prop} {L S : List ab_V} {w : ab_W} : Ev Ls (Sm Ls d) q bk_33 1 L S w = ab_wb Ls (Sm Ls d) (Ev Ls (Sm Ls d) q bk_33) q 2 b_33_1 L S w := propext ⟨fun h => Ev.unfold (ab_Sm_mono d) h, fun h => Ev.fold (ab_Sm_mono d) h⟩
theorem en_34 {Ls d : Nat} {a0 : Nat} {w : ab_W} {q : Option ab_V → ab_W → Prop} : Sm Ls (d + 1) 34 [vR a0] w q = ab_wb Ls (Sm Ls d) (Ev Ls (Sm Ls d) q bk_34) q 1 b_34_0 [vR a0] [] w := propext ⟨fun h => Ev.unfold (ab_Sm_mono d) h.2, fun h => ⟨Nat.le_of_ble_eq_true rfl, Ev.fold (ab_Sm_mono d) h⟩⟩
theorem ev_34_0 {Ls d : Nat} {q : Option ab_V → ab_W → Prop} {L S : List ab_V} {w : ab_W} : Ev Ls (Sm Ls d) q bk_34 0 L S w = ab_wb Ls (Sm Ls d) (Ev Ls (Sm Ls d) q bk_34) q 1 b_34_0 L S w := propext ⟨fun h => Ev.unfold (ab_Sm_mono d) h, fun h => Ev.fold (ab_Sm_mono d) h⟩
theorem en_35 {Ls d : Nat} {a0 : Nat} {a1 : Int} {a2 : Int} {a3 : Int} {w : ab_W} {q : Option ab_V → ab_W → Prop} : Sm Ls (d + 1) 35 [vR a0, vI a1, vI a2, vI a3] w q = ab_wb Ls (Sm Ls d) (Ev Ls (Sm Ls d) q bk_35) q 1 b_35_0 [vR a0, vI a1, vI a2, vI a3, vX] [] w := propext ⟨fun h => Ev.unfold (ab_Sm_mono d) h.2, fun h => ⟨Nat.le_of_ble_eq_true rfl, Ev.fold (ab_Sm_mono d) h⟩⟩
theorem ev_35_0 {Ls d : Nat} {q : Option ab_V → ab_W → Prop} {L S : List ab_V} {w : ab_W} : Ev Ls (Sm Ls d) q bk_35 0 L S w = ab_wb Ls (Sm Ls d) (Ev Ls (Sm Ls d) q bk_35) q 1 b_35_0 L S w := propext ⟨fun h => Ev.unfold (ab_Sm_mono d) h, fun h => Ev.fold (ab_Sm_mono d) h⟩
theorem ev_35_1 {Ls d : Nat} {q : Option ab_V → ab_W → Prop} {L S : List ab_V} {w : ab_W} : Ev Ls (Sm Ls d) q bk_35 1 L S w = ab_wb Ls (Sm Ls d) (Ev Ls (Sm Ls d) q bk_35) q 2 b_35_1 L S w := propext ⟨fun h => Ev.unfold (ab_Sm_mono d) h, fun h => Ev.fold (ab_Sm_mono d) h⟩
theorem ev_35_2 {Ls d : Nat} {q : Option ab_V → ab_W → Prop} {L S : List ab_V} {w : ab_W} : Ev Ls (Sm Ls d) q bk_35 2 L S w = ab_wb Ls (Sm Ls d) (Ev Ls (Sm Ls d) q bk_35) q 3 b_35_2 L S w := propext ⟨fun h => Ev.unfold (ab_Sm_mono d) h, fun h => Ev.fold (ab_Sm_mono d) h⟩
theorem ev_35_3 {Ls d : Nat} {q : Option ab_V → ab_W → Prop} {L S : List ab_V} {w : ab_W} : Ev Ls (Sm Ls d) q bk_35 3 L S w = ab_wb Ls (Sm Ls d) (Ev Ls (Sm Ls d) q bk_35) q 4 b_35_3 L S w := propext ⟨fun h => Ev.unfold (ab_Sm_mono d) h, fun h => Ev.fold (ab_Sm_mono d) h⟩
theorem ev_35_4 {Ls d : Nat} {q : Option ab_V → ab_W → Prop} {L S : List ab_V} {w : ab_W} : Ev Ls (Sm Ls d) q bk_35 4 L S w = ab_wb Ls (Sm Ls d) (Ev Ls (Sm Ls d) q bk_35) q 5 b_35_4 L S w := propext ⟨fun h => Ev.unfold (ab_Sm_mono d) h, fun h => Ev.fold (ab_Sm_mono d) h⟩
theorem en_36 {Ls d : Nat} {a0 : Nat} {a1 : Int} {w : ab_W} {q : Option ab_V → ab_W → Prop} : Sm Ls (d + 1) 36 [vR a0, vI a1] w q = ab_wb Ls (Sm Ls d) (Ev Ls (Sm Ls d) q bk_36) q 1 b_36_0 [vR a0, vI a1, vX] [] w := propext ⟨fun h => Ev.unfold (ab_Sm_mono d) h.2, fun h => ⟨Nat.le_of_ble_eq_true rfl, Ev.fold (ab_Sm_mono d) h⟩⟩
theorem ev_36_0 {Ls d : Nat} {q : Option ab_V → ab_W → Prop} {L S : List ab_V} {w : ab_W} : Ev Ls (Sm Ls d) q bk_36 0 L S w = ab_wb Ls (Sm Ls d) (Ev Ls (Sm Ls d) q bk_36) q 1 b_36_0 L S w := propext ⟨fun h => Ev.unfold (ab_Sm_mono d) h, fun h => Ev.fold (ab_Sm_mono d) h⟩
theorem ev_36_1 {Ls d : Nat} {q : Option ab_V → ab_W → Prop} {L S : List ab_V} {w : ab_W} : Ev Ls (Sm Ls d) q bk_36 1 L S w = ab_wb Ls (Sm Ls d) (Ev Ls (Sm Ls d) q bk_36) q 2 b_36_1 L S w := propext ⟨fun h => Ev.unfold (ab_Sm_mono d) h, fun h => Ev.fold (ab_Sm_mono d) h⟩
theorem ev_36_2 {Ls d : Nat} {q : Option ab_V → ab_W → Prop} {L S : List ab_V} {w : ab_W} : Ev Ls (Sm Ls d) q bk_36 2 L S w = ab_wb Ls (Sm Ls d) (Ev Ls (Sm Ls d) q bk_36) q 3 b_36_2 L S w := propext ⟨fun h => Ev.unfold (ab_Sm_mono d) h, fun h => Ev.fold (ab_Sm_mono d) h⟩
theorem en_37 {Ls d : Nat} {a0 : Nat} {a1 : Int} {a2 : Int} {a3 : Int} {w : ab_W} {q : Option ab_V → ab_W → Prop} : Sm Ls (d + 1) 37 [vR a0, vI a1, vI a2, vI a3] w q = ab_wb Ls (Sm Ls d) (Ev Ls (Sm Ls d) q bk_37) q 1 b_37_0 [vR a0, vI a1, vI a2, vI a3] [] w := propext ⟨fun h => Ev.unfold (ab_Sm_mono d) h.2, fun h => ⟨Nat.le_of_ble_eq_true rfl, Ev.fold (ab_Sm_mono d) h⟩⟩
theorem ev_37_0 {Ls d : Nat} {q : Option ab_V → ab_W → Prop} {L S : List ab_V} {w : ab_W} : Ev Ls (Sm Ls d) q bk_37 0 L S w = ab_wb Ls (Sm Ls d) (Ev Ls (Sm Ls d) q bk_37) q 1 b_37_0 L S w := propext ⟨fun h => Ev.unfold (ab_Sm_mono d) h, fun h => Ev.fold (ab_Sm_mono d) h⟩
theorem ev_37_1 {Ls d : Nat} {q : Option ab_V → ab_W → Prop} {L S : List ab_V} {w : ab_W} : Ev Ls (Sm Ls d) q bk_37 1 L S w = ab_wb Ls (Sm Ls d) (Ev Ls (Sm Ls d) q bk_37) q 2 b_37_1 L S w := propext ⟨fun h => Ev.unfold (ab_Sm_mono d) h, fun h => Ev.fold (ab_Sm_mono d) h⟩
theorem ev_37_2 {Ls d : Nat} {q : Option ab_V → ab_W → Prop} {L S : List ab_V} {w : ab_W} : Ev Ls (Sm Ls d) q bk_37 2 L S w = ab_wb Ls (Sm Ls d) (Ev Ls (Sm Ls d) q bk_37) q 3 b_37_2 L S w := propext ⟨fun h => Ev.unfold (ab_Sm_mono d) h, fun h => Ev.fold (ab_Sm_mono d) h⟩
theorem en_38 {Ls d : Nat} {a0 : Nat} {w : ab_W} {q : Option ab_V → ab_W → Prop} : Sm Ls (d + 1) 38 [vR a0] w q = ab_wb Ls (Sm Ls d) (Ev Ls (Sm Ls d) q bk_38) q 1 b_38_0 [vR a0] [] w := propext ⟨fun h => Ev.unfold (ab_Sm_mono d) h.2, fun h => ⟨Nat.le_of_ble_eq_true rfl, Ev.fold (ab_Sm_mono d) h⟩⟩
theorem ev_38_0 {Ls d : Nat} {q : Option ab_V → ab_W → Prop} {L S : List ab_V} {w : ab_W} : Ev Ls (Sm Ls d) q bk_38 0 L S w = ab_wb Ls (Sm Ls d) (Ev Ls (Sm Ls d) q bk_38) q 1 b_38_0 L S w := propext ⟨fun h => Ev.unfold (ab_Sm_mono d) h, fun h => Ev.fold (ab_Sm_mono d) h⟩
theorem ev_38_1 {Ls d : Nat} {q : Option ab_V → ab_W → Prop} {L S : List ab_V} {w : ab_W} : Ev Ls (Sm Ls d) q bk_38 1 L S w = ab_wb Ls (Sm Ls d) (Ev Ls (Sm Ls d) q bk_38) q 2 b_38_1 L S w := propext ⟨fun h => Ev.unfold (ab_Sm_mono d) h, fun h => Ev.fold (ab_Sm_mono d) h⟩
theorem en_39 {Ls d : Nat} {a0 : Nat} {a1 : Int} {w : ab_W} {q : Option ab_V → ab_W → Prop} : Sm Ls (d + 1) 39 [vR a0, vI a1] w q = ab_wb Ls (Sm Ls d) (Ev Ls (Sm Ls d) q bk_39) q 1 b_39_0 [vR a0, vI a1, vX, vX, vX, vX] [] w := propext ⟨fun h => Ev.unfold (ab_Sm_mono d) h.2, fun h => ⟨Nat.le_of_ble_eq_true rfl, Ev.fold (ab_Sm_mono d) h⟩⟩
theorem ev_39_0 {Ls d : Nat} {q : Option ab_V → ab_W → Prop} {L S : List ab_V} {w : ab_W} : Ev Ls (Sm Ls d) q bk_39 0 L S w = ab_wb Ls (Sm Ls d) (Ev Ls (Sm Ls d) q bk_39) q 1 b_39_0 L S w := propext ⟨fun h => Ev.unfold (ab_Sm_mono d) h, fun h => Ev.fold (ab_Sm_mono d) h⟩
theorem ev_39_1 {Ls d : Nat} {q : Option ab_V → ab_W → Prop} {L S : List ab_V} {w : ab_W} : Ev Ls (Sm Ls d) q bk_39 1 L S w = ab_wb Ls (Sm Ls d) (Ev Ls (Sm Ls d) q bk_39) q 2 b_39_1 L S w := propext ⟨fun h => Ev.unfold (ab_Sm_mono d) h, fun h => Ev.fold (ab_Sm_mono d) h⟩
theorem ev_39_2 {Ls d : Nat} {q : Option ab_V → ab_W → Prop} {L S : List ab_V} {w : ab_W} : Ev Ls (Sm Ls d) q bk_39 2 L S w = ab_wb Ls (Sm Ls d) (Ev Ls (Sm Ls d) q bk_39) q 3 b_39_2 L S w := propext ⟨fun h => Ev.unfold (ab_Sm_mono d) h, fun h => Ev.fold (ab_Sm_mono d) h⟩
theorem ev_39_3 {Ls d : Nat} {q : Option ab_V → ab_W → Prop} {L S : List ab_V} {w : ab_W} : Ev Ls (Sm Ls d) q bk_39 3 L S w = ab_wb Ls (Sm Ls d) (Ev Ls (Sm Ls d) q bk_39) q 4 b_39_3 L S w := propext ⟨fun h => Ev.unfold (ab_Sm_mono d) h, fun h => Ev.fold (ab_Sm_mono d) h⟩
theorem ev_39_4 {Ls d : Nat} {q : Option ab_V → ab_W → Prop} {L S : List ab_V} {w : ab_W} : Ev Ls (Sm Ls d) q bk_39 4 L S w = ab_wb Ls (Sm Ls d) (Ev Ls (Sm Ls d) q bk_39) q 5 b_39_4 L S w := propext ⟨fun h => Ev.unfold (ab_Sm_mono d) h, fun h => Ev.fold (ab_Sm_mono d) h⟩
theorem ev_39_5 {Ls d : Nat} {q : Option ab_V → ab_W → Prop} {L S : List ab_V} {w : ab_W} : Ev Ls (Sm Ls d) q bk_39 5 L S w = ab_wb Ls (Sm Ls d) (Ev Ls (Sm Ls d) q bk_39) q 6 b_39_5 L S w := propext ⟨fun h => Ev.unfold (ab_Sm_mono d) h, fun h => Ev.fold (ab_Sm_mono d) h⟩
theorem en_40 {Ls d : Nat} {a0 : Nat} {w : ab_W} {q : Option ab_V → ab_W → Prop} : Sm Ls (d + 1) 40 [vR a0] w q = ab_wb Ls (Sm Ls d) (Ev Ls (Sm Ls d) q bk_40) q 1 b_40_0 [vR a0] [] w := propext ⟨fun h => Ev.unfold (ab_Sm_mono d) h.2, fun h => ⟨Nat.le_of_ble_eq_true rfl, Ev.fold (ab_Sm_mono d) h⟩⟩
theorem ev_40_0 {Ls d : Nat} {q : Option ab_V → ab_W → Prop} {L S : List ab_V} {w : ab_W} : Ev Ls (Sm Ls d) q bk_40 0 L S w = ab_wb Ls (Sm Ls d) (Ev Ls (Sm Ls d) q bk_40) q 1 b_40_0 L S w := propext ⟨fun h => Ev.unfold (ab_Sm_mono d) h, fun h => Ev.fold (ab_Sm_mono d) h⟩
theorem en_41 {Ls d : Nat} {a0 : Nat} {w : ab_W} {q : Option ab_V → ab_W → Prop} : Sm Ls (d + 1) 41 [vR a0] w q = ab_wb Ls (Sm Ls d) (Ev Ls (Sm Ls d) q bk_41) q 1 b_41_0 [vR a0] [] w := propext ⟨fun h => Ev.unfold (ab_Sm_mono d) h.2, fun h => ⟨Nat.le_of_ble_eq_true rfl, Ev.fold (ab_Sm_mono d) h⟩⟩
theorem ev_41_0 {Ls d : Nat} {q : Option ab_V → ab_W → Prop} {L S : List ab_V} {w : ab_W} : Ev Ls (Sm Ls d) q bk_41 0 L S w = ab_wb Ls (Sm Ls d) (Ev Ls (Sm Ls d) q bk_41) q 1 b_41_0 L S w := propext ⟨fun h => Ev.unfold (ab_Sm_mono d) h, fun h => Ev.fold (ab_Sm_mono d) h⟩
theorem en_42 {Ls d : Nat} {a0 : Nat} {a1 : Int} {a2 : Int} {a3 : Int} {w : ab_W} {q : Option ab_V → ab_W → Prop} : Sm Ls (d + 1) 42 [vR a0, vI a1, vI a2, vI a3] w q = ab_wb Ls (Sm Ls d) (Ev Ls (Sm Ls d) q bk_42) q 1 b_42_0 [vR a0, vI a1, vI a2, vI a3] [] w := propext ⟨fun h => Ev.unfold (ab_Sm_mono d) h.2, fun h => ⟨Nat.le_of_ble_eq_true rfl, Ev.fold (ab_Sm_mono d) h⟩⟩
theorem ev_42_0 {Ls d : Nat} {q : Option ab_V → ab_W → Prop} {L S : List ab_V} {w : ab_W} : Ev Ls (Sm Ls d) q bk_42 0 L S w = ab_wb Ls (Sm Ls d) (Ev Ls (Sm Ls d) q bk_42) q 1 b_42_0 L S w := propext ⟨fun h => Ev.unfold (ab_Sm_mono d) h, fun h => Ev.fold (ab_Sm_mono d) h⟩
theorem ev_42_1 {Ls d : Nat} {q : Option ab_V → ab_W → Prop} {L S : List ab_V} {w : ab_W} : Ev Ls (Sm Ls d) q bk_42 1 L S w = ab_wb Ls (Sm Ls d) (Ev Ls (Sm Ls d) q bk_42) q 2 b_42_1 L S w := propext ⟨fun h => Ev.unfold (ab_Sm_mono d) h, fun h => Ev.fold (ab_Sm_mono d) h⟩
theorem ev_42_2 {Ls d : Nat} {q : Option ab_V → ab_W → Prop} {L S : List ab_V} {w : ab_W} : Ev Ls (Sm Ls d) q bk_42 2 L S w = ab_wb Ls (Sm Ls d) (Ev Ls (Sm Ls d) q bk_42) q 3 b_42_2 L S w := propext ⟨fun h => Ev.unfold (ab_Sm_mono d) h, fun h => Ev.fold (ab_Sm_mono d) h⟩
theorem ev_42_3 {Ls d : Nat} {q : Option ab_V → ab_W → Prop} {L S : List ab_V} {w : ab_W} : Ev Ls (Sm Ls d) q bk_42 3 L S w = ab_wb Ls (Sm Ls d) (Ev Ls (Sm Ls d) q bk_42) q 4 b_42_3 L S w := propext ⟨fun h => Ev.unfold (ab_Sm_mono d) h, fun h => Ev.fold (ab_Sm_mono d) h⟩
theorem ev_42_4 {Ls d : Nat} {q : Option ab_V → ab_W → Prop} {L S : List ab_V} {w : ab_W} : Ev Ls (Sm Ls d) q bk_42 4 L S w = ab_wb Ls (Sm Ls d) (Ev Ls (Sm Ls d) q bk_42) q 5 b_42_4 L S w := propext ⟨fun h => Ev.unfold (ab_Sm_mono d) h, fun h => Ev.fold (ab_Sm_mono d) h⟩
theorem ev_42_5 {Ls d : Nat} {q : Option ab_V → ab_W → Prop} {L S : List ab_V} {w : ab_W} : Ev Ls (Sm Ls d) q bk_42 5 L S w = ab_wb Ls (Sm Ls d) (Ev Ls (Sm Ls d) q bk_42) q 6 b_42_5 L S w := propext ⟨fun h => Ev.unfold (ab_Sm_mono d) h, fun h => Ev.fold (ab_Sm_mono d) h⟩
theorem en_43 {Ls d : Nat} {a0 : Nat} {a1 : Int} {w : ab_W} {q : Option ab_V → ab_W → Prop} : Sm Ls (d + 1) 43 [vR a0, vI a1] w q = ab_wb Ls (Sm Ls d) (Ev Ls (Sm Ls d) q bk_43) q 1 b_43_0 [vR a0, vI a1] [] w := propext ⟨fun h => Ev.unfold (ab_Sm_mono d) h.2, fun h => ⟨Nat.le_of_ble_eq_true rfl, Ev.fold (ab_Sm_mono d) h⟩⟩
theorem ev_43_0 {Ls d : Nat} {q : Option ab_V → ab_W → Prop} {L S : List ab_V} {w : ab_W} : Ev Ls (Sm Ls d) q bk_43 0 L S w = ab_wb Ls (Sm Ls d) (Ev Ls (Sm Ls d) q bk_43) q 1 b_43_0 L S w := propext ⟨fun h => Ev.unfold (ab_Sm_mono d) h, fun h => Ev.fold (ab_Sm_mono d) h⟩
theorem ev_43_1 {Ls d : Nat} {q : Option ab_V → ab_W → Prop} {L S : List ab_V} {w : ab_W} : Ev Ls (Sm Ls d) q bk_43 1 L S w = ab_wb Ls (Sm Ls d) (Ev Ls (Sm Ls d) q bk_43) q 2 b_43_1 L S w := propext ⟨fun h => Ev.unfold (ab_Sm_mono d) h, fun h => Ev.fold (ab_Sm_mono d) h⟩
theorem ev_43_2 {Ls d : Nat} {q : Option ab_V → ab_W → Prop} {L S : List ab_V} {w : ab_W} : Ev Ls (Sm Ls d) q bk_43 2 L S w = ab_wb Ls (Sm Ls d) (Ev Ls (Sm Ls d) q bk_43) q 3 b_43_2 L S w := propext ⟨fun h => Ev.unfold (ab_Sm_mono d) h, fun h => Ev.fold (ab_Sm_mono d) h⟩
theorem en_44 {Ls d : Nat} {a0 : Nat} {a1 : Int} {a2 : Int} {w : ab_W} {q : Option ab_V → ab_W → Prop} : Sm Ls (d + 1) 44 [vR a0, vI a1, vI a2] w q = ab_wb Ls (Sm Ls d) (Ev Ls (Sm Ls d) q bk_44) q 1 b_44_0 [vR a0, vI a1, vI a2, vX, vX] [] w := propext ⟨fun h => Ev.unfold (ab_Sm_mono d) h.2, fun h => ⟨Nat.le_of_ble_eq_true rfl, Ev.fold (ab_Sm_mono d) h⟩⟩
theorem ev_44_0 {Ls d : Nat} {q : Option ab_V → ab_W → Prop} {L S : List ab_V} {w : ab_W} : Ev Ls (Sm Ls d) q bk_44 0 L S w = ab_wb Ls (Sm Ls d) (Ev Ls (Sm Ls d) q bk_44) q 1 b_44_0 L S w := propext ⟨fun h => Ev.unfold (ab_Sm_mono d) h, fun h => Ev.fold (ab_Sm_mono d) h⟩
theorem ev_44_1 {Ls d : Nat} {q : Option ab_V → ab_W → Prop} {L S : List ab_V} {w : ab_W} : Ev Ls (Sm Ls d) q bk_44 1 L S w = ab_wb Ls (Sm Ls d) (Ev Ls (Sm Ls d) q bk_44) q 2 b_44_1 L S w := propext ⟨fun h => Ev.unfold (ab_Sm_mono d) h, fun h => Ev.fold (ab_Sm_mono d) h⟩
theorem ev_44_2 {Ls d : Nat} {q : Option ab_V → ab_W → Prop} {L S : List ab_V} {w : ab_W} : Ev Ls (Sm Ls d) q bk_44 2 L S w = ab_wb Ls (Sm Ls d) (Ev Ls (Sm Ls d) q bk_44) q 3 b_44_2 L S w := propext ⟨fun h => Ev.unfold (ab_Sm_mono d) h, fun h => Ev.fold (ab_Sm_mono d) h⟩
theorem ev_44_3 {Ls d : Nat} {q : Option ab_V → ab_W → Prop} {L S : List ab_V} {w : ab_W} : Ev Ls (Sm Ls d) q bk_44 3 L S w = ab_wb Ls (Sm Ls d) (Ev Ls (Sm Ls d) q bk_44) q 4 b_44_3 L S w := propext ⟨fun h => Ev.unfold (ab_Sm_mono d) h, fun h => Ev.fold (ab_Sm_mono d) h⟩
theorem ev_44_4 {Ls d : Nat} {q : Option ab_V → ab_W → Prop} {L S : List ab_V} {w : ab_W} : Ev Ls (Sm Ls d) q bk_44 4 L S w = ab_wb Ls (Sm Ls d) (Ev Ls (Sm Ls d) q bk_44) q 5 b_44_4 L S w := propext ⟨fun h => Ev.unfold (ab_Sm_mono d) h, fun h => Ev.fold (ab_Sm_mono d) h⟩
theorem ev_44_5 {Ls d : Nat} {q : Option ab_V → ab_W → Prop} {L S : List ab_V} {w : ab_W} : Ev Ls (Sm Ls d) q bk_44 5 L S w = ab_wb Ls (Sm Ls d) (Ev Ls (Sm Ls d) q bk_44) q 6 b_44_5 L S w := propext ⟨fun h => Ev.unfold (ab_Sm_mono d) h, fun h => Ev.fold (ab_Sm_mono d) h⟩
theorem en_45 {Ls d : Nat} {a0 : Nat} {a1 : Int} {w : ab_W} {q : Option ab_V → ab_W → Prop} : Sm Ls (d + 1) 45 [vR a0, vI a1] w q = ab_wb Ls (Sm Ls d) (Ev Ls (Sm Ls d) q bk_45) q 1 b_45_0 [vR a0, vI a1] [] w := propext ⟨fun h => Ev.unfold (ab_Sm_mono d) h.2, fun h => ⟨Nat.le_of_ble_eq_true rfl, Ev.fold (ab_Sm_mono d) h⟩⟩
theorem ev_45_0 {Ls d : Nat} {q : Option ab_V → ab_W → Prop} {L S : List ab_V} {w : ab_W} : Ev Ls (Sm Ls d) q bk_45 0 L S w = ab_wb Ls (Sm Ls d) (Ev Ls (Sm Ls d) q bk_45) q 1 b_45_0 L S w := propext ⟨fun h => Ev.unfold (ab_Sm_mono d) h, fun h => Ev.fold (ab_Sm_mono d) h⟩
theorem ev_45_1 {Ls d : Nat} {q : Option ab_V → ab_W → Prop} {L S : List ab_V} {w : ab_W} : Ev Ls (Sm Ls d) q bk_45 1 L S w = ab_wb Ls (Sm Ls d) (Ev Ls (Sm Ls d) q bk_45) q 2 b_45_1 L S w := propext ⟨fun h => Ev.unfold (ab_Sm_mono d) h, fun h => Ev.fold (ab_Sm_mono d) h⟩
theorem en_46 {Ls d : Nat} {a0 : Nat} {a1 : Int} {w : ab_W} {q : Option ab_V → ab_W → Prop} : Sm Ls (d + 1) 46 [vR a0, vI a1] w q = ab_wb Ls (Sm Ls d) (Ev Ls (Sm Ls d) q bk_46) q 1 b_46_0 [vR a0, vI a1, vX] [] w := propext ⟨fun h => Ev.unfold (ab_Sm_mono d) h.2, fun h => ⟨Nat.le_of_ble_eq_true rfl, Ev.fold (ab_Sm_mono d) h⟩⟩
theorem ev_46_0 {Ls d : Nat} {q : Option ab_V → ab_W → Prop} {L S : List ab_V} {w : ab_W} : Ev Ls (Sm Ls d) q bk_46 0 L S w = ab_wb Ls (Sm Ls d) (Ev Ls (Sm Ls d) q bk_46) q 1 b_46_0 L S w := propext ⟨fun h => Ev.unfold (ab_Sm_mono d) h, fun h => Ev.fold (ab_Sm_mono d) h⟩
theorem ev_46_1 {Ls d : Nat} {q : Option ab_V → ab_W → Prop} {L S : List ab_V} {w : ab_W} : Ev Ls (Sm Ls d) q bk_46 1 L S w = ab_wb Ls (Sm Ls d) (Ev Ls (Sm Ls d) q bk_46) q 2 b_46_1 L S w := propext ⟨fun h => Ev.unfold (ab_Sm_mono d) h, fun h => Ev.fold (ab_Sm_mono d) h⟩
theorem ev_46_2 {Ls d : Nat} {q : Option ab_V → ab_W → Prop} {L S : List ab_V} {w : ab_W} : Ev Ls (Sm Ls d) q bk_46 2 L S w = ab_wb Ls (Sm Ls d) (Ev Ls (Sm Ls d) q bk_46) q 3 b_46_2 L S w := propext ⟨fun h => Ev.unfold (ab_Sm_mono d) h, fun h => Ev.fold (ab_Sm_mono d) h⟩
theorem ev_46_3 {Ls d : Nat} {q : Option ab_V → ab_W → Prop} {L S : List ab_V} {w : ab_W} : Ev Ls (Sm Ls d) q bk_46 3 L S w = ab_wb Ls (Sm Ls d) (Ev Ls (Sm Ls d) q bk_46) q 4 b_46_3 L S w := propext ⟨fun h => Ev.unfold (ab_Sm_mono d) h, fun h => Ev.fold (ab_Sm_mono d) h⟩
theorem en_47 {Ls d : Nat} {a0 : Nat} {w : ab_W} {q : Option ab_V → ab_W → Prop} : Sm Ls (d + 1) 47 [vR a0] w q = ab_wb Ls (Sm Ls d) (Ev Ls (Sm Ls d) q bk_47) q 1 b_47_0 [vR a0, vX, vX] [] w := propext ⟨fun h => Ev.unfold (ab_Sm_mono d) h.2, fun h => ⟨Nat.le_of_ble_eq_true rfl, Ev.fold (ab_Sm_mono d) h⟩⟩
theorem ev_47_0 {Ls d : Nat} {q : Option ab_V → ab_W → Prop} {L S : List ab_V} {w : ab_W} : Ev Ls (Sm Ls d) q bk_47 0 L S w = ab_wb Ls (Sm Ls d) (Ev Ls (Sm Ls d) q bk_47) q 1 b_47_0 L S w := propext ⟨fun h => Ev.unfold (ab_Sm_mono d) h, fun h => Ev.fold (ab_Sm_mono d) h⟩
theorem ev_47_1 {Ls d : Nat} {q : Option ab_V → ab_W → Prop} {L S : List ab_V} {w : ab_W} : Ev Ls (Sm Ls d) q bk_47 1 L S w = ab_wb Ls (Sm Ls d) (Ev Ls (Sm Ls d) q bk_47) q 2 b_47_1 L S w := propext ⟨fun h => Ev.unfold (ab_Sm_mono d) h, fun h => Ev.fold (ab_Sm_mono d) h⟩
theorem ev_47_2 {Ls d : Nat} {q : Option ab_V → ab_W → Prop} {L S : List ab_V} {w : ab_W} : Ev Ls (Sm Ls d) q bk_47 2 L S w = ab_wb Ls (Sm Ls d) (Ev Ls (Sm Ls d) q bk_47) q 3 b_47_2 L S w := propext ⟨fun h => Ev.unfold (ab_Sm_mono d) h, fun h => Ev.fold (ab_Sm_mono d) h⟩
theorem ev_47_3 {Ls d : Nat} {q : Option ab_V → ab_W → Prop} {L S : List ab_V} {w : ab_W} : Ev Ls (Sm Ls d) q bk_47 3 L S w = ab_wb Ls (Sm Ls d) (Ev Ls (Sm Ls d) q bk_47) q 4 b_47_3 L S w := propext ⟨fun h => Ev.unfold (ab_Sm_mono d) h, fun h => Ev.fold (ab_Sm_mono d) h⟩
theorem en_48 {Ls d : Nat} {a0 : Nat} {a1 : Int} {w : ab_W} {q : Option ab_V → ab_W → Prop} : Sm Ls (d + 1) 48 [vR a0, vI a1] w q = ab_wb Ls (Sm Ls d) (Ev Ls (Sm Ls d) q bk_48) q 1 b_48_0 [vR a0, vI a1, vX, vX, vX, vX] [] w := propext ⟨fun h => Ev.unfold (ab_Sm_mono d) h.2, fun h => ⟨Nat.le_of_ble_eq_true rfl, Ev.fold (ab_Sm_mono d) h⟩⟩
theorem ev_48_0 {Ls d : Nat} {q : Option ab_V → ab_W → Prop} {L S : List ab_V} {w : ab_W} : Ev Ls (Sm Ls d) q bk_48 0 L S w = ab_wb Ls (Sm Ls d) (Ev Ls (Sm Ls d) q bk_48) q 1 b_48_0 L S w := propext ⟨fun h => Ev.unfold (ab_Sm_mono d) h, fun h => Ev.fold (ab_Sm_mono d) h⟩
theorem ev_48_1 {Ls d : Nat} {q : Option ab_V → ab_W → Prop} {L S : List ab_V} {w : ab_W} : Ev Ls (Sm Ls d) q bk_48 1 L S w = ab_wb Ls (Sm Ls d) (Ev Ls (Sm Ls d) q bk_48) q 2 b_48_1 L S w := propext ⟨fun h => Ev.unfold (ab_Sm_mono d) h, fun h => Ev.fold (ab_Sm_mono d) h⟩
theorem ev_48_2 {Ls d : Nat} {q : Option ab_V → ab_W → Prop} {L S : List ab_V} {w : ab_W} : Ev Ls (Sm Ls d) q bk_48 2 L S w = ab_wb Ls (Sm Ls d) (Ev Ls (Sm Ls d) q bk_48) q 3 b_48_2 L S w := propext ⟨fun h => Ev.unfold (ab_Sm_mono d) h, fun h => Ev.fold (ab_Sm_mono d) h⟩
theorem ev_48_3 {Ls d : Nat} {q : Option ab_V → ab_W → Prop} {L S : List ab_V} {w : ab_W} : Ev Ls (Sm Ls d) q bk_48 3 L S w = ab_wb Ls (Sm Ls d) (Ev Ls (Sm Ls d) q bk_48) q 4 b_48_3 L S w := propext ⟨fun h => Ev.unfold (ab_Sm_mono d) h, fun h => Ev.fold (ab_Sm_mono d) h⟩
theorem ev_48_4 {Ls d : Nat} {q : Option ab_V → ab_W → Prop} {L S : List ab_V} {w : ab_W} : Ev Ls (Sm Ls d) q bk_48 4 L S w = ab_wb Ls (Sm Ls d) (Ev Ls (Sm Ls d) q bk_48) q 5 b_48_4 L S w := propext ⟨fun h => Ev.unfold (ab_Sm_mono d) h, fun h => Ev.fold (ab_Sm_mono d) h⟩
theorem ev_48_5 {Ls d : Nat} {q : Option ab_V → ab_W → Prop} {L S : List ab_V} {w : ab_W} : Ev Ls (Sm Ls d) q bk_48 5 L S w = ab_wb Ls (Sm Ls d) (Ev Ls (Sm Ls d) q bk_48) q 6 b_48_5 L S w := propext ⟨fun h => Ev.unfold (ab_Sm_mono d) h, fun h => Ev.fold (ab_Sm_mono d) h⟩
theorem ev_48_6 {Ls d : Nat} {q : Option ab_V → ab_W → Prop} {L S : List ab_V} {w : ab_W} : Ev Ls (Sm Ls d) q bk_48 6 L S w = ab_wb Ls (Sm Ls d) (Ev Ls (Sm Ls d) q bk_48) q 7 b_48_6 L S w := propext ⟨fun h => Ev.unfold (ab_Sm_mono d) h, fun h => Ev.fold (ab_Sm_mono d) h⟩
theorem en_49 {Ls d : Nat} {a0 : Nat} {a1 : Int} {w : ab_W} {q : Option ab_V → ab_W → Prop} : Sm Ls (d + 1) 49 [vR a0, vI a1] w q = ab_wb Ls (Sm Ls d) (Ev Ls (Sm Ls d) q bk_49) q 1 b_49_0 [vR a0, vI a1, vX, vX] [] w := propext ⟨fun h => Ev.unfold (ab_Sm_mono d) h.2, fun h => ⟨Nat.le_of_ble_eq_true rfl, Ev.fold (ab_Sm_mono d) h⟩⟩
theorem ev_49_0 {Ls d : Nat} {q : Option ab_V → ab_W → Prop} {L S : List ab_V} {w : ab_W} : Ev Ls (Sm Ls d) q bk_49 0 L S w = ab_wb Ls (Sm Ls d) (Ev Ls (Sm Ls d) q bk_49) q 1 b_49_0 L S w := propext ⟨fun h => Ev.unfold (ab_Sm_mono d) h, fun h => Ev.fold (ab_Sm_mono d) h⟩
theorem ev_49_1 {Ls d : Nat} {q : Option ab_V → ab_W → Prop} {L S : List ab_V} {w : ab_W} : Ev Ls (Sm Ls d) q bk_49 1 L S w = ab_wb Ls (Sm Ls d) (Ev Ls (Sm Ls d) q bk_49) q 2 b_49_1 L S w := propext ⟨fun h => Ev.unfold (ab_Sm_mono d) h, fun h => Ev.fold (ab_Sm_mono d) h⟩
theorem ev_49_2 {Ls d : Nat} {q : Option ab_V → ab_W → Prop} {L S : List ab_V} {w : ab_W} : Ev Ls (Sm Ls d) q bk_49 2 L S w = ab_wb Ls (Sm Ls d) (Ev Ls (Sm Ls d) q bk_49) q 3 b_49_2 L S w := propext ⟨fun h => Ev.unfold (ab_Sm_mono d) h, fun h => Ev.fold (ab_Sm_mono d) h⟩
theorem ev_49_3 {Ls d : Nat} {q : Option ab_V → ab_W → Prop} {L S : List ab_V} {w : ab_W} : Ev Ls (Sm Ls d) q bk_49 3 L S w = ab_wb Ls (Sm Ls d) (Ev Ls (Sm Ls d) q bk_49) q 4 b_49_3 L S w := propext ⟨fun h => Ev.unfold (ab_Sm_mono d) h, fun h => Ev.fold (ab_Sm_mono d) h⟩
theorem en_50 {Ls d : Nat} {a0 : Nat} {a1 : Int} {w : ab_W} {q : Option ab_V → ab_W → Prop} : Sm Ls (d + 1) 50 [vR a0, vI a1] w q = ab_wb Ls (Sm Ls d) (Ev Ls (Sm Ls d) q bk_50) q 1 b_50_0 [vR a0, vI a1] [] w := propext ⟨fun h => Ev.unfold (ab_Sm_mono d) h.2, fun h => ⟨Nat.le_of_ble_eq_true rfl, Ev.fold (ab_Sm_mono d) h⟩⟩
theorem ev_50_0 {Ls d : Nat} {q : Option ab_V → ab_W → Prop} {L S : List ab_V} {w : ab_W} : Ev Ls (Sm Ls d) q bk_50 0 L S w = ab_wb Ls (Sm Ls d) (Ev Ls (Sm Ls d) q bk_50) q 1 b_50_0 L S w := propext ⟨fun h => Ev.unfold (ab_Sm_mono d) h, fun h => Ev.fold (ab_Sm_mono d) h⟩
theorem ev_50_1 {Ls d : Nat} {q : Option ab_V → ab_W → Prop} {L S : List ab_V} {w : ab_W} : Ev Ls (Sm Ls d) q bk_50 1 L S w = ab_wb Ls (Sm Ls d) (Ev Ls (Sm Ls d) q bk_50) q 2 b_50_1 L S w := propext ⟨fun h => Ev.unfold (ab_Sm_mono d) h, fun h => Ev.fold (ab_Sm_mono d) h⟩
theorem ev_50_2 {Ls d : Nat} {q : Option ab_V → ab_W → Prop} {L S : List ab_V} {w : ab_W} : Ev Ls (Sm Ls d) q bk_50 2 L S w = ab_wb Ls (Sm Ls d) (Ev Ls (Sm Ls d) q bk_50) q 3 b_50_2 L S w := propext ⟨fun h => Ev.unfold (ab_Sm_mono d) h, fun h => Ev.fold (ab_Sm_mono d) h⟩
theorem en_51 {Ls d : Nat} {a0 : Nat} {a1 : Int} {a2 : Int} {w : ab_W} {q : Option ab_V → ab_W → Prop} : Sm Ls (d + 1) 51 [vR a0, vI a1, vI a2] w q = ab_wb Ls (Sm Ls d) (Ev Ls (Sm Ls d) q bk_51) q 1 b_51_0 [vR a0, vI a1, vI a2] [] w := propext ⟨fun h => Ev.unfold (ab_Sm_mono d) h.2, fun h => ⟨Nat.le_of_ble_eq_true rfl, Ev.fold (ab_Sm_mono d) h⟩⟩
theorem ev_51_0 {Ls d : Nat} {q : Option ab_V → ab_W → Prop} {L S : List ab_V} {w : ab_W} : Ev Ls (Sm Ls d) q bk_51 0 L S w = ab_wb Ls (Sm Ls d) (Ev Ls (Sm Ls d) q bk_51) q 1 b_51_0 L S w := propext ⟨fun h => Ev.unfold (ab_Sm_mono d) h, fun h => Ev.fold (ab_Sm_mono d) h⟩
theorem ev_51_1 {Ls d : Nat} {q : Option ab_V → ab_W → Prop} {L S : List ab_V} {w : ab_W} : Ev Ls (Sm Ls d) q bk_51 1 L S w = ab_wb Ls (Sm Ls d) (Ev Ls (Sm Ls d) q bk_51) q 2 b_51_1 L S w := propext ⟨fun h => Ev.unfold (ab_Sm_mono d) h, fun h => Ev.fold (ab_Sm_mono d) h⟩
theorem ev_51_2 {Ls d : Nat} {q : Option ab_V → ab_W → Prop} {L S : List ab_V} {w : ab_W} : Ev Ls (Sm Ls d) q bk_51 2 L S w = ab_wb Ls (Sm Ls d) (Ev Ls (Sm Ls d) q bk_51) q 3 b_51_2 L S w := propext ⟨fun h => Ev.unfold (ab_Sm_mono d) h, fun h => Ev.fold (ab_Sm_mono d) h⟩
theorem en_52 {Ls d : Nat} {a0 : Nat} {a1 : Int} {w : ab_W} {q : Option ab_V → ab_W → Prop} : Sm Ls (d + 1) 52 [vR a0, vI a1] w q = ab_wb Ls (Sm Ls d) (Ev Ls (Sm Ls d) q bk_52) q 1 b_52_0 [vR a0, vI a1, vX, vX, vX] [] w := propext ⟨fun h => Ev.unfold (ab_Sm_mono d) h.2, fun h => ⟨Nat.le_of_ble_eq_true rfl, Ev.fold (ab_Sm_mono d) h⟩⟩
theorem ev_52_0 {Ls d : Nat} {q : Option ab_V → ab_W → Prop} {L S : List ab_V} {w : ab_W} : Ev Ls (Sm Ls d) q bk_52 0 L S w = ab_wb Ls (Sm Ls d) (Ev Ls (Sm Ls d) q bk_52) q 1 b_52_0 L S w := propext ⟨fun h => Ev.unfold (ab_Sm_mono d) h, fun h => Ev.fold (ab_Sm_mono d) h⟩
theorem ev_52_1 {Ls d : Nat} {q : Option ab_V → ab_W → Prop} {L S : List ab_V} {w : ab_W} : Ev Ls (Sm Ls d) q bk_52 1 L S w = ab_wb Ls (Sm Ls d) (Ev Ls (Sm Ls d) q bk_52) q 2 b_52_1 L S w := propext ⟨fun h => Ev.unfold (ab_Sm_mono d) h, fun h => Ev.fold (ab_Sm_mono d) h⟩
theorem ev_52_2 {Ls d : Nat} {q : Option ab_V → ab_W → Prop} {L S : List ab_V} {w : ab_W} : Ev Ls (Sm Ls d) q bk_52 2 L S w = ab_wb Ls (Sm Ls d) (Ev Ls (Sm Ls d) q bk_52) q 3 b_52_2 L S w := propext ⟨fun h => Ev.unfold (ab_Sm_mono d) h, fun h => Ev.fold (ab_Sm_mono d) h⟩
theorem ev_52_3 {Ls d : Nat} {q : Option ab_V → ab_W → Prop} {L S : List ab_V} {w : ab_W} : Ev Ls (Sm Ls d) q bk_52 3 L S w = ab_wb Ls (Sm Ls d) (Ev Ls (Sm Ls d) q bk_52) q 4 b_52_3 L S w := propext ⟨fun h => Ev.unfold (ab_Sm_mono d) h, fun h => Ev.fold (ab_Sm_mono d) h⟩
theorem ev_52_4 {Ls d : Nat} {q : Option ab_V → ab_W → Prop} {L S : List ab_V} {w : ab_W} : Ev Ls (Sm Ls d) q bk_52 4 L S w = ab_wb Ls (Sm Ls d) (Ev Ls (Sm Ls d) q bk_52) q 5 b_52_4 L S w := propext ⟨fun h => Ev.unfold (ab_Sm_mono d) h, fun h => Ev.fold (ab_Sm_mono d) h⟩
theorem ev_52_5 {Ls d : Nat} {q : Option ab_V → ab_W → Prop} {L S : List ab_V} {w : ab_W} : Ev Ls (Sm Ls d) q bk_52 5 L S w = ab_wb Ls (Sm Ls d) (Ev Ls (Sm Ls d) q bk_52) q 6 b_52_5 L S w := propext ⟨fun h => Ev.unfold (ab_Sm_mono d) h, fun h => Ev.fold (ab_Sm_mono d) h⟩
theorem ev_52_6 {Ls d : Nat} {q : Option ab_V → ab_W → Prop} {L S : List ab_V} {w : ab_W} : Ev Ls (Sm Ls d) q bk_52 6 L S w = ab_wb Ls (Sm Ls d) (Ev Ls (Sm Ls d) q bk_52) q 7 b_52_6 L S w := propext ⟨fun h => Ev.unfold (ab_Sm_mono d) h, fun h => Ev.fold (ab_Sm_mono d) h⟩
theorem ev_52_7 {Ls d : Nat} {q : Option ab_V → ab_W → Prop} {L S : List ab_V} {w : ab_W} : Ev Ls (Sm Ls d) q bk_52 7 L S w = ab_wb Ls (Sm Ls d) (Ev Ls (Sm Ls d) q bk_52) q 8 b_52_7 L S w := propext ⟨fun h => Ev.unfold (ab_Sm_mono d) h, fun h => Ev.fold (ab_Sm_mono d) h⟩
theorem en_53 {Ls d : Nat} {a0 : Nat} {a1 : Int} {a2 : Int} {a3 : Int} {a4 : Int} {w : ab_W} {q : Option ab_V → ab_W → Prop} : Sm Ls (d + 1) 53 [vR a0, vI a1, vI a2, vI a3, vI a4] w q = ab_wb Ls (Sm Ls d) (Ev Ls (Sm Ls d) q bk_53) q 1 b_53_0 [vR a0, vI a1, vI a2, vI a3, vI a4, vX] [] w := propext ⟨fun h => Ev.unfold (ab_Sm_mono d) h.2, fun h => ⟨Nat.le_of_ble_eq_true rfl, Ev.fold (ab_Sm_mono d) h⟩⟩
theorem ev_53_0 {Ls d : Nat} {q : Option ab_V → ab_W → Prop} {L S : List ab_V} {w : ab_W} : Ev Ls (Sm Ls d) q bk_53 0 L S w = ab_wb Ls (Sm Ls d) (Ev Ls (Sm Ls d) q bk_53) q 1 b_53_0 L S w := propext ⟨fun h => Ev.unfold (ab_Sm_mono d) h, fun h => Ev.fold (ab_Sm_mono d) h⟩
theorem ev_53_1 {Ls d : Nat} {q : Option ab_V → ab_W → Prop} {L S : List ab_V} {w : ab_W} : Ev Ls (Sm Ls d) q bk_53 1 L S w = ab_wb Ls (Sm Ls d) (Ev Ls (Sm Ls d) q bk_53) q 2 b_53_1 L S w := propext ⟨fun h => Ev.unfold (ab_Sm_mono d) h, fun h => Ev.fold (ab_Sm_mono d) h⟩
theorem en_54 {Ls d : Nat} {a0 : Nat} {a1 : Int} {a2 : Int} {w : ab_W} {q : Option ab_V → ab_W → Prop} : Sm Ls (d + 1) 54 [vR a0, vI a1, vI a2] w q = ab_wb Ls (Sm Ls d) (Ev Ls (Sm Ls d) q bk_54) q 1 b_54_0 [vR a0, vI a1, vI a2, vX, vX, vX, vX] [] w := propext ⟨fun h => Ev.unfold (ab_Sm_mono d) h.2, fun h => ⟨Nat.le_of_ble_eq_true rfl, Ev.fold (ab_Sm_mono d) h⟩⟩
theorem ev_54_0 {Ls d : Nat} {q : Option ab_V → ab_W → Prop} {L S : List ab_V} {w : ab_W} : Ev Ls (Sm Ls d) q bk_54 0 L S w = ab_wb Ls (Sm Ls d) (Ev Ls (Sm Ls d) q bk_54) q 1 b_54_0 L S w := propext ⟨fun h => Ev.unfold (ab_Sm_mono d) h, fun h => Ev.fold (ab_Sm_mono d) h⟩
theorem ev_54_1 {Ls d : Nat} {q : Option ab_V → ab_W → Prop} {L S : List ab_V} {w : ab_W} : Ev Ls (Sm Ls d) q bk_54 1 L S w = ab_wb Ls (Sm Ls d) (Ev Ls (Sm Ls d) q bk_54) q 2 b_54_1 L S w := propext ⟨fun h => Ev.unfold (ab_Sm_mono d) h, fun h => Ev.fold (ab_Sm_mono d) h⟩
theorem ev_54_2 {Ls d : Nat} {q : Option ab_V → ab_W → Prop} {L S : List ab_V} {w : ab_W} : Ev Ls (Sm Ls d) q bk_54 2 L S w = ab_wb Ls (Sm Ls d) (Ev Ls (Sm Ls d) q bk_54) q 3 b_54_2 L S w := propext ⟨fun h => Ev.unfold (ab_Sm_mono d) h, fun h => Ev.fold (ab_Sm_mono d) h⟩
theorem ev_54_3 {Ls d : Nat} {q : Option ab_V → ab_W → Prop} {L S : List ab_V} {w : ab_W} : Ev Ls (Sm Ls d) q bk_54 3 L S w = ab_wb Ls (Sm Ls d) (Ev Ls (Sm Ls d) q bk_54) q 4 b_54_3 L S w := propext ⟨fun h => Ev.unfold (ab_Sm_mono d) h, fun h => Ev.fold (ab_Sm_mono d) h⟩
theorem ev_54_4 {Ls d : Nat} {q : Option ab_V → ab_W → Prop} {L S : List ab_V} {w : ab_W} : Ev Ls (Sm Ls d) q bk_54 4 L S w = ab_wb Ls (Sm Ls d) (Ev Ls (Sm Ls d) q bk_54) q 5 b_54_4 L S w := propext ⟨fun h => Ev.unfold (ab_Sm_mono d) h, fun h => Ev.fold (ab_Sm_mono d) h⟩
theorem ev_54_5 {Ls d : Nat} {q : Option ab_V → ab_W → Prop} {L S : List ab_V} {w : ab_W} : Ev Ls (Sm Ls d) q bk_54 5 L S w = ab_wb Ls (Sm Ls d) (Ev Ls (Sm Ls d) q bk_54) q 6 b_54_5 L S w := propext ⟨fun h => Ev.unfold (ab_Sm_mono d) h, fun h => Ev.fold (ab_Sm_mono d) h⟩
theorem ev_54_6 {Ls d : Nat} {q : Option ab_V → ab_W → Prop} {L S : List ab_V} {w : ab_W} : Ev Ls (Sm Ls d) q bk_54 6 L S w = ab_wb Ls (Sm Ls d) (Ev Ls (Sm Ls d) q bk_54) q 7 b_54_6 L S w := propext ⟨fun h => Ev.unfold (ab_Sm_mono d) h, fun h => Ev.fold (ab_Sm_mono d) h⟩
theorem ev_54_7 {Ls d : Nat} {q : Option ab_V → ab_W → Prop} {L S : List ab_V} {w : ab_W} : Ev Ls (Sm Ls d) q bk_54 7 L S w = ab_wb Ls (Sm Ls d) (Ev Ls (Sm Ls d) q bk_54) q 8 b_54_7 L S w := propext ⟨fun h => Ev.unfold (ab_Sm_mono d) h, fun h => Ev.fold (ab_Sm_mono d) h⟩
theorem en_55 {Ls d : Nat} {a0 : Int} {a1 : Int} {w : ab_W} {q : Option ab_V → ab_W → Prop} : Sm Ls (d + 1) 55 [vI a0, vI a1] w q = ab_wb Ls (Sm Ls d) (Ev Ls (Sm Ls d) q bk_55) q 1 b_55_0 [vI a0, vI a1] [] w := propext ⟨fun h => Ev.unfold (ab_Sm_mono d) h.2, fun h => ⟨Nat.le_of_ble_eq_true rfl, Ev.fold (ab_Sm_mono d) h⟩⟩
theorem ev_55_0 {Ls d : Nat} {q : Option ab_V → ab_W → Prop} {L S : List ab_V} {w : ab_W} : Ev Ls (Sm Ls d) q bk_55 0 L S w = ab_wb Ls (Sm Ls d) (Ev Ls (Sm Ls d) q bk_55) q 1 b_55_0 L S w := propext ⟨fun h => Ev.unfold (ab_Sm_mono d) h, fun h => Ev.fold (ab_Sm_mono d) h⟩
theorem ev_55_1 {Ls d : Nat} {q : Option ab_V → ab_W → Prop} {L S : List ab_V} {w : ab_W} : Ev Ls (Sm Ls d) q bk_55 1 L S w = ab_wb Ls (Sm Ls d) (Ev Ls (Sm Ls d) q bk_55) q 2 b_55_1 L S w := propext ⟨fun h => Ev.unfold (ab_Sm_mono d) h, fun h => Ev.fold (ab_Sm_mono d) h⟩
theorem ev_55_2 {Ls d : Nat} {q : Option ab_V → ab_W → Prop} {L S : List ab_V} {w : ab_W} : Ev Ls (Sm Ls d) q bk_55 2 L S w = ab_wb Ls (Sm Ls d) (Ev Ls (Sm Ls d) q bk_55) q 3 b_55_2 L S w := propext ⟨fun h => Ev.unfold (ab_Sm_mono d) h, fun h => Ev.fold (ab_Sm_mono d) h⟩
theorem ev_55_3 {Ls d : Nat} {q : Option ab_V → ab_W → Prop} {L S : List ab_V} {w : ab_W} : Ev Ls (Sm Ls d) q bk_55 3 L S w = ab_wb Ls (Sm Ls d) (Ev Ls (Sm Ls d) q bk_55) q 4 b_55_3 L S w := propext ⟨fun h => Ev.unfold (ab_Sm_mono d) h, fun h => Ev.fold (ab_Sm_mono d) h⟩
theorem en_56 {Ls d : Nat} {a0 : Nat} {a1 : Int} {w : ab_W} {q : Option ab_V → ab_W → Prop} : Sm Ls (d + 1) 56 [vR a0, vI a1] w q = ab_wb Ls (Sm Ls d) (Ev Ls (Sm Ls d) q bk_56) q 1 b_56_0 [vR a0, vI a1, vX] [] w := propext ⟨fun h => Ev.unfold (ab_Sm_mono d) h.2, fun h => ⟨Nat.le_of_ble_eq_true rfl, Ev.fold (ab_Sm_mono d) h⟩⟩
theorem ev_56_0 {Ls d : Nat} {q : Option ab_V → ab_W → Prop} {L S : List ab_V} {w : ab_W} : Ev Ls (Sm Ls d) q bk_56 0 L S w = ab_wb Ls (Sm Ls d) (Ev Ls (Sm Ls d) q bk_56) q 1 b_56_0 L S w := propext ⟨fun h => Ev.unfold (ab_Sm_mono d) h, fun h => Ev.fold (ab_Sm_mono d) h⟩
theorem ev_56_1 {Ls d : Nat} {q : Option ab_V → ab_W → Prop} {L S : List ab_V} {w : ab_W} : Ev Ls (Sm Ls d) q bk_56 1 L S w = ab_wb Ls (Sm Ls d) (Ev Ls (Sm Ls d) q bk_56) q 2 b_56_1 L S w := propext ⟨fun h => Ev.unfold (ab_Sm_mono d) h, fun h => Ev.fold (ab_Sm_mono d) h⟩
theorem ev_56_2 {Ls d : Nat} {q : Option ab_V → ab_W → Prop} {L S : List ab_V} {w : ab_W} : Ev Ls (Sm Ls d) q bk_56 2 L S w = ab_wb Ls (Sm Ls d) (Ev Ls (Sm Ls d) q bk_56) q 3 b_56_2 L S w := propext ⟨fun h => Ev.unfold (ab_Sm_mono d) h, fun h => Ev.fold (ab_Sm_mono d) h⟩
theorem ev_56_3 {Ls d : Nat} {q : Option ab_V → ab_W → Prop} {L S : List ab_V} {w : ab_W} : Ev Ls (Sm Ls d) q bk_56 3 L S w = ab_wb Ls (Sm Ls d) (Ev Ls (Sm Ls d) q bk_56) q 4 b_56_3 L S w := propext ⟨fun h => Ev.unfold (ab_Sm_mono d) h, fun h => Ev.fold (ab_Sm_mono d) h⟩
theorem ev_56_4 {Ls d : Nat} {q : Option ab_V → ab_W → Prop} {L S : List ab_V} {w : ab_W} : Ev Ls (Sm Ls d) q bk_56 4 L S w = ab_wb Ls (Sm Ls d) (Ev Ls (Sm Ls d) q bk_56) q 5 b_56_4 L S w := propext ⟨fun h => Ev.unfold (ab_Sm_mono d) h, fun h => Ev.fold (ab_Sm_mono d) h⟩
theorem en_57 {Ls d : Nat} {a0 : Nat} {a1 : Int} {w : ab_W} {q : Option ab_V → ab_W → Prop} : Sm Ls (d + 1) 57 [vR a0, vI a1] w q = ab_wb Ls (Sm Ls d) (Ev Ls (Sm Ls d) q bk_57) q 1 b_57_0 [vR a0, vI a1, vX, vX, vX] [] w := propext ⟨fun h => Ev.unfold (ab_Sm_mono d) h.2, fun h => ⟨Nat.le_of_ble_eq_true rfl, Ev.fold (ab_Sm_mono d) h⟩⟩
theorem ev_57_0 {Ls d : Nat} {q : Option ab_V → ab_W → Prop} {L S : List ab_V} {w : ab_W} : Ev Ls (Sm Ls d) q bk_57 0 L S w = ab_wb Ls (Sm Ls d) (Ev Ls (Sm Ls d) q bk_57) q 1 b_57_0 L S w := propext ⟨fun h => Ev.unfold (ab_Sm_mono d) h, fun h => Ev.fold (ab_Sm_mono d) h⟩
theorem ev_57_1 {Ls d : Nat} {q : Option ab_V → ab_W → Prop} {L S : List ab_V} {w : ab_W} : Ev Ls (Sm Ls d) q bk_57 1 L S w = ab_wb Ls (Sm Ls d) (Ev Ls (Sm Ls d) q bk_57) q 2 b_57_1 L S w := propext ⟨fun h => Ev.unfold (ab_Sm_mono d) h, fun h => Ev.fold (ab_Sm_mono d) h⟩
theorem ev_57_2 {Ls d : Nat} {q : Option ab_V → ab_W → Prop} {L S : List ab_V} {w : ab_W} : Ev Ls (Sm Ls d) q bk_57 2 L S w = ab_wb Ls (Sm Ls d) (Ev Ls (Sm Ls d) q bk_57) q 3 b_57_2 L S w := propext ⟨fun h => Ev.unfold (ab_Sm_mono d) h, fun h => Ev.fold (ab_Sm_mono d) h⟩
theorem ev_57_3 {Ls d : Nat} {q : Option ab_V → ab_W → Prop} {L S : List ab_V} {w : ab_W} : Ev Ls (Sm Ls d) q bk_57 3 L S w = ab_wb Ls (Sm Ls d) (Ev Ls (Sm Ls d) q bk_57) q 4 b_57_3 L S w := propext ⟨fun h => Ev.unfold (ab_Sm_mono d) h, fun h => Ev.fold (ab_Sm_mono d) h⟩
theorem ev_57_4 {Ls d : Nat} {q : Option ab_V → ab_W → Prop} {L S : List ab_V} {w : ab_W} : Ev Ls (Sm Ls d) q bk_57 4 L S w = ab_wb Ls (Sm Ls d) (Ev Ls (Sm Ls d) q bk_57) q 5 b_57_4 L S w := propext ⟨fun h => Ev.unfold (ab_Sm_mono d) h, fun h => Ev.fold (ab_Sm_mono d) h⟩
theorem ev_57_5 {Ls d : Nat} {q : Option ab_V → ab_W → Prop} {L S : List ab_V} {w : ab_W} : Ev Ls (Sm Ls d) q bk_57 5 L S w = ab_wb Ls (Sm Ls d) (Ev Ls (Sm Ls d) q bk_57) q 6 b_57_5 L S w := propext ⟨fun h => Ev.unfold (ab_Sm_mono d) h, fun h => Ev.fold (ab_Sm_mono d) h⟩
theorem ev_57_6 {Ls d : Nat} {q : Option ab_V → ab_W → Prop} {L S : List ab_V} {w : ab_W} : Ev Ls (Sm Ls d) q bk_57 6 L S w = ab_wb Ls (Sm Ls d) (Ev Ls (Sm Ls d) q bk_57) q 7 b_57_6 L S w := propext ⟨fun h => Ev.unfold (ab_Sm_mono d) h, fun h => Ev.fold (ab_Sm_mono d) h⟩
theorem ev_57_7 {Ls d : Nat} {q : Option ab_V → ab_W → Prop} {L S : List ab_V} {w : ab_W} : Ev Ls (Sm Ls d) q bk_57 7 L S w = ab_wb Ls (Sm Ls d) (Ev Ls (Sm Ls d) q bk_57) q 8 b_57_7 L S w := propext ⟨fun h => Ev.unfold (ab_Sm_mono d) h, fun h => Ev.fold (ab_Sm_mono d) h⟩
theorem ev_57_8 {Ls d : Nat} {q : Option ab_V → ab_W → Prop} {L S : List ab_V} {w : ab_W} : Ev Ls (Sm Ls d) q bk_57 8 L S w = ab_wb Ls (Sm Ls d) (Ev Ls (Sm Ls d) q bk_57) q 9 b_57_8 L S w := propext ⟨fun h => Ev.unfold (ab_Sm_mono d) h, fun h => Ev.fold (ab_Sm_mono d) h⟩
theorem ev_57_9 {Ls d : Nat} {q : Option ab_V → ab_W → Prop} {L S : List ab_V} {w : ab_W} : Ev Ls (Sm Ls d) q bk_57 9 L S w = ab_wb Ls (Sm Ls d) (Ev Ls (Sm Ls d) q bk_57) q 10 b_57_9 L S w := propext ⟨fun h => Ev.unfold (ab_Sm_mono d) h, fun h => Ev.fold (ab_Sm_mono d) h⟩
theorem ev_57_10 {Ls d : Nat} {q : Option ab_V → ab_W → Prop} {L S : List ab_V} {w : ab_W} : Ev Ls (Sm Ls d) q bk_57 10 L S w = ab_wb Ls (Sm Ls d) (Ev Ls (Sm Ls d) q bk_57) q 11 b_57_10 L S w := propext ⟨fun h => Ev.unfold (ab_Sm_mono d) h, fun h => Ev.fold (ab_Sm_mono d) h⟩
theorem ev_57_11 {Ls d : Nat} {q : Option ab_V → ab_W → Prop} {L S : List ab_V} {w : ab_W} : Ev Ls (Sm Ls d) q bk_57 11 L S w = ab_wb Ls (Sm Ls d) (Ev Ls (Sm Ls d) q bk_57) q 12 b_57_11 L S w := propext ⟨fun h => Ev.unfold (ab_Sm_mono d) h, fun h => Ev.fold (ab_Sm_mono d) h⟩
theorem ev_57_12 {Ls d : Nat} {q : Option ab_V → ab_W → Prop} {L S : List ab_V} {w : ab_W} : Ev Ls (Sm Ls d) q bk_57 12 L S w = ab_wb Ls (Sm Ls d) (Ev Ls (Sm Ls d) q bk_57) q 13 b_57_12 L S w := propext ⟨fun h => Ev.unfold (ab_Sm_mono d) h, fun h => Ev.fold (ab_Sm_mono d) h⟩
theorem ev_57_13 {Ls d : Nat} {q : Option ab_V → ab_W → Prop} {L S : List ab_V} {w : ab_W} : Ev Ls (Sm Ls d) q bk_57 13 L S w = ab_wb Ls (Sm Ls d) (Ev Ls (Sm Ls d) q bk_57) q 14 b_57_13 L S w := propext ⟨fun h => Ev.unfold (ab_Sm_mono d) h, fun h => Ev.fold (ab_Sm_mono d) h⟩
theorem en_58 {Ls d : Nat} {a0 : Int} {a1 : Int} {a2 : Int} {a3 : Int} {w : ab_W} {q : Option ab_V → ab_W → Prop} : Sm Ls (d + 1) 58 [vI a0, vI a1, vI a2, vI a3] w q = ab_wb Ls (Sm Ls d) (Ev Ls (Sm Ls d) q bk_58) q 1 b_58_0 [vI a0, vI a1, vI a2, vI a3] [] w := propext ⟨fun h => Ev.unfold (ab_Sm_mono d) h.2, fun h => ⟨Nat.le_of_ble_eq_true rfl, Ev.fold (ab_Sm_mono d) h⟩⟩
theorem ev_58_0 {Ls d : Nat} {q : Option ab_V → ab_W → Prop} {L S : List ab_V} {w : ab_W} : Ev Ls (Sm Ls d) q bk_58 0 L S w = ab_wb Ls (Sm Ls d) (Ev Ls (Sm Ls d) q bk_58) q 1 b_58_0 L S w := propext ⟨fun h => Ev.unfold (ab_Sm_mono d) h, fun h => Ev.fold (ab_Sm_mono d) h⟩
theorem ev_58_1 {Ls d : Nat} {q : Option ab_V → ab_W → Prop} {L S : List ab_V} {w : ab_W} : Ev Ls (Sm Ls d) q bk_58 1 L S w = ab_wb Ls (Sm Ls d) (Ev Ls (Sm Ls d) q bk_58) q 2 b_58_1 L S w := propext ⟨fun h => Ev.unfold (ab_Sm_mono d) h, fun h => Ev.fold (ab_Sm_mono d) h⟩
theorem ev_58_2 {Ls d : Nat} {q : Option ab_V → ab_W → Prop} {L S : List ab_V} {w : ab_W} : Ev Ls (Sm Ls d) q bk_58 2 L S w = ab_wb Ls (Sm Ls d) (Ev Ls (Sm Ls d) q bk_58) q 3 b_58_2 L S w := propext ⟨fun h => Ev.unfold (ab_Sm_mono d) h, fun h => Ev.fold (ab_Sm_mono d) h⟩
theorem ev_58_3 {Ls d : Nat} {q : Option ab_V → ab_W → Prop} {L S : List ab_V} {w : ab_W} : Ev Ls (Sm Ls d) q bk_58 3 L S w = ab_wb Ls (Sm Ls d) (Ev Ls (Sm Ls d) q bk_58) q 4 b_58_3 L S w := propext ⟨fun h => Ev.unfold (ab_Sm_mono d) h, fun h => Ev.fold (ab_Sm_mono d) h⟩
theorem en_59 {Ls d : Nat} {a0 : Nat} {w : ab_W} {q : Option ab_V → ab_W → Prop} : Sm Ls (d + 1) 59 [vR a0] w q = ab_wb Ls (Sm Ls d) (Ev Ls (Sm Ls d) q bk_59) q 1 b_59_0 [vR a0] [] w := propext ⟨fun h => Ev.unfold (ab_Sm_mono d) h.2, fun h => ⟨Nat.le_of_ble_eq_true rfl, Ev.fold (ab_Sm_mono d) h⟩⟩
theorem ev_59_0 {Ls d : Nat} {q : Option ab_V → ab_W → Prop} {L S : List ab_V} {w : ab_W} : Ev Ls (Sm Ls d) q bk_59 0 L S w = ab_wb Ls (Sm Ls d) (Ev Ls (Sm Ls d) q bk_59) q 1 b_59_0 L S w := propext ⟨fun h => Ev.unfold (ab_Sm_mono d) h, fun h => Ev.fold (ab_Sm_mono d) h⟩
theorem ev_59_1 {Ls d : Nat} {q : Option ab_V → ab_W → Prop} {L S : List ab_V} {w : ab_W} : Ev Ls (Sm Ls d) q bk_59 1 L S w = ab_wb Ls (Sm Ls d) (Ev Ls (Sm Ls d) q bk_59) q 2 b_59_1 L S w := propext ⟨fun h => Ev.unfold (ab_Sm_mono d) h, fun h => Ev.fold (ab_Sm_mono d) h⟩
theorem en_60 {Ls d : Nat} {a0 : Nat} {a1 : Int} {w : ab_W} {q : Option ab_V → ab_W → Prop} : Sm Ls (d + 1) 60 [vR a0, vI a1] w q = ab_wb Ls (Sm Ls d) (Ev Ls (Sm Ls d) q bk_60) q 1 b_60_0 [vR a0, vI a1, vX, vX, vX, vX] [] w := propext ⟨fun h => Ev.unfold (ab_Sm_mono d) h.2, fun h => ⟨Nat.le_of_ble_eq_true rfl, Ev.fold (ab_Sm_mono d) h⟩⟩
theorem ev_60_0 {Ls d : Nat} {q : Option ab_V → ab_W → Prop} {L S : List ab_V} {w : ab_W} : Ev Ls (Sm Ls d) q bk_60 0 L S w = ab_wb Ls (Sm Ls d) (Ev Ls (Sm Ls d) q bk_60) q 1 b_60_0 L S w := propext ⟨fun h => Ev.unfold (ab_Sm_mono d) h, fun h => Ev.fold (ab_Sm_mono d) h⟩
theorem ev_60_1 {Ls d : Nat} {q : Option ab_V → ab_W → Prop} {L S : List ab_V} {w : ab_W} : Ev Ls (Sm Ls d) q bk_60 1 L S w = ab_wb Ls (Sm Ls d) (Ev Ls (Sm Ls d) q bk_60) q 2 b_60_1 L S w := propext ⟨fun h => Ev.unfold (ab_Sm_mono d) h, fun h => Ev.fold (ab_Sm_mono d) h⟩
theorem ev_60_2 {Ls d : Nat} {q : Option ab_V → ab_W → Prop} {L S : List ab_V} {w : ab_W} : Ev Ls (Sm Ls d) q bk_60 2 L S w = ab_wb Ls (Sm Ls d) (Ev Ls (Sm Ls d) q bk_60) q 3 b_60_2 L S w := propext ⟨fun h => Ev.unfold (ab_Sm_mono d) h, fun h => Ev.fold (ab_Sm_mono d) h⟩
theorem ev_60_3 {Ls d : Nat} {q : Option ab_V → ab_W → Prop} {L S : List ab_V} {w : ab_W} : Ev Ls (Sm Ls d) q bk_60 3 L S w = ab_wb Ls (Sm Ls d) (Ev Ls (Sm Ls d) q bk_60) q 4 b_60_3 L S w := propext ⟨fun h => Ev.unfold (ab_Sm_mono d) h, fun h => Ev.fold (ab_Sm_mono d) h⟩
theorem en_61 {Ls d : Nat} {a0 : Nat} {a1 : Int} {a2 : Int} {w : ab_W} {q : Option ab_V → ab_W → Prop} : Sm Ls (d + 1) 61 [vR a0, vI a1, vI a2] w q = ab_wb Ls (Sm Ls d) (Ev Ls (Sm Ls d) q bk_61) q 1 b_61_0 [vR a0, vI a1, vI a2, vX, vX] [] w := propext ⟨fun h => Ev.unfold (ab_Sm_mono d) h.2, fun h => ⟨Nat.le_of_ble_eq_true rfl, Ev.fold (ab_Sm_mono d) h⟩⟩
theorem ev_61_0 {Ls d : Nat} {q : Option ab_V → ab_W → Prop} {L S : List ab_V} {w : ab_W} : Ev Ls (Sm Ls d) q bk_61 0 L S w = ab_wb Ls (Sm Ls d) (Ev Ls (Sm Ls d) q bk_61) q 1 b_61_0 L S w := propext ⟨fun h => Ev.unfold (ab_Sm_mono d) h, fun h => Ev.fold (ab_Sm_mono d) h⟩
theorem ev_61_1 {Ls d : Nat} {q : Option ab_V → ab_W → Prop} {L S : List ab_V} {w : ab_W} : Ev Ls (Sm Ls d) q bk_61 1 L S w = ab_wb Ls (Sm Ls d) (Ev Ls (Sm Ls d) q bk_61) q 2 b_61_1 L S w := propext ⟨fun h => Ev.unfold (ab_Sm_mono d) h, fun h => Ev.fold (ab_Sm_mono d) h⟩
theorem en_62 {Ls d : Nat} {a0 : Nat} {a1 : Int} {w : ab_W} {q : Option ab_V → ab_W → Prop} : Sm Ls (d + 1) 62 [vR a0, vI a1] w q = ab_wb Ls (Sm Ls d) (Ev Ls (Sm Ls d) q bk_62) q 1 b_62_0 [vR a0, vI a1, vX, vX] [] w := propext ⟨fun h => Ev.unfold (ab_Sm_mono d) h.2, fun h => ⟨Nat.le_of_ble_eq_true rfl, Ev.fold (ab_Sm_mono d) h⟩⟩
theorem ev_62_0 {Ls d : Nat} {q : Option ab_V → ab_W → Prop} {L S : List ab_V} {w : ab_W} : Ev Ls (Sm Ls d) q bk_62 0 L S w = ab_wb Ls (Sm Ls d) (Ev Ls (Sm Ls d) q bk_62) q 1 b_62_0 L S w := propext ⟨fun h => Ev.unfold (ab_Sm_mono d) h, fun h => Ev.fold (ab_Sm_mono d) h⟩
theorem ev_62_1 {Ls d : Nat} {q : Option ab_V → ab_W → Prop} {L S : List ab_V} {w : ab_W} : Ev Ls (Sm Ls d) q bk_62 1 L S w = ab_wb Ls (Sm Ls d) (Ev Ls (Sm Ls d) q bk_62) q 2 b_62_1 L S w := propext ⟨fun h => Ev.unfold (ab_Sm_mono d) h, fun h => Ev.fold (ab_Sm_mono d) h⟩
theorem ev_62_2 {Ls d : Nat} {q : Option ab_V → ab_W → Prop} {L S : List ab_V} {w : ab_W} : Ev Ls (Sm Ls d) q bk_62 2 L S w = ab_wb Ls (Sm Ls d) (Ev Ls (Sm Ls d) q bk_62) q 3 b_62_2 L S w := propext ⟨fun h => Ev.unfold (ab_Sm_mono d) h, fun h => Ev.fold (ab_Sm_mono d) h⟩
theorem ev_62_3 {Ls d : Nat} {q : Option ab_V → ab_W → Prop} {L S : List ab_V} {w : ab_W} : Ev Ls (Sm Ls d) q bk_62 3 L S w = ab_wb Ls (Sm Ls d) (Ev Ls (Sm Ls d) q bk_62) q 4 b_62_3 L S w := propext ⟨fun h => Ev.unfold (ab_Sm_mono d) h, fun h => Ev.fold (ab_Sm_mono d) h⟩
theorem ev_62_4 {Ls d : Nat} {q : Option ab_V → ab_W → Prop} {L S : List ab_V} {w : ab_W} : Ev Ls (Sm Ls d) q bk_62 4 L S w = ab_wb Ls (Sm Ls d) (Ev Ls (Sm Ls d) q bk_62) q 5 b_62_4 L S w := propext ⟨fun h => Ev.unfold (ab_Sm_mono d) h, fun h => Ev.fold (ab_Sm_mono d) h⟩
theorem en_63 {Ls d : Nat} {a0 : Nat} {a1 : Int} {a2 : Int} {a3 : Int} {w : ab_W} {q : Option ab_V → ab_W → Prop} : Sm Ls (d + 1) 63 [vR a0, vI a1, vI a2, vI a3] w q = ab_wb Ls (Sm Ls d) (Ev Ls (Sm Ls d) q bk_63) q 1 b_63_0 [vR a0, vI a1, vI a2, vI a3] [] w := propext ⟨fun h => Ev.unfold (ab_Sm_mono d) h.2, fun h => ⟨Nat.le_of_ble_eq_true rfl, Ev.fold (ab_Sm_mono d) h⟩⟩
theorem ev_63_0 {Ls d : Nat} {q : Option ab_V → ab_W → Prop} {L S : List ab_V} {w : ab_W} : Ev Ls (Sm Ls d) q bk_63 0 L S w = ab_wb Ls (Sm Ls d) (Ev Ls (Sm Ls d) q bk_63) q 1 b_63_0 L S w := propext ⟨fun h => Ev.unfold (ab_Sm_mono d) h, fun h => Ev.fold (ab_Sm_mono d) h⟩
theorem ev_63_1 {Ls d : Nat} {q : Option ab_V → ab_W → Prop} {L S : List ab_V} {w : ab_W} : Ev Ls (Sm Ls d) q bk_63 1 L S w = ab_wb Ls (Sm Ls d) (Ev Ls (Sm Ls d) q bk_63) q 2 b_63_1 L S w := propext ⟨fun h => Ev.unfold (ab_Sm_mono d) h, fun h => Ev.fold (ab_Sm_mono d) h⟩
theorem ev_63_2 {Ls d : Nat} {q : Option ab_V → ab_W → Prop} {L S : List ab_V} {w : ab_W} : Ev Ls (Sm Ls d) q bk_63 2 L S w = ab_wb Ls (Sm Ls d) (Ev Ls (Sm Ls d) q bk_63) q 3 b_63_2 L S w := propext ⟨fun h => Ev.unfold (ab_Sm_mono d) h, fun h => Ev.fold (ab_Sm_mono d) h⟩
theorem ev_63_3 {Ls d : Nat} {q : Option ab_V → ab_W → Prop} {L S : List ab_V} {w : ab_W} : Ev Ls (Sm Ls d) q bk_63 3 L S w = ab_wb Ls (Sm Ls d) (Ev Ls (Sm Ls d) q bk_63) q 4 b_63_3 L S w := propext ⟨fun h => Ev.unfold (ab_Sm_mono d) h, fun h => Ev.fold (ab_Sm_mono d) h⟩
theorem en_64 {Ls d : Nat} {a0 : Nat} {w : ab_W} {q : Option ab_V → ab_W → Prop} : Sm Ls (d + 1) 64 [vR a0] w q = ab_wb Ls (Sm Ls d) (Ev Ls (Sm Ls d) q bk_64) q 1 b_64_0 [vR a0, vX] [] w := propext ⟨fun h => Ev.unfold (ab_Sm_mono d) h.2, fun h => ⟨Nat.le_of_ble_eq_true rfl, Ev.fold (ab_Sm_mono d) h⟩⟩
theorem ev_64_0 {Ls d : Nat} {q : Option ab_V → ab_W → Prop} {L S : List ab_V} {w : ab_W} : Ev Ls (Sm Ls d) q bk_64 0 L S w = ab_wb Ls (Sm Ls d) (Ev Ls (Sm Ls d) q bk_64) q 1 b_64_0 L S w := propext ⟨fun h => Ev.unfold (ab_Sm_mono d) h, fun h => Ev.fold (ab_Sm_mono d) h⟩
theorem en_65 {Ls d : Nat} {a0 : Nat} {w : ab_W} {q : Option ab_V → ab_W → Prop} : Sm Ls (d + 1) 65 [vR a0] w q = ab_wb Ls (Sm Ls d) (Ev Ls (Sm Ls d) q bk_65) q 1 b_65_0 [vR a0, vX, vX] [] w := propext ⟨fun h => Ev.unfold (ab_Sm_mono d) h.2, fun h => ⟨Nat.le_of_ble_eq_true rfl, Ev.fold (ab_Sm_mono d) h⟩⟩
theorem ev_65_0 {Ls d : Nat} {q : Option ab_V → ab_W → Prop} {L S : List ab_V} {w : ab_W} : Ev Ls (Sm Ls d) q bk_65 0 L S w = ab_wb Ls (Sm Ls d) (Ev Ls (Sm Ls d) q bk_65) q 1 b_65_0 L S w := propext ⟨fun h => Ev.unfold (ab_Sm_mono d) h, fun h => Ev.fold (ab_Sm_mono d) h⟩
theorem ev_65_1 {Ls d : Nat} {q : Option ab_V → ab_W → Prop} {L S : List ab_V} {w : ab_W} : Ev Ls (Sm Ls d) q bk_65 1 L S w = ab_wb Ls (Sm Ls d) (Ev Ls (Sm Ls d) q bk_65) q 2 b_65_1 L S w := propext ⟨fun h => Ev.unfold (ab_Sm_mono d) h, fun h => Ev.fold (ab_Sm_mono d) h⟩
theorem ev_65_2 {Ls d : Nat} {q : Option ab_V → ab_W → Prop} {L S : List ab_V} {w : ab_W} : Ev Ls (Sm Ls d) q bk_65 2 L S w = ab_wb Ls (Sm Ls d) (Ev Ls (Sm Ls d) q bk_65) q 3 b_65_2 L S w := propext ⟨fun h => Ev.unfold (ab_Sm_mono d) h, fun h => Ev.fold (ab_Sm_mono d) h⟩
theorem ev_65_3 {Ls d : Nat} {q : Option ab_V → ab_W → Prop} {L S : List ab_V} {w : ab_W} : Ev Ls (Sm Ls d) q bk_65 3 L S w = ab_wb Ls (Sm Ls d) (Ev Ls (Sm Ls d) q bk_65) q 4 b_65_3 L S w := propext ⟨fun h => Ev.unfold (ab_Sm_mono d) h, fun h => Ev.fold (ab_Sm_mono d) h⟩
theorem en_66 {Ls d : Nat} {a0 : Nat} {a1 : Int} {a2 : Int} {a3 : Int} {w : ab_W} {q : Option ab_V → ab_W → Prop} : Sm Ls (d + 1) 66 [vR a0, vI a1, vI a2, vI a3] w q = ab_wb Ls (Sm Ls d) (Ev Ls (Sm Ls d) q bk_66) q 1 b_66_0 [vR a0, vI a1, vI a2, vI a3] [] w := propext ⟨fun h => Ev.unfold (ab_Sm_mono d) h.2, fun h => ⟨Nat.le_of_ble_eq_true rfl, Ev.fold (ab_Sm_mono d) h⟩⟩
theorem ev_66_0 {Ls d : Nat} {q : Option ab_V → ab_W → Prop} {L S : List ab_V} {w : ab_W} : Ev Ls (Sm Ls d) q bk_66 0 L S w = ab_wb Ls (Sm Ls d) (Ev Ls (Sm Ls d) q bk_66) q 1 b_66_0 L S w := propext ⟨fun h => Ev.unfold (ab_Sm_mono d) h, fun h => Ev.fold (ab_Sm_mono d) h⟩
theorem ev_66_1 {Ls d : Nat} {q : Option ab_V → ab_W → Prop} {L S : List ab_V} {w : ab_W} : Ev Ls (Sm Ls d) q bk_66 1 L S w = ab_wb Ls (Sm Ls d) (Ev Ls (Sm Ls d) q bk_66) q 2 b_66_1 L S w := propext ⟨fun h => Ev.unfold (ab_Sm_mono d) h, fun h => Ev.fold (ab_Sm_mono d) h⟩
theorem ev_66_2 {Ls d : Nat} {q : Option ab_V → ab_W → Prop} {L S : List ab_V} {w : ab_W} : Ev Ls (Sm Ls d) q bk_66 2 L S w = ab_wb Ls (Sm Ls d) (Ev Ls (Sm Ls d) q bk_66) q 3 b_66_2 L S w := propext ⟨fun h => Ev.unfold (ab_Sm_mono d) h, fun h => Ev.fold (ab_Sm_mono d) h⟩
theorem ev_66_3 {Ls d : Nat} {q : Option ab_V → ab_W → Prop} {L S : List ab_V} {w : ab_W} : Ev Ls (Sm Ls d) q bk_66 3 L S w = ab_wb Ls (Sm Ls d) (Ev Ls (Sm Ls d) q bk_66) q 4 b_66_3 L S w := propext ⟨fun h => Ev.unfold (ab_Sm_mono d) h, fun h => Ev.fold (ab_Sm_mono d) h⟩
theorem ev_66_4 {Ls d : Nat} {q : Option ab_V → ab_W → Prop} {L S : List ab_V} {w : ab_W} : Ev Ls (Sm Ls d) q bk_66 4 L S w = ab_wb Ls (Sm Ls d) (Ev Ls (Sm Ls d) q bk_66) q 5 b_66_4 L S w := propext ⟨fun h => Ev.unfold (ab_Sm_mono d) h, fun h => Ev.fold (ab_Sm_mono d) h⟩
theorem en_67 {Ls d : Nat} {a0 : Nat} {a1 : Int} {a2 : Int} {w : ab_W} {q : Option ab_V → ab_W → Prop} : Sm Ls (d + 1) 67 [vR a0, vI a1, vI a2] w q = ab_wb Ls (Sm Ls d) (Ev Ls (Sm Ls d) q bk_67) q 1 b_67_0 [vR a0, vI a1, vI a2, vX, vX] [] w := propext ⟨fun h => Ev.unfold (ab_Sm_mono d) h.2, fun h => ⟨Nat.le_of_ble_eq_true rfl, Ev.fold (ab_Sm_mono d) h⟩⟩
theorem ev_67_0 {Ls d : Nat} {q : Option ab_V → ab_W → Prop} {L S : List ab_V} {w : ab_W} : Ev Ls (Sm Ls d) q bk_67 0 L S w = ab_wb Ls (Sm Ls d) (Ev Ls (Sm Ls d) q bk_67) q 1 b_67_0 L S w := propext ⟨fun h => Ev.unfold (ab_Sm_mono d) h, fun h => Ev.fold (ab_Sm_mono d) h⟩
theorem ev_67_1 {Ls d : Nat} {q : Option ab_V → ab_W → Prop} {L S : List ab_V} {w : ab_W} : Ev Ls (Sm Ls d) q bk_67 1 L S w = ab_wb Ls (Sm Ls d) (Ev Ls (Sm Ls d) q bk_67) q 2 b_67_1 L S w := propext ⟨fun h => Ev.unfold (ab_Sm_mono d) h, fun h => Ev.fold (ab_Sm_mono d) h⟩
theorem ev_67_2 {Ls d : Nat} {q : Option ab_V → ab_W → Prop} {L S : List ab_V} {w : ab_W} : Ev Ls (Sm Ls d) q bk_67 2 L S w = ab_wb Ls (Sm Ls d) (Ev Ls (Sm Ls d) q bk_67) q 3 b_67_2 L S w := propext ⟨fun h => Ev.unfold (ab_Sm_mono d) h, fun h => Ev.fold (ab_Sm_mono d) h⟩
theorem ev_67_3 {Ls d : Nat} {q : Option ab_V → ab_W → Prop} {L S : List ab_V} {w : ab_W} : Ev Ls (Sm Ls d) q bk_67 3 L S w = ab_wb Ls (Sm Ls d) (Ev Ls (Sm Ls d) q bk_67) q 4 b_67_3 L S w := propext ⟨fun h => Ev.unfold (ab_Sm_mono d) h, fun h => Ev.fold (ab_Sm_mono d) h⟩
theorem en_68 {Ls d : Nat} {a0 : Nat} {a1 : Int} {a2 : Int} {w : ab_W} {q : Option ab_V → ab_W → Prop} : Sm Ls (d + 1) 68 [vR a0, vI a1, vI a2] w q = ab_wb Ls (Sm Ls d) (Ev Ls (Sm Ls d) q bk_68) q 1 b_68_0 [vR a0, vI a1, vI a2, vX, vX] [] w := propext ⟨fun h => Ev.unfold (ab_Sm_mono d) h.2, fun h => ⟨Nat.le_of_ble_eq_true rfl, Ev.fold (ab_Sm_mono d) h⟩⟩
theorem ev_68_0 {Ls d : Nat} {q : Option ab_V → ab_W → Prop} {L S : List ab_V} {w : ab_W} : Ev Ls (Sm Ls d) q bk_68 0 L S w = ab_wb Ls (Sm Ls d) (Ev Ls (Sm Ls d) q bk_68) q 1 b_68_0 L S w := propext ⟨fun h => Ev.unfold (ab_Sm_mono d) h, fun h => Ev.fold (ab_Sm_mono d) h⟩
theorem ev_68_1 {Ls d : Nat} {q : Option ab_V → ab_W → Prop} {L S : List ab_V} {w : ab_W} : Ev Ls (Sm Ls d) q bk_68 1 L S w = ab_wb Ls (Sm Ls d) (Ev Ls (Sm Ls d) q bk_68) q 2 b_68_1 L S w := propext ⟨fun h => Ev.unfold (ab_Sm_mono d) h, fun h => Ev.fold (ab_Sm_mono d) h⟩
theorem ev_68_2 {Ls d : Nat} {q : Option ab_V → ab_W → Prop} {L S : List ab_V} {w : ab_W} : Ev Ls (Sm Ls d) q bk_68 2 L S w = ab_wb Ls (Sm Ls d) (Ev Ls (Sm Ls d) q bk_68) q 3 b_68_2 L S w := propext ⟨fun h => Ev.unfold (ab_Sm_mono d) h, fun h => Ev.fold (ab_Sm_mono d) h⟩
theorem ev_68_3 {Ls d : Nat} {q : Option ab_V → ab_W → Prop} {L S : List ab_V} {w : ab_W} : Ev Ls (Sm Ls d) q bk_68 3 L S w = ab_wb Ls (Sm Ls d) (Ev Ls (Sm Ls d) q bk_68) q 4 b_68_3 L S w := propext ⟨fun h => Ev.unfold (ab_Sm_mono d) h, fun h => Ev.fold (ab_Sm_mono d) h⟩
theorem en_69 {Ls d : Nat} {a0 : Nat} {a1 : Int} {a2 : Int} {w : ab_W} {q : Option ab_V → ab_W → Prop} : Sm Ls (d + 1) 69 [vR a0, vI a1, vI a2] w q = ab_wb Ls (Sm Ls d) (Ev Ls (Sm Ls d) q bk_69) q 1 b_69_0 [vR a0, vI a1, vI a2, vX, vX] [] w := propext ⟨fun h => Ev.unfold (ab_Sm_mono d) h.2, fun h => ⟨Nat.le_of_ble_eq_true rfl, Ev.fold (ab_Sm_mono d) h⟩⟩
theorem ev_69_0 {Ls d : Nat} {q : Option ab_V → ab_W → Prop} {L S : List ab_V} {w : ab_W} : Ev Ls (Sm Ls d) q bk_69 0 L S w = ab_wb Ls (Sm Ls d) (Ev Ls (Sm Ls d) q bk_69) q 1 b_69_0 L S w := propext ⟨fun h => Ev.unfold (ab_Sm_mono d) h, fun h => Ev.fold (ab_Sm_mono d) h⟩
theorem ev_69_1 {Ls d : Nat} {q : Option ab_V → ab_W → Prop} {L S : List ab_V} {w : ab_W} : Ev Ls (Sm Ls d) q bk_69 1 L S w = ab_wb Ls (Sm Ls d) (Ev Ls (Sm Ls d) q bk_69) q 2 b_69_1 L S w := propext ⟨fun h => Ev.unfold (ab_Sm_mono d) h, fun h => Ev.fold (ab_Sm_mono d) h⟩
theorem ev_69_2 {Ls d : Nat} {q : Option ab_V → ab_W → Prop} {L S : List ab_V} {w : ab_W} : Ev Ls (Sm Ls d) q bk_69 2 L S w = ab_wb Ls (Sm Ls d) (Ev Ls (Sm Ls d) q bk_69) q 3 b_69_2 L S w := propext ⟨fun h => Ev.unfold (ab_Sm_mono d) h, fun h => Ev.fold (ab_Sm_mono d) h⟩
theorem ev_69_3 {Ls d : Nat} {q : Option ab_V → ab_W → Prop} {L S : List ab_V} {w : ab_W} : Ev Ls (Sm Ls d) q bk_69 3 L S w = ab_wb Ls (Sm Ls d) (Ev Ls (Sm Ls d) q bk_69) q 4 b_69_3 L S w := propext ⟨fun h => Ev.unfold (ab_Sm_mono d) h, fun h => Ev.fold (ab_Sm_mono d) h⟩
theorem ev_69_4 {Ls d : Nat} {q : Option ab_V → ab_W → Prop} {L S : List ab_V} {w : ab_W} : Ev Ls (Sm Ls d) q bk_69 4 L S w = ab_wb Ls (Sm Ls d) (Ev Ls (Sm Ls d) q bk_69) q 5 b_69_4 L S w := propext ⟨fun h => Ev.unfold (ab_Sm_mono d) h, fun h => Ev.fold (ab_Sm_mono d) h⟩
theorem ev_69_5 {Ls d : Nat} {q : Option ab_V → ab_W → Prop} {L S : List ab_V} {w : ab_W} : Ev Ls (Sm Ls d) q bk_69 5 L S w = ab_wb Ls (Sm Ls d) (Ev Ls (Sm Ls d) q bk_69) q 6 b_69_5 L S w := propext ⟨fun h => Ev.unfold (ab_Sm_mono d) h, fun h => Ev.fold (ab_Sm_mono d) h⟩
theorem ev_69_6 {Ls d : Nat} {q : Option ab_V → ab_W → Prop} {L S : List ab_V} {w : ab_W} : Ev Ls (Sm Ls d) q bk_69 6 L S w = ab_wb Ls (Sm Ls d) (Ev Ls (Sm Ls d) q bk_69) q 7 b_69_6 L S w := propext ⟨fun h => Ev.unfold (ab_Sm_mono d) h, fun h => Ev.fold (ab_Sm_mono d) h⟩
theorem ev_69_7 {Ls d : Nat} {q : Option ab_V → ab_W → Prop} {L S : List ab_V} {w : ab_W} : Ev Ls (Sm Ls d) q bk_69 7 L S w = ab_wb Ls (Sm Ls d) (Ev Ls (Sm Ls d) q bk_69) q 8 b_69_7 L S w := propext ⟨fun h => Ev.unfold (ab_Sm_mono d) h, fun h => Ev.fold (ab_Sm_mono d) h⟩
theorem ev_69_8 {Ls d : Nat} {q : Option ab_V → ab_W → Prop} {L S : List ab_V} {w : ab_W} : Ev Ls (Sm Ls d) q bk_69 8 L S w = ab_wb Ls (Sm Ls d) (Ev Ls (Sm Ls d) q bk_69) q 9 b_69_8 L S w := propext ⟨fun h => Ev.unfold (ab_Sm_mono d) h, fun h => Ev.fold (ab_Sm_mono d) h⟩
theorem en_70 {Ls d : Nat} {a0 : Nat} {a1 : Int} {w : ab_W} {q : Option ab_V → ab_W → Prop} : Sm Ls (d + 1) 70 [vR a0, vI a1] w q = ab_wb Ls (Sm Ls d) (Ev Ls (Sm Ls d) q bk_70) q 1 b_70_0 [vR a0, vI a1, vX] [] w := propext ⟨fun h => Ev.unfold (ab_Sm_mono d) h.2, fun h => ⟨Nat.le_of_ble_eq_true rfl, Ev.fold (ab_Sm_mono d) h⟩⟩
theorem ev_70_0 {Ls d : Nat} {q : Option ab_V → ab_W → Prop} {L S : List ab_V} {w : ab_W} : Ev Ls (Sm Ls d) q bk_70 0 L S w = ab_wb Ls (Sm Ls d) (Ev Ls (Sm Ls d) q bk_70) q 1 b_70_0 L S w := propext ⟨fun h => Ev.unfold (ab_Sm_mono d) h, fun h => Ev.fold (ab_Sm_mono d) h⟩
theorem ev_70_1 {Ls d : Nat} {q : Option ab_V → ab_W → Prop} {L S : List ab_V} {w : ab_W} : Ev Ls (Sm Ls d) q bk_70 1 L S w = ab_wb Ls (Sm Ls d) (Ev Ls (Sm Ls d) q bk_70) q 2 b_70_1 L S w := propext ⟨fun h => Ev.unfold (ab_Sm_mono d) h, fun h => Ev.fold (ab_Sm_mono d) h⟩
theorem ev_70_2 {Ls d : Nat} {q : Option ab_V → ab_W → Prop} {L S : List ab_V} {w : ab_W} : Ev Ls (Sm Ls d) q bk_70 2 L S w = ab_wb Ls (Sm Ls d) (Ev Ls (Sm Ls d) q bk_70) q 3 b_70_2 L S w := propext ⟨fun h => Ev.unfold (ab_Sm_mono d) h, fun h => Ev.fold (ab_Sm_mono d) h⟩
theorem en_71 {Ls d : Nat} {a0 : Nat} {a1 : Int} {w : ab_W} {q : Option ab_V → ab_W → Prop} : Sm Ls (d + 1) 71 [vR a0, vI a1] w q = ab_wb Ls (Sm Ls d) (Ev Ls (Sm Ls d) q bk_71) q 1 b_71_0 [vR a0, vI a1, vX, vX] [] w := propext ⟨fun h => Ev.unfold (ab_Sm_mono d) h.2, fun h => ⟨Nat.le_of_ble_eq_true rfl, Ev.fold (ab_Sm_mono d) h⟩⟩
theorem ev_71_0 {Ls d : Nat} {q : Option ab_V → ab_W → Prop} {L S : List ab_V} {w : ab_W} : Ev Ls (Sm Ls d) q bk_71 0 L S w = ab_wb Ls (Sm Ls d) (Ev Ls (Sm Ls d) q bk_71) q 1 b_71_0 L S w := propext ⟨fun h => Ev.unfold (ab_Sm_mono d) h, fun h => Ev.fold (ab_Sm_mono d) h⟩
theorem ev_71_1 {Ls d : Nat} {q : Option ab_V → ab_W → Prop} {L S : List ab_V} {w : ab_W} : Ev Ls (Sm Ls d) q bk_71 1 L S w = ab_wb Ls (Sm Ls d) (Ev Ls (Sm Ls d) q bk_71) q 2 b_71_1 L S w := propext ⟨fun h => Ev.unfold (ab_Sm_mono d) h, fun h => Ev.fold (ab_Sm_mono d) h⟩
theorem ev_71_2 {Ls d : Nat} {q : Option ab_V → ab_W → Prop} {L S : List ab_V} {w : ab_W} : Ev Ls (Sm Ls d) q bk_71 2 L S w = ab_wb Ls (Sm Ls d) (Ev Ls (Sm Ls d) q bk_71) q 3 b_71_2 L S w := propext ⟨fun h => Ev.unfold (ab_Sm_mono d) h, fun h => Ev.fold (ab_Sm_mono d) h⟩
theorem en_72 {Ls d : Nat} {a0 : Nat} {a1 : Int} {a2 : Int} {a3 : Int} {w : ab_W} {q : Option ab_V → ab_W → Prop} : Sm Ls (d + 1) 72 [vR a0, vI a1, vI a2, vI a3] w q = ab_wb Ls (Sm Ls d) (Ev Ls (Sm Ls d) q bk_72) q 1 b_72_0 [vR a0, vI a1, vI a2, vI a3, vX, vX, vX] [] w := propext ⟨fun h => Ev.unfold (ab_Sm_mono d) h.2, fun h => ⟨Nat.le_of_ble_eq_true rfl, Ev.fold (ab_Sm_mono d) h⟩⟩
theorem ev_72_0 {Ls d : Nat} {q : Option ab_V → ab_W → Prop} {L S : List ab_V} {w : ab_W} : Ev Ls (Sm Ls d) q bk_72 0 L S w = ab_wb Ls (Sm Ls d) (Ev Ls (Sm Ls d) q bk_72) q 1 b_72_0 L S w := propext ⟨fun h => Ev.unfold (ab_Sm_mono d) h, fun h => Ev.fold (ab_Sm_mono d) h⟩
theorem ev_72_1 {Ls d : Nat} {q : Option ab_V → ab_W → Prop} {L S : List ab_V} {w : ab_W} : Ev Ls (Sm Ls d) q bk_72 1 L S w = ab_wb Ls (Sm Ls d) (Ev Ls (Sm Ls d) q bk_72) q 2 b_72_1 L S w := propext ⟨fun h => Ev.unfold (ab_Sm_mono d) h, fun h => Ev.fold (ab_Sm_mono d) h⟩
theorem ev_72_2 {Ls d : Nat} {q : Option ab_V → ab_W → Prop} {L S : List ab_V} {w : ab_W} : Ev Ls (Sm Ls d) q bk_72 2 L S w = ab_wb Ls (Sm Ls d) (Ev Ls (Sm Ls d) q bk_72) q 3 b_72_2 L S w := propext ⟨fun h => Ev.unfold (ab_Sm_mono d) h, fun h => Ev.fold (ab_Sm_mono d) h⟩
theorem ev_72_3 {Ls d : Nat} {q : Option ab_V → ab_W → Prop} {L S : List ab_V} {w : ab_W} : Ev Ls (Sm Ls d) q bk_72 3 L S w = ab_wb Ls (Sm Ls d) (Ev Ls (Sm Ls d) q bk_72) q 4 b_72_3 L S w := propext ⟨fun h => Ev.unfold (ab_Sm_mono d) h, fun h => Ev.fold (ab_Sm_mono d) h⟩
theorem ev_72_4 {Ls d : Nat} {q : Option ab_V → ab_W → Prop} {L S : List ab_V} {w : ab_W} : Ev Ls (Sm Ls d) q bk_72 4 L S w = ab_wb Ls (Sm Ls d) (Ev Ls (Sm Ls d) q bk_72) q 5 b_72_4 L S w := propext ⟨fun h => Ev.unfold (ab_Sm_mono d) h, fun h => Ev.fold (ab_Sm_mono d) h⟩
theorem ev_72_5 {Ls d : Nat} {q : Option ab_V → ab_W → Prop} {L S : List ab_V} {w : ab_W} : Ev Ls (Sm Ls d) q bk_72 5 L S w = ab_wb Ls (Sm Ls d) (Ev Ls (Sm Ls d) q bk_72) q 6 b_72_5 L S w := propext ⟨fun h => Ev.unfold (ab_Sm_mono d) h, fun h => Ev.fold (ab_Sm_mono d) h⟩
theorem ev_72_6 {Ls d : Nat} {q : Option ab_V → ab_W → Prop} {L S : List ab_V} {w : ab_W} : Ev Ls (Sm Ls d) q bk_72 6 L S w = ab_wb Ls (Sm Ls d) (Ev Ls (Sm Ls d) q bk_72) q 7 b_72_6 L S w := propext ⟨fun h => Ev.unfold (ab_Sm_mono d) h, fun h => Ev.fold (ab_Sm_mono d) h⟩
theorem ev_72_7 {Ls d : Nat} {q : Option ab_V → ab_W → Prop} {L S : List ab_V} {w : ab_W} : Ev Ls (Sm Ls d) q bk_72 7 L S w = ab_wb Ls (Sm Ls d) (Ev Ls (Sm Ls d) q bk_72) q 8 b_72_7 L S w := propext ⟨fun h => Ev.unfold (ab_Sm_mono d) h, fun h => Ev.fold (ab_Sm_mono d) h⟩
theorem ev_72_8 {Ls d : Nat} {q : Option ab_V → ab_W → Prop} {L S : List ab_V} {w : ab_W} : Ev Ls (Sm Ls d) q bk_72 8 L S w = ab_wb Ls (Sm Ls d) (Ev Ls (Sm Ls d) q bk_72) q 9 b_72_8 L S w := propext ⟨fun h => Ev.unfold (ab_Sm_mono d) h, fun h => Ev.fold (ab_Sm_mono d) h⟩
theorem ev_72_9 {Ls d : Nat} {q : Option ab_V → ab_W → Prop} {L S : List ab_V} {w : ab_W} : Ev Ls (Sm Ls d) q bk_72 9 L S w = ab_wb Ls (Sm Ls d) (Ev Ls (Sm Ls d) q bk_72) q 10 b_72_9 L S w := propext ⟨fun h => Ev.unfold (ab_Sm_mono d) h, fun h => Ev.fold (ab_Sm_mono d) h⟩
theorem ev_72_10 {Ls d : Nat} {q : Option ab_V → ab_W → Prop} {L S : List ab_V} {w : ab_W} : Ev Ls (Sm Ls d) q bk_72 10 L S w = ab_wb Ls (Sm Ls d) (Ev Ls (Sm Ls d) q bk_72) q 11 b_72_10 L S w := propext ⟨fun h => Ev.unfold (ab_Sm_mono d) h, fun h => Ev.fold (ab_Sm_mono d) h⟩
theorem en_73 {Ls d : Nat} {a0 : Nat} {a1 : Int} {w : ab_W} {q : Option ab_V → ab_W → Prop} : Sm Ls (d + 1) 73 [vR a0, vL a1] w q = ab_wb Ls (Sm Ls d) (Ev Ls (Sm Ls d) q bk_73) q 1 b_73_0 [vR a0, vL a1, vX, vX] [] w := propext ⟨fun h => Ev.unfold (ab_Sm_mono d) h.2, fun h => ⟨Nat.le_of_ble_eq_true rfl, Ev.fold (ab_Sm_mono d) h⟩⟩
theorem ev_73_0 {Ls d : Nat} {q : Option ab_V → ab_W → Prop} {L S : List ab_V} {w : ab_W} : Ev Ls (Sm Ls d) q bk_73 0 L S w = ab_wb Ls (Sm Ls d) (Ev Ls (Sm Ls d) q bk_73) q 1 b_73_0 L S w := propext ⟨fun h => Ev.unfold (ab_Sm_mono d) h, fun h => Ev.fold (ab_Sm_mono d) h⟩
theorem ev_73_1 {Ls d : Nat} {q : Option ab_V → ab_W → Prop} {L S : List ab_V} {w : ab_W} : Ev Ls (Sm Ls d) q bk_73 1 L S w = ab_wb Ls (Sm Ls d) (Ev Ls (Sm Ls d) q bk_73) q 2 b_73_1 L S w := propext ⟨fun h => Ev.unfold (ab_Sm_mono d) h, fun h => Ev.fold (ab_Sm_mono d) h⟩
theorem ev_73_2 {Ls d : Nat} {q : Option ab_V → ab_W → Prop} {L S : List ab_V} {w : ab_W} : Ev Ls (Sm Ls d) q bk_73 2 L S w = ab_wb Ls (Sm Ls d) (Ev Ls (Sm Ls d) q bk_73) q 3 b_73_2 L S w := propext ⟨fun h => Ev.unfold (ab_Sm_mono d) h, fun h => Ev.fold (ab_Sm_mono d) h⟩
theorem en_74 {Ls d : Nat} {a0 : Nat} {a1 : Int} {a2 : Int} {w : ab_W} {q : Option ab_V → ab_W → Prop} : Sm Ls (d + 1) 74 [vR a0, vI a1, vI a2] w q = ab_wb Ls (Sm Ls d) (Ev Ls (Sm Ls d) q bk_74) q 1 b_74_0 [vR a0, vI a1, vI a2, vX, vX, vX] [] w := propext ⟨fun h => Ev.unfold (ab_Sm_mono d) h.2, fun h => ⟨Nat.le_of_ble_eq_true rfl, Ev.fold (ab_Sm_mono d) h⟩⟩
theorem ev_74_0 {Ls d : Nat} {q : Option ab_V → ab_W → Prop} {L S : List ab_V} {w : ab_W} : Ev Ls (Sm Ls d) q bk_74 0 L S w = ab_wb Ls (Sm Ls d) (Ev Ls (Sm Ls d) q bk_74) q 1 b_74_0 L S w := propext ⟨fun h => Ev.unfold (ab_Sm_mono d) h, fun h => Ev.fold (ab_Sm_mono d) h⟩
theorem ev_74_1 {Ls d : Nat} {q : Option ab_V → ab_W → Prop} {L S : List ab_V} {w : ab_W} : Ev Ls (Sm Ls d) q bk_74 1 L S w = ab_wb Ls (Sm Ls d) (Ev Ls (Sm Ls d) q bk_74) q 2 b_74_1 L S w := propext ⟨fun h => Ev.unfold (ab_Sm_mono d) h, fun h => Ev.fold (ab_Sm_mono d) h⟩
theorem ev_74_2 {Ls d : Nat} {q : Option ab_V → ab_W → Prop} {L S : List ab_V} {w : ab_W} : Ev Ls (Sm Ls d) q bk_74 2 L S w = ab_wb Ls (Sm Ls d) (Ev Ls (Sm Ls d) q bk_74) q 3 b_74_2 L S w := propext ⟨fun h => Ev.unfold (ab_Sm_mono d) h, fun h => Ev.fold (ab_Sm_mono d) h⟩
theorem ev_74_3 {Ls d : Nat} {q : Option ab_V → ab_W → Prop} {L S : List ab_V} {w : ab_W} : Ev Ls (Sm Ls d) q bk_74 3 L S w = ab_wb Ls (Sm Ls d) (Ev Ls (Sm Ls d) q bk_74) q 4 b_74_3 L S w := propext ⟨fun h => Ev.unfold (ab_Sm_mono d) h, fun h => Ev.fold (ab_Sm_mono d) h⟩
theorem ev_74_4 {Ls d : Nat} {q : Option ab_V → ab_W → Prop} {L S : List ab_V} {w : ab_W} : Ev Ls (Sm Ls d) q bk_74 4 L S w = ab_wb Ls (Sm Ls d) (Ev Ls (Sm Ls d) q bk_74) q 5 b_74_4 L S w := propext ⟨fun h => Ev.unfold (ab_Sm_mono d) h, fun h => Ev.fold (ab_Sm_mono d) h⟩
theorem en_75 {Ls d : Nat} {a0 : Nat} {a1 : Int} {a2 : Int} {a3 : Int} {w : ab_W} {q : Option ab_V → ab_W → Prop} : Sm Ls (d + 1) 75 [vR a0, vI a1, vI a2, vI a3] w q = ab_wb Ls (Sm Ls d) (Ev Ls (Sm Ls d) q bk_75) q 1 b_75_0 [vR a0, vI a1, vI a2, vI a3] [] w := propext ⟨fun h => Ev.unfold (ab_Sm_mono d) h.2, fun h => ⟨Nat.le_of_ble_eq_true rfl, Ev.fold (ab_Sm_mono d) h⟩⟩
theorem ev_75_0 {Ls d : Nat} {q : Option ab_V → ab_W → Prop} {L S : List ab_V} {w : ab_W} : Ev Ls (Sm Ls d) q bk_75 0 L S w = ab_wb Ls (Sm Ls d) (Ev Ls (Sm Ls d) q bk_75) q 1 b_75_0 L S w := propext ⟨fun h => Ev.unfold (ab_Sm_mono d) h, fun h => Ev.fold (ab_Sm_mono d) h⟩
theorem ev_75_1 {Ls d : Nat} {q : Option ab_V → ab_W → Prop} {L S : List ab_V} {w : ab_W} : Ev Ls (Sm Ls d) q bk_75 1 L S w = ab_wb Ls (Sm Ls d) (Ev Ls (Sm Ls d) q bk_75) q 2 b_75_1 L S w := propext ⟨fun h => Ev.unfold (ab_Sm_mono d) h, fun h => Ev.fold (ab_Sm_mono d) h⟩
theorem ev_75_2 {Ls d : Nat} {q : Option ab_V → ab_W → Prop} {L S : List ab_V} {w : ab_W} : Ev Ls (Sm Ls d) q bk_75 2 L S w = ab_wb Ls (Sm Ls d) (Ev Ls (Sm Ls d) q bk_75) q 3 b_75_2 L S w := propext ⟨fun h => Ev.unfold (ab_Sm_mono d) h, fun h => Ev.fold (ab_Sm_mono d) h⟩
theorem en_76 {Ls d : Nat} {a0 : Nat} {a1 : Int} {a2 : Int} {w : ab_W} {q : Option ab_V → ab_W → Prop} : Sm Ls (d + 1) 76 [vR a0, vI a1, vI a2] w q = ab_wb Ls (Sm Ls d) (Ev Ls (Sm Ls d) q bk_76) q 1 b_76_0 [vR a0, vI a1, vI a2, vX, vX, vX, vX] [] w := propext ⟨fun h => Ev.unfold (ab_Sm_mono d) h.2, fun h => ⟨Nat.le_of_ble_eq_true rfl, Ev.fold (ab_Sm_mono d) h⟩⟩
theorem ev_76_0 {Ls d : Nat} {q : Option ab_V → ab_W → Prop} {L S : List ab_V} {w : ab_W} : Ev Ls (Sm Ls d) q bk_76 0 L S w = ab_wb Ls (Sm Ls d) (Ev Ls (Sm Ls d) q bk_76) q 1 b_76_0 L S w := propext ⟨fun h => Ev.unfold (ab_Sm_mono d) h, fun h => Ev.fold (ab_Sm_mono d) h⟩
theorem ev_76_1 {Ls d : Nat} {q : Option ab_V → ab_W → Prop} {L S : List ab_V} {w : ab_W} : Ev Ls (Sm Ls d) q bk_76 1 L S w = ab_wb Ls (Sm Ls d) (Ev Ls (Sm Ls d) q bk_76) q 2 b_76_1 L S w := propext ⟨fun h => Ev.unfold (ab_Sm_mono d) h, fun h => Ev.fold (ab_Sm_mono d) h⟩
theorem ev_76_2 {Ls d : Nat} {q : Option ab_V → ab_W → Prop} {L S : List ab_V} {w : ab_W} : Ev Ls (Sm Ls d) q bk_76 2 L S w = ab_wb Ls (Sm Ls d) (Ev Ls (Sm Ls d) q bk_76) q 3 b_76_2 L S w := propext ⟨fun h => Ev.unfold (ab_Sm_mono d) h, fun h => Ev.fold (ab_Sm_mono d) h⟩
theorem en_77 {Ls d : Nat} {a0 : Int} {w : ab_W} {q : Option ab_V → ab_W → Prop} : Sm Ls (d + 1) 77 [vI a0] w q = ab_wb Ls (Sm Ls d) (Ev Ls (Sm Ls d) q bk_77) q 1 b_77_0 [vI a0] [] w := propext ⟨fun h => Ev.unfold (ab_Sm_mono d) h.2, fun h => ⟨Nat.le_of_ble_eq_true rfl, Ev.fold (ab_Sm_mono d) h⟩⟩
theorem ev_77_0 {Ls d : Nat} {q : Option ab_V → ab_W → Prop} {L S : List ab_V} {w : ab_W} : Ev Ls (Sm Ls d) q bk_77 0 L S w = ab_wb Ls (Sm Ls d) (Ev Ls (Sm Ls d) q bk_77) q 1 b_77_0 L S w := propext ⟨fun h => Ev.unfold (ab_Sm_mono d) h, fun h => Ev.fold (ab_Sm_mono d) h⟩
theorem en_78 {Ls d : Nat} {a0 : Nat} {a1 : Int} {a2 : Int} {a3 : Int} {w : ab_W} {q : Option ab_V → ab_W → Prop} : Sm Ls (d + 1) 78 [vR a0, vI a1, vI a2, vI a3] w q = ab_wb Ls (Sm Ls d) (Ev Ls (Sm Ls d) q bk_78) q 1 b_78_0 [vR a0, vI a1, vI a2, vI a3] [] w := propext ⟨fun h => Ev.unfold (ab_Sm_mono d) h.2, fun h => ⟨Nat.le_of_ble_eq_true rfl, Ev.fold (ab_Sm_mono d) h⟩⟩
theorem ev_78_0 {Ls d : Nat} {q : Option ab_V → ab_W → Prop} {L S : List ab_V} {w : ab_W} : Ev Ls (Sm Ls d) q bk_78 0 L S w = ab_wb Ls (Sm Ls d) (Ev Ls (Sm Ls d) q bk_78) q 1 b_78_0 L S w := propext ⟨fun h => Ev.unfold (ab_Sm_mono d) h, fun h => Ev.fold (ab_Sm_mono d) h⟩
theorem ev_78_1 {Ls d : Nat} {q : Option ab_V → ab_W → Prop} {L S : List ab_V} {w : ab_W} : Ev Ls (Sm Ls d) q bk_78 1 L S w = ab_wb Ls (Sm Ls d) (Ev Ls (Sm Ls d) q bk_78) q 2 b_78_1 L S w := propext ⟨fun h => Ev.unfold (ab_Sm_mono d) h, fun h => Ev.fold (ab_Sm_mono d) h⟩
theorem ev_78_2 {Ls d : Nat} {q : Option ab_V → ab_W → Prop} {L S : List ab_V} {w : ab_W} : Ev Ls (Sm Ls d) q bk_78 2 L S w = ab_wb Ls (Sm Ls d) (Ev Ls (Sm Ls d) q bk_78) q 3 b_78_2 L S w := propext ⟨fun h => Ev.unfold (ab_Sm_mono d) h, fun h => Ev.fold (ab_Sm_mono d) h⟩
theorem ev_78_3 {Ls d : Nat} {q : Option ab_V → ab_W → Prop} {L S : List ab_V} {w : ab_W} : Ev Ls (Sm Ls d) q bk_78 3 L S w = ab_wb Ls (Sm Ls d) (Ev Ls (Sm Ls d) q bk_78) q 4 b_78_3 L S w := propext ⟨fun h => Ev.unfold (ab_Sm_mono d) h, fun h => Ev.fold (ab_Sm_mono d) h⟩
theorem en_79 {Ls d : Nat} {a0 : Nat} {a1 : Int} {w : ab_W} {q : Option ab_V → ab_W → Prop} : Sm Ls (d + 1) 79 [vR a0, vI a1] w q = ab_wb Ls (Sm Ls d) (Ev Ls (Sm Ls d) q bk_79) q 1 b_79_0 [vR a0, vI a1] [] w := propext ⟨fun h => Ev.unfold (ab_Sm_mono d) h.2, fun h => ⟨Nat.le_of_ble_eq_true rfl, Ev.fold (ab_Sm_mono d) h⟩⟩
theorem ev_79_0 {Ls d : Nat} {q : Option ab_V → ab_W → Prop} {L S : List ab_V} {w : ab_W} : Ev Ls (Sm Ls d) q bk_79 0 L S w = ab_wb Ls (Sm Ls d) (Ev Ls (Sm Ls d) q bk_79) q 1 b_79_0 L S w := propext ⟨fun h => Ev.unfold (ab_Sm_mono d) h, fun h => Ev.fold (ab_Sm_mono d) h⟩
theorem ev_79_1 {Ls d : Nat} {q : Option ab_V → ab_W → Prop} {L S : List ab_V} {w : ab_W} : Ev Ls (Sm Ls d) q bk_79 1 L S w = ab_wb Ls (Sm Ls d) (Ev Ls (Sm Ls d) q bk_79) q 2 b_79_1 L S w := propext ⟨fun h => Ev.unfold (ab_Sm_mono d) h, fun h => Ev.fold (ab_Sm_mono d) h⟩
theorem ev_79_2 {Ls d : Nat} {q : Option ab_V → ab_W → Prop} {L S : List ab_V} {w : ab_W} : Ev Ls (Sm Ls d) q bk_79 2 L S w = ab_wb Ls (Sm Ls d) (Ev Ls (Sm Ls d) q bk_79) q 3 b_79_2 L S w := propext ⟨fun h => Ev.unfold (ab_Sm_mono d) h, fun h => Ev.fold (ab_Sm_mono d) h⟩
theorem en_80 {Ls d : Nat} {a0 : Nat} {a1 : Int} {a2 : Int} {a3 : Int} {a4 : Int} {w : ab_W} {q : Option ab_V → ab_W → Prop} : Sm Ls (d + 1) 80 [vR a0, vI a1, vI a2, vI a3, vI a4] w q = ab_wb Ls (Sm Ls d) (Ev Ls (Sm Ls d) q bk_80) q 1 b_80_0 [vR a0, vI a1, vI a2, vI a3, vI a4, vX] [] w := propext ⟨fun h => Ev.unfold (ab_Sm_mono d) h.2, fun h => ⟨Nat.le_of_ble_eq_true rfl, Ev.fold (ab_Sm_mono d) h⟩⟩
theorem ev_80_0 {Ls d : Nat} {q : Option ab_V → ab_W → Prop} {L S : List ab_V} {w : ab_W} : Ev Ls (Sm Ls d) q bk_80 0 L S w = ab_wb Ls (Sm Ls d) (Ev Ls (Sm Ls d) q bk_80) q 1 b_80_0 L S w := propext ⟨fun h => Ev.unfold (ab_Sm_mono d) h, fun h => Ev.fold (ab_Sm_mono d) h⟩
theorem ev_80_1 {Ls d : Nat} {q : Option ab_V → ab_W → Prop} {L S : List ab_V} {w : ab_W} : Ev Ls (Sm Ls d) q bk_80 1 L S w = ab_wb Ls (Sm Ls d) (Ev Ls (Sm Ls d) q bk_80) q 2 b_80_1 L S w := propext ⟨fun h => Ev.unfold (ab_Sm_mono d) h, fun h => Ev.fold (ab_Sm_mono d) h⟩
theorem ev_80_2 {Ls d : Nat} {q : Option ab_V → ab_W → Prop} {L S : List ab_V} {w : ab_W} : Ev Ls (Sm Ls d) q bk_80 2 L S w = ab_wb Ls (Sm Ls d) (Ev Ls (Sm Ls d) q bk_80) q 3 b_80_2 L S w := propext ⟨fun h => Ev.unfold (ab_Sm_mono d) h, fun h => Ev.fold (ab_Sm_mono d) h⟩
theorem ev_80_3 {Ls d : Nat} {q : Option ab_V → ab_W → Prop} {L S : List ab_V} {w : ab_W} : Ev Ls (Sm Ls d) q bk_80 3 L S w = ab_wb Ls (Sm Ls d) (Ev Ls (Sm Ls d) q bk_80) q 4 b_80_3 L S w := propext ⟨fun h => Ev.unfold (ab_Sm_mono d) h, fun h => Ev.fold (ab_Sm_mono d) h⟩
theorem en_81 {Ls d : Nat} {a0 : Nat} {a1 : Int} {a2 : Int} {a3 : Int} {w : ab_W} {q : Option ab_V → ab_W → Prop} : Sm Ls (d + 1) 81 [vR a0, vI a1, vI a2, vI a3] w q = ab_wb Ls (Sm Ls d) (Ev Ls (Sm Ls d) q bk_81) q 1 b_81_0 [vR a0, vI a1, vI a2, vI a3, vX] [] w := propext ⟨fun h => Ev.unfold (ab_Sm_mono d) h.2, fun h => ⟨Nat.le_of_ble_eq_true rfl, Ev.fold (ab_Sm_mono d) h⟩⟩
theorem ev_81_0 {Ls d : Nat} {q : Option ab_V → ab_W → Prop} {L S : List ab_V} {w : ab_W} : Ev Ls (Sm Ls d) q bk_81 0 L S w = ab_wb Ls (Sm Ls d) (Ev Ls (Sm Ls d) q bk_81) q 1 b_81_0 L S w := propext ⟨fun h => Ev.unfold (ab_Sm_mono d) h, fun h => Ev.fold (ab_Sm_mono d) h⟩
theorem ev_81_1 {Ls d : Nat} {q : Option ab_V → ab_W → Prop} {L S : List ab_V} {w : ab_W} : Ev Ls (Sm Ls d) q bk_81 1 L S w = ab_wb Ls (Sm Ls d) (Ev Ls (Sm Ls d) q bk_81) q 2 b_81_1 L S w := propext ⟨fun h => Ev.unfold (ab_Sm_mono d) h, fun h => Ev.fold (ab_Sm_mono d) h⟩
theorem ev_81_2 {Ls d : Nat} {q : Option ab_V → ab_W → Prop} {L S : List ab_V} {w : ab_W} : Ev Ls (Sm Ls d) q bk_81 2 L S w = ab_wb Ls (Sm Ls d) (Ev Ls (Sm Ls d) q bk_81) q 3 b_81_2 L S w := propext ⟨fun h => Ev.unfold (ab_Sm_mono d) h, fun h => Ev.fold (ab_Sm_mono d) h⟩
theorem ev_81_3 {Ls d : Nat} {q : Option ab_V → ab_W → Prop} {L S : List ab_V} {w : ab_W} : Ev Ls (Sm Ls d) q bk_81 3 L S w = ab_wb Ls (Sm Ls d) (Ev Ls (Sm Ls d) q bk_81) q 4 b_81_3 L S w := propext ⟨fun h => Ev.unfold (ab_Sm_mono d) h, fun h => Ev.fold (ab_Sm_mono d) h⟩
theorem en_82 {Ls d : Nat} {a0 : Nat} {a1 : Int} {a2 : Int} {w : ab_W} {q : Option ab_V → ab_W → Prop} : Sm Ls (d + 1) 82 [vR a0, vI a1, vI a2] w q = ab_wb Ls (Sm Ls d) (Ev Ls (Sm Ls d) q bk_82) q 1 b_82_0 [vR a0, vI a1, vI a2] [] w := propext ⟨fun h => Ev.unfold (ab_Sm_mono d) h.2, fun h => ⟨Nat.le_of_ble_eq_true rfl, Ev.fold (ab_Sm_mono d) h⟩⟩
theorem ev_82_0 {Ls d : Nat} {q : Option ab_V → ab_W → Prop} {L S : List ab_V} {w : ab_W} : Ev Ls (Sm Ls d) q bk_82 0 L S w = ab_wb Ls (Sm Ls d) (Ev Ls (Sm Ls d) q bk_82) q 1 b_82_0 L S w := propext ⟨fun h => Ev.unfold (ab_Sm_mono d) h, fun h => Ev.fold (ab_Sm_mono d) h⟩
theorem ev_82_1 {Ls d : Nat} {q : Option ab_V → ab_W → Prop} {L S : List ab_V} {w : ab_W} : Ev Ls (Sm Ls d) q bk_82 1 L S w = ab_wb Ls (Sm Ls d) (Ev Ls (Sm Ls d) q bk_82) q 2 b_82_1 L S w := propext ⟨fun h => Ev.unfold (ab_Sm_mono d) h, fun h => Ev.fold (ab_Sm_mono d) h⟩
theorem ev_82_2 {Ls d : Nat} {q : Option ab_V → ab_W → Prop} {L S : List ab_V} {w : ab_W} : Ev Ls (Sm Ls d) q bk_82 2 L S w = ab_wb Ls (Sm Ls d) (Ev Ls (Sm Ls d) q bk_82) q 3 b_82_2 L S w := propext ⟨fun h => Ev.unfold (ab_Sm_mono d) h, fun h => Ev.fold (ab_Sm_mono d) h⟩
theorem ev_82_3 {Ls d : Nat} {q : Option ab_V → ab_W → Prop} {L S : List ab_V} {w : ab_W} : Ev Ls (Sm Ls d) q bk_82 3 L S w = ab_wb Ls (Sm Ls d) (Ev Ls (Sm Ls d) q bk_82) q 4 b_82_3 L S w := propext ⟨fun h => Ev.unfold (ab_Sm_mono d) h, fun h => Ev.fold (ab_Sm_mono d) h⟩
theorem ev_82_4 {Ls d : Nat} {q : Option ab_V → ab_W → Prop} {L S : List ab_V} {w : ab_W} : Ev Ls (Sm Ls d) q bk_82 4 L S w = ab_wb Ls (Sm Ls d) (Ev Ls (Sm Ls d) q bk_82) q 5 b_82_4 L S w := propext ⟨fun h => Ev.unfold (ab_Sm_mono d) h, fun h => Ev.fold (ab_Sm_mono d) h⟩
theorem ev_82_5 {Ls d : Nat} {q : Option ab_V → ab_W → Prop} {L S : List ab_V} {w : ab_W} : Ev Ls (Sm Ls d) q bk_82 5 L S w = ab_wb Ls (Sm Ls d) (Ev Ls (Sm Ls d) q bk_82) q 6 b_82_5 L S w := propext ⟨fun h => Ev.unfold (ab_Sm_mono d) h, fun h => Ev.fold (ab_Sm_mono d) h⟩
theorem en_83 {Ls d : Nat} {a0 : Nat} {a1 : Int} {a2 : Int} {a3 : Int} {a4 : Int} {a5 : Int} {w : ab_W} {q : Option ab_V → ab_W → Prop} : Sm Ls (d + 1) 83 [vR a0, vI a1, vI a2, vI a3, vI a4, vI a5] w q = ab_wb Ls (Sm Ls d) (Ev Ls (Sm Ls d) q bk_83) q 1 b_83_0 [vR a0, vI a1, vI a2, vI a3, vI a4, vI a5, vX, vX] [] w := propext ⟨fun h => Ev.unfold (ab_Sm_mono d) h.2, fun h => ⟨Nat.le_of_ble_eq_true rfl, Ev.fold (ab_Sm_mono d) h⟩⟩
theorem ev_83_0 {Ls d : Nat} {q : Option ab_V → ab_W → Prop} {L S : List ab_V} {w : ab_W} : Ev Ls (Sm Ls d) q bk_83 0 L S w = ab_wb Ls (Sm Ls d) (Ev Ls (Sm Ls d) q bk_83) q 1 b_83_0 L S w := propext ⟨fun h => Ev.unfold (ab_Sm_mono d) h, fun h => Ev.fold (ab_Sm_mono d) h⟩
theorem ev_83_1 {Ls d : Nat} {q : Option ab_V → ab_W → Prop} {L S : List ab_V} {w : ab_W} : Ev Ls (Sm Ls d) q bk_83 1 L S w = ab_wb Ls (Sm Ls d) (Ev Ls (Sm Ls d) q bk_83) q 2 b_83_1 L S w := propext ⟨fun h => Ev.unfold (ab_Sm_mono d) h, fun h => Ev.fold (ab_Sm_mono d) h⟩
theorem ev_83_2 {Ls d : Nat} {q : Option ab_V → ab_W → Prop} {L S : List ab_V} {w : ab_W} : Ev Ls (Sm Ls d) q bk_83 2 L S w = ab_wb Ls (Sm Ls d) (Ev Ls (Sm Ls d) q bk_83) q 3 b_83_2 L S w := propext ⟨fun h => Ev.unfold (ab_Sm_mono d) h, fun h => Ev.fold (ab_Sm_mono d) h⟩
theorem ev_83_3 {Ls d : Nat} {q : Option ab_V → ab_W → Prop} {L S : List ab_V} {w : ab_W} : Ev Ls (Sm Ls d) q bk_83 3 L S w = ab_wb Ls (Sm Ls d) (Ev Ls (Sm Ls d) q bk_83) q 4 b_83_3 L S w := propext ⟨fun h => Ev.unfold (ab_Sm_mono d) h, fun h => Ev.fold (ab_Sm_mono d) h⟩
theorem ev_83_4 {Ls d : Nat} {q : Option ab_V → ab_W → Prop} {L S : List ab_V} {w : ab_W} : Ev Ls (Sm Ls d) q bk_83 4 L S w = ab_wb Ls (Sm Ls d) (Ev Ls (Sm Ls d) q bk_83) q 5 b_83_4 L S w := propext ⟨fun h => Ev.unfold (ab_Sm_mono d) h, fun h => Ev.fold (ab_Sm_mono d) h⟩
theorem ev_83_5 {Ls d : Nat} {q : Option ab_V → ab_W → Prop} {L S : List ab_V} {w : ab_W} : Ev Ls (Sm Ls d) q bk_83 5 L S w = ab_wb Ls (Sm Ls d) (Ev Ls (Sm Ls d) q bk_83) q 6 b_83_5 L S w := propext ⟨fun h => Ev.unfold (ab_Sm_mono d) h, fun h => Ev.fold (ab_Sm_mono d) h⟩
theorem ev_83_6 {Ls d : Nat} {q : Option ab_V → ab_W → Prop} {L S : List ab_V} {w : ab_W} : Ev Ls (Sm Ls d) q bk_83 6 L S w = ab_wb Ls (Sm Ls d) (Ev Ls (Sm Ls d) q bk_83) q 7 b_83_6 L S w := propext ⟨fun h => Ev.unfold (ab_Sm_mono d) h, fun h => Ev.fold (ab_Sm_mono d) h⟩
theorem ev_83_7 {Ls d : Nat} {q : Option ab_V → ab_W → Prop} {L S : List ab_V} {w : ab_W} : Ev Ls (Sm Ls d) q bk_83 7 L S w = ab_wb Ls (Sm Ls d) (Ev Ls (Sm Ls d) q bk_83) q 8 b_83_7 L S w := propext ⟨fun h => Ev.unfold (ab_Sm_mono d) h, fun h => Ev.fold (ab_Sm_mono d) h⟩
theorem en_84 {Ls d : Nat} {a0 : Nat} {a1 : Int} {a2 : Int} {w : ab_W} {q : Option ab_V → ab_W → Prop} : Sm Ls (d + 1) 84 [vR a0, vI a1, vI a2] w q = ab_wb Ls (Sm Ls d) (Ev Ls (Sm Ls d) q bk_84) q 1 b_84_0 [vR a0, vI a1, vI a2, vX, vX, vX] [] w := propext ⟨fun h => Ev.unfold (ab_Sm_mono d) h.2, fun h => ⟨Nat.le_of_ble_eq_true rfl, Ev.fold (ab_Sm_mono d) h⟩⟩
theorem ev_84_0 {Ls d : Nat} {q : Option ab_V → ab_W → Prop} {L S : List ab_V} {w : ab_W} : Ev Ls (Sm Ls d) q bk_84 0 L S w = ab_wb Ls (Sm Ls d) (Ev Ls (Sm Ls d) q bk_84) q 1 b_84_0 L S w := propext ⟨fun h => Ev.unfold (ab_Sm_mono d) h, fun h => Ev.fold (ab_Sm_mono d) h⟩
theorem ev_84_1 {Ls d : Nat} {q : Option ab_V → ab_W → Prop} {L S : List ab_V} {w : ab_W} : Ev Ls (Sm Ls d) q bk_84 1 L S w = ab_wb Ls (Sm Ls d) (Ev Ls (Sm Ls d) q bk_84) q 2 b_84_1 L S w := propext ⟨fun h => Ev.unfold (ab_Sm_mono d) h, fun h => Ev.fold (ab_Sm_mono d) h⟩
theorem ev_84_2 {Ls d : Nat} {q : Option ab_V → ab_W → Prop} {L S : List ab_V} {w : ab_W} : Ev Ls (Sm Ls d) q bk_84 2 L S w = ab_wb Ls (Sm Ls d) (Ev Ls (Sm Ls d) q bk_84) q 3 b_84_2 L S w := propext ⟨fun h => Ev.unfold (ab_Sm_mono d) h, fun h => Ev.fold (ab_Sm_mono d) h⟩
theorem ev_84_3 {Ls d : Nat} {q : Option ab_V → ab_W → Prop} {L S : List ab_V} {w : ab_W} : Ev Ls (Sm Ls d) q bk_84 3 L S w = ab_wb Ls (Sm Ls d) (Ev Ls (Sm Ls d) q bk_84) q 4 b_84_3 L S w := propext ⟨fun h => Ev.unfold (ab_Sm_mono d) h, fun h => Ev.fold (ab_Sm_mono d) h⟩
theorem ev_84_4 {Ls d : Nat} {q : Option ab_V → ab_W → Prop} {L S : List ab_V} {w : ab_W} : Ev Ls (Sm Ls d) q bk_84 4 L S w = ab_wb Ls (Sm Ls d) (Ev Ls (Sm Ls d) q bk_84) q 5 b_84_4 L S w := propext ⟨fun h => Ev.unfold (ab_Sm_mono d) h, fun h => Ev.fold (ab_Sm_mono d) h⟩
theorem ev_84_5 {Ls d : Nat} {q : Option ab_V → ab_W → Prop} {L S : List ab_V} {w : ab_W} : Ev Ls (Sm Ls d) q bk_84 5 L S w = ab_wb Ls (Sm Ls d) (Ev Ls (Sm Ls d) q bk_84) q 6 b_84_5 L S w := propext ⟨fun h => Ev.unfold (ab_Sm_mono d) h, fun h => Ev.fold (ab_Sm_mono d) h⟩
theorem en_85 {Ls d : Nat} {a0 : Nat} {a1 : Int} {w : ab_W} {q : Option ab_V → ab_W → Prop} : Sm Ls (d + 1) 85 [vR a0, vI a1] w q = ab_wb Ls (Sm Ls d) (Ev Ls (Sm Ls d) q bk_85) q 1 b_85_0 [vR a0, vI a1] [] w := propext ⟨fun h => Ev.unfold (ab_Sm_mono d) h.2, fun h => ⟨Nat.le_of_ble_eq_true rfl, Ev.fold (ab_Sm_mono d) h⟩⟩
theorem ev_85_0 {Ls d : Nat} {q : Option ab_V → ab_W → Prop} {L S : List ab_V} {w : ab_W} : Ev Ls (Sm Ls d) q bk_85 0 L S w = ab_wb Ls (Sm Ls d) (Ev Ls (Sm Ls d) q bk_85) q 1 b_85_0 L S w := propext ⟨fun h => Ev.unfold (ab_Sm_mono d) h, fun h => Ev.fold (ab_Sm_mono d) h⟩
theorem ev_85_1 {Ls d : Nat} {q : Option ab_V → ab_W → Prop} {L S : List ab_V} {w : ab_W} : Ev Ls (Sm Ls d) q bk_85 1 L S w = ab_wb Ls (Sm Ls d) (Ev Ls (Sm Ls d) q bk_85) q 2 b_85_1 L S w := propext ⟨fun h => Ev.unfold (ab_Sm_mono d) h, fun h => Ev.fold (ab_Sm_mono d) h⟩
theorem ev_85_2 {Ls d : Nat} {q : Option ab_V → ab_W → Prop} {L S : List ab_V} {w : ab_W} : Ev Ls (Sm Ls d) q bk_85 2 L S w = ab_wb Ls (Sm Ls d) (Ev Ls (Sm Ls d) q bk_85) q 3 b_85_2 L S w := propext ⟨fun h => Ev.unfold (ab_Sm_mono d) h, fun h => Ev.fold (ab_Sm_mono d) h⟩
theorem ev_85_3 {Ls d : Nat} {q : Option ab_V → ab_W → Prop} {L S : List ab_V} {w : ab_W} : Ev Ls (Sm Ls d) q bk_85 3 L S w = ab_wb Ls (Sm Ls d) (Ev Ls (Sm Ls d) q bk_85) q 4 b_85_3 L S w := propext ⟨fun h => Ev.unfold (ab_Sm_mono d) h, fun h => Ev.fold (ab_Sm_mono d) h⟩
theorem ev_85_4 {Ls d : Nat} {q : Option ab_V → ab_W → Prop} {L S : List ab_V} {w : ab_W} : Ev Ls (Sm Ls d) q bk_85 4 L S w = ab_wb Ls (Sm Ls d) (Ev Ls (Sm Ls d) q bk_85) q 5 b_85_4 L S w := propext ⟨fun h => Ev.unfold (ab_Sm_mono d) h, fun h => Ev.fold (ab_Sm_mono d) h⟩
theorem ev_85_5 {Ls d : Nat} {q : Option ab_V → ab_W → Prop} {L S : List ab_V} {w : ab_W} : Ev Ls (Sm Ls d) q bk_85 5 L S w = ab_wb Ls (Sm Ls d) (Ev Ls (Sm Ls d) q bk_85) q 6 b_85_5 L S w := propext ⟨fun h => Ev.unfold (ab_Sm_mono d) h, fun h => Ev.fold (ab_Sm_mono d) h⟩
theorem ev_85_6 {Ls d : Nat} {q : Option ab_V → ab_W → Prop} {L S : List ab_V} {w : ab_W} : Ev Ls (Sm Ls d) q bk_85 6 L S w = ab_wb Ls (Sm Ls d) (Ev Ls (Sm Ls d) q bk_85) q 7 b_85_6 L S w := propext ⟨fun h => Ev.unfold (ab_Sm_mono d) h, fun h => Ev.fold (ab_Sm_mono d) h⟩
theorem ev_85_7 {Ls d : Nat} {q : Option ab_V → ab_W → Prop} {L S : List ab_V} {w : ab_W} : Ev Ls (Sm Ls d) q bk_85 7 L S w = ab_wb Ls (Sm Ls d) (Ev Ls (Sm Ls d) q bk_85) q 8 b_85_7 L S w := propext ⟨fun h => Ev.unfold (ab_Sm_mono d) h, fun h => Ev.fold (ab_Sm_mono d) h⟩
theorem ev_85_8 {Ls d : Nat} {q : Option ab_V → ab_W → Prop} {L S : List ab_V} {w : ab_W} : Ev Ls (Sm Ls d) q bk_85 8 L S w = ab_wb Ls (Sm Ls d) (Ev Ls (Sm Ls d) q bk_85) q 9 b_85_8 L S w := propext ⟨fun h => Ev.unfold (ab_Sm_mono d) h, fun h => Ev.fold (ab_Sm_mono d) h⟩
theorem ev_85_9 {Ls d : Nat} {q : Option ab_V → ab_W → Prop} {L S : List ab_V} {w : ab_W} : Ev Ls (Sm Ls d) q bk_85 9 L S w = ab_wb Ls (Sm Ls d) (Ev Ls (Sm Ls d) q bk_85) q 10 b_85_9 L S w := propext ⟨fun h => Ev.unfold (ab_Sm_mono d) h, fun h => Ev.fold (ab_Sm_mono d) h⟩
theorem ev_85_10 {Ls d : Nat} {q : Option ab_V → ab_W → Prop} {L S : List ab_V} {w : ab_W} : Ev Ls (Sm Ls d) q bk_85 10 L S w = ab_wb Ls (Sm Ls d) (Ev Ls (Sm Ls d) q bk_85) q 11 b_85_10 L S w := propext ⟨fun h => Ev.unfold (ab_Sm_mono d) h, fun h => Ev.fold (ab_Sm_mono d) h⟩
theorem en_86 {Ls d : Nat} {a0 : Nat} {w : ab_W} {q : Option ab_V → ab_W → Prop} : Sm Ls (d + 1) 86 [vR a0] w q = ab_wb Ls (Sm Ls d) (Ev Ls (Sm Ls d) q bk_86) q 1 b_86_0 [vR a0, vX, vX] [] w := propext ⟨fun h => Ev.unfold (ab_Sm_mono d) h.2, fun h => ⟨Nat.le_of_ble_eq_true rfl, Ev.fold (ab_Sm_mono d) h⟩⟩
theorem ev_86_0 {Ls d : Nat} {q : Option ab_V → ab_W → Prop} {L S : List ab_V} {w : ab_W} : Ev Ls (Sm Ls d) q bk_86 0 L S w = ab_wb Ls (Sm Ls d) (Ev Ls (Sm Ls d) q bk_86) q 1 b_86_0 L S w := propext ⟨fun h => Ev.unfold (ab_Sm_mono d) h, fun h => Ev.fold (ab_Sm_mono d) h⟩
theorem ev_86_1 {Ls d : Nat} {q : Option ab_V → ab_W → Prop} {L S : List ab_V} {w : ab_W} : Ev Ls (Sm Ls d) q bk_86 1 L S w = ab_wb Ls (Sm Ls d) (Ev Ls (Sm Ls d) q bk_86) q 2 b_86_1 L S w := propext ⟨fun h => Ev.unfold (ab_Sm_mono d) h, fun h => Ev.fold (ab_Sm_mono d) h⟩
theorem ev_86_2 {Ls d : Nat} {q : Option ab_V → ab_W → Prop} {L S : List ab_V} {w : ab_W} : Ev Ls (Sm Ls d) q bk_86 2 L S w = ab_wb Ls (Sm Ls d) (Ev Ls (Sm Ls d) q bk_86) q 3 b_86_2 L S w := propext ⟨fun h => Ev.unfold (ab_Sm_mono d) h, fun h => Ev.fold (ab_Sm_mono d) h⟩
theorem ev_86_3 {Ls d : Nat} {q : Option ab_V → ab_W → Prop} {L S : List ab_V} {w : ab_W} : Ev Ls (Sm Ls d) q bk_86 3 L S w = ab_wb Ls (Sm Ls d) (Ev Ls (Sm Ls d) q bk_86) q 4 b_86_3 L S w := propext ⟨fun h => Ev.unfold (ab_Sm_mono d) h, fun h => Ev.fold (ab_Sm_mono d) h⟩
theorem en_87 {Ls d : Nat} {a0 : Nat} {w : ab_W} {q : Option ab_V → ab_W → Prop} : Sm Ls (d + 1) 87 [vR a0] w q = ab_wb Ls (Sm Ls d) (Ev Ls (Sm Ls d) q bk_87) q 1 b_87_0 [vR a0, vX, vX] [] w := propext ⟨fun h => Ev.unfold (ab_Sm_mono d) h.2, fun h => ⟨Nat.le_of_ble_eq_true rfl, Ev.fold (ab_Sm_mono d) h⟩⟩
theorem ev_87_0 {Ls d : Nat} {q : Option ab_V → ab_W → Prop} {L S : List ab_V} {w : ab_W} : Ev Ls (Sm Ls d) q bk_87 0 L S w = ab_wb Ls (Sm Ls d) (Ev Ls (Sm Ls d) q bk_87) q 1 b_87_0 L S w := propext ⟨fun h => Ev.unfold (ab_Sm_mono d) h, fun h => Ev.fold (ab_Sm_mono d) h⟩
theorem ev_87_1 {Ls d : Nat} {q : Option ab_V → ab_W → Prop} {L S : List ab_V} {w : ab_W} : Ev Ls (Sm Ls d) q bk_87 1 L S w = ab_wb Ls (Sm Ls d) (Ev Ls (Sm Ls d) q bk_87) q 2 b_87_1 L S w := propext ⟨fun h => Ev.unfold (ab_Sm_mono d) h, fun h => Ev.fold (ab_Sm_mono d) h⟩
theorem ev_87_2 {Ls d : Nat} {q : Option ab_V → ab_W → Prop} {L S : List ab_V} {w : ab_W} : Ev Ls (Sm Ls d) q bk_87 2 L S w = ab_wb Ls (Sm Ls d) (Ev Ls (Sm Ls d) q bk_87) q 3 b_87_2 L S w := propext ⟨fun h => Ev.unfold (ab_Sm_mono d) h, fun h => Ev.fold (ab_Sm_mono d) h⟩
theorem en_88 {Ls d : Nat} {a0 : Nat} {w : ab_W} {q : Option ab_V → ab_W → Prop} : Sm Ls (d + 1) 88 [vR a0] w q = ab_wb Ls (Sm Ls d) (Ev Ls (Sm Ls d) q bk_88) q 1 b_88_0 [vR a0, vX, vX, vX] [] w := propext ⟨fun h => Ev.unfold (ab_Sm_mono d) h.2, fun h => ⟨Nat.le_of_ble_eq_true rfl, Ev.fold (ab_Sm_mono d) h⟩⟩
theorem ev_88_0 {Ls d : Nat} {q : Option ab_V → ab_W → Prop} {L S : List ab_V} {w : ab_W} : Ev Ls (Sm Ls d) q bk_88 0 L S w = ab_wb Ls (Sm Ls d) (Ev Ls (Sm Ls d) q bk_88) q 1 b_88_0 L S w := propext ⟨fun h => Ev.unfold (ab_Sm_mono d) h, fun h => Ev.fold (ab_Sm_mono d) h⟩
theorem ev_88_1 {Ls d : Nat} {q : Option ab_V → ab_W → Prop} {L S : List ab_V} {w : ab_W} : Ev Ls (Sm Ls d) q bk_88 1 L S w = ab_wb Ls (Sm Ls d) (Ev Ls (Sm Ls d) q bk_88) q 2 b_88_1 L S w := propext ⟨fun h => Ev.unfold (ab_Sm_mono d) h, fun h => Ev.fold (ab_Sm_mono d) h⟩
theorem ev_88_2 {Ls d : Nat} {q : Option ab_V → ab_W → Prop} {L S : List ab_V} {w : ab_W} : Ev Ls (Sm Ls d) q bk_88 2 L S w = ab_wb Ls (Sm Ls d) (Ev Ls (Sm Ls d) q bk_88) q 3 b_88_2 L S w := propext ⟨fun h => Ev.unfold (ab_Sm_mono d) h, fun h => Ev.fold (ab_Sm_mono d) h⟩
theorem ev_88_3 {Ls d : Nat} {q : Option ab_V → ab_W → Prop} {L S : List ab_V} {w : ab_W} : Ev Ls (Sm Ls d) q bk_88 3 L S w = ab_wb Ls (Sm Ls d) (Ev Ls (Sm Ls d) q bk_88) q 4 b_88_3 L S w := propext ⟨fun h => Ev.unfold (ab_Sm_mono d) h, fun h => Ev.fold (ab_Sm_mono d) h⟩
theorem ev_88_4 {Ls d : Nat} {q : Option ab_V → ab_W → Prop} {L S : List ab_V} {w : ab_W} : Ev Ls (Sm Ls d) q bk_88 4 L S w = ab_wb Ls (Sm Ls d) (Ev Ls (Sm Ls d) q bk_88) q 5 b_88_4 L S w := propext ⟨fun h => Ev.unfold (ab_Sm_mono d) h, fun h => Ev.fold (ab_Sm_mono d) h⟩
theorem en_89 {Ls d : Nat} {a0 : Nat} {a1 : Int} {a2 : Int} {w : ab_W} {q : Option ab_V → ab_W → Prop} : Sm Ls (d + 1) 89 [vR a0, vL a1, vI a2] w q = ab_wb Ls (Sm Ls d) (Ev Ls (Sm Ls d) q bk_89) q 1 b_89_0 [vR a0, vL a1, vX, vI a2, vX, vX, vX, vX, vX, vX, vX] [] w := propext ⟨fun h => Ev.unfold (ab_Sm_mono d) h.2, fun h => ⟨Nat.le_of_ble_eq_true rfl, Ev.fold (ab_Sm_mono d) h⟩⟩
theorem ev_89_0 {Ls d : Nat} {q : Option ab_V → ab_W → Prop} {L S : List ab_V} {w : ab_W} : Ev Ls (Sm Ls d) q bk_89 0 L S w = ab_wb Ls (Sm Ls d) (Ev Ls (Sm Ls d) q bk_89) q 1 b_89_0 L S w := propext ⟨fun h => Ev.unfold (ab_Sm_mono d) h, fun h => Ev.fold (ab_Sm_mono d) h⟩
theorem ev_89_1 {Ls d : Nat} {q : Option ab_V → ab_W → Prop} {L S : List ab_V} {w : ab_W} : Ev Ls (Sm Ls d) q bk_89 1 L S w = ab_wb Ls (Sm Ls d) (Ev Ls (Sm Ls d) q bk_89) q 2 b_89_1 L S w := propext ⟨fun h => Ev.unfold (ab_Sm_mono d) h, fun h => Ev.fold (ab_Sm_mono d) h⟩
theorem ev_89_2 {Ls d : Nat} {q : Option ab_V → ab_W → Prop} {L S : List ab_V} {w : ab_W} : Ev Ls (Sm Ls d) q bk_89 2 L S w = ab_wb Ls (Sm Ls d) (Ev Ls (Sm Ls d) q bk_89) q 3 b_89_2 L S w := propext ⟨fun h => Ev.unfold (ab_Sm_mono d) h, fun h => Ev.fold (ab_Sm_mono d) h⟩
theorem ev_89_3 {Ls d : Nat} {q : Option ab_V → ab_W → Prop} {L S : List ab_V} {w : ab_W} : Ev Ls (Sm Ls d) q bk_89 3 L S w = ab_wb Ls (Sm Ls d) (Ev Ls (Sm Ls d) q bk_89) q 4 b_89_3 L S w := propext ⟨fun h => Ev.unfold (ab_Sm_mono d) h, fun h => Ev.fold (ab_Sm_mono d) h⟩
theorem ev_89_4 {Ls d : Nat} {q : Option ab_V → ab_W → Prop} {L S : List ab_V} {w : ab_W} : Ev Ls (Sm Ls d) q bk_89 4 L S w = ab_wb Ls (Sm Ls d) (Ev Ls (Sm Ls d) q bk_89) q 5 b_89_4 L S w := propext ⟨fun h => Ev.unfold (ab_Sm_mono d) h, fun h => Ev.fold (ab_Sm_mono d) h⟩
theorem en_90 {Ls d : Nat} {a0 : Nat} {a1 : Int} {a2 : Int} {w : ab_W} {q : Option ab_V → ab_W → Prop} : Sm Ls (d + 1) 90 [vR a0, vL a1, vI a2] w q = ab_wb Ls (Sm Ls d) (Ev Ls (Sm Ls d) q bk_90) q 1 b_90_0 [vR a0, vL a1, vX, vI a2, vX, vX, vX] [] w := propext ⟨fun h => Ev.unfold (ab_Sm_mono d) h.2, fun h => ⟨Nat.le_of_ble_eq_true rfl, Ev.fold (ab_Sm_mono d) h⟩⟩
theorem ev_90_0 {Ls d : Nat} {q : Option ab_V → ab_W → Prop} {L S : List ab_V} {w : ab_W} : Ev Ls (Sm Ls d) q bk_90 0 L S w = ab_wb Ls (Sm Ls d) (Ev Ls (Sm Ls d) q bk_90) q 1 b_90_0 L S w := propext ⟨fun h => Ev.unfold (ab_Sm_mono d) h, fun h => Ev.fold (ab_Sm_mono d) h⟩
theorem ev_90_1 {Ls d : Nat} {q : Option ab_V → ab_W → Prop} {L S : List ab_V} {w : ab_W} : Ev Ls (Sm Ls d) q bk_90 1 L S w = ab_wb Ls (Sm Ls d) (Ev Ls (Sm Ls d) q bk_90) q 2 b_90_1 L S w := propext ⟨fun h => Ev.unfold (ab_Sm_mono d) h, fun h => Ev.fold (ab_Sm_mono d) h⟩
theorem ev_90_2 {Ls d : Nat} {q : Option ab_V → ab_W → Prop} {L S : List ab_V} {w : ab_W} : Ev Ls (Sm Ls d) q bk_90 2 L S w = ab_wb Ls (Sm Ls d) (Ev Ls (Sm Ls d) q bk_90) q 3 b_90_2 L S w := propext ⟨fun h => Ev.unfold (ab_Sm_mono d) h, fun h => Ev.fold (ab_Sm_mono d) h⟩
theorem en_91 {Ls d : Nat} {a0 : Nat} {a1 : Int} {a2 : Int} {w : ab_W} {q : Option ab_V → ab_W → Prop} : Sm Ls (d + 1) 91 [vR a0, vL a1, vI a2] w q = ab_wb Ls (Sm Ls d) (Ev Ls (Sm Ls d) q bk_91) q 1 b_91_0 [vR a0, vL a1, vX, vI a2, vX, vX, vX] [] w := propext ⟨fun h => Ev.unfold (ab_Sm_mono d) h.2, fun h => ⟨Nat.le_of_ble_eq_true rfl, Ev.fold (ab_Sm_mono d) h⟩⟩
theorem ev_91_0 {Ls d : Nat} {q : Option ab_V → ab_W → Prop} {L S : List ab_V} {w : ab_W} : Ev Ls (Sm Ls d) q bk_91 0 L S w = ab_wb Ls (Sm Ls d) (Ev Ls (Sm Ls d) q bk_91) q 1 b_91_0 L S w := propext ⟨fun h => Ev.unfold (ab_Sm_mono d) h, fun h => Ev.fold (ab_Sm_mono d) h⟩
theorem ev_91_1 {Ls d : Nat} {q : Option ab_V → ab_W → Prop} {L S : List ab_V} {w : ab_W} : Ev Ls (Sm Ls d) q bk_91 1 L S w = ab_wb Ls (Sm Ls d) (Ev Ls (Sm Ls d) q bk_91) q 2 b_91_1 L S w := propext ⟨fun h => Ev.unfold (ab_Sm_mono d) h, fun h => Ev.fold (ab_Sm_mono d) h⟩
theorem ev_91_2 {Ls d : Nat} {q : Option ab_V → ab_W → Prop} {L S : List ab_V} {w : ab_W} : Ev Ls (Sm Ls d) q bk_91 2 L S w = ab_wb Ls (Sm Ls d) (Ev Ls (Sm Ls d) q bk_91) q 3 b_91_2 L S w := propext ⟨fun h => Ev.unfold (ab_Sm_mono d) h, fun h => Ev.fold (ab_Sm_mono d) h⟩
theorem en_92 {Ls d : Nat} {a0 : Nat} {a1 : Int} {w : ab_W} {q : Option ab_V → ab_W → Prop} : Sm Ls (d + 1) 92 [vR a0, vI a1] w q = ab_wb Ls (Sm Ls d) (Ev Ls (Sm Ls d) q bk_92) q 1 b_92_0 [vR a0, vI a1] [] w := propext ⟨fun h => Ev.unfold (ab_Sm_mono d) h.2, fun h => ⟨Nat.le_of_ble_eq_true rfl, Ev.fold (ab_Sm_mono d) h⟩⟩
theorem ev_92_0 {Ls d : Nat} {q : Option ab_V → ab_W → Prop} {L S : List ab_V} {w : ab_W} : Ev Ls (Sm Ls d) q bk_92 0 L S w = ab_wb Ls (Sm Ls d) (Ev Ls (Sm Ls d) q bk_92) q 1 b_92_0 L S w := propext ⟨fun h => Ev.unfold (ab_Sm_mono d) h, fun h => Ev.fold (ab_Sm_mono d) h⟩
theorem ev_92_1 {Ls d : Nat} {q : Option ab_V → ab_W → Prop} {L S : List ab_V} {w : ab_W} : Ev Ls (Sm Ls d) q bk_92 1 L S w = ab_wb Ls (Sm Ls d) (Ev Ls (Sm Ls d) q bk_92) q 2 b_92_1 L S w := propext ⟨fun h => Ev.unfold (ab_Sm_mono d) h, fun h => Ev.fold (ab_Sm_mono d) h⟩
theorem ev_92_2 {Ls d : Nat} {q : Option ab_V → ab_W → Prop} {L S : List ab_V} {w : ab_W} : Ev Ls (Sm Ls d) q bk_92 2 L S w = ab_wb Ls (Sm Ls d) (Ev Ls (Sm Ls d) q bk_92) q 3 b_92_2 L S w := propext ⟨fun h => Ev.unfold (ab_Sm_mono d) h, fun h => Ev.fold (ab_Sm_mono d) h⟩
theorem en_93 {Ls d : Nat} {a0 : Int} {w : ab_W} {q : Option ab_V → ab_W → Prop} : Sm Ls (d + 1) 93 [vI a0] w q = ab_wb Ls (Sm Ls d) (Ev Ls (Sm Ls d) q bk_93) q 1 b_93_0 [vI a0] [] w := propext ⟨fun h => Ev.unfold (ab_Sm_mono d) h.2, fun h => ⟨Nat.le_of_ble_eq_true rfl, Ev.fold (ab_Sm_mono d) h⟩⟩
theorem ev_93_0 {Ls d : Nat} {q : Option ab_V → ab_W → Prop} {L S : List ab_V} {w : ab_W} : Ev Ls (Sm Ls d) q bk_93 0 L S w = ab_wb Ls (Sm Ls d) (Ev Ls (Sm Ls d) q bk_93) q 1 b_93_0 L S w := propext ⟨fun h => Ev.unfold (ab_Sm_mono d) h, fun h => Ev.fold (ab_Sm_mono d) h⟩
theorem ev_93_1 {Ls d : Nat} {q : Option ab_V → ab_W → Prop} {L S : List ab_V} {w : ab_W} : Ev Ls (Sm Ls d) q bk_93 1 L S w = ab_wb Ls (Sm Ls d) (Ev Ls (Sm Ls d) q bk_93) q 2 b_93_1 L S w := propext ⟨fun h => Ev.unfold (ab_Sm_mono d) h, fun h => Ev.fold (ab_Sm_mono d) h⟩
theorem ev_93_2 {Ls d : Nat} {q : Option ab_V → ab_W → Prop} {L S : List ab_V} {w : ab_W} : Ev Ls (Sm Ls d) q bk_93 2 L S w = ab_wb Ls (Sm Ls d) (Ev Ls (Sm Ls d) q bk_93) q 3 b_93_2 L S w := propext ⟨fun h => Ev.unfold (ab_Sm_mono d) h, fun h => Ev.fold (ab_Sm_mono d) h⟩
theorem en_94 {Ls d : Nat} {a0 : Int} {w : ab_W} {q : Option ab_V → ab_W → Prop} : Sm Ls (d + 1) 94 [vI a0] w q = ab_wb Ls (Sm Ls d) (Ev Ls (Sm Ls d) q bk_94) q 1 b_94_0 [vI a0] [] w := propext ⟨fun h => Ev.unfold (ab_Sm_mono d) h.2, fun h => ⟨Nat.le_of_ble_eq_true rfl, Ev.fold (ab_Sm_mono d) h⟩⟩
theorem ev_94_0 {Ls d : Nat} {q : Option ab_V → ab_W → Prop} {L S : List ab_V} {w : ab_W} : Ev Ls (Sm Ls d) q bk_94 0 L S w = ab_wb Ls (Sm Ls d) (Ev Ls (Sm Ls d) q bk_94) q 1 b_94_0 L S w := propext ⟨fun h => Ev.unfold (ab_Sm_mono d) h, fun h => Ev.fold (ab_Sm_mono d) h⟩
theorem ev_94_1 {Ls d : Nat} {q : Option ab_V → ab_W → Prop} {L S : List ab_V} {w : ab_W} : Ev Ls (Sm Ls d) q bk_94 1 L S w = ab_wb Ls (Sm Ls d) (Ev Ls (Sm Ls d) q bk_94) q 2 b_94_1 L S w := propext ⟨fun h => Ev.unfold (ab_Sm_mono d) h, fun h => Ev.fold (ab_Sm_mono d) h⟩
theorem ev_94_2 {Ls d : Nat} {q : Option ab_V → ab_W → Prop} {L S : List ab_V} {w : ab_W} : Ev Ls (Sm Ls d) q bk_94 2 L S w = ab_wb Ls (Sm Ls d) (Ev Ls (Sm Ls d) q bk_94) q 3 b_94_2 L S w := propext ⟨fun h => Ev.unfold (ab_Sm_mono d) h, fun h => Ev.fold (ab_Sm_mono d) h⟩
theorem en_95 {Ls d : Nat} {a0 : Int} {w : ab_W} {q : Option ab_V → ab_W → Prop} : Sm Ls (d + 1) 95 [vI a0] w q = ab_wb Ls (Sm Ls d) (Ev Ls (Sm Ls d) q bk_95) q 1 b_95_0 [vI a0] [] w := propext ⟨fun h => Ev.unfold (ab_Sm_mono d) h.2, fun h => ⟨Nat.le_of_ble_eq_true rfl, Ev.fold (ab_Sm_mono d) h⟩⟩
theorem ev_95_0 {Ls d : Nat} {q : Option ab_V → ab_W → Prop} {L S : List ab_V} {w : ab_W} : Ev Ls (Sm Ls d) q bk_95 0 L S w = ab_wb Ls (Sm Ls d) (Ev Ls (Sm Ls d) q bk_95) q 1 b_95_0 L S w := propext ⟨fun h => Ev.unfold (ab_Sm_mono d) h, fun h => Ev.fold (ab_Sm_mono d) h⟩
theorem ev_95_1 {Ls d : Nat} {q : Option ab_V → ab_W → Prop} {L S : List ab_V} {w : ab_W} : Ev Ls (Sm Ls d) q bk_95 1 L S w = ab_wb Ls (Sm Ls d) (Ev Ls (Sm Ls d) q bk_95) q 2 b_95_1 L S w := propext ⟨fun h => Ev.unfold (ab_Sm_mono d) h, fun h => Ev.fold (ab_Sm_mono d) h⟩
theorem ev_95_2 {Ls d : Nat} {q : Option ab_V → ab_W → Prop} {L S : List ab_V} {w : ab_W} : Ev Ls (Sm Ls d) q bk_95 2 L S w = ab_wb Ls (Sm Ls d) (Ev Ls (Sm Ls d) q bk_95) q 3 b_95_2 L S w := propext ⟨fun h => Ev.unfold (ab_Sm_mono d) h, fun h => Ev.fold (ab_Sm_mono d) h⟩
theorem en_96 {Ls d : Nat} {a0 : Int} {a1 : Int} {a2 : Int} {w : ab_W} {q : Option ab_V → ab_W → Prop} : Sm Ls (d + 1) 96 [vI a0, vI a1, vI a2] w q = ab_wb Ls (Sm Ls d) (Ev Ls (Sm Ls d) q bk_96) q 1 b_96_0 [vI a0, vI a1, vI a2] [] w := propext ⟨fun h => Ev.unfold (ab_Sm_mono d) h.2, fun h => ⟨Nat.le_of_ble_eq_true rfl, Ev.fold (ab_Sm_mono d) h⟩⟩
theorem ev_96_0 {Ls d : Nat} {q : Option ab_V → ab_W → Prop} {L S : List ab_V} {w : ab_W} : Ev Ls (Sm Ls d) q bk_96 0 L S w = ab_wb Ls (Sm Ls d) (Ev Ls (Sm Ls d) q bk_96) q 1 b_96_0 L S w := propext ⟨fun h => Ev.unfold (ab_Sm_mono d) h, fun h => Ev.fold (ab_Sm_mono d) h⟩
theorem ev_96_1 {Ls d : Nat} {q : Option ab_V → ab_W → Prop} {L S : List ab_V} {w : ab_W} : Ev Ls (Sm Ls d) q bk_96 1 L S w = ab_wb Ls (Sm Ls d) (Ev Ls (Sm Ls d) q bk_96) q 2 b_96_1 L S w := propext ⟨fun h => Ev.unfold (ab_Sm_mono d) h, fun h => Ev.fold (ab_Sm_mono d) h⟩
theorem ev_96_2 {Ls d : Nat} {q : Option ab_V → ab_W → Prop} {L S : List ab_V} {w : ab_W} : Ev Ls (Sm Ls d) q bk_96 2 L S w = ab_wb Ls (Sm Ls d) (Ev Ls (Sm Ls d) q bk_96) q 3 b_96_2 L S w := propext ⟨fun h => Ev.unfold (ab_Sm_mono d) h, fun h => Ev.fold (ab_Sm_mono d) h⟩
theorem en_97 {Ls d : Nat} {a0 : Int} {w : ab_W} {q : Option ab_V → ab_W → Prop} : Sm Ls (d + 1) 97 [vI a0] w q = ab_wb Ls (Sm Ls d) (Ev Ls (Sm Ls d) q bk_97) q 1 b_97_0 [vI a0] [] w := propext ⟨fun h => Ev.unfold (ab_Sm_mono d) h.2, fun h => ⟨Nat.le_of_ble_eq_true rfl, Ev.fold (ab_Sm_mono d) h⟩⟩
theorem ev_97_0 {Ls d : Nat} {q : Option ab_V → ab_W → Prop} {L S : List ab_V} {w : ab_W} : Ev Ls (Sm Ls d) q bk_97 0 L S w = ab_wb Ls (Sm Ls d) (Ev Ls (Sm Ls d) q bk_97) q 1 b_97_0 L S w := propext ⟨fun h => Ev.unfold (ab_Sm_mono d) h, fun h => Ev.fold (ab_Sm_mono d) h⟩
theorem ev_97_1 {Ls d : Nat} {q : Option ab_V → ab_W → Prop} {L S : List ab_V} {w : ab_W} : Ev Ls (Sm Ls d) q bk_97 1 L S w = ab_wb Ls (Sm Ls d) (Ev Ls (Sm Ls d) q bk_97) q 2 b_97_1 L S w := propext ⟨fun h => Ev.unfold (ab_Sm_mono d) h, fun h => Ev.fold (ab_Sm_mono d) h⟩
theorem ev_97_2 {Ls d : Nat} {q : Option ab_V → ab_W → Prop} {L S : List ab_V} {w : ab_W} : Ev Ls (Sm Ls d) q bk_97 2 L S w = ab_wb Ls (Sm Ls d) (Ev Ls (Sm Ls d) q bk_97) q 3 b_97_2 L S w := propext ⟨fun h => Ev.unfold (ab_Sm_mono d) h, fun h => Ev.fold (ab_Sm_mono d) h⟩
theorem ev_97_3 {Ls d : Nat} {q : Option ab_V → ab_W → Prop} {L S : List ab_V} {w : ab_W} : Ev Ls (Sm Ls d) q bk_97 3 L S w = ab_wb Ls (Sm Ls d) (Ev Ls (Sm Ls d) q bk_97) q 4 b_97_3 L S w := propext ⟨fun h => Ev.unfold (ab_Sm_mono d) h, fun h => Ev.fold (ab_Sm_mono d) h⟩
theorem en_98 {Ls d : Nat} {a0 : Int} {w : ab_W} {q : Option ab_V → ab_W → Prop} : Sm Ls (d + 1) 98 [vI a0] w q = ab_wb Ls (Sm Ls d) (Ev Ls (Sm Ls d) q bk_98) q 1 b_98_0 [vI a0] [] w := propext ⟨fun h => Ev.unfold (ab_Sm_mono d) h.2, fun h => ⟨Nat.le_of_ble_eq_true rfl, Ev.fold (ab_Sm_mono d) h⟩⟩
theorem ev_98_0 {Ls d : Nat} {q : Option ab_V → ab_W → Prop} {L S : List ab_V} {w : ab_W} : Ev Ls (Sm Ls d) q bk_98 0 L S w = ab_wb Ls (Sm Ls d) (Ev Ls (Sm Ls d) q bk_98) q 1 b_98_0 L S w := propext ⟨fun h => Ev.unfold (ab_Sm_mono d) h, fun h => Ev.fold (ab_Sm_mono d) h⟩
theorem ev_98_1 {Ls d : Nat} {q : Option ab_V → ab_W → Prop} {L S : List ab_V} {w : ab_W} : Ev Ls (Sm Ls d) q bk_98 1 L S w = ab_wb Ls (Sm Ls d) (Ev Ls (Sm Ls d) q bk_98) q 2 b_98_1 L S w := propext ⟨fun h => Ev.unfold (ab_Sm_mono d) h, fun h => Ev.fold (ab_Sm_mono d) h⟩
theorem ev_98_2 {Ls d : Nat} {q : Option ab_V → ab_W → Prop} {L S : List ab_V} {w : ab_W} : Ev Ls (Sm Ls d) q bk_98 2 L S w = ab_wb Ls (Sm Ls d) (Ev Ls (Sm Ls d) q bk_98) q 3 b_98_2 L S w := propext ⟨fun h => Ev.unfold (ab_Sm_mono d) h, fun h => Ev.fold (ab_Sm_mono d) h⟩
theorem en_99 {Ls d : Nat} {a0 : Int} {w : ab_W} {q : Option ab_V → ab_W → Prop} : Sm Ls (d + 1) 99 [vI a0] w q = ab_wb Ls (Sm Ls d) (Ev Ls (Sm Ls d) q bk_99) q 1 b_99_0 [vI a0] [] w := propext ⟨fun h => Ev.unfold (ab_Sm_mono d) h.2, fun h => ⟨Nat.le_of_ble_eq_true rfl, Ev.fold (ab_Sm_mono d) h⟩⟩
theorem ev_99_0 {Ls d : Nat} {q : Option ab_V → ab_W → Prop} {L S : List ab_V} {w : ab_W} : Ev Ls (Sm Ls d) q bk_99 0 L S w = ab_wb Ls (Sm Ls d) (Ev Ls (Sm Ls d) q bk_99) q 1 b_99_0 L S w := propext ⟨fun h => Ev.unfold (ab_Sm_mono d) h, fun h => Ev.fold (ab_Sm_mono d) h⟩
theorem ev_99_1 {Ls d : Nat} {q : Option ab_V → ab_W → Prop} {L S : List ab_V} {w : ab_W} : Ev Ls (Sm Ls d) q bk_99 1 L S w = ab_wb Ls (Sm Ls d) (Ev Ls (Sm Ls d) q bk_99) q 2 b_99_1 L S w := propext ⟨fun h => Ev.unfold (ab_Sm_mono d) h, fun h => Ev.fold (ab_Sm_mono d) h⟩
theorem ev_99_2 {Ls d : Nat} {q : Option ab_V → ab_W → Prop} {L S : List ab_V} {w : ab_W} : Ev Ls (Sm Ls d) q bk_99 2 L S w = ab_wb Ls (Sm Ls d) (Ev Ls (Sm Ls d) q bk_99) q 3 b_99_2 L S w := propext ⟨fun h => Ev.unfold (ab_Sm_mono d) h, fun h => Ev.fold (ab_Sm_mono d) h⟩
theorem en_100 {Ls d : Nat} {a0 : Nat} {a1 : Int} {w : ab_W} {q : Option ab_V → ab_W → Prop} : Sm Ls (d + 1) 100 [vR a0, vI a1] w q = ab_wb Ls (Sm Ls d) (Ev Ls (Sm Ls d) q bk_100) q 1 b_100_0 [vR a0, vI a1] [] w := propext ⟨fun h => Ev.unfold (ab_Sm_mono d) h.2, fun h => ⟨Nat.le_of_ble_eq_true rfl, Ev.fold (ab_Sm_mono d) h⟩⟩
theorem ev_100_0 {Ls d : Nat} {q : Option ab_V → ab_W → Prop} {L S : List ab_V} {w : ab_W} : Ev Ls (Sm Ls d) q bk_100 0 L S w = ab_wb Ls (Sm Ls d) (Ev Ls (Sm Ls d) q bk_100) q 1 b_100_0 L S w := propext ⟨fun h => Ev.unfold (ab_Sm_mono d) h, fun h => Ev.fold (ab_Sm_mono d) h⟩
theorem en_101 {Ls d : Nat} {a0 : Int} {a1 : Int} {a2 : Int} {w : ab_W} {q : Option ab_V → ab_W → Prop} : Sm Ls (d + 1) 101 [vI a0, vI a1, vI a2] w q = ab_wb Ls (Sm Ls d) (Ev Ls (Sm Ls d) q bk_101) q 1 b_101_0 [vI a0, vI a1, vI a2] [] w := propext ⟨fun h => Ev.unfold (ab_Sm_mono d) h.2, fun h => ⟨Nat.le_of_ble_eq_true rfl, Ev.fold (ab_Sm_mono d) h⟩⟩
theorem ev_101_0 {Ls d : Nat} {q : Option ab_V → ab_W → Prop} {L S : List ab_V} {w : ab_W} : Ev Ls (Sm Ls d) q bk_101 0 L S w = ab_wb Ls (Sm Ls d) (Ev Ls (Sm Ls d) q bk_101) q 1 b_101_0 L S w := propext ⟨fun h => Ev.unfold (ab_Sm_mono d) h, fun h => Ev.fold (ab_Sm_mono d) h⟩
theorem ev_101_1 {Ls d : Nat} {q : Option ab_V → ab_W → Prop} {L S : List ab_V} {w : ab_W} : Ev Ls (Sm Ls d) q bk_101 1 L S w = ab_wb Ls (Sm Ls d) (Ev Ls (Sm Ls d) q bk_101) q 2 b_101_1 L S w := propext ⟨fun h => Ev.unfold (ab_Sm_mono d) h, fun h => Ev.fold (ab_Sm_mono d) h⟩
theorem ev_101_2 {Ls d : Nat} {q : Option ab_V → ab_W → Prop} {L S : List ab_V} {w : ab_W} : Ev Ls (Sm Ls d) q bk_101 2 L S w = ab_wb Ls (Sm Ls d) (Ev Ls (Sm Ls d) q bk_101) q 3 b_101_2 L S w := propext ⟨fun h => Ev.unfold (ab_Sm_mono d) h, fun h => Ev.fold (ab_Sm_mono d) h⟩
theorem en_102 {Ls d : Nat} {a0 : Int} {a1 : Int} {w : ab_W} {q : Option ab_V → ab_W → Prop} : Sm Ls (d + 1) 102 [vI a0, vI a1] w q = ab_wb Ls (Sm Ls d) (Ev Ls (Sm Ls d) q bk_102) q 1 b_102_0 [vI a0, vI a1] [] w := propext ⟨fun h => Ev.unfold (ab_Sm_mono d) h.2, fun h => ⟨Nat.le_of_ble_eq_true rfl, Ev.fold (ab_Sm_mono d) h⟩⟩
theorem ev_102_0 {Ls d : Nat} {q : Option ab_V → ab_W → Prop} {L S : List ab_V} {w : ab_W} : Ev Ls (Sm Ls d) q bk_102 0 L S w = ab_wb Ls (Sm Ls d) (Ev Ls (Sm Ls d) q bk_102) q 1 b_102_0 L S w := propext ⟨fun h => Ev.unfold (ab_Sm_mono d) h, fun h => Ev.fold (ab_Sm_mono d) h⟩
theorem ev_102_1 {Ls d : Nat} {q : Option ab_V → ab_W → Prop} {L S : List ab_V} {w : ab_W} : Ev Ls (Sm Ls d) q bk_102 1 L S w = ab_wb Ls (Sm Ls d) (Ev Ls (Sm Ls d) q bk_102) q 2 b_102_1 L S w := propext ⟨fun h => Ev.unfold (ab_Sm_mono d) h, fun h => Ev.fold (ab_Sm_mono d) h⟩
theorem ev_102_2 {Ls d : Nat} {q : Option ab_V → ab_W → Prop} {L S : List ab_V} {w : ab_W} : Ev Ls (Sm Ls d) q bk_102 2 L S w = ab_wb Ls (Sm Ls d) (Ev Ls (Sm Ls d) q bk_102) q 3 b_102_2 L S w := propext ⟨fun h => Ev.unfold (ab_Sm_mono d) h, fun h => Ev.fold (ab_Sm_mono d) h⟩
theorem en_103 {Ls d : Nat} {a0 : Int} {w : ab_W} {q : Option ab_V → ab_W → Prop} : Sm Ls (d + 1) 103 [vI a0] w q = ab_wb Ls (Sm Ls d) (Ev Ls (Sm Ls d) q bk_103) q 1 b_103_0 [vI a0] [] w := propext ⟨fun h => Ev.unfold (ab_Sm_mono d) h.2, fun h => ⟨Nat.le_of_ble_eq_true rfl, Ev.fold (ab_Sm_mono d) h⟩⟩
theorem ev_103_0 {Ls d : Nat} {q : Option ab_V → ab_W → Prop} {L S : List ab_V} {w : ab_W} : Ev Ls (Sm Ls d) q bk_103 0 L S w = ab_wb Ls (Sm Ls d) (Ev Ls (Sm Ls d) q bk_103) q 1 b_103_0 L S w := propext ⟨fun h => Ev.unfold (ab_Sm_mono d) h, fun h => Ev.fold (ab_Sm_mono d) h⟩
theorem en_104 {Ls d : Nat} {a0 : Int} {a1 : Int} {a2 : Int} {w : ab_W} {q : Option ab_V → ab_W → Prop} : Sm Ls (d + 1) 104 [vL a0, vL a1, vI a2] w q = ab_wb Ls (Sm Ls d) (Ev Ls (Sm Ls d) q bk_104) q 1 b_104_0 [vL a0, vX, vL a1, vX, vI a2, vX, vX, vX, vX, vX, vX] [] w := propext ⟨fun h => Ev.unfold (ab_Sm_mono d) h.2, fun h => ⟨Nat.le_of_ble_eq_true rfl, Ev.fold (ab_Sm_mono d) h⟩⟩
theorem ev_104_0 {Ls d : Nat} {q : Option ab_V → ab_W → Prop} {L S : List ab_V} {w : ab_W} : Ev Ls (Sm Ls d) q bk_104 0 L S w = ab_wb Ls (Sm Ls d) (Ev Ls (Sm Ls d) q bk_104) q 1 b_104_0 L S w := propext ⟨fun h => Ev.unfold (ab_Sm_mono d) h, fun h => Ev.fold (ab_Sm_mono d) h⟩
theorem ev_104_1 {Ls d : Nat} {q : Option ab_V → ab_W → Prop} {L S : List ab_V} {w : ab_W} : Ev Ls (Sm Ls d) q bk_104 1 L S w = ab_wb Ls (Sm Ls d) (Ev Ls (Sm Ls d) q bk_104) q 2 b_104_1 L S w := propext ⟨fun h => Ev.unfold (ab_Sm_mono d) h, fun h => Ev.fold (ab_Sm_mono d) h⟩
theorem ev_104_2 {Ls d : Nat} {q : Option ab_V → ab_W → Prop} {L S : List ab_V} {w : ab_W} : Ev Ls (Sm Ls d) q bk_104 2 L S w = ab_wb Ls (Sm Ls d) (Ev Ls (Sm Ls d) q bk_104) q 3 b_104_2 L S w := propext ⟨fun h => Ev.unfold (ab_Sm_mono d) h, fun h => Ev.fold (ab_Sm_mono d) h⟩
theorem ev_104_3 {Ls d : Nat} {q : Option ab_V → ab_W → Prop} {L S : List ab_V} {w : ab_W} : Ev Ls (Sm Ls d) q bk_104 3 L S w = ab_wb Ls (Sm Ls d) (Ev Ls (Sm Ls d) q bk_104) q 4 b_104_3 L S w := propext ⟨fun h => Ev.unfold (ab_Sm_mono d) h, fun h => Ev.fold (ab_Sm_mono d) h⟩
theorem ev_104_4 {Ls d : Nat} {q : Option ab_V → ab_W → Prop} {L S : List ab_V} {w : ab_W} : Ev Ls (Sm Ls d) q bk_104 4 L S w = ab_wb Ls (Sm Ls d) (Ev Ls (Sm Ls d) q bk_104) q 5 b_104_4 L S w := propext ⟨fun h => Ev.unfold (ab_Sm_mono d) h, fun h => Ev.fold (ab_Sm_mono d) h⟩
theorem en_105 {Ls d : Nat} {a0 : Int} {w : ab_W} {q : Option ab_V → ab_W → Prop} : Sm Ls (d + 1) 105 [vI a0] w q = ab_wb Ls (Sm Ls d) (Ev Ls (Sm Ls d) q bk_105) q 1 b_105_0 [vI a0] [] w := propext ⟨fun h => Ev.unfold (ab_Sm_mono d) h.2, fun h => ⟨Nat.le_of_ble_eq_true rfl, Ev.fold (ab_Sm_mono d) h⟩⟩
theorem ev_105_0 {Ls d : Nat} {q : Option ab_V → ab_W → Prop} {L S : List ab_V} {w : ab_W} : Ev Ls (Sm Ls d) q bk_105 0 L S w = ab_wb Ls (Sm Ls d) (Ev Ls (Sm Ls d) q bk_105) q 1 b_105_0 L S w := propext ⟨fun h => Ev.unfold (ab_Sm_mono d) h, fun h => Ev.fold (ab_Sm_mono d) h⟩
theorem en_106 {Ls d : Nat} {a0 : Int} {w : ab_W} {q : Option ab_V → ab_W → Prop} : Sm Ls (d + 1) 106 [vI a0] w q = ab_wb Ls (Sm Ls d) (Ev Ls (Sm Ls d) q bk_106) q 1 b_106_0 [vI a0] [] w := propext ⟨fun h => Ev.unfold (ab_Sm_mono d) h.2, fun h => ⟨Nat.le_of_ble_eq_true rfl, Ev.fold (ab_Sm_mono d) h⟩⟩
theorem ev_106_0 {Ls d : Nat} {q : Option ab_V → ab_W → Prop} {L S : List ab_V} {w : ab_W} : Ev Ls (Sm Ls d) q bk_106 0 L S w = ab_wb Ls (Sm Ls d) (Ev Ls (Sm Ls d) q bk_106) q 1 b_106_0 L S w := propext ⟨fun h => Ev.unfold (ab_Sm_mono d) h, fun h => Ev.fold (ab_Sm_mono d) h⟩
theorem en_107 {Ls d : Nat} {a0 : Int} {w : ab_W} {q : Option ab_V → ab_W → Prop} : Sm Ls (d + 1) 107 [vI a0] w q = ab_wb Ls (Sm Ls d) (Ev Ls (Sm Ls d) q bk_107) q 1 b_107_0 [vI a0] [] w := propext ⟨fun h => Ev.unfold (ab_Sm_mono d) h.2, fun h => ⟨Nat.le_of_ble_eq_true rfl, Ev.fold (ab_Sm_mono d) h⟩⟩
theorem ev_107_0 {Ls d : Nat} {q : Option ab_V → ab_W → Prop} {L S : List ab_V} {w : ab_W} : Ev Ls (Sm Ls d) q bk_107 0 L S w = ab_wb Ls (Sm Ls d) (Ev Ls (Sm Ls d) q bk_107) q 1 b_107_0 L S w := propext ⟨fun h => Ev.unfold (ab_Sm_mono d) h, fun h => Ev.fold (ab_Sm_mono d) h⟩
theorem en_108 {Ls d : Nat} {a0 : Int} {w : ab_W} {q : Option ab_V → ab_W → Prop} : Sm Ls (d + 1) 108 [vI a0] w q = ab_wb Ls (Sm Ls d) (Ev Ls (Sm Ls d) q bk_108) q 1 b_108_0 [vI a0] [] w := propext ⟨fun h => Ev.unfold (ab_Sm_mono d) h.2, fun h => ⟨Nat.le_of_ble_eq_true rfl, Ev.fold (ab_Sm_mono d) h⟩⟩
theorem ev_108_0 {Ls d : Nat} {q : Option ab_V → ab_W → Prop} {L S : List ab_V} {w : ab_W} : Ev Ls (Sm Ls d) q bk_108 0 L S w = ab_wb Ls (Sm Ls d) (Ev Ls (Sm Ls d) q bk_108) q 1 b_108_0 L S w := propext ⟨fun h => Ev.unfold (ab_Sm_mono d) h, fun h => Ev.fold (ab_Sm_mono d) h⟩
theorem en_109 {Ls d : Nat} {a0 : Nat} {a1 : Int} {w : ab_W} {q : Option ab_V → ab_W → Prop} : Sm Ls (d + 1) 109 [vR a0, vI a1] w q = ab_wb Ls (Sm Ls d) (Ev Ls (Sm Ls d) q bk_109) q 1 b_109_0 [vR a0, vI a1] [] w := propext ⟨fun h => Ev.unfold (ab_Sm_mono d) h.2, fun h => ⟨Nat.le_of_ble_eq_true rfl, Ev.fold (ab_Sm_mono d) h⟩⟩
theorem ev_109_0 {Ls d : Nat} {q : Option ab_V → ab_W → Prop} {L S : List ab_V} {w : ab_W} : Ev Ls (Sm Ls d) q bk_109 0 L S w = ab_wb Ls (Sm Ls d) (Ev Ls (Sm Ls d) q bk_109) q 1 b_109_0 L S w := propext ⟨fun h => Ev.unfold (ab_Sm_mono d) h, fun h => Ev.fold (ab_Sm_mono d) h⟩
theorem ev_109_1 {Ls d : Nat} {q : Option ab_V → ab_W → Prop} {L S : List ab_V} {w : ab_W} : Ev Ls (Sm Ls d) q bk_109 1 L S w = ab_wb Ls (Sm Ls d) (Ev Ls (Sm Ls d) q bk_109) q 2 b_109_1 L S w := propext ⟨fun h => Ev.unfold (ab_Sm_mono d) h, fun h => Ev.fold (ab_Sm_mono d) h⟩
theorem ev_109_2 {Ls d : Nat} {q : Option ab_V → ab_W → Prop} {L S : List ab_V} {w : ab_W} : Ev Ls (Sm Ls d) q bk_109 2 L S w = ab_wb Ls (Sm Ls d) (Ev Ls (Sm Ls d) q bk_109) q 3 b_109_2 L S w := propext ⟨fun h => Ev.unfold (ab_Sm_mono d) h, fun h => Ev.fold (ab_Sm_mono d) h⟩
theorem en_110 {Ls d : Nat} {a0 : Nat} {w : ab_W} {q : Option ab_V → ab_W → Prop} : Sm Ls (d + 1) 110 [vR a0] w q = ab_wb Ls (Sm Ls d) (Ev Ls (Sm Ls d) q bk_110) q 1 b_110_0 [vR a0, vX] [] w := propext ⟨fun h => Ev.unfold (ab_Sm_mono d) h.2, fun h => ⟨Nat.le_of_ble_eq_true rfl, Ev.fold (ab_Sm_mono d) h⟩⟩
theorem ev_110_0 {Ls d : Nat} {q : Option ab_V → ab_W → Prop} {L S : List ab_V} {w : ab_W} : Ev Ls (Sm Ls d) q bk_110 0 L S w = ab_wb Ls (Sm Ls d) (Ev Ls (Sm Ls d) q bk_110) q 1 b_110_0 L S w := propext ⟨fun h => Ev.unfold (ab_Sm_mono d) h, fun h => Ev.fold (ab_Sm_mono d) h⟩
theorem en_111 {Ls d : Nat} {a0 : Nat} {w : ab_W} {q : Option ab_V → ab_W → Prop} : Sm Ls (d + 1) 111 [vR a0] w q = ab_wb Ls (Sm Ls d) (Ev Ls (Sm Ls d) q bk_111) q 1 b_111_0 [vR a0] [] w := propext ⟨fun h => Ev.unfold (ab_Sm_mono d) h.2, fun h => ⟨Nat.le_of_ble_eq_true rfl, Ev.fold (ab_Sm_mono d) h⟩⟩
theorem ev_111_0 {Ls d : Nat} {q : Option ab_V → ab_W → Prop} {L S : List ab_V} {w : ab_W} : Ev Ls (Sm Ls d) q bk_111 0 L S w = ab_wb Ls (Sm Ls d) (Ev Ls (Sm Ls d) q bk_111) q 1 b_111_0 L S w := propext ⟨fun h => Ev.unfold (ab_Sm_mono d) h, fun h => Ev.fold (ab_Sm_mono d) h⟩
theorem ev_111_1 {Ls d : Nat} {q : Option ab_V → ab_W → Prop} {L S : List ab_V} {w : ab_W} : Ev Ls (Sm Ls d) q bk_111 1 L S w = ab_wb Ls (Sm Ls d) (Ev Ls (Sm Ls d) q bk_111) q 2 b_111_1 L S w := propext ⟨fun h => Ev.unfold (ab_Sm_mono d) h, fun h => Ev.fold (ab_Sm_mono d) h⟩
theorem en_112 {Ls d : Nat} {a0 : Nat} {a1 : Int} {w : ab_W} {q : Option ab_V → ab_W → Prop} : Sm Ls (d + 1) 112 [vR a0, vI a1] w q = ab_wb Ls (Sm Ls d) (Ev Ls (Sm Ls d) q bk_112) q 1 b_112_0 [vR a0, vI a1] [] w := propext ⟨fun h => Ev.unfold (ab_Sm_mono d) h.2, fun h => ⟨Nat.le_of_ble_eq_true rfl, Ev.fold (ab_Sm_mono d) h⟩⟩
theorem ev_112_0 {Ls d : Nat} {q : Option ab_V → ab_W → Prop} {L S : List ab_V} {w : ab_W} : Ev Ls (Sm Ls d) q bk_112 0 L S w = ab_wb Ls (Sm Ls d) (Ev Ls (Sm Ls d) q bk_112) q 1 b_112_0 L S w := propext ⟨fun h => Ev.unfold (ab_Sm_mono d) h, fun h => Ev.fold (ab_Sm_mono d) h⟩
theorem ev_112_1 {Ls d : Nat} {q : Option ab_V → ab_W → Prop} {L S : List ab_V} {w : ab_W} : Ev Ls (Sm Ls d) q bk_112 1 L S w = ab_wb Ls (Sm Ls d) (Ev Ls (Sm Ls d) q bk_112) q 2 b_112_1 L S w := propext ⟨fun h => Ev.unfold (ab_Sm_mono d) h, fun h => Ev.fold (ab_Sm_mono d) h⟩
theorem ev_112_2 {Ls d : Nat} {q : Option ab_V → ab_W → Prop} {L S : List ab_V} {w : ab_W} : Ev Ls (Sm Ls d) q bk_112 2 L S w = ab_wb Ls (Sm Ls d) (Ev Ls (Sm Ls d) q bk_112) q 3 b_112_2 L S w := propext ⟨fun h => Ev.unfold (ab_Sm_mono d) h, fun h => Ev.fold (ab_Sm_mono d) h⟩
theorem en_113 {Ls d : Nat} {a0 : Nat} {a1 : Int} {a2 : Int} {w : ab_W} {q : Option ab_V → ab_W → Prop} : Sm Ls (d + 1) 113 [vR a0, vI a1, vI a2] w q = ab_wb Ls (Sm Ls d) (Ev Ls (Sm Ls d) q bk_113) q 1 b_113_0 [vR a0, vI a1, vI a2, vX, vX, vX] [] w := propext ⟨fun h => Ev.unfold (ab_Sm_mono d) h.2, fun h => ⟨Nat.le_of_ble_eq_true rfl, Ev.fold (ab_Sm_mono d) h⟩⟩
theorem ev_113_0 {Ls d : Nat} {q : Option ab_V → ab_W → Prop} {L S : List ab_V} {w : ab_W} : Ev Ls (Sm Ls d) q bk_113 0 L S w = ab_wb Ls (Sm Ls d) (Ev Ls (Sm Ls d) q bk_113) q 1 b_113_0 L S w := propext ⟨fun h => Ev.unfold (ab_Sm_mono d) h, fun h => Ev.fold (ab_Sm_mono d) h⟩
theorem ev_113_1 {Ls d : Nat} {q : Option ab_V → ab_W → Prop} {L S : List ab_V} {w : ab_W} : Ev Ls (Sm Ls d) q bk_113 1 L S w = ab_wb Ls (Sm Ls d) (Ev Ls (Sm Ls d) q bk_113) q 2 b_113_1 L S w := propext ⟨fun h => Ev.unfold (ab_Sm_mono d) h, fun h => Ev.fold (ab_Sm_mono d) h⟩
theorem ev_113_2 {Ls d : Nat} {q : Option ab_V → ab_W → Prop} {L S : List ab_V} {w : ab_W} : Ev Ls (Sm Ls d) q bk_113 2 L S w = ab_wb Ls (Sm Ls d) (Ev Ls (Sm Ls d) q bk_113) q 3 b_113_2 L S w := propext ⟨fun h => Ev.unfold (ab_Sm_mono d) h, fun h => Ev.fold (ab_Sm_mono d) h⟩
theorem ev_113_3 {Ls d : Nat} {q : Option ab_V → ab_W → Prop} {L S : List ab_V} {w : ab_W} : Ev Ls (Sm Ls d) q bk_113 3 L S w = ab_wb Ls (Sm Ls d) (Ev Ls (Sm Ls d) q bk_113) q 4 b_113_3 L S w := propext ⟨fun h => Ev.unfold (ab_Sm_mono d) h, fun h => Ev.fold (ab_Sm_mono d) h⟩
theorem ev_113_4 {Ls d : Nat} {q : Option ab_V → ab_W → Prop} {L S : List ab_V} {w : ab_W} : Ev Ls (Sm Ls d) q bk_113 4 L S w = ab_wb Ls (Sm Ls d) (Ev Ls (Sm Ls d) q bk_113) q 5 b_113_4 L S w := propext ⟨fun h => Ev.unfold (ab_Sm_mono d) h, fun h => Ev.fold (ab_Sm_mono d) h⟩
theorem ev_113_5 {Ls d : Nat} {q : Option ab_V → ab_W → Prop} {L S : List ab_V} {w : ab_W} : Ev Ls (Sm Ls d) q bk_113 5 L S w = ab_wb Ls (Sm Ls d) (Ev Ls (Sm Ls d) q bk_113) q 6 b_113_5 L S w := propext ⟨fun h => Ev.unfold (ab_Sm_mono d) h, fun h => Ev.fold (ab_Sm_mono d) h⟩
theorem ev_113_6 {Ls d : Nat} {q : Option ab_V → ab_W → Prop} {L S : List ab_V} {w : ab_W} : Ev Ls (Sm Ls d) q bk_113 6 L S w = ab_wb Ls (Sm Ls d) (Ev Ls (Sm Ls d) q bk_113) q 7 b_113_6 L S w := propext ⟨fun h => Ev.unfold (ab_Sm_mono d) h, fun h => Ev.fold (ab_Sm_mono d) h⟩
theorem ev_113_7 {Ls d : Nat} {q : Option ab_V → ab_W → Prop} {L S : List ab_V} {w : ab_W} : Ev Ls (Sm Ls d) q bk_113 7 L S w = ab_wb Ls (Sm Ls d) (Ev Ls (Sm Ls d) q bk_113) q 8 b_113_7 L S w := propext ⟨fun h => Ev.unfold (ab_Sm_mono d) h, fun h => Ev.fold (ab_Sm_mono d) h⟩
theorem en_114 {Ls d : Nat} {a0 : Nat} {a1 : Int} {a2 : Int} {w : ab_W} {q : Option ab_V → ab_W → Prop} : Sm Ls (d + 1) 114 [vR a0, vI a1, vI a2] w q = ab_wb Ls (Sm Ls d) (Ev Ls (Sm Ls d) q bk_114) q 1 b_114_0 [vR a0, vI a1, vI a2, vX, vX] [] w := propext ⟨fun h => Ev.unfold (ab_Sm_mono d) h.2, fun h => ⟨Nat.le_of_ble_eq_true rfl, Ev.fold (ab_Sm_mono d) h⟩⟩
theorem ev_114_0 {Ls d : Nat} {q : Option ab_V → ab_W → Prop} {L S : List ab_V} {w : ab_W} : Ev Ls (Sm Ls d) q bk_114 0 L S w = ab_wb Ls (Sm Ls d) (Ev Ls (Sm Ls d) q bk_114) q 1 b_114_0 L S w := propext ⟨fun h => Ev.unfold (ab_Sm_mono d) h, fun h => Ev.fold (ab_Sm_mono d) h⟩
theorem ev_114_1 {Ls d : Nat} {q : Option ab_V → ab_W → Prop} {L S : List ab_V} {w : ab_W} : Ev Ls (Sm Ls d) q bk_114 1 L S w = ab_wb Ls (Sm Ls d) (Ev Ls (Sm Ls d) q bk_114) q 2 b_114_1 L S w := propext ⟨fun h => Ev.unfold (ab_Sm_mono d) h, fun h => Ev.fold (ab_Sm_mono d) h⟩
theorem ev_114_2 {Ls d : Nat} {q : Option ab_V → ab_W → Prop} {L S : List ab_V} {w : ab_W} : Ev Ls (Sm Ls d) q bk_114 2 L S w = ab_wb Ls (Sm Ls d) (Ev Ls (Sm Ls d) q bk_114) q 3 b_114_2 L S w := propext ⟨fun h => Ev.unfold (ab_Sm_mono d) h, fun h => Ev.fold (ab_Sm_mono d) h⟩
theorem ev_114_3 {Ls d : Nat} {q : Option ab_V → ab_W → Prop} {L S : List ab_V} {w : ab_W} : Ev Ls (Sm Ls d) q bk_114 3 L S w = ab_wb Ls (Sm Ls d) (Ev Ls (Sm Ls d) q bk_114) q 4 b_114_3 L S w := propext ⟨fun h => Ev.unfold (ab_Sm_mono d) h, fun h => Ev.fold (ab_Sm_mono d) h⟩
theorem en_115 {Ls d : Nat} {a0 : Nat} {w : ab_W} {q : Option ab_V → ab_W → Prop} : Sm Ls (d + 1) 115 [vR a0] w q = ab_wb Ls (Sm Ls d) (Ev Ls (Sm Ls d) q bk_115) q 1 b_115_0 [vR a0, vX, vX, vX] [] w := propext ⟨fun h => Ev.unfold (ab_Sm_mono d) h.2, fun h => ⟨Nat.le_of_ble_eq_true rfl, Ev.fold (ab_Sm_mono d) h⟩⟩
theorem ev_115_0 {Ls d : Nat} {q : Option ab_V → ab_W → Prop} {L S : List ab_V} {w : ab_W} : Ev Ls (Sm Ls d) q bk_115 0 L S w = ab_wb Ls (Sm Ls d) (Ev Ls (Sm Ls d) q bk_115) q 1 b_115_0 L S w := propext ⟨fun h => Ev.unfold (ab_Sm_mono d) h, fun h => Ev.fold (ab_Sm_mono d) h⟩
theorem ev_115_1 {Ls d : Nat} {q : Option ab_V → ab_W → Prop} {L S : List ab_V} {w : ab_W} : Ev Ls (Sm Ls d) q bk_115 1 L S w = ab_wb Ls (Sm Ls d) (Ev Ls (Sm Ls d) q bk_115) q 2 b_115_1 L S w := propext ⟨fun h => Ev.unfold (ab_Sm_mono d) h, fun h => Ev.fold (ab_Sm_mono d) h⟩
theorem ev_115_2 {Ls d : Nat} {q : Option ab_V → ab_W → Prop} {L S : List ab_V} {w : ab_W} : Ev Ls (Sm Ls d) q bk_115 2 L S w = ab_wb Ls (Sm Ls d) (Ev Ls (Sm Ls d) q bk_115) q 3 b_115_2 L S w := propext ⟨fun h => Ev.unfold (ab_Sm_mono d) h, fun h => Ev.fold (ab_Sm_mono d) h⟩
theorem ev_115_3 {Ls d : Nat} {q : Option ab_V → ab_W → Prop} {L S : List ab_V} {w : ab_W} : Ev Ls (Sm Ls d) q bk_115 3 L S w = ab_wb Ls (Sm Ls d) (Ev Ls (Sm Ls d) q bk_115) q 4 b_115_3 L S w := propext ⟨fun h => Ev.unfold (ab_Sm_mono d) h, fun h => Ev.fold (ab_Sm_mono d) h⟩
theorem ev_115_4 {Ls d : Nat} {q : Option ab_V → ab_W → Prop} {L S : List ab_V} {w : ab_W} : Ev Ls (Sm Ls d) q bk_115 4 L S w = ab_wb Ls (Sm Ls d) (Ev Ls (Sm Ls d) q bk_115) q 5 b_115_4 L S w := propext ⟨fun h => Ev.unfold (ab_Sm_mono d) h, fun h => Ev.fold (ab_Sm_mono d) h⟩
theorem ev_115_5 {Ls d : Nat} {q : Option ab_V → ab_W → Prop} {L S : List ab_V} {w : ab_W} : Ev Ls (Sm Ls d) q bk_115 5 L S w = ab_wb Ls (Sm Ls d) (Ev Ls (Sm Ls d) q bk_115) q 6 b_115_5 L S w := propext ⟨fun h => Ev.unfold (ab_Sm_mono d) h, fun h => Ev.fold (ab_Sm_mono d) h⟩
theorem ev_115_6 {Ls d : Nat} {q : Option ab_V → ab_W → Prop} {L S : List ab_V} {w : ab_W} : Ev Ls (Sm Ls d) q bk_115 6 L S w = ab_wb Ls (Sm Ls d) (Ev Ls (Sm Ls d) q bk_115) q 7 b_115_6 L S w := propext ⟨fun h => Ev.unfold (ab_Sm_mono d) h, fun h => Ev.fold (ab_Sm_mono d) h⟩
theorem en_116 {Ls d : Nat} {a0 : Nat} {w : ab_W} {q : Option ab_V → ab_W → Prop} : Sm Ls (d + 1) 116 [vR a0] w q = ab_wb Ls (Sm Ls d) (Ev Ls (Sm Ls d) q bk_116) q 1 b_116_0 [vR a0, vX] [] w := propext ⟨fun h => Ev.unfold (ab_Sm_mono d) h.2, fun h => ⟨Nat.le_of_ble_eq_true rfl, Ev.fold (ab_Sm_mono d) h⟩⟩
theorem ev_116_0 {Ls d : Nat} {q : Option ab_V → ab_W → Prop} {L S : List ab_V} {w : ab_W} : Ev Ls (Sm Ls d) q bk_116 0 L S w = ab_wb Ls (Sm Ls d) (Ev Ls (Sm Ls d) q bk_116) q 1 b_116_0 L S w := propext ⟨fun h => Ev.unfold (ab_Sm_mono d) h, fun h => Ev.fold (ab_Sm_mono d) h⟩
theorem en_117 {Ls d : Nat} {a0 : Nat} {w : ab_W} {q : Option ab_V → ab_W → Prop} : Sm Ls (d + 1) 117 [vR a0] w q = ab_wb Ls (Sm Ls d) (Ev Ls (Sm Ls d) q bk_117) q 1 b_117_0 [vR a0] [] w := propext ⟨fun h => Ev.unfold (ab_Sm_mono d) h.2, fun h => ⟨Nat.le_of_ble_eq_true rfl, Ev.fold (ab_Sm_mono d) h⟩⟩
theorem ev_117_0 {Ls d : Nat} {q : Option ab_V → ab_W → Prop} {L S : List ab_V} {w : ab_W} : Ev Ls (Sm Ls d) q bk_117 0 L S w = ab_wb Ls (Sm Ls d) (Ev Ls (Sm Ls d) q bk_117) q 1 b_117_0 L S w := propext ⟨fun h => Ev.unfold (ab_Sm_mono d) h, fun h => Ev.fold (ab_Sm_mono d) h⟩
theorem en_118 {Ls d : Nat} {a0 : Nat} {a1 : Int} {w : ab_W} {q : Option ab_V → ab_W → Prop} : Sm Ls (d + 1) 118 [vR a0, vI a1] w q = ab_wb Ls (Sm Ls d) (Ev Ls (Sm Ls d) q bk_118) q 1 b_118_0 [vR a0, vI a1] [] w := propext ⟨fun h => Ev.unfold (ab_Sm_mono d) h.2, fun h => ⟨Nat.le_of_ble_eq_true rfl, Ev.fold (ab_Sm_mono d) h⟩⟩
theorem ev_118_0 {Ls d : Nat} {q : Option ab_V → ab_W → Prop} {L S : List ab_V} {w : ab_W} : Ev Ls (Sm Ls d) q bk_118 0 L S w = ab_wb Ls (Sm Ls d) (Ev Ls (Sm Ls d) q bk_118) q 1 b_118_0 L S w := propext ⟨fun h => Ev.unfold (ab_Sm_mono d) h, fun h => Ev.fold (ab_Sm_mono d) h⟩
theorem en_119 {Ls d : Nat} {a0 : Nat} {a1 : Int} {a2 : Int} {a3 : Int} {w : ab_W} {q : Option ab_V → ab_W → Prop} : Sm Ls (d + 1) 119 [vR a0, vI a1, vI a2, vI a3] w q = ab_wb Ls (Sm Ls d) (Ev Ls (Sm Ls d) q bk_119) q 1 b_119_0 [vR a0, vI a1, vI a2, vI a3] [] w := propext ⟨fun h => Ev.unfold (ab_Sm_mono d) h.2, fun h => ⟨Nat.le_of_ble_eq_true rfl, Ev.fold (ab_Sm_mono d) h⟩⟩
theorem ev_119_0 {Ls d : Nat} {q : Option ab_V → ab_W → Prop} {L S : List ab_V} {w : ab_W} : Ev Ls (Sm Ls d) q bk_119 0 L S w = ab_wb Ls (Sm Ls d) (Ev Ls (Sm Ls d) q bk_119) q 1 b_119_0 L S w := propext ⟨fun h => Ev.unfold (ab_Sm_mono d) h, fun h => Ev.fold (ab_Sm_mono d) h⟩
theorem ev_119_1 {Ls d : Nat} {q : Option ab_V → ab_W → Prop} {L S : List ab_V} {w : ab_W} : Ev Ls (Sm Ls d) q bk_119 1 L S w = ab_wb Ls (Sm Ls d) (Ev Ls (Sm Ls d) q bk_119) q 2 b_119_1 L S w := propext ⟨fun h => Ev.unfold (ab_Sm_mono d) h, fun h => Ev.fold (ab_Sm_mono d) h⟩
theorem ev_119_2 {Ls d : Nat} {q : Option ab_V → ab_W → Prop} {L S : List ab_V} {w : ab_W} : Ev Ls (Sm Ls d) q bk_119 2 L S w = ab_wb Ls (Sm Ls d) (Ev Ls (Sm Ls d) q bk_119) q 3 b_119_2 L S w := propext ⟨fun h => Ev.unfold (ab_Sm_mono d) h, fun h => Ev.fold (ab_Sm_mono d) h⟩
theorem en_120 {Ls d : Nat} {a0 : Nat} {a1 : Int} {a2 : Int} {a3 : Int} {w : ab_W} {q : Option ab_V → ab_W → Prop} : Sm Ls (d + 1) 120 [vR a0, vI a1, vI a2, vI a3] w q = ab_wb Ls (Sm Ls d) (Ev Ls (Sm Ls d) q bk_120) q 1 b_120_0 [vR a0, vI a1, vI a2, vI a3] [] w := propext ⟨fun h => Ev.unfold (ab_Sm_mono d) h.2, fun h => ⟨Nat.le_of_ble_eq_true rfl, Ev.fold (ab_Sm_mono d) h⟩⟩
theorem ev_120_0 {Ls d : Nat} {q : Option ab_V → ab_W → Prop} {L S : List ab_V} {w : ab_W} : Ev Ls (Sm Ls d) q bk_120 0 L S w = ab_wb Ls (Sm Ls d) (Ev Ls (Sm Ls d) q bk_120) q 1 b_120_0 L S w := propext ⟨fun h => Ev.unfold (ab_Sm_mono d) h, fun h => Ev.fold (ab_Sm_mono d) h⟩
theorem ev_120_1 {Ls d : Nat} {q : Option ab_V → ab_W → Prop} {L S : List ab_V} {w : ab_W} : Ev Ls (Sm Ls d) q bk_120 1 L S w = ab_wb Ls (Sm Ls d) (Ev Ls (Sm Ls d) q bk_120) q 2 b_120_1 L S w := propext ⟨fun h => Ev.unfold (ab_Sm_mono d) h, fun h => Ev.fold (ab_Sm_mono d) h⟩
theorem ev_120_2 {Ls d : Nat} {q : Option ab_V → ab_W → Prop} {L S : List ab_V} {w : ab_W} : Ev Ls (Sm Ls d) q bk_120 2 L S w = ab_wb Ls (Sm Ls d) (Ev Ls (Sm Ls d) q bk_120) q 3 b_120_2 L S w := propext ⟨fun h => Ev.unfold (ab_Sm_mono d) h, fun h => Ev.fold (ab_Sm_mono d) h⟩
theorem en_121 {Ls d : Nat} {a0 : Nat} {a1 : Int} {w : ab_W} {q : Option ab_V → ab_W → Prop} : Sm Ls (d + 1) 121 [vR a0, vI a1] w q = ab_wb Ls (Sm Ls d) (Ev Ls (Sm Ls d) q bk_121) q 1 b_121_0 [vR a0, vI a1, vX] [] w := propext ⟨fun h => Ev.unfold (ab_Sm_mono d) h.2, fun h => ⟨Nat.le_of_ble_eq_true rfl, Ev.fold (ab_Sm_mono d) h⟩⟩
theorem ev_121_0 {Ls d : Nat} {q : Option ab_V → ab_W → Prop} {L S : List ab_V} {w : ab_W} : Ev Ls (Sm Ls d) q bk_121 0 L S w = ab_wb Ls (Sm Ls d) (Ev Ls (Sm Ls d) q bk_121) q 1 b_121_0 L S w := propext ⟨fun h => Ev.unfold (ab_Sm_mono d) h, fun h => Ev.fold (ab_Sm_mono d) h⟩
theorem ev_121_1 {Ls d : Nat} {q : Option ab_V → ab_W → Prop} {L S : List ab_V} {w : ab_W} : Ev Ls (Sm Ls d) q bk_121 1 L S w = ab_wb Ls (Sm Ls d) (Ev Ls (Sm Ls d) q bk_121) q 2 b_121_1 L S w := propext ⟨fun h => Ev.unfold (ab_Sm_mono d) h, fun h => Ev.fold (ab_Sm_mono d) h⟩
theorem en_122 {Ls d : Nat} {a0 : Nat} {a1 : Int} {a2 : Int} {a3 : Int} {w : ab_W} {q : Option ab_V → ab_W → Prop} : Sm Ls (d + 1) 122 [vR a0, vI a1, vI a2, vI a3] w q = ab_wb Ls (Sm Ls d) (Ev Ls (Sm Ls d) q bk_122) q 1 b_122_0 [vR a0, vI a1, vI a2, vI a3] [] w := propext ⟨fun h => Ev.unfold (ab_Sm_mono d) h.2, fun h => ⟨Nat.le_of_ble_eq_true rfl, Ev.fold (ab_Sm_mono d) h⟩⟩
theorem ev_122_0 {Ls d : Nat} {q : Option ab_V → ab_W → Prop} {L S : List ab_V} {w : ab_W} : Ev Ls (Sm Ls d) q bk_122 0 L S w = ab_wb Ls (Sm Ls d) (Ev Ls (Sm Ls d) q bk_122) q 1 b_122_0 L S w := propext ⟨fun h => Ev.unfold (ab_Sm_mono d) h, fun h => Ev.fold (ab_Sm_mono d) h⟩
theorem ev_122_1 {Ls d : Nat} {q : Option ab_V → ab_W → Prop} {L S : List ab_V} {w : ab_W} : Ev Ls (Sm Ls d) q bk_122 1 L S w = ab_wb Ls (Sm Ls d) (Ev Ls (Sm Ls d) q bk_122) q 2 b_122_1 L S w := propext ⟨fun h => Ev.unfold (ab_Sm_mono d) h, fun h => Ev.fold (ab_Sm_mono d) h⟩
theorem ev_122_2 {Ls d : Nat} {q : Option ab_V → ab_W → Prop} {L S : List ab_V} {w : ab_W} : Ev Ls (Sm Ls d) q bk_122 2 L S w = ab_wb Ls (Sm Ls d) (Ev Ls (Sm Ls d) q bk_122) q 3 b_122_2 L S w := propext ⟨fun h => Ev.unfold (ab_Sm_mono d) h, fun h => Ev.fold (ab_Sm_mono d) h⟩
theorem ev_122_3 {Ls d : Nat} {q : Option ab_V → ab_W → Prop} {L S : List ab_V} {w : ab_W} : Ev Ls (Sm Ls d) q bk_122 3 L S w = ab_wb Ls (Sm Ls d) (Ev Ls (Sm Ls d) q bk_122) q 4 b_122_3 L S w := propext ⟨fun h => Ev.unfold (ab_Sm_mono d) h, fun h => Ev.fold (ab_Sm_mono d) h⟩
theorem en_123 {Ls d : Nat} {a0 : Nat} {w : ab_W} {q : Option ab_V → ab_W → Prop} : Sm Ls (d + 1) 123 [vR a0] w q = ab_wb Ls (Sm Ls d) (Ev Ls (Sm Ls d) q bk_123) q 1 b_123_0 [vR a0] [] w := propext ⟨fun h => Ev.unfold (ab_Sm_mono d) h.2, fun h => ⟨Nat.le_of_ble_eq_true rfl, Ev.fold (ab_Sm_mono d) h⟩⟩
theorem ev_123_0 {Ls d : Nat} {q : Option ab_V → ab_W → Prop} {L S : List ab_V} {w : ab_W} : Ev Ls (Sm Ls d) q bk_123 0 L S w = ab_wb Ls (Sm Ls d) (Ev Ls (Sm Ls d) q bk_123) q 1 b_123_0 L S w := propext ⟨fun h => Ev.unfold (ab_Sm_mono d) h, fun h => Ev.fold (ab_Sm_mono d) h⟩
theorem ev_123_1 {Ls d : Nat} {q : Option ab_V → ab_W → Prop} {L S : List ab_V} {w : ab_W} : Ev Ls (Sm Ls d) q bk_123 1 L S w = ab_wb Ls (Sm Ls d) (Ev Ls (Sm Ls d) q bk_123) q 2 b_123_1 L S w := propext ⟨fun h => Ev.unfold (ab_Sm_mono d) h, fun h => Ev.fold (ab_Sm_mono d) h⟩
theorem en_124 {Ls d : Nat} {a0 : Nat} {a1 : Int} {w : ab_W} {q : Option ab_V → ab_W → Prop} : Sm Ls (d + 1) 124 [vR a0, vI a1] w q = ab_wb Ls (Sm Ls d) (Ev Ls (Sm Ls d) q bk_124) q 1 b_124_0 [vR a0, vI a1, vX, vX] [] w := propext ⟨fun h => Ev.unfold (ab_Sm_mono d) h.2, fun h => ⟨Nat.le_of_ble_eq_true rfl, Ev.fold (ab_Sm_mono d) h⟩⟩
theorem ev_124_0 {Ls d : Nat} {q : Option ab_V → ab_W → Prop} {L S : List ab_V} {w : ab_W} : Ev Ls (Sm Ls d) q bk_124 0 L S w = ab_wb Ls (Sm Ls d) (Ev Ls (Sm Ls d) q bk_124) q 1 b_124_0 L S w := propext ⟨fun h => Ev.unfold (ab_Sm_mono d) h, fun h => Ev.fold (ab_Sm_mono d) h⟩
theorem ev_124_1 {Ls d : Nat} {q : Option ab_V → ab_W → Prop} {L S : List ab_V} {w : ab_W} : Ev Ls (Sm Ls d) q bk_124 1 L S w = ab_wb Ls (Sm Ls d) (Ev Ls (Sm Ls d) q bk_124) q 2 b_124_1 L S w := propext ⟨fun h => Ev.unfold (ab_Sm_mono d) h, fun h => Ev.fold (ab_Sm_mono d) h⟩
theorem ev_124_2 {Ls d : Nat} {q : Option ab_V → ab_W → Prop} {L S : List ab_V} {w : ab_W} : Ev Ls (Sm Ls d) q bk_124 2 L S w = ab_wb Ls (Sm Ls d) (Ev Ls (Sm Ls d) q bk_124) q 3 b_124_2 L S w := propext ⟨fun h => Ev.unfold (ab_Sm_mono d) h, fun h => Ev.fold (ab_Sm_mono d) h⟩
theorem ev_124_3 {Ls d : Nat} {q : Option ab_V → ab_W → Prop} {L S : List ab_V} {w : ab_W} : Ev Ls (Sm Ls d) q bk_124 3 L S w = ab_wb Ls (Sm Ls d) (Ev Ls (Sm Ls d) q bk_124) q 4 b_124_3 L S w := propext ⟨fun h => Ev.unfold (ab_Sm_mono d) h, fun h => Ev.fold (ab_Sm_mono d) h⟩
theorem ev_124_4 {Ls d : Nat} {q : Option ab_V → ab_W → Prop} {L S : List ab_V} {w : ab_W} : Ev Ls (Sm Ls d) q bk_124 4 L S w = ab_wb Ls (Sm Ls d) (Ev Ls (Sm Ls d) q bk_124) q 5 b_124_4 L S w := propext ⟨fun h => Ev.unfold (ab_Sm_mono d) h, fun h => Ev.fold (ab_Sm_mono d) h⟩
theorem en_125 {Ls d : Nat} {a0 : Nat} {w : ab_W} {q : Option ab_V → ab_W → Prop} : Sm Ls (d + 1) 125 [vR a0] w q = ab_wb Ls (Sm Ls d) (Ev Ls (Sm Ls d) q bk_125) q 1 b_125_0 [vR a0, vX] [] w := propext ⟨fun h => Ev.unfold (ab_Sm_mono d) h.2, fun h => ⟨Nat.le_of_ble_eq_true rfl, Ev.fold (ab_Sm_mono d) h⟩⟩
theorem ev_125_0 {Ls d : Nat} {q : Option ab_V → ab_W → Prop} {L S : List ab_V} {w : ab_W} : Ev Ls (Sm Ls d) q bk_125 0 L S w = ab_wb Ls (Sm Ls d) (Ev Ls (Sm Ls d) q bk_125) q 1 b_125_0 L S w := propext ⟨fun h => Ev.unfold (ab_Sm_mono d) h, fun h => Ev.fold (ab_Sm_mono d) h⟩
theorem ev_125_1 {Ls d : Nat} {q : Option ab_V → ab_W → Prop} {L S : List ab_V} {w : ab_W} : Ev Ls (Sm Ls d) q bk_125 1 L S w = ab_wb Ls (Sm Ls d) (Ev Ls (Sm Ls d) q bk_125) q 2 b_125_1 L S w := propext ⟨fun h => Ev.unfold (ab_Sm_mono d) h, fun h => Ev.fold (ab_Sm_mono d) h⟩
theorem ev_125_2 {Ls d : Nat} {q : Option ab_V → ab_W → Prop} {L S : List ab_V} {w : ab_W} : Ev Ls (Sm Ls d) q bk_125 2 L S w = ab_wb Ls (Sm Ls d) (Ev Ls (Sm Ls d) q bk_125) q 3 b_125_2 L S w := propext ⟨fun h => Ev.unfold (ab_Sm_mono d) h, fun h => Ev.fold (ab_Sm_mono d) h⟩
theorem ev_125_3 {Ls d : Nat} {q : Option ab_V → ab_W → Prop} {L S : List ab_V} {w : ab_W} : Ev Ls (Sm Ls d) q bk_125 3 L S w = ab_wb Ls (Sm Ls d) (Ev Ls (Sm Ls d) q bk_125) q 4 b_125_3 L S w := propext ⟨fun h => Ev.unfold (ab_Sm_mono d) h, fun h => Ev.fold (ab_Sm_mono d) h⟩
theorem ev_125_4 {Ls d : Nat} {q : Option ab_V → ab_W → Prop} {L S : List ab_V} {w : ab_W} : Ev Ls (Sm Ls d) q bk_125 4 L S w = ab_wb Ls (Sm Ls d) (Ev Ls (Sm Ls d) q bk_125) q 5 b_125_4 L S w := propext ⟨fun h => Ev.unfold (ab_Sm_mono d) h, fun h => Ev.fold (ab_Sm_mono d) h⟩
theorem en_126 {Ls d : Nat} {a0 : Nat} {a1 : Int} {w : ab_W} {q : Option ab_V → ab_W → Prop} : Sm Ls (d + 1) 126 [vR a0, vI a1] w q = ab_wb Ls (Sm Ls d) (Ev Ls (Sm Ls d) q bk_126) q 1 b_126_0 [vR a0, vI a1, vX, vX] [] w := propext ⟨fun h => Ev.unfold (ab_Sm_mono d) h.2, fun h => ⟨Nat.le_of_ble_eq_true rfl, Ev.fold (ab_Sm_mono d) h⟩⟩
theorem ev_126_0 {Ls d : Nat} {q : Option ab_V → ab_W → Prop} {L S : List ab_V} {w : ab_W} : Ev Ls (Sm Ls d) q bk_126 0 L S w = ab_wb Ls (Sm Ls d) (Ev Ls (Sm Ls d) q bk_126) q 1 b_126_0 L S w := propext ⟨fun h => Ev.unfold (ab_Sm_mono d) h, fun h => Ev.fold (ab_Sm_mono d) h⟩
theorem ev_126_1 {Ls d : Nat} {q : Option ab_V → ab_W → Prop} {L S : List ab_V} {w : ab_W} : Ev Ls (Sm Ls d) q bk_126 1 L S w = ab_wb Ls (Sm Ls d) (Ev Ls (Sm Ls d) q bk_126) q 2 b_126_1 L S w := propext ⟨fun h => Ev.unfold (ab_Sm_mono d) h, fun h => Ev.fold (ab_Sm_mono d) h⟩
theorem ev_126_2 {Ls d : Nat} {q : Option ab_V → ab_W → Prop} {L S : List ab_V} {w : ab_W} : Ev Ls (Sm Ls d) q bk_126 2 L S w = ab_wb Ls (Sm Ls d) (Ev Ls (Sm Ls d) q bk_126) q 3 b_126_2 L S w := propext ⟨fun h => Ev.unfold (ab_Sm_mono d) h, fun h => Ev.fold (ab_Sm_mono d) h⟩
theorem ev_126_3 {Ls d : Nat} {q : Option ab_V → ab_W → Prop} {L S : List ab_V} {w : ab_W} : Ev Ls (Sm Ls d) q bk_126 3 L S w = ab_wb Ls (Sm Ls d) (Ev Ls (Sm Ls d) q bk_126) q 4 b_126_3 L S w := propext ⟨fun h => Ev.unfold (ab_Sm_mono d) h, fun h => Ev.fold (ab_Sm_mono d) h⟩
theorem ev_126_4 {Ls d : Nat} {q : Option ab_V → ab_W → Prop} {L S : List ab_V} {w : ab_W} : Ev Ls (Sm Ls d) q bk_126 4 L S w = ab_wb Ls (Sm Ls d) (Ev Ls (Sm Ls d) q bk_126) q 5 b_126_4 L S w := propext ⟨fun h => Ev.unfold (ab_Sm_mono d) h, fun h => Ev.fold (ab_Sm_mono d) h⟩
theorem ev_126_5 {Ls d : Nat} {q : Option ab_V → ab_W → Prop} {L S : List ab_V} {w : ab_W} : Ev Ls (Sm Ls d) q bk_126 5 L S w = ab_wb Ls (Sm Ls d) (Ev Ls (Sm Ls d) q bk_126) q 6 b_126_5 L S w := propext ⟨fun h => Ev.unfold (ab_Sm_mono d) h, fun h => Ev.fold (ab_Sm_mono d) h⟩
theorem en_127 {Ls d : Nat} {a0 : Nat} {a1 : Int} {a2 : Int} {w : ab_W} {q : Option ab_V → ab_W → Prop} : Sm Ls (d + 1) 127 [vR a0, vI a1, vI a2] w q = ab_wb Ls (Sm Ls d) (Ev Ls (Sm Ls d) q bk_127) q 1 b_127_0 [vR a0, vI a1, vI a2, vX, vX, vX, vX] [] w := propext ⟨fun h => Ev.unfold (ab_Sm_mono d) h.2, fun h => ⟨Nat.le_of_ble_eq_true rfl, Ev.fold (ab_Sm_mono d) h⟩⟩
theorem ev_127_0 {Ls d : Nat} {q : Option ab_V → ab_W → Prop} {L S : List ab_V} {w : ab_W} : Ev Ls (Sm Ls d) q bk_127 0 L S w = ab_wb Ls (Sm Ls d) (Ev Ls (Sm Ls d) q bk_127) q 1 b_127_0 L S w := propext ⟨fun h => Ev.unfold (ab_Sm_mono d) h, fun h => Ev.fold (ab_Sm_mono d) h⟩
theorem ev_127_1 {Ls d : Nat} {q : Option ab_V → ab_W → Prop} {L S : List ab_V} {w : ab_W} : Ev Ls (Sm Ls d) q bk_127 1 L S w = ab_wb Ls (Sm Ls d) (Ev Ls (Sm Ls d) q bk_127) q 2 b_127_1 L S w := propext ⟨fun h => Ev.unfold (ab_Sm_mono d) h, fun h => Ev.fold (ab_Sm_mono d) h⟩
theorem ev_127_2 {Ls d : Nat} {q : Option ab_V → ab_W → Prop} {L S : List ab_V} {w : ab_W} : Ev Ls (Sm Ls d) q bk_127 2 L S w = ab_wb Ls (Sm Ls d) (Ev Ls (Sm Ls d) q bk_127) q 3 b_127_2 L S w := propext ⟨fun h => Ev.unfold (ab_Sm_mono d) h, fun h => Ev.fold (ab_Sm_mono d) h⟩
theorem ev_127_3 {Ls d : Nat} {q : Option ab_V → ab_W → Prop} {L S : List ab_V} {w : ab_W} : Ev Ls (Sm Ls d) q bk_127 3 L S w = ab_wb Ls (Sm Ls d) (Ev Ls (Sm Ls d) q bk_127) q 4 b_127_3 L S w := propext ⟨fun h => Ev.unfold (ab_Sm_mono d) h, fun h => Ev.fold (ab_Sm_mono d) h⟩
theorem ev_127_4 {Ls d : Nat} {q : Option ab_V → ab_W → Prop} {L S : List ab_V} {w : ab_W} : Ev Ls (Sm Ls d) q bk_127 4 L S w = ab_wb Ls (Sm Ls d) (Ev Ls (Sm Ls d) q bk_127) q 5 b_127_4 L S w := propext ⟨fun h => Ev.unfold (ab_Sm_mono d) h, fun h => Ev.fold (ab_Sm_mono d) h⟩
theorem ev_127_5 {Ls d : Nat} {q : Option ab_V → ab_W → Prop} {L S : List ab_V} {w : ab_W} : Ev Ls (Sm Ls d) q bk_127 5 L S w = ab_wb Ls (Sm Ls d) (Ev Ls (Sm Ls d) q bk_127) q 6 b_127_5 L S w := propext ⟨fun h => Ev.unfold (ab_Sm_mono d) h, fun h => Ev.fold (ab_Sm_mono d) h⟩
theorem ev_127_6 {Ls d : Nat} {q : Option ab_V → ab_W → Prop} {L S : List ab_V} {w : ab_W} : Ev Ls (Sm Ls d) q bk_127 6 L S w = ab_wb Ls (Sm Ls d) (Ev Ls (Sm Ls d) q bk_127) q 7 b_127_6 L S w := propext ⟨fun h => Ev.unfold (ab_Sm_mono d) h, fun h => Ev.fold (ab_Sm_mono d) h⟩
theorem ev_127_7 {Ls d : Nat} {q : Option ab_V → ab_W → Prop} {L S : List ab_V} {w : ab_W} : Ev Ls (Sm Ls d) q bk_127 7 L S w = ab_wb Ls (Sm Ls d) (Ev Ls (Sm Ls d) q bk_127) q 8 b_127_7 L S w := propext ⟨fun h => Ev.unfold (ab_Sm_mono d) h, fun h => Ev.fold (ab_Sm_mono d) h⟩
theorem ev_127_8 {Ls d : Nat} {q : Option ab_V → ab_W → Prop} {L S : List ab_V} {w : ab_W} : Ev Ls (Sm Ls d) q bk_127 8 L S w = ab_wb Ls (Sm Ls d) (Ev Ls (Sm Ls d) q bk_127) q 9 b_127_8 L S w := propext ⟨fun h => Ev.unfold (ab_Sm_mono d) h, fun h => Ev.fold (ab_Sm_mono d) h⟩
theorem en_128 {Ls d : Nat} {a0 : Nat} {a1 : Int} {a2 : Int} {a3 : Int} {w : ab_W} {q : Option ab_V → ab_W → Prop} : Sm Ls (d + 1) 128 [vR a0, vI a1, vI a2, vI a3] w q = ab_wb Ls (Sm Ls d) (Ev Ls (Sm Ls d) q bk_128) q 1 b_128_0 [vR a0, vI a1, vI a2, vI a3, vX] [] w := propext ⟨fun h => Ev.unfold (ab_Sm_mono d) h.2, fun h => ⟨Nat.le_of_ble_eq_true rfl, Ev.fold (ab_Sm_mono d) h⟩⟩
theorem ev_128_0 {Ls d : Nat} {q : Option ab_V → ab_W → Prop} {L S : List ab_V} {w : ab_W} : Ev Ls (Sm Ls d) q bk_128 0 L S w = ab_wb Ls (Sm Ls d) (Ev Ls (Sm Ls d) q bk_128) q 1 b_128_0 L S w := propext ⟨fun h => Ev.unfold (ab_Sm_mono d) h, fun h => Ev.fold (ab_Sm_mono d) h⟩
theorem ev_128_1 {Ls d : Nat} {q : Option ab_V → ab_W → Prop} {L S : List ab_V} {w : ab_W} : Ev Ls (Sm Ls d) q bk_128 1 L S w = ab_wb Ls (Sm Ls d) (Ev Ls (Sm Ls d) q bk_128) q 2 b_128_1 L S w := propext ⟨fun h => Ev.unfold (ab_Sm_mono d) h, fun h => Ev.fold (ab_Sm_mono d) h⟩
theorem ev_128_2 {Ls d : Nat} {q : Option ab_V → ab_W → Prop} {L S : List ab_V} {w : ab_W} : Ev Ls (Sm Ls d) q bk_128 2 L S w = ab_wb Ls (Sm Ls d) (Ev Ls (Sm Ls d) q bk_128) q 3 b_128_2 L S w := propext ⟨fun h => Ev.unfold (ab_Sm_mono d) h, fun h => Ev.fold (ab_Sm_mono d) h⟩
theorem ev_128_3 {Ls d : Nat} {q : Option ab_V → ab_W → Prop} {L S : List ab_V} {w : ab_W} : Ev Ls (Sm Ls d) q bk_128 3 L S w = ab_wb Ls (Sm Ls d) (Ev Ls (Sm Ls d) q bk_128) q 4 b_128_3 L S w := propext ⟨fun h => Ev.unfold (ab_Sm_mono d) h, fun h => Ev.fold (ab_Sm_mono d) h⟩
theorem ev_128_4 {Ls d : Nat} {q : Option ab_V → ab_W → Prop} {L S : List ab_V} {w : ab_W} : Ev Ls (Sm Ls d) q bk_128 4 L S w = ab_wb Ls (Sm Ls d) (Ev Ls (Sm Ls d) q bk_128) q 5 b_128_4 L S w := propext ⟨fun h => Ev.unfold (ab_Sm_mono d) h, fun h => Ev.fold (ab_Sm_mono d) h⟩
theorem ev_128_5 {Ls d : Nat} {q : Option ab_V → ab_W → Prop} {L S : List ab_V} {w : ab_W} : Ev Ls (Sm Ls d) q bk_128 5 L S w = ab_wb Ls (Sm Ls d) (Ev Ls (Sm Ls d) q bk_128) q 6 b_128_5 L S w := propext ⟨fun h => Ev.unfold (ab_Sm_mono d) h, fun h => Ev.fold (ab_Sm_mono d) h⟩
theorem ev_128_6 {Ls d : Nat} {q : Option ab_V → ab_W → Prop} {L S : List ab_V} {w : ab_W} : Ev Ls (Sm Ls d) q bk_128 6 L S w = ab_wb Ls (Sm Ls d) (Ev Ls (Sm Ls d) q bk_128) q 7 b_128_6 L S w := propext ⟨fun h => Ev.unfold (ab_Sm_mono d) h, fun h => Ev.fold (ab_Sm_mono d) h⟩
theorem ev_128_7 {Ls d : Nat} {q : Option ab_V → ab_W → Prop} {L S : List ab_V} {w : ab_W} : Ev Ls (Sm Ls d) q bk_128 7 L S w = ab_wb Ls (Sm Ls d) (Ev Ls (Sm Ls d) q bk_128) q 8 b_128_7 L S w := propext ⟨fun h => Ev.unfold (ab_Sm_mono d) h, fun h => Ev.fold (ab_Sm_mono d) h⟩
theorem ev_128_8 {Ls d : Nat} {q : Option ab_V → ab_W → Prop} {L S : List ab_V} {w : ab_W} : Ev Ls (Sm Ls d) q bk_128 8 L S w = ab_wb Ls (Sm Ls d) (Ev Ls (Sm Ls d) q bk_128) q 9 b_128_8 L S w := propext ⟨fun h => Ev.unfold (ab_Sm_mono d) h, fun h => Ev.fold (ab_Sm_mono d) h⟩
theorem ev_128_9 {Ls d : Nat} {q : Option ab_V → ab_W → Prop} {L S : List ab_V} {w : ab_W} : Ev Ls (Sm Ls d) q bk_128 9 L S w = ab_wb Ls (Sm Ls d) (Ev Ls (Sm Ls d) q bk_128) q 10 b_128_9 L S w := propext ⟨fun h => Ev.unfold (ab_Sm_mono d) h, fun h => Ev.fold (ab_Sm_mono d) h⟩
theorem ev_128_10 {Ls d : Nat} {q : Option ab_V → ab_W → Prop} {L S : List ab_V} {w : ab_W} : Ev Ls (Sm Ls d) q bk_128 10 L S w = ab_wb Ls (Sm Ls d) (Ev Ls (Sm Ls d) q bk_128) q 11 b_128_10 L S w := propext ⟨fun h => Ev.unfold (ab_Sm_mono d) h, fun h => Ev.fold (ab_Sm_mono d) h⟩
theorem en_129 {Ls d : Nat} {a0 : Nat} {a1 : Int} {a2 : Int} {a3 : Int} {w : ab_W} {q : Option ab_V → ab_W → Prop} : Sm Ls (d + 1) 129 [vR a0, vI a1, vI a2, vI a3] w q = ab_wb Ls (Sm Ls d) (Ev Ls (Sm Ls d) q bk_129) q 1 b_129_0 [vR a0, vI a1, vI a2, vI a3, vX] [] w := propext ⟨fun h => Ev.unfold (ab_Sm_mono d) h.2, fun h => ⟨Nat.le_of_ble_eq_true rfl, Ev.fold (ab_Sm_mono d) h⟩⟩
theorem ev_129_0 {Ls d : Nat} {q : Option ab_V → ab_W → Prop} {L S : List ab_V} {w : ab_W} : Ev Ls (Sm Ls d) q bk_129 0 L S w = ab_wb Ls (Sm Ls d) (Ev Ls (Sm Ls d) q bk_129) q 1 b_129_0 L S w := propext ⟨fun h => Ev.unfold (ab_Sm_mono d) h, fun h => Ev.fold (ab_Sm_mono d) h⟩
theorem ev_129_1 {Ls d : Nat} {q : Option ab_V → ab_W → Prop} {L S : List ab_V} {w : ab_W} : Ev Ls (Sm Ls d) q bk_129 1 L S w = ab_wb Ls (Sm Ls d) (Ev Ls (Sm Ls d) q bk_129) q 2 b_129_1 L S w := propext ⟨fun h => Ev.unfold (ab_Sm_mono d) h, fun h => Ev.fold (ab_Sm_mono d) h⟩
theorem ev_129_2 {Ls d : Nat} {q : Option ab_V → ab_W → Prop} {L S : List ab_V} {w : ab_W} : Ev Ls (Sm Ls d) q bk_129 2 L S w = ab_wb Ls (Sm Ls d) (Ev Ls (Sm Ls d) q bk_129) q 3 b_129_2 L S w := propext ⟨fun h => Ev.unfold (ab_Sm_mono d) h, fun h => Ev.fold (ab_Sm_mono d) h⟩
theorem ev_129_3 {Ls d : Nat} {q : Option ab_V → ab_W → Prop} {L S : List ab_V} {w : ab_W} : Ev Ls (Sm Ls d) q bk_129 3 L S w = ab_wb Ls (Sm Ls d) (Ev Ls (Sm Ls d) q bk_129) q 4 b_129_3 L S w := propext ⟨fun h => Ev.unfold (ab_Sm_mono d) h, fun h => Ev.fold (ab_Sm_mono d) h⟩
theorem ev_129_4 {Ls d : Nat} {q : Option ab_V → ab_W → Prop} {L S : List ab_V} {w : ab_W} : Ev Ls (Sm Ls d) q bk_129 4 L S w = ab_wb Ls (Sm Ls d) (Ev Ls (Sm Ls d) q bk_129) q 5 b_129_4 L S w := propext ⟨fun h => Ev.unfold (ab_Sm_mono d) h, fun h => Ev.fold (ab_Sm_mono d) h⟩
theorem ev_129_5 {Ls d : Nat} {q : Option ab_V → ab_W → Prop} {L S : List ab_V} {w : ab_W} : Ev Ls (Sm Ls d) q bk_129 5 L S w = ab_wb Ls (Sm Ls d) (Ev Ls (Sm Ls d) q bk_129) q 6 b_129_5 L S w := propext ⟨fun h => Ev.unfold (ab_Sm_mono d) h, fun h => Ev.fold (ab_Sm_mono d) h⟩
theorem en_130 {Ls d : Nat} {a0 : Nat} {a1 : Int} {a2 : Int} {w : ab_W} {q : Option ab_V → ab_W → Prop} : Sm Ls (d + 1) 130 [vR a0, vI a1, vI a2] w q = ab_wb Ls (Sm Ls d) (Ev Ls (Sm Ls d) q bk_130) q 1 b_130_0 [vR a0, vI a1, vI a2, vX, vX] [] w := propext ⟨fun h => Ev.unfold (ab_Sm_mono d) h.2, fun h => ⟨Nat.le_of_ble_eq_true rfl, Ev.fold (ab_Sm_mono d) h⟩⟩
theorem ev_130_0 {Ls d : Nat} {q : Option ab_V → ab_W → Prop} {L S : List ab_V} {w : ab_W} : Ev Ls (Sm Ls d) q bk_130 0 L S w = ab_wb Ls (Sm Ls d) (Ev Ls (Sm Ls d) q bk_130) q 1 b_130_0 L S w := propext ⟨fun h => Ev.unfold (ab_Sm_mono d) h, fun h => Ev.fold (ab_Sm_mono d) h⟩
theorem ev_130_1 {Ls d : Nat} {q : Option ab_V → ab_W → Prop} {L S : List ab_V} {w : ab_W} : Ev Ls (Sm Ls d) q bk_130 1 L S w = ab_wb Ls (Sm Ls d) (Ev Ls (Sm Ls d) q bk_130) q 2 b_130_1 L S w := propext ⟨fun h => Ev.unfold (ab_Sm_mono d) h, fun h => Ev.fold (ab_Sm_mono d) h⟩
theorem ev_130_2 {Ls d : Nat} {q : Option ab_V → ab_W → Prop} {L S : List ab_V} {w : ab_W} : Ev Ls (Sm Ls d) q bk_130 2 L S w = ab_wb Ls (Sm Ls d) (Ev Ls (Sm Ls d) q bk_130) q 3 b_130_2 L S w := propext ⟨fun h => Ev.unfold (ab_Sm_mono d) h, fun h => Ev.fold (ab_Sm_mono d) h⟩
theorem ev_130_3 {Ls d : Nat} {q : Option ab_V → ab_W → Prop} {L S : List ab_V} {w : ab_W} : Ev Ls (Sm Ls d) q bk_130 3 L S w = ab_wb Ls (Sm Ls d) (Ev Ls (Sm Ls d) q bk_130) q 4 b_130_3 L S w := propext ⟨fun h => Ev.unfold (ab_Sm_mono d) h, fun h => Ev.fold (ab_Sm_mono d) h⟩
theorem ev_130_4 {Ls d : Nat} {q : Option ab_V → ab_W → Prop} {L S : List ab_V} {w : ab_W} : Ev Ls (Sm Ls d) q bk_130 4 L S w = ab_wb Ls (Sm Ls d) (Ev Ls (Sm Ls d) q bk_130) q 5 b_130_4 L S w := propext ⟨fun h => Ev.unfold (ab_Sm_mono d) h, fun h => Ev.fold (ab_Sm_mono d) h⟩
theorem ev_130_5 {Ls d : Nat} {q : Option ab_V → ab_W → Prop} {L S : List ab_V} {w : ab_W} : Ev Ls (Sm Ls d) q bk_130 5 L S w = ab_wb Ls (Sm Ls d) (Ev Ls (Sm Ls d) q bk_130) q 6 b_130_5 L S w := propext ⟨fun h => Ev.unfold (ab_Sm_mono d) h, fun h => Ev.fold (ab_Sm_mono d) h⟩
theorem ev_130_6 {Ls d : Nat} {q : Option ab_V → ab_W → Prop} {L S : List ab_V} {w : ab_W} : Ev Ls (Sm Ls d) q bk_130 6 L S w = ab_wb Ls (Sm Ls d) (Ev Ls (Sm Ls d) q bk_130) q 7 b_130_6 L S w := propext ⟨fun h => Ev.unfold (ab_Sm_mono d) h, fun h => Ev.fold (ab_Sm_mono d) h⟩
theorem ev_130_7 {Ls d : Nat} {q : Option ab_V → ab_W → Prop} {L S : List ab_V} {w : ab_W} : Ev Ls (Sm Ls d) q bk_130 7 L S w = ab_wb Ls (Sm Ls d) (Ev Ls (Sm Ls d) q bk_130) q 8 b_130_7 L S w := propext ⟨fun h => Ev.unfold (ab_Sm_mono d) h, fun h => Ev.fold (ab_Sm_mono d) h⟩
theorem ev_130_8 {Ls d : Nat} {q : Option ab_V → ab_W → Prop} {L S : List ab_V} {w : ab_W} : Ev Ls (Sm Ls d) q bk_130 8 L S w = ab_wb Ls (Sm Ls d) (Ev Ls (Sm Ls d) q bk_130) q 9 b_130_8 L S w := propext ⟨fun h => Ev.unfold (ab_Sm_mono d) h, fun h => Ev.fold (ab_Sm_mono d) h⟩
theorem ev_130_9 {Ls d : Nat} {q : Option ab_V → ab_W → Prop} {L S : List ab_V} {w : ab_W} : Ev Ls (Sm Ls d) q bk_130 9 L S w = ab_wb Ls (Sm Ls d) (Ev Ls (Sm Ls d) q bk_130) q 10 b_130_9 L S w := propext ⟨fun h => Ev.unfold (ab_Sm_mono d) h, fun h => Ev.fold (ab_Sm_mono d) h⟩
theorem ev_130_10 {Ls d : Nat} {q : Option ab_V → ab_W → Prop} {L S : List ab_V} {w : ab_W} : Ev Ls (Sm Ls d) q bk_130 10 L S w = ab_wb Ls (Sm Ls d) (Ev Ls (Sm Ls d) q bk_130) q 11 b_130_10 L S w := propext ⟨fun h => Ev.unfold (ab_Sm_mono d) h, fun h => Ev.fold (ab_Sm_mono d) h⟩
theorem ev_130_11 {Ls d : Nat} {q : Option ab_V → ab_W → Prop} {L S : List ab_V} {w : ab_W} : Ev Ls (Sm Ls d) q bk_130 11 L S w = ab_wb Ls (Sm Ls d) (Ev Ls (Sm Ls d) q bk_130) q 12 b_130_11 L S w := propext ⟨fun h => Ev.unfold (ab_Sm_mono d) h, fun h => Ev.fold (ab_Sm_mono d) h⟩
theorem ev_130_12 {Ls d : Nat} {q : Option ab_V → ab_W → Prop} {L S : List ab_V} {w : ab_W} : Ev Ls (Sm Ls d) q bk_130 12 L S w = ab_wb Ls (Sm Ls d) (Ev Ls (Sm Ls d) q bk_130) q 13 b_130_12 L S w := propext ⟨fun h => Ev.unfold (ab_Sm_mono d) h, fun h => Ev.fold (ab_Sm_mono d) h⟩
theorem en_131 {Ls d : Nat} {a0 : Nat} {a1 : Int} {w : ab_W} {q : Option ab_V → ab_W → Prop} : Sm Ls (d + 1) 131 [vR a0, vI a1] w q = ab_wb Ls (Sm Ls d) (Ev Ls (Sm Ls d) q bk_131) q 1 b_131_0 [vR a0, vI a1, vX, vX, vX, vX] [] w := propext ⟨fun h => Ev.unfold (ab_Sm_mono d) h.2, fun h => ⟨Nat.le_of_ble_eq_true rfl, Ev.fold (ab_Sm_mono d) h⟩⟩
theorem ev_131_0 {Ls d : Nat} {q : Option ab_V → ab_W → Prop} {L S : List ab_V} {w : ab_W} : Ev Ls (Sm Ls d) q bk_131 0 L S w = ab_wb Ls (Sm Ls d) (Ev Ls (Sm Ls d) q bk_131) q 1 b_131_0 L S w := propext ⟨fun h => Ev.unfold (ab_Sm_mono d) h, fun h => Ev.fold (ab_Sm_mono d) h⟩
theorem ev_131_1 {Ls d : Nat} {q : Option ab_V → ab_W → Prop} {L S : List ab_V} {w : ab_W} : Ev Ls (Sm Ls d) q bk_131 1 L S w = ab_wb Ls (Sm Ls d) (Ev Ls (Sm Ls d) q bk_131) q 2 b_131_1 L S w := propext ⟨fun h => Ev.unfold (ab_Sm_mono d) h, fun h => Ev.fold (ab_Sm_mono d) h⟩
theorem ev_131_2 {Ls d : Nat} {q : Option ab_V → ab_W → Prop} {L S : List ab_V} {w : ab_W} : Ev Ls (Sm Ls d) q bk_131 2 L S w = ab_wb Ls (Sm Ls d) (Ev Ls (Sm Ls d) q bk_131) q 3 b_131_2 L S w := propext ⟨fun h => Ev.unfold (ab_Sm_mono d) h, fun h => Ev.fold (ab_Sm_mono d) h⟩
theorem ev_131_3 {Ls d : Nat} {q : Option ab_V → ab_W → Prop} {L S : List ab_V} {w : ab_W} : Ev Ls (Sm Ls d) q bk_131 3 L S w = ab_wb Ls (Sm Ls d) (Ev Ls (Sm Ls d) q bk_131) q 4 b_131_3 L S w := propext ⟨fun h => Ev.unfold (ab_Sm_mono d) h, fun h => Ev.fold (ab_Sm_mono d) h⟩
theorem ev_131_4 {Ls d : Nat} {q : Option ab_V → ab_W → Prop} {L S : List ab_V} {w : ab_W} : Ev Ls (Sm Ls d) q bk_131 4 L S w = ab_wb Ls (Sm Ls d) (Ev Ls (Sm Ls d) q bk_131) q 5 b_131_4 L S w := propext ⟨fun h => Ev.unfold (ab_Sm_mono d) h, fun h => Ev.fold (ab_Sm_mono d) h⟩
theorem ev_131_5 {Ls d : Nat} {q : Option ab_V → ab_W → Prop} {L S : List ab_V} {w : ab_W} : Ev Ls (Sm Ls d) q bk_131 5 L S w = ab_wb Ls (Sm Ls d) (Ev Ls (Sm Ls d) q bk_131) q 6 b_131_5 L S w := propext ⟨fun h => Ev.unfold (ab_Sm_mono d) h, fun h => Ev.fold (ab_Sm_mono d) h⟩
theorem ev_131_6 {Ls d : Nat} {q : Option ab_V → ab_W → Prop} {L S : List ab_V} {w : ab_W} : Ev Ls (Sm Ls d) q bk_131 6 L S w = ab_wb Ls (Sm Ls d) (Ev Ls (Sm Ls d) q bk_131) q 7 b_131_6 L S w := propext ⟨fun h => Ev.unfold (ab_Sm_mono d) h, fun h => Ev.fold (ab_Sm_mono d) h⟩
theorem ev_131_7 {Ls d : Nat} {q : Option ab_V → ab_W → Prop} {L S : List ab_V} {w : ab_W} : Ev Ls (Sm Ls d) q bk_131 7 L S w = ab_wb Ls (Sm Ls d) (Ev Ls (Sm Ls d) q bk_131) q 8 b_131_7 L S w := propext ⟨fun h => Ev.unfold (ab_Sm_mono d) h, fun h => Ev.fold (ab_Sm_mono d) h⟩
theorem ev_131_8 {Ls d : Nat} {q : Option ab_V → ab_W → Prop} {L S : List ab_V} {w : ab_W} : Ev Ls (Sm Ls d) q bk_131 8 L S w = ab_wb Ls (Sm Ls d) (Ev Ls (Sm Ls d) q bk_131) q 9 b_131_8 L S w := propext ⟨fun h => Ev.unfold (ab_Sm_mono d) h, fun h => Ev.fold (ab_Sm_mono d) h⟩
theorem ev_131_9 {Ls d : Nat} {q : Option ab_V → ab_W → Prop} {L S : List ab_V} {w : ab_W} : Ev Ls (Sm Ls d) q bk_131 9 L S w = ab_wb Ls (Sm Ls d) (Ev Ls (Sm Ls d) q bk_131) q 10 b_131_9 L S w := propext ⟨fun h => Ev.unfold (ab_Sm_mono d) h, fun h => Ev.fold (ab_Sm_mono d) h⟩
theorem en_132 {Ls d : Nat} {a0 : Nat} {w : ab_W} {q : Option ab_V → ab_W → Prop} : Sm Ls (d + 1) 132 [vR a0] w q = ab_wb Ls (Sm Ls d) (Ev Ls (Sm Ls d) q bk_132) q 1 b_132_0 [vR a0, vX] [] w := propext ⟨fun h => Ev.unfold (ab_Sm_mono d) h.2, fun h => ⟨Nat.le_of_ble_eq_true rfl, Ev.fold (ab_Sm_mono d) h⟩⟩
theorem ev_132_0 {Ls d : Nat} {q : Option ab_V → ab_W → Prop} {L S : List ab_V} {w : ab_W} : Ev Ls (Sm Ls d) q bk_132 0 L S w = ab_wb Ls (Sm Ls d) (Ev Ls (Sm Ls d) q bk_132) q 1 b_132_0 L S w := propext ⟨fun h => Ev.unfold (ab_Sm_mono d) h, fun h => Ev.fold (ab_Sm_mono d) h⟩
theorem ev_132_1 {Ls d : Nat} {q : Option ab_V → ab_W → Prop} {L S : List ab_V} {w : ab_W} : Ev Ls (Sm Ls d) q bk_132 1 L S w = ab_wb Ls (Sm Ls d) (Ev Ls (Sm Ls d) q bk_132) q 2 b_132_1 L S w := propext ⟨fun h => Ev.unfold (ab_Sm_mono d) h, fun h => Ev.fold (ab_Sm_mono d) h⟩
theorem ev_132_2 {Ls d : Nat} {q : Option ab_V → ab_W → Prop} {L S : List ab_V} {w : ab_W} : Ev Ls (Sm Ls d) q bk_132 2 L S w = ab_wb Ls (Sm Ls d) (Ev Ls (Sm Ls d) q bk_132) q 3 b_132_2 L S w := propext ⟨fun h => Ev.unfold (ab_Sm_mono d) h, fun h => Ev.fold (ab_Sm_mono d) h⟩
theorem ev_132_3 {Ls d : Nat} {q : Option ab_V → ab_W → Prop} {L S : List ab_V} {w : ab_W} : Ev Ls (Sm Ls d) q bk_132 3 L S w = ab_wb Ls (Sm Ls d) (Ev Ls (Sm Ls d) q bk_132) q 4 b_132_3 L S w := propext ⟨fun h => Ev.unfold (ab_Sm_mono d) h, fun h => Ev.fold (ab_Sm_mono d) h⟩
theorem ev_132_4 {Ls d : Nat} {q : Option ab_V → ab_W → Prop} {L S : List ab_V} {w : ab_W} : Ev Ls (Sm Ls d) q bk_132 4 L S w = ab_wb Ls (Sm Ls d) (Ev Ls (Sm Ls d) q bk_132) q 5 b_132_4 L S w := propext ⟨fun h => Ev.unfold (ab_Sm_mono d) h, fun h => Ev.fold (ab_Sm_mono d) h⟩
theorem ev_132_5 {Ls d : Nat} {q : Option ab_V → ab_W → Prop} {L S : List ab_V} {w : ab_W} : Ev Ls (Sm Ls d) q bk_132 5 L S w = ab_wb Ls (Sm Ls d) (Ev Ls (Sm Ls d) q bk_132) q 6 b_132_5 L S w := propext ⟨fun h => Ev.unfold (ab_Sm_mono d) h, fun h => Ev.fold (ab_Sm_mono d) h⟩
theorem ev_132_6 {Ls d : Nat} {q : Option ab_V → ab_W → Prop} {L S : List ab_V} {w : ab_W} : Ev Ls (Sm Ls d) q bk_132 6 L S w = ab_wb Ls (Sm Ls d) (Ev Ls (Sm Ls d) q bk_132) q 7 b_132_6 L S w := propext ⟨fun h => Ev.unfold (ab_Sm_mono d) h, fun h => Ev.fold (ab_Sm_mono d) h⟩
theorem en_133 {Ls d : Nat} {a0 : Nat} {w : ab_W} {q : Option ab_V → ab_W → Prop} : Sm Ls (d + 1) 133 [vR a0] w q = ab_wb Ls (Sm Ls d) (Ev Ls (Sm Ls d) q bk_133) q 1 b_133_0 [vR a0] [] w := propext ⟨fun h => Ev.unfold (ab_Sm_mono d) h.2, fun h => ⟨Nat.le_of_ble_eq_true rfl, Ev.fold (ab_Sm_mono d) h⟩⟩
theorem ev_133_0 {Ls d : Nat} {q : Option ab_V → ab_W → Prop} {L S : List ab_V} {w : ab_W} : Ev Ls (Sm Ls d) q bk_133 0 L S w = ab_wb Ls (Sm Ls d) (Ev Ls (Sm Ls d) q bk_133) q 1 b_133_0 L S w := propext ⟨fun h => Ev.unfold (ab_Sm_mono d) h, fun h => Ev.fold (ab_Sm_mono d) h⟩
theorem en_134 {Ls d : Nat} {a0 : Nat} {a1 : Int} {a2 : Int} {a3 : Int} {w : ab_W} {q : Option ab_V → ab_W → Prop} : Sm Ls (d + 1) 134 [vR a0, vI a1, vI a2, vI a3] w q = ab_wb Ls (Sm Ls d) (Ev Ls (Sm Ls d) q bk_134) q 1 b_134_0 [vR a0, vI a1, vI a2, vI a3, vX] [] w := propext ⟨fun h => Ev.unfold (ab_Sm_mono d) h.2, fun h => ⟨Nat.le_of_ble_eq_true rfl, Ev.fold (ab_Sm_mono d) h⟩⟩
theorem ev_134_0 {Ls d : Nat} {q : Option ab_V → ab_W → Prop} {L S : List ab_V} {w : ab_W} : Ev Ls (Sm Ls d) q bk_134 0 L S w = ab_wb Ls (Sm Ls d) (Ev Ls (Sm Ls d) q bk_134) q 1 b_134_0 L S w := propext ⟨fun h => Ev.unfold (ab_Sm_mono d) h, fun h => Ev.fold (ab_Sm_mono d) h⟩
theorem ev_134_1 {Ls d : Nat} {q : Option ab_V → ab_W → Prop} {L S : List ab_V} {w : ab_W} : Ev Ls (Sm Ls d) q bk_134 1 L S w = ab_wb Ls (Sm Ls d) (Ev Ls (Sm Ls d) q bk_134) q 2 b_134_1 L S w := propext ⟨fun h => Ev.unfold (ab_Sm_mono d) h, fun h => Ev.fold (ab_Sm_mono d) h⟩
theorem ev_134_2 {Ls d : Nat} {q : Option ab_V → ab_W → Prop} {L S : List ab_V} {w : ab_W} : Ev Ls (Sm Ls d) q bk_134 2 L S w = ab_wb Ls (Sm Ls d) (Ev Ls (Sm Ls d) q bk_134) q 3 b_134_2 L S w := propext ⟨fun h => Ev.unfold (ab_Sm_mono d) h, fun h => Ev.fold (ab_Sm_mono d) h⟩
theorem ev_134_3 {Ls d : Nat} {q : Option ab_V → ab_W → Prop} {L S : List ab_V} {w : ab_W} : Ev Ls (Sm Ls d) q bk_134 3 L S w = ab_wb Ls (Sm Ls d) (Ev Ls (Sm Ls d) q bk_134) q 4 b_134_3 L S w := propext ⟨fun h => Ev.unfold (ab_Sm_mono d) h, fun h => Ev.fold (ab_Sm_mono d) h⟩
theorem en_135 {Ls d : Nat} {a0 : Nat} {a1 : Int} {a2 : Int} {a3 : Int} {w : ab_W} {q : Option ab_V → ab_W → Prop} : Sm Ls (d + 1) 135 [vR a0, vI a1, vI a2, vI a3] w q = ab_wb Ls (Sm Ls d) (Ev Ls (Sm Ls d) q bk_135) q 1 b_135_0 [vR a0, vI a1, vI a2, vI a3] [] w := propext ⟨fun h => Ev.unfold (ab_Sm_mono d) h.2, fun h => ⟨Nat.le_of_ble_eq_true rfl, Ev.fold (ab_Sm_mono d) h⟩⟩
theorem ev_135_0 {Ls d : Nat} {q : Option ab_V → ab_W → Prop} {L S : List ab_V} {w : ab_W} : Ev Ls (Sm Ls d) q bk_135 0 L S w = ab_wb Ls (Sm Ls d) (Ev Ls (Sm Ls d) q bk_135) q 1 b_135_0 L S w := propext ⟨fun h => Ev.unfold (ab_Sm_mono d) h, fun h => Ev.fold (ab_Sm_mono d) h⟩
theorem ev_135_1 {Ls d : Nat} {q : Option ab_V → ab_W → Prop} {L S : List ab_V} {w : ab_W} : Ev Ls (Sm Ls d) q bk_135 1 L S w = ab_wb Ls (Sm Ls d) (Ev Ls (Sm Ls d) q bk_135) q 2 b_135_1 L S w := propext ⟨fun h => Ev.unfold (ab_Sm_mono d) h, fun h => Ev.fold (ab_Sm_mono d) h⟩
theorem ev_135_2 {Ls d : Nat} {q : Option ab_V → ab_W → Prop} {L S : List ab_V} {w : ab_W} : Ev Ls (Sm Ls d) q bk_135 2 L S w = ab_wb Ls (Sm Ls d) (Ev Ls (Sm Ls d) q bk_135) q 3 b_135_2 L S w := propext ⟨fun h => Ev.unfold (ab_Sm_mono d) h, fun h => Ev.fold (ab_Sm_mono d) h⟩
theorem en_136 {Ls d : Nat} {a0 : Nat} {a1 : Int} {w : ab_W} {q : Option ab_V → ab_W → Prop} : Sm Ls (d + 1) 136 [vR a0, vI a1] w q = ab_wb Ls (Sm Ls d) (Ev Ls (Sm Ls d) q bk_136) q 1 b_136_0 [vR a0, vI a1] [] w := propext ⟨fun h => Ev.unfold (ab_Sm_mono d) h.2, fun h => ⟨Nat.le_of_ble_eq_true rfl, Ev.fold (ab_Sm_mono d) h⟩⟩
theorem ev_136_0 {Ls d : Nat} {q : Option ab_V → ab_W → Prop} {L S : List ab_V} {w : ab_W} : Ev Ls (Sm Ls d) q bk_136 0 L S w = ab_wb Ls (Sm Ls d) (Ev Ls (Sm Ls d) q bk_136) q 1 b_136_0 L S w := propext ⟨fun h => Ev.unfold (ab_Sm_mono d) h, fun h => Ev.fold (ab_Sm_mono d) h⟩
theorem en_137 {Ls d : Nat} {a0 : Nat} {a1 : Int} {w : ab_W} {q : Option ab_V → ab_W → Prop} : Sm Ls (d + 1) 137 [vR a0, vI a1] w q = ab_wb Ls (Sm Ls d) (Ev Ls (Sm Ls d) q bk_137) q 1 b_137_0 [vR a0, vI a1] [] w := propext ⟨fun h => Ev.unfold (ab_Sm_mono d) h.2, fun h => ⟨Nat.le_of_ble_eq_true rfl, Ev.fold (ab_Sm_mono d) h⟩⟩
theorem ev_137_0 {Ls d : Nat} {q : Option ab_V → ab_W → Prop} {L S : List ab_V} {w : ab_W} : Ev Ls (Sm Ls d) q bk_137 0 L S w = ab_wb Ls (Sm Ls d) (Ev Ls (Sm Ls d) q bk_137) q 1 b_137_0 L S w := propext ⟨fun h => Ev.unfold (ab_Sm_mono d) h, fun h => Ev.fold (ab_Sm_mono d) h⟩
theorem ev_137_1 {Ls d : Nat} {q : Option ab_V → ab_W → Prop} {L S : List ab_V} {w : ab_W} : Ev Ls (Sm Ls d) q bk_137 1 L S w = ab_wb Ls (Sm Ls d) (Ev Ls (Sm Ls d) q bk_137) q 2 b_137_1 L S w := propext ⟨fun h => Ev.unfold (ab_Sm_mono d) h, fun h => Ev.fold (ab_Sm_mono d) h⟩
theorem ev_137_2 {Ls d : Nat} {q : Option ab_V → ab_W → Prop} {L S : List ab_V} {w : ab_W} : Ev Ls (Sm Ls d) q bk_137 2 L S w = ab_wb Ls (Sm Ls d) (Ev Ls (Sm Ls d) q bk_137) q 3 b_137_2 L S w := propext ⟨fun h => Ev.unfold (ab_Sm_mono d) h, fun h => Ev.fold (ab_Sm_mono d) h⟩
theorem en_138 {Ls d : Nat} {a0 : Nat} {a1 : Int} {a2 : Int} {w : ab_W} {q : Option ab_V → ab_W → Prop} : Sm Ls (d + 1) 138 [vR a0, vI a1, vI a2] w q = ab_wb Ls (Sm Ls d) (Ev Ls (Sm Ls d) q bk_138) q 1 b_138_0 [vR a0, vI a1, vI a2] [] w := propext ⟨fun h => Ev.unfold (ab_Sm_mono d) h.2, fun h => ⟨Nat.le_of_ble_eq_true rfl, Ev.fold (ab_Sm_mono d) h⟩⟩
theorem ev_138_0 {Ls d : Nat} {q : Option ab_V → ab_W → Prop} {L S : List ab_V} {w : ab_W} : Ev Ls (Sm Ls d) q bk_138 0 L S w = ab_wb Ls (Sm Ls d) (Ev Ls (Sm Ls d) q bk_138) q 1 b_138_0 L S w := propext ⟨fun h => Ev.unfold (ab_Sm_mono d) h, fun h => Ev.fold (ab_Sm_mono d) h⟩
theorem en_139 {Ls d : Nat} {a0 : Nat} {a1 : Int} {a2 : Int} {w : ab_W} {q : Option ab_V → ab_W → Prop} : Sm Ls (d + 1) 139 [vR a0, vI a1, vI a2] w q = ab_wb Ls (Sm Ls d) (Ev Ls (Sm Ls d) q bk_139) q 1 b_139_0 [vR a0, vI a1, vI a2] [] w := propext ⟨fun h => Ev.unfold (ab_Sm_mono d) h.2, fun h => ⟨Nat.le_of_ble_eq_true rfl, Ev.fold (ab_Sm_mono d) h⟩⟩
theorem ev_139_0 {Ls d : Nat} {q : Option ab_V → ab_W → Prop} {L S : List ab_V} {w : ab_W} : Ev Ls (Sm Ls d) q bk_139 0 L S w = ab_wb Ls (Sm Ls d) (Ev Ls (Sm Ls d) q bk_139) q 1 b_139_0 L S w := propext ⟨fun h => Ev.unfold (ab_Sm_mono d) h, fun h => Ev.fold (ab_Sm_mono d) h⟩
theorem ev_139_1 {Ls d : Nat} {q : Option ab_V → ab_W → Prop} {L S : List ab_V} {w : ab_W} : Ev Ls (Sm Ls d) q bk_139 1 L S w = ab_wb Ls (Sm Ls d) (Ev Ls (Sm Ls d) q bk_139) q 2 b_139_1 L S w := propext ⟨fun h => Ev.unfold (ab_Sm_mono d) h, fun h => Ev.fold (ab_Sm_mono d) h⟩
theorem ev_139_2 {Ls d : Nat} {q : Option ab_V → ab_W → Prop} {L S : List ab_V} {w : ab_W} : Ev Ls (Sm Ls d) q bk_139 2 L S w = ab_wb Ls (Sm Ls d) (Ev Ls (Sm Ls d) q bk_139) q 3 b_139_2 L S w := propext ⟨fun h => Ev.unfold (ab_Sm_mono d) h, fun h => Ev.fold (ab_Sm_mono d) h⟩
theorem en_140 {Ls d : Nat} {a0 : Nat} {w : ab_W} {q : Option ab_V → ab_W → Prop} : Sm Ls (d + 1) 140 [vR a0] w q = ab_wb Ls (Sm Ls d) (Ev Ls (Sm Ls d) q bk_140) q 1 b_140_0 [vR a0, vX, vX] [] w := propext ⟨fun h => Ev.unfold (ab_Sm_mono d) h.2, fun h => ⟨Nat.le_of_ble_eq_true rfl, Ev.fold (ab_Sm_mono d) h⟩⟩
theorem ev_140_0 {Ls d : Nat} {q : Option ab_V → ab_W → Prop} {L S : List ab_V} {w : ab_W} : Ev Ls (Sm Ls d) q bk_140 0 L S w = ab_wb Ls (Sm Ls d) (Ev Ls (Sm Ls d) q bk_140) q 1 b_140_0 L S w := propext ⟨fun h => Ev.unfold (ab_Sm_mono d) h, fun h => Ev.fold (ab_Sm_mono d) h⟩
theorem ev_140_1 {Ls d : Nat} {q : Option ab_V → ab_W → Prop} {L S : List ab_V} {w : ab_W} : Ev Ls (Sm Ls d) q bk_140 1 L S w = ab_wb Ls (Sm Ls d) (Ev Ls (Sm Ls d) q bk_140) q 2 b_140_1 L S w := propext ⟨fun h => Ev.unfold (ab_Sm_mono d) h, fun h => Ev.fold (ab_Sm_mono d) h⟩
theorem ev_140_2 {Ls d : Nat} {q : Option ab_V → ab_W → Prop} {L S : List ab_V} {w : ab_W} : Ev Ls (Sm Ls d) q bk_140 2 L S w = ab_wb Ls (Sm Ls d) (Ev Ls (Sm Ls d) q bk_140) q 3 b_140_2 L S w := propext ⟨fun h => Ev.unfold (ab_Sm_mono d) h, fun h => Ev.fold (ab_Sm_mono d) h⟩
theorem ev_140_3 {Ls d : Nat} {q : Option ab_V → ab_W → Prop} {L S : List ab_V} {w : ab_W} : Ev Ls (Sm Ls d) q bk_140 3 L S w = ab_wb Ls (Sm Ls d) (Ev Ls (Sm Ls d) q bk_140) q 4 b_140_3 L S w := propext ⟨fun h => Ev.unfold (ab_Sm_mono d) h, fun h => Ev.fold (ab_Sm_mono d) h⟩
theorem ev_140_4 {Ls d : Nat} {q : Option ab_V → ab_W → Prop} {L S : List ab_V} {w : ab_W} : Ev Ls (Sm Ls d) q bk_140 4 L S w = ab_wb Ls (Sm Ls d) (Ev Ls (Sm Ls d) q bk_140) q 5 b_140_4 L S w := propext ⟨fun h => Ev.unfold (ab_Sm_mono d) h, fun h => Ev.fold (ab_Sm_mono d) h⟩
theorem en_141 {Ls d : Nat} {a0 : Nat} {a1 : Int} {w : ab_W} {q : Option ab_V → ab_W → Prop} : Sm Ls (d + 1) 141 [vR a0, vI a1] w q = ab_wb Ls (Sm Ls d) (Ev Ls (Sm Ls d) q bk_141) q 1 b_141_0 [vR a0, vI a1, vX] [] w := propext ⟨fun h => Ev.unfold (ab_Sm_mono d) h.2, fun h => ⟨Nat.le_of_ble_eq_true rfl, Ev.fold (ab_Sm_mono d) h⟩⟩
theorem ev_141_0 {Ls d : Nat} {q : Option ab_V → ab_W → Prop} {L S : List ab_V} {w : ab_W} : Ev Ls (Sm Ls d) q bk_141 0 L S w = ab_wb Ls (Sm Ls d) (Ev Ls (Sm Ls d) q bk_141) q 1 b_141_0 L S w := propext ⟨fun h => Ev.unfold (ab_Sm_mono d) h, fun h => Ev.fold (ab_Sm_mono d) h⟩
theorem ev_141_1 {Ls d : Nat} {q : Option ab_V → ab_W → Prop} {L S : List ab_V} {w : ab_W} : Ev Ls (Sm Ls d) q bk_141 1 L S w = ab_wb Ls (Sm Ls d) (Ev Ls (Sm Ls d) q bk_141) q 2 b_141_1 L S w := propext ⟨fun h => Ev.unfold (ab_Sm_mono d) h, fun h => Ev.fold (ab_Sm_mono d) h⟩
theorem ev_141_2 {Ls d : Nat} {q : Option ab_V → ab_W → Prop} {L S : List ab_V} {w : ab_W} : Ev Ls (Sm Ls d) q bk_141 2 L S w = ab_wb Ls (Sm Ls d) (Ev Ls (Sm Ls d) q bk_141) q 3 b_141_2 L S w := propext ⟨fun h => Ev.unfold (ab_Sm_mono d) h, fun h => Ev.fold (ab_Sm_mono d) h⟩
theorem ev_141_3 {Ls d : Nat} {q : Option ab_V → ab_W → Prop} {L S : List ab_V} {w : ab_W} : Ev Ls (Sm Ls d) q bk_141 3 L S w = ab_wb Ls (Sm Ls d) (Ev Ls (Sm Ls d) q bk_141) q 4 b_141_3 L S w := propext ⟨fun h => Ev.unfold (ab_Sm_mono d) h, fun h => Ev.fold (ab_Sm_mono d) h⟩
theorem en_142 {Ls d : Nat} {a0 : Nat} {a1 : Int} {w : ab_W} {q : Option ab_V → ab_W → Prop} : Sm Ls (d + 1) 142 [vR a0, vI a1] w q = ab_wb Ls (Sm Ls d) (Ev Ls (Sm Ls d) q bk_142) q 1 b_142_0 [vR a0, vI a1] [] w := propext ⟨fun h => Ev.unfold (ab_Sm_mono d) h.2, fun h => ⟨Nat.le_of_ble_eq_true rfl, Ev.fold (ab_Sm_mono d) h⟩⟩
theorem ev_142_0 {Ls d : Nat} {q : Option ab_V → ab_W → Prop} {L S : List ab_V} {w : ab_W} : Ev Ls (Sm Ls d) q bk_142 0 L S w = ab_wb Ls (Sm Ls d) (Ev Ls (Sm Ls d) q bk_142) q 1 b_142_0 L S w := propext ⟨fun h => Ev.unfold (ab_Sm_mono d) h, fun h => Ev.fold (ab_Sm_mono d) h⟩
theorem en_143 {Ls d : Nat} {a0 : Nat} {a1 : Int} {w : ab_W} {q : Option ab_V → ab_W → Prop} : Sm Ls (d + 1) 143 [vR a0, vI a1] w q = ab_wb Ls (Sm Ls d) (Ev Ls (Sm Ls d) q bk_143) q 1 b_143_0 [vR a0, vI a1] [] w := propext ⟨fun h => Ev.unfold (ab_Sm_mono d) h.2, fun h => ⟨Nat.le_of_ble_eq_true rfl, Ev.fold (ab_Sm_mono d) h⟩⟩
theorem ev_143_0 {Ls d : Nat} {q : Option ab_V → ab_W → Prop} {L S : List ab_V} {w : ab_W} : Ev Ls (Sm Ls d) q bk_143 0 L S w = ab_wb Ls (Sm Ls d) (Ev Ls (Sm Ls d) q bk_143) q 1 b_143_0 L S w := propext ⟨fun h => Ev.unfold (ab_Sm_mono d) h, fun h => Ev.fold (ab_Sm_mono d) h⟩
theorem ev_143_1 {Ls d : Nat} {q : Option ab_V → ab_W → Prop} {L S : List ab_V} {w : ab_W} : Ev Ls (Sm Ls d) q bk_143 1 L S w = ab_wb Ls (Sm Ls d) (Ev Ls (Sm Ls d) q bk_143) q 2 b_143_1 L S w := propext ⟨fun h => Ev.unfold (ab_Sm_mono d) h, fun h => Ev.fold (ab_Sm_mono d) h⟩
theorem ev_143_2 {Ls d : Nat} {q : Option ab_V → ab_W → Prop} {L S : List ab_V} {w : ab_W} : Ev Ls (Sm Ls d) q bk_143 2 L S w = ab_wb Ls (Sm Ls d) (Ev Ls (Sm Ls d) q bk_143) q 3 b_143_2 L S w := propext ⟨fun h => Ev.unfold (ab_Sm_mono d) h, fun h => Ev.fold (ab_Sm_mono d) h⟩
theorem en_144 {Ls d : Nat} {a0 : Nat} {a1 : Int} {w : ab_W} {q : Option ab_V → ab_W → Prop} : Sm Ls (d + 1) 144 [vR a0, vI a1] w q = ab_wb Ls (Sm Ls d) (Ev Ls (Sm Ls d) q bk_144) q 1 b_144_0 [vR a0, vI a1, vX, vX] [] w := propext ⟨fun h => Ev.unfold (ab_Sm_mono d) h.2, fun h => ⟨Nat.le_of_ble_eq_true rfl, Ev.fold (ab_Sm_mono d) h⟩⟩
theorem ev_144_0 {Ls d : Nat} {q : Option ab_V → ab_W → Prop} {L S : List ab_V} {w : ab_W} : Ev Ls (Sm Ls d) q bk_144 0 L S w = ab_wb Ls (Sm Ls d) (Ev Ls (Sm Ls d) q bk_144) q 1 b_144_0 L S w := propext ⟨fun h => Ev.unfold (ab_Sm_mono d) h, fun h => Ev.fold (ab_Sm_mono d) h⟩
theorem ev_144_1 {Ls d : Nat} {q : Option ab_V → ab_W → Prop} {L S : List ab_V} {w : ab_W} : Ev Ls (Sm Ls d) q bk_144 1 L S w = ab_wb Ls (Sm Ls d) (Ev Ls (Sm Ls d) q bk_144) q 2 b_144_1 L S w := propext ⟨fun h => Ev.unfold (ab_Sm_mono d) h, fun h => Ev.fold (ab_Sm_mono d) h⟩
theorem ev_144_2 {Ls d : Nat} {q : Option ab_V → ab_W → Prop} {L S : List ab_V} {w : ab_W} : Ev Ls (Sm Ls d) q bk_144 2 L S w = ab_wb Ls (Sm Ls d) (Ev Ls (Sm Ls d) q bk_144) q 3 b_144_2 L S w := propext ⟨fun h => Ev.unfold (ab_Sm_mono d) h, fun h => Ev.fold (ab_Sm_mono d) h⟩
theorem ev_144_3 {Ls d : Nat} {q : Option ab_V → ab_W → Prop} {L S : List ab_V} {w : ab_W} : Ev Ls (Sm Ls d) q bk_144 3 L S w = ab_wb Ls (Sm Ls d) (Ev Ls (Sm Ls d) q bk_144) q 4 b_144_3 L S w := propext ⟨fun h => Ev.unfold (ab_Sm_mono d) h, fun h => Ev.fold (ab_Sm_mono d) h⟩
theorem ev_144_4 {Ls d : Nat} {q : Option ab_V → ab_W → Prop} {L S : List ab_V} {w : ab_W} : Ev Ls (Sm Ls d) q bk_144 4 L S w = ab_wb Ls (Sm Ls d) (Ev Ls (Sm Ls d) q bk_144) q 5 b_144_4 L S w := propext ⟨fun h => Ev.unfold (ab_Sm_mono d) h, fun h => Ev.fold (ab_Sm_mono d) h⟩
theorem en_145 {Ls d : Nat} {a0 : Nat} {w : ab_W} {q : Option ab_V → ab_W → Prop} : Sm Ls (d + 1) 145 [vR a0] w q = ab_wb Ls (Sm Ls d) (Ev Ls (Sm Ls d) q bk_145) q 1 b_145_0 [vR a0, vX, vX] [] w := propext ⟨fun h => Ev.unfold (ab_Sm_mono d) h.2, fun h => ⟨Nat.le_of_ble_eq_true rfl, Ev.fold (ab_Sm_mono d) h⟩⟩
theorem ev_145_0 {Ls d : Nat} {q : Option ab_V → ab_W → Prop} {L S : List ab_V} {w : ab_W} : Ev Ls (Sm Ls d) q bk_145 0 L S w = ab_wb Ls (Sm Ls d) (Ev Ls (Sm Ls d) q bk_145) q 1 b_145_0 L S w := propext ⟨fun h => Ev.unfold (ab_Sm_mono d) h, fun h => Ev.fold (ab_Sm_mono d) h⟩
theorem ev_145_1 {Ls d : Nat} {q : Option ab_V → ab_W → Prop} {L S : List ab_V} {w : ab_W} : Ev Ls (Sm Ls d) q bk_145 1 L S w = ab_wb Ls (Sm Ls d) (Ev Ls (Sm Ls d) q bk_145) q 2 b_145_1 L S w := propext ⟨fun h => Ev.unfold (ab_Sm_mono d) h, fun h => Ev.fold (ab_Sm_mono d) h⟩
theorem ev_145_2 {Ls d : Nat} {q : Option ab_V → ab_W → Prop} {L S : List ab_V} {w : ab_W} : Ev Ls (Sm Ls d) q bk_145 2 L S w = ab_wb Ls (Sm Ls d) (Ev Ls (Sm Ls d) q bk_145) q 3 b_145_2 L S w := propext ⟨fun h => Ev.unfold (ab_Sm_mono d) h, fun h => Ev.fold (ab_Sm_mono d) h⟩
theorem ev_145_3 {Ls d : Nat} {q : Option ab_V → ab_W → Prop} {L S : List ab_V} {w : ab_W} : Ev Ls (Sm Ls d) q bk_145 3 L S w = ab_wb Ls (Sm Ls d) (Ev Ls (Sm Ls d) q bk_145) q 4 b_145_3 L S w := propext ⟨fun h => Ev.unfold (ab_Sm_mono d) h, fun h => Ev.fold (ab_Sm_mono d) h⟩
theorem ev_145_4 {Ls d : Nat} {q : Option ab_V → ab_W → Prop} {L S : List ab_V} {w : ab_W} : Ev Ls (Sm Ls d) q bk_145 4 L S w = ab_wb Ls (Sm Ls d) (Ev Ls (Sm Ls d) q bk_145) q 5 b_145_4 L S w := propext ⟨fun h => Ev.unfold (ab_Sm_mono d) h, fun h => Ev.fold (ab_Sm_mono d) h⟩
theorem en_146 {Ls d : Nat} {a0 : Nat} {w : ab_W} {q : Option ab_V → ab_W → Prop} : Sm Ls (d + 1) 146 [vR a0] w q = ab_wb Ls (Sm Ls d) (Ev Ls (Sm Ls d) q bk_146) q 1 b_146_0 [vR a0] [] w := propext ⟨fun h => Ev.unfold (ab_Sm_mono d) h.2, fun h => ⟨Nat.le_of_ble_eq_true rfl, Ev.fold (ab_Sm_mono d) h⟩⟩
theorem ev_146_0 {Ls d : Nat} {q : Option ab_V → ab_W → Prop} {L S : List ab_V} {w : ab_W} : Ev Ls (Sm Ls d) q bk_146 0 L S w = ab_wb Ls (Sm Ls d) (Ev Ls (Sm Ls d) q bk_146) q 1 b_146_0 L S w := propext ⟨fun h => Ev.unfold (ab_Sm_mono d) h, fun h => Ev.fold (ab_Sm_mono d) h⟩
theorem en_147 {Ls d : Nat} {a0 : Nat} {a1 : Int} {w : ab_W} {q : Option ab_V → ab_W → Prop} : Sm Ls (d + 1) 147 [vR a0, vI a1] w q = ab_wb Ls (Sm Ls d) (Ev Ls (Sm Ls d) q bk_147) q 1 b_147_0 [vR a0, vI a1, vX, vX, vX, vX, vX] [] w := propext ⟨fun h => Ev.unfold (ab_Sm_mono d) h.2, fun h => ⟨Nat.le_of_ble_eq_true rfl, Ev.fold (ab_Sm_mono d) h⟩⟩
theorem ev_147_0 {Ls d : Nat} {q : Option ab_V → ab_W → Prop} {L S : List ab_V} {w : ab_W} : Ev Ls (Sm Ls d) q bk_147 0 L S w = ab_wb Ls (Sm Ls d) (Ev Ls (Sm Ls d) q bk_147) q 1 b_147_0 L S w := propext ⟨fun h => Ev.unfold (ab_Sm_mono d) h, fun h => Ev.fold (ab_Sm_mono d) h⟩
theorem ev_147_1 {Ls d : Nat} {q : Option ab_V → ab_W → Prop} {L S : List ab_V} {w : ab_W} : Ev Ls (Sm Ls d) q bk_147 1 L S w = ab_wb Ls (Sm Ls d) (Ev Ls (Sm Ls d) q bk_147) q 2 b_147_1 L S w := propext ⟨fun h => Ev.unfold (ab_Sm_mono d) h, fun h => Ev.fold (ab_Sm_mono d) h⟩
theorem ev_147_2 {Ls d : Nat} {q : Option ab_V → ab_W → Prop} {L S : List ab_V} {w : ab_W} : Ev Ls (Sm Ls d) q bk_147 2 L S w = ab_wb Ls (Sm Ls d) (Ev Ls (Sm Ls d) q bk_147) q 3 b_147_2 L S w := propext ⟨fun h => Ev.unfold (ab_Sm_mono d) h, fun h => Ev.fold (ab_Sm_mono d) h⟩
theorem ev_147_3 {Ls d : Nat} {q : Option ab_V → ab_W → Prop} {L S : List ab_V} {w : ab_W} : Ev Ls (Sm Ls d) q bk_147 3 L S w = ab_wb Ls (Sm Ls d) (Ev Ls (Sm Ls d) q bk_147) q 4 b_147_3 L S w := propext ⟨fun h => Ev.unfold (ab_Sm_mono d) h, fun h => Ev.fold (ab_Sm_mono d) h⟩
theorem ev_147_4 {Ls d : Nat} {q : Option ab_V → ab_W → Prop} {L S : List ab_V} {w : ab_W} : Ev Ls (Sm Ls d) q bk_147 4 L S w = ab_wb Ls (Sm Ls d) (Ev Ls (Sm Ls d) q bk_147) q 5 b_147_4 L S w := propext ⟨fun h => Ev.unfold (ab_Sm_mono d) h, fun h => Ev.fold (ab_Sm_mono d) h⟩
theorem ev_147_5 {Ls d : Nat} {q : Option ab_V → ab_W → Prop} {L S : List ab_V} {w : ab_W} : Ev Ls (Sm Ls d) q bk_147 5 L S w = ab_wb Ls (Sm Ls d) (Ev Ls (Sm Ls d) q bk_147) q 6 b_147_5 L S w := propext ⟨fun h => Ev.unfold (ab_Sm_mono d) h, fun h => Ev.fold (ab_Sm_mono d) h⟩
theorem ev_147_6 {Ls d : Nat} {q : Option ab_V → ab_W → Prop} {L S : List ab_V} {w : ab_W} : Ev Ls (Sm Ls d) q bk_147 6 L S w = ab_wb Ls (Sm Ls d) (Ev Ls (Sm Ls d) q bk_147) q 7 b_147_6 L S w := propext ⟨fun h => Ev.unfold (ab_Sm_mono d) h, fun h => Ev.fold (ab_Sm_mono d) h⟩
theorem ev_147_7 {Ls d : Nat} {q : Option ab_V → ab_W → Prop} {L S : List ab_V} {w : ab_W} : Ev Ls (Sm Ls d) q bk_147 7 L S w = ab_wb Ls (Sm Ls d) (Ev Ls (Sm Ls d) q bk_147) q 8 b_147_7 L S w := propext ⟨fun h => Ev.unfold (ab_Sm_mono d) h, fun h => Ev.fold (ab_Sm_mono d) h⟩
theorem ev_147_8 {Ls d : Nat} {q : Option ab_V → ab_W → Prop} {L S : List ab_V} {w : ab_W} : Ev Ls (Sm Ls d) q bk_147 8 L S w = ab_wb Ls (Sm Ls d) (Ev Ls (Sm Ls d) q bk_147) q 9 b_147_8 L S w := propext ⟨fun h => Ev.unfold (ab_Sm_mono d) h, fun h => Ev.fold (ab_Sm_mono d) h⟩
theorem ev_147_9 {Ls d : Nat} {q : Option ab_V → ab_W → Prop} {L S : List ab_V} {w : ab_W} : Ev Ls (Sm Ls d) q bk_147 9 L S w = ab_wb Ls (Sm Ls d) (Ev Ls (Sm Ls d) q bk_147) q 10 b_147_9 L S w := propext ⟨fun h => Ev.unfold (ab_Sm_mono d) h, fun h => Ev.fold (ab_Sm_mono d) h⟩
theorem ev_147_10 {Ls d : Nat} {q : Option ab_V → ab_W → Prop} {L S : List ab_V} {w : ab_W} : Ev Ls (Sm Ls d) q bk_147 10 L S w = ab_wb Ls (Sm Ls d) (Ev Ls (Sm Ls d) q bk_147) q 11 b_147_10 L S w := propext ⟨fun h => Ev.unfold (ab_Sm_mono d) h, fun h => Ev.fold (ab_Sm_mono d) h⟩
theorem ev_147_11 {Ls d : Nat} {q : Option ab_V → ab_W → Prop} {L S : List ab_V} {w : ab_W} : Ev Ls (Sm Ls d) q bk_147 11 L S w = ab_wb Ls (Sm Ls d) (Ev Ls (Sm Ls d) q bk_147) q 12 b_147_11 L S w := propext ⟨fun h => Ev.unfold (ab_Sm_mono d) h, fun h => Ev.fold (ab_Sm_mono d) h⟩
theorem ev_147_12 {Ls d : Nat} {q : Option ab_V → ab_W → Prop} {L S : List ab_V} {w : ab_W} : Ev Ls (Sm Ls d) q bk_147 12 L S w = ab_wb Ls (Sm Ls d) (Ev Ls (Sm Ls d) q bk_147) q 13 b_147_12 L S w := propext ⟨fun h => Ev.unfold (ab_Sm_mono d) h, fun h => Ev.fold (ab_Sm_mono d) h⟩
theorem en_148 {Ls d : Nat} {a0 : Nat} {a1 : Int} {w : ab_W} {q : Option ab_V → ab_W → Prop} : Sm Ls (d + 1) 148 [vR a0, vI a1] w q = ab_wb Ls (Sm Ls d) (Ev Ls (Sm Ls d) q bk_148) q 1 b_148_0 [vR a0, vI a1] [] w := propext ⟨fun h => Ev.unfold (ab_Sm_mono d) h.2, fun h => ⟨Nat.le_of_ble_eq_true rfl, Ev.fold (ab_Sm_mono d) h⟩⟩
theorem ev_148_0 {Ls d : Nat} {q : Option ab_V → ab_W → Prop} {L S : List ab_V} {w : ab_W} : Ev Ls (Sm Ls d) q bk_148 0 L S w = ab_wb Ls (Sm Ls d) (Ev Ls (Sm Ls d) q bk_148) q 1 b_148_0 L S w := propext ⟨fun h => Ev.unfold (ab_Sm_mono d) h, fun h => Ev.fold (ab_Sm_mono d) h⟩
theorem ev_148_1 {Ls d : Nat} {q : Option ab_V → ab_W → Prop} {L S : List ab_V} {w : ab_W} : Ev Ls (Sm Ls d) q bk_148 1 L S w = ab_wb Ls (Sm Ls d) (Ev Ls (Sm Ls d) q bk_148) q 2 b_148_1 L S w := propext ⟨fun h => Ev.unfold (ab_Sm_mono d) h, fun h => Ev.fold (ab_Sm_mono d) h⟩
theorem ev_148_2 {Ls d : Nat} {q : Option ab_V → ab_W → Prop} {L S : List ab_V} {w : ab_W} : Ev Ls (Sm Ls d) q bk_148 2 L S w = ab_wb Ls (Sm Ls d) (Ev Ls (Sm Ls d) q bk_148) q 3 b_148_2 L S w := propext ⟨fun h => Ev.unfold (ab_Sm_mono d) h, fun h => Ev.fold (ab_Sm_mono d) h⟩
theorem en_149 {Ls d : Nat} {a0 : Nat} {a1 : Int} {w : ab_W} {q : Option ab_V → ab_W → Prop} : Sm Ls (d + 1) 149 [vR a0, vI a1] w q = ab_wb Ls (Sm Ls d) (Ev Ls (Sm Ls d) q bk_149) q 1 b_149_0 [vR a0, vI a1] [] w := propext ⟨fun h => Ev.unfold (ab_Sm_mono d) h.2, fun h => ⟨Nat.le_of_ble_eq_true rfl, Ev.fold (ab_Sm_mono d) h⟩⟩
theorem ev_149_0 {Ls d : Nat} {q : Option ab_V → ab_W → Prop} {L S : List ab_V} {w : ab_W} : Ev Ls (Sm Ls d) q bk_149 0 L S w = ab_wb Ls (Sm Ls d) (Ev Ls (Sm Ls d) q bk_149) q 1 b_149_0 L S w := propext ⟨fun h => Ev.unfold (ab_Sm_mono d) h, fun h => Ev.fold (ab_Sm_mono d) h⟩
theorem en_150 {Ls d : Nat} {a0 : Nat} {a1 : Int} {w : ab_W} {q : Option ab_V → ab_W → Prop} : Sm Ls (d + 1) 150 [vR a0, vI a1] w q = ab_wb Ls (Sm Ls d) (Ev Ls (Sm Ls d) q bk_150) q 1 b_150_0 [vR a0, vI a1] [] w := propext ⟨fun h => Ev.unfold (ab_Sm_mono d) h.2, fun h => ⟨Nat.le_of_ble_eq_true rfl, Ev.fold (ab_Sm_mono d) h⟩⟩
theorem ev_150_0 {Ls d : Nat} {q : Option ab_V → ab_W → Prop} {L S : List ab_V} {w : ab_W} : Ev Ls (Sm Ls d) q bk_150 0 L S w = ab_wb Ls (Sm Ls d) (Ev Ls (Sm Ls d) q bk_150) q 1 b_150_0 L S w := propext ⟨fun h => Ev.unfold (ab_Sm_mono d) h, fun h => Ev.fold (ab_Sm_mono d) h⟩
theorem ev_150_1 {Ls d : Nat} {q : Option ab_V → ab_W → Prop} {L S : List ab_V} {w : ab_W} : Ev Ls (Sm Ls d) q bk_150 1 L S w = ab_wb Ls (Sm Ls d) (Ev Ls (Sm Ls d) q bk_150) q 2 b_150_1 L S w := propext ⟨fun h => Ev.unfold (ab_Sm_mono d) h, fun h => Ev.fold (ab_Sm_mono d) h⟩
theorem ev_150_2 {Ls d : Nat} {q : Option ab_V → ab_W → Prop} {L S : List ab_V} {w : ab_W} : Ev Ls (Sm Ls d) q bk_150 2 L S w = ab_wb Ls (Sm Ls d) (Ev Ls (Sm Ls d) q bk_150) q 3 b_150_2 L S w := propext ⟨fun h => Ev.unfold (ab_Sm_mono d) h, fun h => Ev.fold (ab_Sm_mono d) h⟩
theorem en_151 {Ls d : Nat} {a0 : Nat} {a1 : Int} {a2 : Int} {w : ab_W} {q : Option ab_V → ab_W → Prop} : Sm Ls (d + 1) 151 [vR a0, vI a1, vI a2] w q = ab_wb Ls (Sm Ls d) (Ev Ls (Sm Ls d) q bk_151) q 1 b_151_0 [vR a0, vI a1, vI a2, vX] [] w := propext ⟨fun h => Ev.unfold (ab_Sm_mono d) h.2, fun h => ⟨Nat.le_of_ble_eq_true rfl, Ev.fold (ab_Sm_mono d) h⟩⟩
theorem ev_151_0 {Ls d : Nat} {q : Option ab_V → ab_W → Prop} {L S : List ab_V} {w : ab_W} : Ev Ls (Sm Ls d) q bk_151 0 L S w = ab_wb Ls (Sm Ls d) (Ev Ls (Sm Ls d) q bk_151) q 1 b_151_0 L S w := propext ⟨fun h => Ev.unfold (ab_Sm_mono d) h, fun h => Ev.fold (ab_Sm_mono d) h⟩
theorem en_152 {Ls d : Nat} {a0 : Int} {w : ab_W} {q : Option ab_V → ab_W → Prop} : Sm Ls (d + 1) 152 [vI a0] w q = ab_wb Ls (Sm Ls d) (Ev Ls (Sm Ls d) q bk_152) q 1 b_152_0 [vI a0] [] w := propext ⟨fun h => Ev.unfold (ab_Sm_mono d) h.2, fun h => ⟨Nat.le_of_ble_eq_true rfl, Ev.fold (ab_Sm_mono d) h⟩⟩
theorem ev_152_0 {Ls d : Nat} {q : Option ab_V → ab_W → Prop} {L S : List ab_V} {w : ab_W} : Ev Ls (Sm Ls d) q bk_152 0 L S w = ab_wb Ls (Sm Ls d) (Ev Ls (Sm Ls d) q bk_152) q 1 b_152_0 L S w := propext ⟨fun h => Ev.unfold (ab_Sm_mono d) h, fun h => Ev.fold (ab_Sm_mono d) h⟩
theorem ev_152_1 {Ls d : Nat} {q : Option ab_V → ab_W → Prop} {L S : List ab_V} {w : ab_W} : Ev Ls (Sm Ls d) q bk_152 1 L S w = ab_wb Ls (Sm Ls d) (Ev Ls (Sm Ls d) q bk_152) q 2 b_152_1 L S w := propext ⟨fun h => Ev.unfold (ab_Sm_mono d) h, fun h => Ev.fold (ab_Sm_mono d) h⟩
theorem ev_152_2 {Ls d : Nat} {q : Option ab_V → ab_W → Prop} {L S : List ab_V} {w : ab_W} : Ev Ls (Sm Ls d) q bk_152 2 L S w = ab_wb Ls (Sm Ls d) (Ev Ls (Sm Ls d) q bk_152) q 3 b_152_2 L S w := propext ⟨fun h => Ev.unfold (ab_Sm_mono d) h, fun h => Ev.fold (ab_Sm_mono d) h⟩
theorem en_153 {Ls d : Nat} {a0 : Nat} {a1 : Int} {a2 : Int} {w : ab_W} {q : Option ab_V → ab_W → Prop} : Sm Ls (d + 1) 153 [vR a0, vI a1, vI a2] w q = ab_wb Ls (Sm Ls d) (Ev Ls (Sm Ls d) q bk_153) q 1 b_153_0 [vR a0, vI a1, vI a2, vX, vX, vX, vX] [] w := propext ⟨fun h => Ev.unfold (ab_Sm_mono d) h.2, fun h => ⟨Nat.le_of_ble_eq_true rfl, Ev.fold (ab_Sm_mono d) h⟩⟩
theorem ev_153_0 {Ls d : Nat} {q : Option ab_V → ab_W → Prop} {L S : List ab_V} {w : ab_W} : Ev Ls (Sm Ls d) q bk_153 0 L S w = ab_wb Ls (Sm Ls d) (Ev Ls (Sm Ls d) q bk_153) q 1 b_153_0 L S w := propext ⟨fun h => Ev.unfold (ab_Sm_mono d) h, fun h => Ev.fold (ab_Sm_mono d) h⟩
theorem ev_153_1 {Ls d : Nat} {q : Option ab_V → ab_W → Prop} {L S : List ab_V} {w : ab_W} : Ev Ls (Sm Ls d) q bk_153 1 L S w = ab_wb Ls (Sm Ls d) (Ev Ls (Sm Ls d) q bk_153) q 2 b_153_1 L S w := propext ⟨fun h => Ev.unfold (ab_Sm_mono d) h, fun h => Ev.fold (ab_Sm_mono d) h⟩
theorem ev_153_2 {Ls d : Nat} {q : Option ab_V → ab_W → Prop} {L S : List ab_V} {w : ab_W} : Ev Ls (Sm Ls d) q bk_153 2 L S w = ab_wb Ls (Sm Ls d) (Ev Ls (Sm Ls d) q bk_153) q 3 b_153_2 L S w := propext ⟨fun h => Ev.unfold (ab_Sm_mono d) h, fun h => Ev.fold (ab_Sm_mono d) h⟩
theorem ev_153_3 {Ls d : Nat} {q : Option ab_V → ab_W → Prop} {L S : List ab_V} {w : ab_W} : Ev Ls (Sm Ls d) q bk_153 3 L S w = ab_wb Ls (Sm Ls d) (Ev Ls (Sm Ls d) q bk_153) q 4 b_153_3 L S w := propext ⟨fun h => Ev.unfold (ab_Sm_mono d) h, fun h => Ev.fold (ab_Sm_mono d) h⟩
theorem ev_153_4 {Ls d : Nat} {q : Option ab_V → ab_W → Prop} {L S : List ab_V} {w : ab_W} : Ev Ls (Sm Ls d) q bk_153 4 L S w = ab_wb Ls (Sm Ls d) (Ev Ls (Sm Ls d) q bk_153) q 5 b_153_4 L S w := propext ⟨fun h => Ev.unfold (ab_Sm_mono d) h, fun h => Ev.fold (ab_Sm_mono d) h⟩
theorem ev_153_5 {Ls d : Nat} {q : Option ab_V → ab_W → Prop} {L S : List ab_V} {w : ab_W} : Ev Ls (Sm Ls d) q bk_153 5 L S w = ab_wb Ls (Sm Ls d) (Ev Ls (Sm Ls d) q bk_153) q 6 b_153_5 L S w := propext ⟨fun h => Ev.unfold (ab_Sm_mono d) h, fun h => Ev.fold (ab_Sm_mono d) h⟩
theorem ev_153_6 {Ls d : Nat} {q : Option ab_V → ab_W → Prop} {L S : List ab_V} {w : ab_W} : Ev Ls (Sm Ls d) q bk_153 6 L S w = ab_wb Ls (Sm Ls d) (Ev Ls (Sm Ls d) q bk_153) q 7 b_153_6 L S w := propext ⟨fun h => Ev.unfold (ab_Sm_mono d) h, fun h => Ev.fold (ab_Sm_mono d) h⟩
theorem ev_153_7 {Ls d : Nat} {q : Option ab_V → ab_W → Prop} {L S : List ab_V} {w : ab_W} : Ev Ls (Sm Ls d) q bk_153 7 L S w = ab_wb Ls (Sm Ls d) (Ev Ls (Sm Ls d) q bk_153) q 8 b_153_7 L S w := propext ⟨fun h => Ev.unfold (ab_Sm_mono d) h, fun h => Ev.fold (ab_Sm_mono d) h⟩
theorem ev_153_8 {Ls d : Nat} {q : Option ab_V → ab_W → Prop} {L S : List ab_V} {w : ab_W} : Ev Ls (Sm Ls d) q bk_153 8 L S w = ab_wb Ls (Sm Ls d) (Ev Ls (Sm Ls d) q bk_153) q 9 b_153_8 L S w := propext ⟨fun h => Ev.unfold (ab_Sm_mono d) h, fun h => Ev.fold (ab_Sm_mono d) h⟩
theorem ev_153_9 {Ls d : Nat} {q : Option ab_V → ab_W → Prop} {L S : List ab_V} {w : ab_W} : Ev Ls (Sm Ls d) q bk_153 9 L S w = ab_wb Ls (Sm Ls d) (Ev Ls (Sm Ls d) q bk_153) q 10 b_153_9 L S w := propext ⟨fun h => Ev.unfold (ab_Sm_mono d) h, fun h => Ev.fold (ab_Sm_mono d) h⟩
theorem ev_153_10 {Ls d : Nat} {q : Option ab_V → ab_W → Prop} {L S : List ab_V} {w : ab_W} : Ev Ls (Sm Ls d) q bk_153 10 L S w = ab_wb Ls (Sm Ls d) (Ev Ls (Sm Ls d) q bk_153) q 11 b_153_10 L S w := propext ⟨fun h => Ev.unfold (ab_Sm_mono d) h, fun h => Ev.fold (ab_Sm_mono d) h⟩
theorem ev_153_11 {Ls d : Nat} {q : Option ab_V → ab_W → Prop} {L S : List ab_V} {w : ab_W} : Ev Ls (Sm Ls d) q bk_153 11 L S w = ab_wb Ls (Sm Ls d) (Ev Ls (Sm Ls d) q bk_153) q 12 b_153_11 L S w := propext ⟨fun h => Ev.unfold (ab_Sm_mono d) h, fun h => Ev.fold (ab_Sm_mono d) h⟩
theorem ev_153_12 {Ls d : Nat} {q : Option ab_V → ab_W → Prop} {L S : List ab_V} {w : ab_W} : Ev Ls (Sm Ls d) q bk_153 12 L S w = ab_wb Ls (Sm Ls d) (Ev Ls (Sm Ls d) q bk_153) q 13 b_153_12 L S w := propext ⟨fun h => Ev.unfold (ab_Sm_mono d) h, fun h => Ev.fold (ab_Sm_mono d) h⟩
theorem en_154 {Ls d : Nat} {a0 : Nat} {a1 : Int} {a2 : Int} {w : ab_W} {q : Option ab_V → ab_W → Prop} : Sm Ls (d + 1) 154 [vR a0, vI a1, vI a2] w q = ab_wb Ls (Sm Ls d) (Ev Ls (Sm Ls d) q bk_154) q 1 b_154_0 [vR a0, vI a1, vI a2] [] w := propext ⟨fun h => Ev.unfold (ab_Sm_mono d) h.2, fun h => ⟨Nat.le_of_ble_eq_true rfl, Ev.fold (ab_Sm_mono d) h⟩⟩
theorem ev_154_0 {Ls d : Nat} {q : Option ab_V → ab_W → Prop} {L S : List ab_V} {w : ab_W} : Ev Ls (Sm Ls d) q bk_154 0 L S w = ab_wb Ls (Sm Ls d) (Ev Ls (Sm Ls d) q bk_154) q 1 b_154_0 L S w := propext ⟨fun h => Ev.unfold (ab_Sm_mono d) h, fun h => Ev.fold (ab_Sm_mono d) h⟩
theorem ev_154_1 {Ls d : Nat} {q : Option ab_V → ab_W → Prop} {L S : List ab_V} {w : ab_W} : Ev Ls (Sm Ls d) q bk_154 1 L S w = ab_wb Ls (Sm Ls d) (Ev Ls (Sm Ls d) q bk_154) q 2 b_154_1 L S w := propext ⟨fun h => Ev.unfold (ab_Sm_mono d) h, fun h => Ev.fold (ab_Sm_mono d) h⟩
theorem ev_154_2 {Ls d : Nat} {q : Option ab_V → ab_W → Prop} {L S : List ab_V} {w : ab_W} : Ev Ls (Sm Ls d) q bk_154 2 L S w = ab_wb Ls (Sm Ls d) (Ev Ls (Sm Ls d) q bk_154) q 3 b_154_2 L S w := propext ⟨fun h => Ev.unfold (ab_Sm_mono d) h, fun h => Ev.fold (ab_Sm_mono d) h⟩
theorem en_155 {Ls d : Nat} {a0 : Nat} {a1 : Int} {a2 : Int} {w : ab_W} {q : Option ab_V → ab_W → Prop} : Sm Ls (d + 1) 155 [vR a0, vI a1, vI a2] w q = ab_wb Ls (Sm Ls d) (Ev Ls (Sm Ls d) q bk_155) q 1 b_155_0 [vR a0, vI a1, vI a2, vX, vX, vX, vX, vX] [] w := propext ⟨fun h => Ev.unfold (ab_Sm_mono d) h.2, fun h => ⟨Nat.le_of_ble_eq_true rfl, Ev.fold (ab_Sm_mono d) h⟩⟩
theorem ev_155_0 {Ls d : Nat} {q : Option ab_V → ab_W → Prop} {L S : List ab_V} {w : ab_W} : Ev Ls (Sm Ls d) q bk_155 0 L S w = ab_wb Ls (Sm Ls d) (Ev Ls (Sm Ls d) q bk_155) q 1 b_155_0 L S w := propext ⟨fun h => Ev.unfold (ab_Sm_mono d) h, fun h => Ev.fold (ab_Sm_mono d) h⟩
theorem ev_155_1 {Ls d : Nat} {q : Option ab_V → ab_W → Prop} {L S : List ab_V} {w : ab_W} : Ev Ls (Sm Ls d) q bk_155 1 L S w = ab_wb Ls (Sm Ls d) (Ev Ls (Sm Ls d) q bk_155) q 2 b_155_1 L S w := propext ⟨fun h => Ev.unfold (ab_Sm_mono d) h, fun h => Ev.fold (ab_Sm_mono d) h⟩
theorem ev_155_2 {Ls d : Nat} {q : Option ab_V → ab_W → Prop} {L S : List ab_V} {w : ab_W} : Ev Ls (Sm Ls d) q bk_155 2 L S w = ab_wb Ls (Sm Ls d) (Ev Ls (Sm Ls d) q bk_155) q 3 b_155_2 L S w := propext ⟨fun h => Ev.unfold (ab_Sm_mono d) h, fun h => Ev.fold (ab_Sm_mono d) h⟩
theorem ev_155_3 {Ls d : Nat} {q : Option ab_V → ab_W → Prop} {L S : List ab_V} {w : ab_W} : Ev Ls (Sm Ls d) q bk_155 3 L S w = ab_wb Ls (Sm Ls d) (Ev Ls (Sm Ls d) q bk_155) q 4 b_155_3 L S w := propext ⟨fun h => Ev.unfold (ab_Sm_mono d) h, fun h => Ev.fold (ab_Sm_mono d) h⟩
theorem ev_155_4 {Ls d : Nat} {q : Option ab_V → ab_W → Prop} {L S : List ab_V} {w : ab_W} : Ev Ls (Sm Ls d) q bk_155 4 L S w = ab_wb Ls (Sm Ls d) (Ev Ls (Sm Ls d) q bk_155) q 5 b_155_4 L S w := propext ⟨fun h => Ev.unfold (ab_Sm_mono d) h, fun h => Ev.fold (ab_Sm_mono d) h⟩
theorem ev_155_5 {Ls d : Nat} {q : Option ab_V → ab_W → Prop} {L S : List ab_V} {w : ab_W} : Ev Ls (Sm Ls d) q bk_155 5 L S w = ab_wb Ls (Sm Ls d) (Ev Ls (Sm Ls d) q bk_155) q 6 b_155_5 L S w := propext ⟨fun h => Ev.unfold (ab_Sm_mono d) h, fun h => Ev.fold (ab_Sm_mono d) h⟩
theorem ev_155_6 {Ls d : Nat} {q : Option ab_V → ab_W → Prop} {L S : List ab_V} {w : ab_W} : Ev Ls (Sm Ls d) q bk_155 6 L S w = ab_wb Ls (Sm Ls d) (Ev Ls (Sm Ls d) q bk_155) q 7 b_155_6 L S w := propext ⟨fun h => Ev.unfold (ab_Sm_mono d) h, fun h => Ev.fold (ab_Sm_mono d) h⟩
theorem ev_155_7 {Ls d : Nat} {q : Option ab_V → ab_W → Prop} {L S : List ab_V} {w : ab_W} : Ev Ls (Sm Ls d) q bk_155 7 L S w = ab_wb Ls (Sm Ls d) (Ev Ls (Sm Ls d) q bk_155) q 8 b_155_7 L S w := propext ⟨fun h => Ev.unfold (ab_Sm_mono d) h, fun h => Ev.fold (ab_Sm_mono d) h⟩
theorem ev_155_8 {Ls d : Nat} {q : Option ab_V → ab_W → Prop} {L S : List ab_V} {w : ab_W} : Ev Ls (Sm Ls d) q bk_155 8 L S w = ab_wb Ls (Sm Ls d) (Ev Ls (Sm Ls d) q bk_155) q 9 b_155_8 L S w := propext ⟨fun h => Ev.unfold (ab_Sm_mono d) h, fun h => Ev.fold (ab_Sm_mono d) h⟩
theorem ev_155_9 {Ls d : Nat} {q : Option ab_V → ab_W → Prop} {L S : List ab_V} {w : ab_W} : Ev Ls (Sm Ls d) q bk_155 9 L S w = ab_wb Ls (Sm Ls d) (Ev Ls (Sm Ls d) q bk_155) q 10 b_155_9 L S w := propext ⟨fun h => Ev.unfold (ab_Sm_mono d) h, fun h => Ev.fold (ab_Sm_mono d) h⟩
theorem ev_155_10 {Ls d : Nat} {q : Option ab_V → ab_W → Prop} {L S : List ab_V} {w : ab_W} : Ev Ls (Sm Ls d) q bk_155 10 L S w = ab_wb Ls (Sm Ls d) (Ev Ls (Sm Ls d) q bk_155) q 11 b_155_10 L S w := propext ⟨fun h => Ev.unfold (ab_Sm_mono d) h, fun h => Ev.fold (ab_Sm_mono d) h⟩
theorem ev_155_11 {Ls d : Nat} {q : Option ab_V → ab_W → Prop} {L S : List ab_V} {w : ab_W} : Ev Ls (Sm Ls d) q bk_155 11 L S w = ab_wb Ls (Sm Ls d) (Ev Ls (Sm Ls d) q bk_155) q 12 b_155_11 L S w := propext ⟨fun h => Ev.unfold (ab_Sm_mono d) h, fun h => Ev.fold (ab_Sm_mono d) h⟩
theorem ev_155_12 {Ls d : Nat} {q : Option ab_V → ab_W → Prop} {L S : List ab_V} {w : ab_W} : Ev Ls (Sm Ls d) q bk_155 12 L S w = ab_wb Ls (Sm Ls d) (Ev Ls (Sm Ls d) q bk_155) q 13 b_155_12 L S w := propext ⟨fun h => Ev.unfold (ab_Sm_mono d) h, fun h => Ev.fold (ab_Sm_mono d) h⟩
theorem ev_155_13 {Ls d : Nat} {q : Option ab_V → ab_W → Prop} {L S : List ab_V} {w : ab_W} : Ev Ls (Sm Ls d) q bk_155 13 L S w = ab_wb Ls (Sm Ls d) (Ev Ls (Sm Ls d) q bk_155) q 14 b_155_13 L S w := propext ⟨fun h => Ev.unfold (ab_Sm_mono d) h, fun h => Ev.fold (ab_Sm_mono d) h⟩
theorem en_156 {Ls d : Nat} {a0 : Nat} {a1 : Int} {a2 : Int} {w : ab_W} {q : Option ab_V → ab_W → Prop} : Sm Ls (d + 1) 156 [vR a0, vI a1, vI a2] w q = ab_wb Ls (Sm Ls d) (Ev Ls (Sm Ls d) q bk_156) q 1 b_156_0 [vR a0, vI a1, vI a2] [] w := propext ⟨fun h => Ev.unfold (ab_Sm_mono d) h.2, fun h => ⟨Nat.le_of_ble_eq_true rfl, Ev.fold (ab_Sm_mono d) h⟩⟩
theorem ev_156_0 {Ls d : Nat} {q : Option ab_V → ab_W → Prop} {L S : List ab_V} {w : ab_W} : Ev Ls (Sm Ls d) q bk_156 0 L S w = ab_wb Ls (Sm Ls d) (Ev Ls (Sm Ls d) q bk_156) q 1 b_156_0 L S w := propext ⟨fun h => Ev.unfold (ab_Sm_mono d) h, fun h => Ev.fold (ab_Sm_mono d) h⟩
theorem ev_156_1 {Ls d : Nat} {q : Option ab_V → ab_W → Prop} {L S : List ab_V} {w : ab_W} : Ev Ls (Sm Ls d) q bk_156 1 L S w = ab_wb Ls (Sm Ls d) (Ev Ls (Sm Ls d) q bk_156) q 2 b_156_1 L S w := propext ⟨fun h => Ev.unfold (ab_Sm_mono d) h, fun h => Ev.fold (ab_Sm_mono d) h⟩
theorem ev_156_2 {Ls d : Nat} {q : Option ab_V → ab_W → Prop} {L S : List ab_V} {w : ab_W} : Ev Ls (Sm Ls d) q bk_156 2 L S w = ab_wb Ls (Sm Ls d) (Ev Ls (Sm Ls d) q bk_156) q 3 b_156_2 L S w := propext ⟨fun h => Ev.unfold (ab_Sm_mono d) h, fun h => Ev.fold (ab_Sm_mono d) h⟩
theorem en_157 {Ls d : Nat} {a0 : Nat} {a1 : Int} {w : ab_W} {q : Option ab_V → ab_W → Prop} : Sm Ls (d + 1) 157 [vR a0, vI a1] w q = ab_wb Ls (Sm Ls d) (Ev Ls (Sm Ls d) q bk_157) q 1 b_157_0 [vR a0, vI a1, vX] [] w := propext ⟨fun h => Ev.unfold (ab_Sm_mono d) h.2, fun h => ⟨Nat.le_of_ble_eq_true rfl, Ev.fold (ab_Sm_mono d) h⟩⟩
theorem ev_157_0 {Ls d : Nat} {q : Option ab_V → ab_W → Prop} {L S : List ab_V} {w : ab_W} : Ev Ls (Sm Ls d) q bk_157 0 L S w = ab_wb Ls (Sm Ls d) (Ev Ls (Sm Ls d) q bk_157) q 1 b_157_0 L S w := propext ⟨fun h => Ev.unfold (ab_Sm_mono d) h, fun h => Ev.fold (ab_Sm_mono d) h⟩
theorem ev_157_1 {Ls d : Nat} {q : Option ab_V → ab_W → Prop} {L S : List ab_V} {w : ab_W} : Ev Ls (Sm Ls d) q bk_157 1 L S w = ab_wb Ls (Sm Ls d) (Ev Ls (Sm Ls d) q bk_157) q 2 b_157_1 L S w := propext ⟨fun h => Ev.unfold (ab_Sm_mono d) h, fun h => Ev.fold (ab_Sm_mono d) h⟩
theorem ev_157_2 {Ls d : Nat} {q : Option ab_V → ab_W → Prop} {L S : List ab_V} {w : ab_W} : Ev Ls (Sm Ls d) q bk_157 2 L S w = ab_wb Ls (Sm Ls d) (Ev Ls (Sm Ls d) q bk_157) q 3 b_157_2 L S w := propext ⟨fun h => Ev.unfold (ab_Sm_mono d) h, fun h => Ev.fold (ab_Sm_mono d) h⟩
theorem ev_157_3 {Ls d : Nat} {q : Option ab_V → ab_W → Prop} {L S : List ab_V} {w : ab_W} : Ev Ls (Sm Ls d) q bk_157 3 L S w = ab_wb Ls (Sm Ls d) (Ev Ls (Sm Ls d) q bk_157) q 4 b_157_3 L S w := propext ⟨fun h => Ev.unfold (ab_Sm_mono d) h, fun h => Ev.fold (ab_Sm_mono d) h⟩
theorem en_158 {Ls d : Nat} {a0 : Nat} {a1 : Int} {w : ab_W} {q : Option ab_V → ab_W → Prop} : Sm Ls (d + 1) 158 [vR a0, vI a1] w q = ab_wb Ls (Sm Ls d) (Ev Ls (Sm Ls d) q bk_158) q 1 b_158_0 [vR a0, vI a1] [] w := propext ⟨fun h => Ev.unfold (ab_Sm_mono d) h.2, fun h => ⟨Nat.le_of_ble_eq_true rfl, Ev.fold (ab_Sm_mono d) h⟩⟩
theorem ev_158_0 {Ls d : Nat} {q : Option ab_V → ab_W → Prop} {L S : List ab_V} {w : ab_W} : Ev Ls (Sm Ls d) q bk_158 0 L S w = ab_wb Ls (Sm Ls d) (Ev Ls (Sm Ls d) q bk_158) q 1 b_158_0 L S w := propext ⟨fun h => Ev.unfold (ab_Sm_mono d) h, fun h => Ev.fold (ab_Sm_mono d) h⟩
theorem ev_158_1 {Ls d : Nat} {q : Option ab_V → ab_W → Prop} {L S : List ab_V} {w : ab_W} : Ev Ls (Sm Ls d) q bk_158 1 L S w = ab_wb Ls (Sm Ls d) (Ev Ls (Sm Ls d) q bk_158) q 2 b_158_1 L S w := propext ⟨fun h => Ev.unfold (ab_Sm_mono d) h, fun h => Ev.fold (ab_Sm_mono d) h⟩
theorem ev_158_2 {Ls d : Nat} {q : Option ab_V → ab_W → Prop} {L S : List ab_V} {w : ab_W} : Ev Ls (Sm Ls d) q bk_158 2 L S w = ab_wb Ls (Sm Ls d) (Ev Ls (Sm Ls d) q bk_158) q 3 b_158_2 L S w := propext ⟨fun h => Ev.unfold (ab_Sm_mono d) h, fun h => Ev.fold (ab_Sm_mono d) h⟩
theorem en_159 {Ls d : Nat} {a0 : Nat} {a1 : Int} {w : ab_W} {q : Option ab_V → ab_W → Prop} : Sm Ls (d + 1) 159 [vR a0, vI a1] w q = ab_wb Ls (Sm Ls d) (Ev Ls (Sm Ls d) q bk_159) q 1 b_159_0 [vR a0, vI a1] [] w := propext ⟨fun h => Ev.unfold (ab_Sm_mono d) h.2, fun h => ⟨Nat.le_of_ble_eq_true rfl, Ev.fold (ab_Sm_mono d) h⟩⟩
theorem ev_159_0 {Ls d : Nat} {q : Option ab_V → ab_W → Prop} {L S : List ab_V} {w : ab_W} : Ev Ls (Sm Ls d) q bk_159 0 L S w = ab_wb Ls (Sm Ls d) (Ev Ls (Sm Ls d) q bk_159) q 1 b_159_0 L S w := propext ⟨fun h => Ev.unfold (ab_Sm_mono d) h, fun h => Ev.fold (ab_Sm_mono d) h⟩
theorem ev_159_1 {Ls d : Nat} {q : Option ab_V → ab_W → Prop} {L S : List ab_V} {w : ab_W} : Ev Ls (Sm Ls d) q bk_159 1 L S w = ab_wb Ls (Sm Ls d) (Ev Ls (Sm Ls d) q bk_159) q 2 b_159_1 L S w := propext ⟨fun h => Ev.unfold (ab_Sm_mono d) h, fun h => Ev.fold (ab_Sm_mono d) h⟩
theorem ev_159_2 {Ls d : Nat} {q : Option ab_V → ab_W → Prop} {L S : List ab_V} {w : ab_W} : Ev Ls (Sm Ls d) q bk_159 2 L S w = ab_wb Ls (Sm Ls d) (Ev Ls (Sm Ls d) q bk_159) q 3 b_159_2 L S w := propext ⟨fun h => Ev.unfold (ab_Sm_mono d) h, fun h => Ev.fold (ab_Sm_mono d) h⟩
theorem en_160 {Ls d : Nat} {a0 : Nat} {w : ab_W} {q : Option ab_V → ab_W → Prop} : Sm Ls (d + 1) 160 [vR a0] w q = ab_wb Ls (Sm Ls d) (Ev Ls (Sm Ls d) q bk_160) q 1 b_160_0 [vR a0, vX, vX] [] w := propext ⟨fun h => Ev.unfold (ab_Sm_mono d) h.2, fun h => ⟨Nat.le_of_ble_eq_true rfl, Ev.fold (ab_Sm_mono d) h⟩⟩
theorem ev_160_0 {Ls d : Nat} {q : Option ab_V → ab_W → Prop} {L S : List ab_V} {w : ab_W} : Ev Ls (Sm Ls d) q bk_160 0 L S w = ab_wb Ls (Sm Ls d) (Ev Ls (Sm Ls d) q bk_160) q 1 b_160_0 L S w := propext ⟨fun h => Ev.unfold (ab_Sm_mono d) h, fun h => Ev.fold (ab_Sm_mono d) h⟩
theorem ev_160_1 {Ls d : Nat} {q : Option ab_V → ab_W → Prop} {L S : List ab_V} {w : ab_W} : Ev Ls (Sm Ls d) q bk_160 1 L S w = ab_wb Ls (Sm Ls d) (Ev Ls (Sm Ls d) q bk_160) q 2 b_160_1 L S w := propext ⟨fun h => Ev.unfold (ab_Sm_mono d) h, fun h => Ev.fold (ab_Sm_mono d) h⟩
theorem ev_160_2 {Ls d : Nat} {q : Option ab_V → ab_W → Prop} {L S : List ab_V} {w : ab_W} : Ev Ls (Sm Ls d) q bk_160 2 L S w = ab_wb Ls (Sm Ls d) (Ev Ls (Sm Ls d) q bk_160) q 3 b_160_2 L S w := propext ⟨fun h => Ev.unfold (ab_Sm_mono d) h, fun h => Ev.fold (ab_Sm_mono d) h⟩
theorem ev_160_3 {Ls d : Nat} {q : Option ab_V → ab_W → Prop} {L S : List ab_V} {w : ab_W} : Ev Ls (Sm Ls d) q bk_160 3 L S w = ab_wb Ls (Sm Ls d) (Ev Ls (Sm Ls d) q bk_160) q 4 b_160_3 L S w := propext ⟨fun h => Ev.unfold (ab_Sm_mono d) h, fun h => Ev.fold (ab_Sm_mono d) h⟩
theorem ev_160_4 {Ls d : Nat} {q : Option ab_V → ab_W → Prop} {L S : List ab_V} {w : ab_W} : Ev Ls (Sm Ls d) q bk_160 4 L S w = ab_wb Ls (Sm Ls d) (Ev Ls (Sm Ls d) q bk_160) q 5 b_160_4 L S w := propext ⟨fun h => Ev.unfold (ab_Sm_mono d) h, fun h => Ev.fold (ab_Sm_mono d) h⟩
theorem ev_160_5 {Ls d : Nat} {q : Option ab_V → ab_W → Prop} {L S : List ab_V} {w : ab_W} : Ev Ls (Sm Ls d) q bk_160 5 L S w = ab_wb Ls (Sm Ls d) (Ev Ls (Sm Ls d) q bk_160) q 6 b_160_5 L S w := propext ⟨fun h => Ev.unfold (ab_Sm_mono d) h, fun h => Ev.fold (ab_Sm_mono d) h⟩
theorem ev_160_6 {Ls d : Nat} {q : Option ab_V → ab_W → Prop} {L S : List ab_V} {w : ab_W} : Ev Ls (Sm Ls d) q bk_160 6 L S w = ab_wb Ls (Sm Ls d) (Ev Ls (Sm Ls d) q bk_160) q 7 b_160_6 L S w := propext ⟨fun h => Ev.unfold (ab_Sm_mono d) h, fun h => Ev.fold (ab_Sm_mono d) h⟩
theorem ev_160_7 {Ls d : Nat} {q : Option ab_V → ab_W → Prop} {L S : List ab_V} {w : ab_W} : Ev Ls (Sm Ls d) q bk_160 7 L S w = ab_wb Ls (Sm Ls d) (Ev Ls (Sm Ls d) q bk_160) q 8 b_160_7 L S w := propext ⟨fun h => Ev.unfold (ab_Sm_mono d) h, fun h => Ev.fold (ab_Sm_mono d) h⟩
theorem ev_160_8 {Ls d : Nat} {q : Option ab_V → ab_W → Prop} {L S : List ab_V} {w : ab_W} : Ev Ls (Sm Ls d) q bk_160 8 L S w = ab_wb Ls (Sm Ls d) (Ev Ls (Sm Ls d) q bk_160) q 9 b_160_8 L S w := propext ⟨fun h => Ev.unfold (ab_Sm_mono d) h, fun h => Ev.fold (ab_Sm_mono d) h⟩
theorem ev_160_9 {Ls d : Nat} {q : Option ab_V → ab_W → Prop} {L S : List ab_V} {w : ab_W} : Ev Ls (Sm Ls d) q bk_160 9 L S w = ab_wb Ls (Sm Ls d) (Ev Ls (Sm Ls d) q bk_160) q 10 b_160_9 L S w := propext ⟨fun h => Ev.unfold (ab_Sm_mono d) h, fun h => Ev.fold (ab_Sm_mono d) h⟩
theorem en_161 {Ls d : Nat} {a0 : Nat} {a1 : Int} {a2 : Int} {w : ab_W} {q : Option ab_V → ab_W → Prop} : Sm Ls (d + 1) 161 [vR a0, vI a1, vI a2] w q = ab_wb Ls (Sm Ls d) (Ev Ls (Sm Ls d) q bk_161) q 1 b_161_0 [vR a0, vI a1, vI a2] [] w := propext ⟨fun h => Ev.unfold (ab_Sm_mono d) h.2, fun h => ⟨Nat.le_of_ble_eq_true rfl, Ev.fold (ab_Sm_mono d) h⟩⟩
theorem ev_161_0 {Ls d : Nat} {q : Option ab_V → ab_W → Prop} {L S : List ab_V} {w : ab_W} : Ev Ls (Sm Ls d) q bk_161 0 L S w = ab_wb Ls (Sm Ls d) (Ev Ls (Sm Ls d) q bk_161) q 1 b_161_0 L S w := propext ⟨fun h => Ev.unfold (ab_Sm_mono d) h, fun h => Ev.fold (ab_Sm_mono d) h⟩
theorem ev_161_1 {Ls d : Nat} {q : Option ab_V → ab_W → Prop} {L S : List ab_V} {w : ab_W} : Ev Ls (Sm Ls d) q bk_161 1 L S w = ab_wb Ls (Sm Ls d) (Ev Ls (Sm Ls d) q bk_161) q 2 b_161_1 L S w := propext ⟨fun h => Ev.unfold (ab_Sm_mono d) h, fun h => Ev.fold (ab_Sm_mono d) h⟩
theorem ev_161_2 {Ls d : Nat} {q : Option ab_V → ab_W → Prop} {L S : List ab_V} {w : ab_W} : Ev Ls (Sm Ls d) q bk_161 2 L S w = ab_wb Ls (Sm Ls d) (Ev Ls (Sm Ls d) q bk_161) q 3 b_161_2 L S w := propext ⟨fun h => Ev.unfold (ab_Sm_mono d) h, fun h => Ev.fold (ab_Sm_mono d) h⟩
theorem ev_161_3 {Ls d : Nat} {q : Option ab_V → ab_W → Prop} {L S : List ab_V} {w : ab_W} : Ev Ls (Sm Ls d) q bk_161 3 L S w = ab_wb Ls (Sm Ls d) (Ev Ls (Sm Ls d) q bk_161) q 4 b_161_3 L S w := propext ⟨fun h => Ev.unfold (ab_Sm_mono d) h, fun h => Ev.fold (ab_Sm_mono d) h⟩
theorem en_162 {Ls d : Nat} {a0 : Nat} {a1 : Int} {w : ab_W} {q : Option ab_V → ab_W → Prop} : Sm Ls (d + 1) 162 [vR a0, vI a1] w q = ab_wb Ls (Sm Ls d) (Ev Ls (Sm Ls d) q bk_162) q 1 b_162_0 [vR a0, vI a1] [] w := propext ⟨fun h => Ev.unfold (ab_Sm_mono d) h.2, fun h => ⟨Nat.le_of_ble_eq_true rfl, Ev.fold (ab_Sm_mono d) h⟩⟩
theorem ev_162_0 {Ls d : Nat} {q : Option ab_V → ab_W → Prop} {L S : List ab_V} {w : ab_W} : Ev Ls (Sm Ls d) q bk_162 0 L S w = ab_wb Ls (Sm Ls d) (Ev Ls (Sm Ls d) q bk_162) q 1 b_162_0 L S w := propext ⟨fun h => Ev.unfold (ab_Sm_mono d) h, fun h => Ev.fold (ab_Sm_mono d) h⟩
theorem ev_162_1 {Ls d : Nat} {q : Option ab_V → ab_W → Prop} {L S : List ab_V} {w : ab_W} : Ev Ls (Sm Ls d) q bk_162 1 L S w = ab_wb Ls (Sm Ls d) (Ev Ls (Sm Ls d) q bk_162) q 2 b_162_1 L S w := propext ⟨fun h => Ev.unfold (ab_Sm_mono d) h, fun h => Ev.fold (ab_Sm_mono d) h⟩
theorem ev_162_2 {Ls d : Nat} {q : Option ab_V → ab_W → Prop} {L S : List ab_V} {w : ab_W} : Ev Ls (Sm Ls d) q bk_162 2 L S w = ab_wb Ls (Sm Ls d) (Ev Ls (Sm Ls d) q bk_162) q 3 b_162_2 L S w := propext ⟨fun h => Ev.unfold (ab_Sm_mono d) h, fun h => Ev.fold (ab_Sm_mono d) h⟩
theorem en_163 {Ls d : Nat} {a0 : Nat} {a1 : Int} {a2 : Int} {a3 : Int} {w : ab_W} {q : Option ab_V → ab_W → Prop} : Sm Ls (d + 1) 163 [vR a0, vI a1, vI a2, vI a3] w q = ab_wb Ls (Sm Ls d) (Ev Ls (Sm Ls d) q bk_163) q 1 b_163_0 [vR a0, vI a1, vI a2, vI a3] [] w := propext ⟨fun h => Ev.unfold (ab_Sm_mono d) h.2, fun h => ⟨Nat.le_of_ble_eq_true rfl, Ev.fold (ab_Sm_mono d) h⟩⟩
theorem ev_163_0 {Ls d : Nat} {q : Option ab_V → ab_W → Prop} {L S : List ab_V} {w : ab_W} : Ev Ls (Sm Ls d) q bk_163 0 L S w = ab_wb Ls (Sm Ls d) (Ev Ls (Sm Ls d) q bk_163) q 1 b_163_0 L S w := propext ⟨fun h => Ev.unfold (ab_Sm_mono d) h, fun h => Ev.fold (ab_Sm_mono d) h⟩
theorem ev_163_1 {Ls d : Nat} {q : Option ab_V → ab_W → Prop} {L S : List ab_V} {w : ab_W} : Ev Ls (Sm Ls d) q bk_163 1 L S w = ab_wb Ls (Sm Ls d) (Ev Ls (Sm Ls d) q bk_163) q 2 b_163_1 L S w := propext ⟨fun h => Ev.unfold (ab_Sm_mono d) h, fun h => Ev.fold (ab_Sm_mono d) h⟩
theorem ev_163_2 {Ls d : Nat} {q : Option ab_V → ab_W → Prop} {L S : List ab_V} {w : ab_W} : Ev Ls (Sm Ls d) q bk_163 2 L S w = ab_wb Ls (Sm Ls d) (Ev Ls (Sm Ls d) q bk_163) q 3 b_163_2 L S w := propext ⟨fun h => Ev.unfold (ab_Sm_mono d) h, fun h => Ev.fold (ab_Sm_mono d) h⟩
theorem ev_163_3 {Ls d : Nat} {q : Option ab_V → ab_W → Prop} {L S : List ab_V} {w : ab_W} : Ev Ls (Sm Ls d) q bk_163 3 L S w = ab_wb Ls (Sm Ls d) (Ev Ls (Sm Ls d) q bk_163) q 4 b_163_3 L S w := propext ⟨fun h => Ev.unfold (ab_Sm_mono d) h, fun h => Ev.fold (ab_Sm_mono d) h⟩
theorem en_164 {Ls d : Nat} {a0 : Nat} {w : ab_W} {q : Option ab_V → ab_W → Prop} : Sm Ls (d + 1) 164 [vR a0] w q = ab_wb Ls (Sm Ls d) (Ev Ls (Sm Ls d) q bk_164) q 1 b_164_0 [vR a0, vX] [] w := propext ⟨fun h => Ev.unfold (ab_Sm_mono d) h.2, fun h => ⟨Nat.le_of_ble_eq_true rfl, Ev.fold (ab_Sm_mono d) h⟩⟩
theorem ev_164_0 {Ls d : Nat} {q : Option ab_V → ab_W → Prop} {L S : List ab_V} {w : ab_W} : Ev Ls (Sm Ls d) q bk_164 0 L S w = ab_wb Ls (Sm Ls d) (Ev Ls (Sm Ls d) q bk_164) q 1 b_164_0 L S w := propext ⟨fun h => Ev.unfold (ab_Sm_mono d) h, fun h => Ev.fold (ab_Sm_mono d) h⟩
theorem en_165 {Ls d : Nat} {a0 : Nat} {w : ab_W} {q : Option ab_V → ab_W → Prop} : Sm Ls (d + 1) 165 [vR a0] w q = ab_wb Ls (Sm Ls d) (Ev Ls (Sm Ls d) q bk_165) q 1 b_165_0 [vR a0, vX, vX] [] w := propext ⟨fun h => Ev.unfold (ab_Sm_mono d) h.2, fun h => ⟨Nat.le_of_ble_eq_true rfl, Ev.fold (ab_Sm_mono d) h⟩⟩
theorem ev_165_0 {Ls d : Nat} {q : Option ab_V → ab_W → Prop} {L S : List ab_V} {w : ab_W} : Ev Ls (Sm Ls d) q bk_165 0 L S w = ab_wb Ls (Sm Ls d) (Ev Ls (Sm Ls d) q bk_165) q 1 b_165_0 L S w := propext ⟨fun h => Ev.unfold (ab_Sm_mono d) h, fun h => Ev.fold (ab_Sm_mono d) h⟩
theorem ev_165_1 {Ls d : Nat} {q : Option ab_V → ab_W → Prop} {L S : List ab_V} {w : ab_W} : Ev Ls (Sm Ls d) q bk_165 1 L S w = ab_wb Ls (Sm Ls d) (Ev Ls (Sm Ls d) q bk_165) q 2 b_165_1 L S w := propext ⟨fun h => Ev.unfold (ab_Sm_mono d) h, fun h => Ev.fold (ab_Sm_mono d) h⟩
theorem ev_165_2 {Ls d : Nat} {q : Option ab_V → ab_W → Prop} {L S : List ab_V} {w : ab_W} : Ev Ls (Sm Ls d) q bk_165 2 L S w = ab_wb Ls (Sm Ls d) (Ev Ls (Sm Ls d) q bk_165) q 3 b_165_2 L S w := propext ⟨fun h => Ev.unfold (ab_Sm_mono d) h, fun h => Ev.fold (ab_Sm_mono d) h⟩
theorem ev_165_3 {Ls d : Nat} {q : Option ab_V → ab_W → Prop} {L S : List ab_V} {w : ab_W} : Ev Ls (Sm Ls d) q bk_165 3 L S w = ab_wb Ls (Sm Ls d) (Ev Ls (Sm Ls d) q bk_165) q 4 b_165_3 L S w := propext ⟨fun h => Ev.unfold (ab_Sm_mono d) h, fun h => Ev.fold (ab_Sm_mono d) h⟩
theorem ev_165_4 {Ls d : Nat} {q : Option ab_V → ab_W → Prop} {L S : List ab_V} {w : ab_W} : Ev Ls (Sm Ls d) q bk_165 4 L S w = ab_wb Ls (Sm Ls d) (Ev Ls (Sm Ls d) q bk_165) q 5 b_165_4 L S w := propext ⟨fun h => Ev.unfold (ab_Sm_mono d) h, fun h => Ev.fold (ab_Sm_mono d) h⟩
theorem en_166 {Ls d : Nat} {a0 : Nat} {w : ab_W} {q : Option ab_V → ab_W → Prop} : Sm Ls (d + 1) 166 [vR a0] w q = ab_wb Ls (Sm Ls d) (Ev Ls (Sm Ls d) q bk_166) q 1 b_166_0 [vR a0, vX, vX] [] w := propext ⟨fun h => Ev.unfold (ab_Sm_mono d) h.2, fun h => ⟨Nat.le_of_ble_eq_true rfl, Ev.fold (ab_Sm_mono d) h⟩⟩
theorem ev_166_0 {Ls d : Nat} {q : Option ab_V → ab_W → Prop} {L S : List ab_V} {w : ab_W} : Ev Ls (Sm Ls d) q bk_166 0 L S w = ab_wb Ls (Sm Ls d) (Ev Ls (Sm Ls d) q bk_166) q 1 b_166_0 L S w := propext ⟨fun h => Ev.unfold (ab_Sm_mono d) h, fun h => Ev.fold (ab_Sm_mono d) h⟩
theorem ev_166_1 {Ls d : Nat} {q : Option ab_V → ab_W → Prop} {L S : List ab_V} {w : ab_W} : Ev Ls (Sm Ls d) q bk_166 1 L S w = ab_wb Ls (Sm Ls d) (Ev Ls (Sm Ls d) q bk_166) q 2 b_166_1 L S w := propext ⟨fun h => Ev.unfold (ab_Sm_mono d) h, fun h => Ev.fold (ab_Sm_mono d) h⟩
theorem ev_166_2 {Ls d : Nat} {q : Option ab_V → ab_W → Prop} {L S : List ab_V} {w : ab_W} : Ev Ls (Sm Ls d) q bk_166 2 L S w = ab_wb Ls (Sm Ls d) (Ev Ls (Sm Ls d) q bk_166) q 3 b_166_2 L S w := propext ⟨fun h => Ev.unfold (ab_Sm_mono d) h, fun h => Ev.fold (ab_Sm_mono d) h⟩
theorem ev_166_3 {Ls d : Nat} {q : Option ab_V → ab_W → Prop} {L S : List ab_V} {w : ab_W} : Ev Ls (Sm Ls d) q bk_166 3 L S w = ab_wb Ls (Sm Ls d) (Ev Ls (Sm Ls d) q bk_166) q 4 b_166_3 L S w := propext ⟨fun h => Ev.unfold (ab_Sm_mono d) h, fun h => Ev.fold (ab_Sm_mono d) h⟩
theorem ev_166_4 {Ls d : Nat} {q : Option ab_V → ab_W → Prop} {L S : List ab_V} {w : ab_W} : Ev Ls (Sm Ls d) q bk_166 4 L S w = ab_wb Ls (Sm Ls d) (Ev Ls (Sm Ls d) q bk_166) q 5 b_166_4 L S w := propext ⟨fun h => Ev.unfold (ab_Sm_mono d) h, fun h => Ev.fold (ab_Sm_mono d) h⟩
theorem en_167 {Ls d : Nat} {a0 : Nat} {w : ab_W} {q : Option ab_V → ab_W → Prop} : Sm Ls (d + 1) 167 [vR a0] w q = ab_wb Ls (Sm Ls d) (Ev Ls (Sm Ls d) q bk_167) q 1 b_167_0 [vR a0] [] w := propext ⟨fun h => Ev.unfold (ab_Sm_mono d) h.2, fun h => ⟨Nat.le_of_ble_eq_true rfl, Ev.fold (ab_Sm_mono d) h⟩⟩
theorem ev_167_0 {Ls d : Nat} {q : Option ab_V → ab_W → Prop} {L S : List ab_V} {w : ab_W} : Ev Ls (Sm Ls d) q bk_167 0 L S w = ab_wb Ls (Sm Ls d) (Ev Ls (Sm Ls d) q bk_167) q 1 b_167_0 L S w := propext ⟨fun h => Ev.unfold (ab_Sm_mono d) h, fun h => Ev.fold (ab_Sm_mono d) h⟩
theorem en_168 {Ls d : Nat} {a0 : Nat} {a1 : Int} {w : ab_W} {q : Option ab_V → ab_W → Prop} : Sm Ls (d + 1) 168 [vR a0, vI a1] w q = ab_wb Ls (Sm Ls d) (Ev Ls (Sm Ls d) q bk_168) q 1 b_168_0 [vR a0, vI a1, vX, vX, vX, vX, vX, vX] [] w := propext ⟨fun h => Ev.unfold (ab_Sm_mono d) h.2, fun h => ⟨Nat.le_of_ble_eq_true rfl, Ev.fold (ab_Sm_mono d) h⟩⟩
theorem ev_168_0 {Ls d : Nat} {q : Option ab_V → ab_W → Prop} {L S : List ab_V} {w : ab_W} : Ev Ls (Sm Ls d) q bk_168 0 L S w = ab_wb Ls (Sm Ls d) (Ev Ls (Sm Ls d) q bk_168) q 1 b_168_0 L S w := propext ⟨fun h => Ev.unfold (ab_Sm_mono d) h, fun h => Ev.fold (ab_Sm_mono d) h⟩
theorem ev_168_1 {Ls d : Nat} {q : Option ab_V → ab_W → Prop} {L S : List ab_V} {w : ab_W} : Ev Ls (Sm Ls d) q bk_168 1 L S w = ab_wb Ls (Sm Ls d) (Ev Ls (Sm Ls d) q bk_168) q 2 b_168_1 L S w := propext ⟨fun h => Ev.unfold (ab_Sm_mono d) h, fun h => Ev.fold (ab_Sm_mono d) h⟩
theorem ev_168_2 {Ls d : Nat} {q : Option ab_V → ab_W → Prop} {L S : List ab_V} {w : ab_W} : Ev Ls (Sm Ls d) q bk_168 2 L S w = ab_wb Ls (Sm Ls d) (Ev Ls (Sm Ls d) q bk_168) q 3 b_168_2 L S w := propext ⟨fun h => Ev.unfold (ab_Sm_mono d) h, fun h => Ev.fold (ab_Sm_mono d) h⟩
theorem ev_168_3 {Ls d : Nat} {q : Option ab_V → ab_W → Prop} {L S : List ab_V} {w : ab_W} : Ev Ls (Sm Ls d) q bk_168 3 L S w = ab_wb Ls (Sm Ls d) (Ev Ls (Sm Ls d) q bk_168) q 4 b_168_3 L S w := propext ⟨fun h => Ev.unfold (ab_Sm_mono d) h, fun h => Ev.fold (ab_Sm_mono d) h⟩
theorem ev_168_4 {Ls d : Nat} {q : Option ab_V → ab_W → Prop} {L S : List ab_V} {w : ab_W} : Ev Ls (Sm Ls d) q bk_168 4 L S w = ab_wb Ls (Sm Ls d) (Ev Ls (Sm Ls d) q bk_168) q 5 b_168_4 L S w := propext ⟨fun h => Ev.unfold (ab_Sm_mono d) h, fun h => Ev.fold (ab_Sm_mono d) h⟩
theorem ev_168_5 {Ls d : Nat} {q : Option ab_V → ab_W → Prop} {L S : List ab_V} {w : ab_W} : Ev Ls (Sm Ls d) q bk_168 5 L S w = ab_wb Ls (Sm Ls d) (Ev Ls (Sm Ls d) q bk_168) q 6 b_168_5 L S w := propext ⟨fun h => Ev.unfold (ab_Sm_mono d) h, fun h => Ev.fold (ab_Sm_mono d) h⟩
theorem ev_168_6 {Ls d : Nat} {q : Option ab_V → ab_W → Prop} {L S : List ab_V} {w : ab_W} : Ev Ls (Sm Ls d) q bk_168 6 L S w = ab_wb Ls (Sm Ls d) (Ev Ls (Sm Ls d) q bk_168) q 7 b_168_6 L S w := propext ⟨fun h => Ev.unfold (ab_Sm_mono d) h, fun h => Ev.fold (ab_Sm_mono d) h⟩
theorem ev_168_7 {Ls d : Nat} {q : Option ab_V → ab_W → Prop} {L S : List ab_V} {w : ab_W} : Ev Ls (Sm Ls d) q bk_168 7 L S w = ab_wb Ls (Sm Ls d) (Ev Ls (Sm Ls d) q bk_168) q 8 b_168_7 L S w := propext ⟨fun h => Ev.unfold (ab_Sm_mono d) h, fun h => Ev.fold (ab_Sm_mono d) h⟩
theorem ev_168_8 {Ls d : Nat} {q : Option ab_V → ab_W → Prop} {L S : List ab_V} {w : ab_W} : Ev Ls (Sm Ls d) q bk_168 8 L S w = ab_wb Ls (Sm Ls d) (Ev Ls (Sm Ls d) q bk_168) q 9 b_168_8 L S w := propext ⟨fun h => Ev.unfold (ab_Sm_mono d) h, fun h => Ev.fold (ab_Sm_mono d) h⟩
theorem en_169 {Ls d : Nat} {a0 : Nat} {a1 : Int} {w : ab_W} {q : Option ab_V → ab_W → Prop} : Sm Ls (d + 1) 169 [vR a0, vI a1] w q = ab_wb Ls (Sm Ls d) (Ev Ls (Sm Ls d) q bk_169) q 1 b_169_0 [vR a0, vI a1, vX, vX, vX] [] w := propext ⟨fun h => Ev.unfold (ab_Sm_mono d) h.2, fun h => ⟨Nat.le_of_ble_eq_true rfl, Ev.fold (ab_Sm_mono d) h⟩⟩
theorem ev_169_0 {Ls d : Nat} {q : Option ab_V → ab_W → Prop} {L S : List ab_V} {w : ab_W} : Ev Ls (Sm Ls d) q bk_169 0 L S w = ab_wb Ls (Sm Ls d) (Ev Ls (Sm Ls d) q bk_169) q 1 b_169_0 L S w := propext ⟨fun h => Ev.unfold (ab_Sm_mono d) h, fun h => Ev.fold (ab_Sm_mono d) h⟩
theorem ev_169_1 {Ls d : Nat} {q : Option ab_V → ab_W → Prop} {L S : List ab_V} {w : ab_W} : Ev Ls (Sm Ls d) q bk_169 1 L S w = ab_wb Ls (Sm Ls d) (Ev Ls (Sm Ls d) q bk_169) q 2 b_169_1 L S w := propext ⟨fun h => Ev.unfold (ab_Sm_mono d) h, fun h => Ev.fold (ab_Sm_mono d) h⟩
theorem ev_169_2 {Ls d : Nat} {q : Option ab_V → ab_W → Prop} {L S : List ab_V} {w : ab_W} : Ev Ls (Sm Ls d) q bk_169 2 L S w = ab_wb Ls (Sm Ls d) (Ev Ls (Sm Ls d) q bk_169) q 3 b_169_2 L S w := propext ⟨fun h => Ev.unfold (ab_Sm_mono d) h, fun h => Ev.fold (ab_Sm_mono d) h⟩
theorem ev_169_3 {Ls d : Nat} {q : Option ab_V → ab_W → Prop} {L S : List ab_V} {w : ab_W} : Ev Ls (Sm Ls d) q bk_169 3 L S w = ab_wb Ls (Sm Ls d) (Ev Ls (Sm Ls d) q bk_169) q 4 b_169_3 L S w := propext ⟨fun h => Ev.unfold (ab_Sm_mono d) h, fun h => Ev.fold (ab_Sm_mono d) h⟩
theorem ev_169_4 {Ls d : Nat} {q : Option ab_V → ab_W → Prop} {L S : List ab_V} {w : ab_W} : Ev Ls (Sm Ls d) q bk_169 4 L S w = ab_wb Ls (Sm Ls d) (Ev Ls (Sm Ls d) q bk_169) q 5 b_169_4 L S w := propext ⟨fun h => Ev.unfold (ab_Sm_mono d) h, fun h => Ev.fold (ab_Sm_mono d) h⟩
theorem en_170 {Ls d : Nat} {a0 : Nat} {a1 : Int} {a2 : Int} {a3 : Int} {w : ab_W} {q : Option ab_V → ab_W → Prop} : Sm Ls (d + 1) 170 [vR a0, vI a1, vI a2, vI a3] w q = ab_wb Ls (Sm Ls d) (Ev Ls (Sm Ls d) q bk_170) q 1 b_170_0 [vR a0, vI a1, vI a2, vI a3] [] w := propext ⟨fun h => Ev.unfold (ab_Sm_mono d) h.2, fun h => ⟨Nat.le_of_ble_eq_true rfl, Ev.fold (ab_Sm_mono d) h⟩⟩
theorem ev_170_0 {Ls d : Nat} {q : Option ab_V → ab_W → Prop} {L S : List ab_V} {w : ab_W} : Ev Ls (Sm Ls d) q bk_170 0 L S w = ab_wb Ls (Sm Ls d) (Ev Ls (Sm Ls d) q bk_170) q 1 b_170_0 L S w := propext ⟨fun h => Ev.unfold (ab_Sm_mono d) h, fun h => Ev.fold (ab_Sm_mono d) h⟩
theorem ev_170_1 {Ls d : Nat} {q : Option ab_V → ab_W → Prop} {L S : List ab_V} {w : ab_W} : Ev Ls (Sm Ls d) q bk_170 1 L S w = ab_wb Ls (Sm Ls d) (Ev Ls (Sm Ls d) q bk_170) q 2 b_170_1 L S w := propext ⟨fun h => Ev.unfold (ab_Sm_mono d) h, fun h => Ev.fold (ab_Sm_mono d) h⟩
theorem ev_170_2 {Ls d : Nat} {q : Option ab_V → ab_W → Prop} {L S : List ab_V} {w : ab_W} : Ev Ls (Sm Ls d) q bk_170 2 L S w = ab_wb Ls (Sm Ls d) (Ev Ls (Sm Ls d) q bk_170) q 3 b_170_2 L S w := propext ⟨fun h => Ev.unfold (ab_Sm_mono d) h, fun h => Ev.fold (ab_Sm_mono d) h⟩
theorem ev_170_3 {Ls d : Nat} {q : Option ab_V → ab_W → Prop} {L S : List ab_V} {w : ab_W} : Ev Ls (Sm Ls d) q bk_170 3 L S w = ab_wb Ls (Sm Ls d) (Ev Ls (Sm Ls d) q bk_170) q 4 b_170_3 L S w := propext ⟨fun h => Ev.unfold (ab_Sm_mono d) h, fun h => Ev.fold (ab_Sm_mono d) h⟩
theorem en_171 {Ls d : Nat} {a0 : Nat} {a1 : Int} {w : ab_W} {q : Option ab_V → ab_W → Prop} : Sm Ls (d + 1) 171 [vR a0, vI a1] w q = ab_wb Ls (Sm Ls d) (Ev Ls (Sm Ls d) q bk_171) q 1 b_171_0 [vR a0, vI a1, vX, vX, vX, vX, vX, vX, vX, vX] [] w := propext ⟨fun h => Ev.unfold (ab_Sm_mono d) h.2, fun h => ⟨Nat.le_of_ble_eq_true rfl, Ev.fold (ab_Sm_mono d) h⟩⟩
theorem ev_171_0 {Ls d : Nat} {q : Option ab_V → ab_W → Prop} {L S : List ab_V} {w : ab_W} : Ev Ls (Sm Ls d) q bk_171 0 L S w = ab_wb Ls (Sm Ls d) (Ev Ls (Sm Ls d) q bk_171) q 1 b_171_0 L S w := propext ⟨fun h => Ev.unfold (ab_Sm_mono d) h, fun h => Ev.fold (ab_Sm_mono d) h⟩
theorem ev_171_1 {Ls d : Nat} {q : Option ab_V → ab_W → Prop} {L S : List ab_V} {w : ab_W} : Ev Ls (Sm Ls d) q bk_171 1 L S w = ab_wb Ls (Sm Ls d) (Ev Ls (Sm Ls d) q bk_171) q 2 b_171_1 L S w := propext ⟨fun h => Ev.unfold (ab_Sm_mono d) h, fun h => Ev.fold (ab_Sm_mono d) h⟩
theorem ev_171_2 {Ls d : Nat} {q : Option ab_V → ab_W → Prop} {L S : List ab_V} {w : ab_W} : Ev Ls (Sm Ls d) q bk_171 2 L S w = ab_wb Ls (Sm Ls d) (Ev Ls (Sm Ls d) q bk_171) q 3 b_171_2 L S w := propext ⟨fun h => Ev.unfold (ab_Sm_mono d) h, fun h => Ev.fold (ab_Sm_mono d) h⟩
theorem ev_171_3 {Ls d : Nat} {q : Option ab_V → ab_W → Prop} {L S : List ab_V} {w : ab_W} : Ev Ls (Sm Ls d) q bk_171 3 L S w = ab_wb Ls (Sm Ls d) (Ev Ls (Sm Ls d) q bk_171) q 4 b_171_3 L S w := propext ⟨fun h => Ev.unfold (ab_Sm_mono d) h, fun h => Ev.fold (ab_Sm_mono d) h⟩
theorem ev_171_4 {Ls d : Nat} {q : Option ab_V → ab_W → Prop} {L S : List ab_V} {w : ab_W} : Ev Ls (Sm Ls d) q bk_171 4 L S w = ab_wb Ls (Sm Ls d) (Ev Ls (Sm Ls d) q bk_171) q 5 b_171_4 L S w := propext ⟨fun h => Ev.unfold (ab_Sm_mono d) h, fun h => Ev.fold (ab_Sm_mono d) h⟩
theorem ev_171_5 {Ls d : Nat} {q : Option ab_V → ab_W → Prop} {L S : List ab_V} {w : ab_W} : Ev Ls (Sm Ls d) q bk_171 5 L S w = ab_wb Ls (Sm Ls d) (Ev Ls (Sm Ls d) q bk_171) q 6 b_171_5 L S w := propext ⟨fun h => Ev.unfold (ab_Sm_mono d) h, fun h => Ev.fold (ab_Sm_mono d) h⟩
theorem ev_171_6 {Ls d : Nat} {q : Option ab_V → ab_W → Prop} {L S : List ab_V} {w : ab_W} : Ev Ls (Sm Ls d) q bk_171 6 L S w = ab_wb Ls (Sm Ls d) (Ev Ls (Sm Ls d) q bk_171) q 7 b_171_6 L S w := propext ⟨fun h => Ev.unfold (ab_Sm_mono d) h, fun h => Ev.fold (ab_Sm_mono d) h⟩
theorem ev_171_7 {Ls d : Nat} {q : Option ab_V → ab_W → Prop} {L S : List ab_V} {w : ab_W} : Ev Ls (Sm Ls d) q bk_171 7 L S w = ab_wb Ls (Sm Ls d) (Ev Ls (Sm Ls d) q bk_171) q 8 b_171_7 L S w := propext ⟨fun h => Ev.unfold (ab_Sm_mono d) h, fun h => Ev.fold (ab_Sm_mono d) h⟩
theorem ev_171_8 {Ls d : Nat} {q : Option ab_V → ab_W → Prop} {L S : List ab_V} {w : ab_W} : Ev Ls (Sm Ls d) q bk_171 8 L S w = ab_wb Ls (Sm Ls d) (Ev Ls (Sm Ls d) q bk_171) q 9 b_171_8 L S w := propext ⟨fun h => Ev.unfold (ab_Sm_mono d) h, fun h => Ev.fold (ab_Sm_mono d) h⟩
theorem ev_171_9 {Ls d : Nat} {q : Option ab_V → ab_W → Prop} {L S : List ab_V} {w : ab_W} : Ev Ls (Sm Ls d) q bk_171 9 L S w = ab_wb Ls (Sm Ls d) (Ev Ls (Sm Ls d) q bk_171) q 10 b_171_9 L S w := propext ⟨fun h => Ev.unfold (ab_Sm_mono d) h, fun h => Ev.fold (ab_Sm_mono d) h⟩
theorem ev_171_10 {Ls d : Nat} {q : Option ab_V → ab_W → Prop} {L S : List ab_V} {w : ab_W} : Ev Ls (Sm Ls d) q bk_171 10 L S w = ab_wb Ls (Sm Ls d) (Ev Ls (Sm Ls d) q bk_171) q 11 b_171_10 L S w := propext ⟨fun h => Ev.unfold (ab_Sm_mono d) h, fun h => Ev.fold (ab_Sm_mono d) h⟩
theorem ev_171_11 {Ls d : Nat} {q : Option ab_V → ab_W → Prop} {L S : List ab_V} {w : ab_W} : Ev Ls (Sm Ls d) q bk_171 11 L S w = ab_wb Ls (Sm Ls d) (Ev Ls (Sm Ls d) q bk_171) q 12 b_171_11 L S w := propext ⟨fun h => Ev.unfold (ab_Sm_mono d) h, fun h => Ev.fold (ab_Sm_mono d) h⟩
theorem ev_171_12 {Ls d : Nat} {q : Option ab_V → ab_W → Prop} {L S : List ab_V} {w : ab_W} : Ev Ls (Sm Ls d) q bk_171 12 L S w = ab_wb Ls (Sm Ls d) (Ev Ls (Sm Ls d) q bk_171) q 13 b_171_12 L S w := propext ⟨fun h => Ev.unfold (ab_Sm_mono d) h, fun h => Ev.fold (ab_Sm_mono d) h⟩
theorem ev_171_13 {Ls d : Nat} {q : Option ab_V → ab_W → Prop} {L S : List ab_V} {w : ab_W} : Ev Ls (Sm Ls d) q bk_171 13 L S w = ab_wb Ls (Sm Ls d) (Ev Ls (Sm Ls d) q bk_171) q 14 b_171_13 L S w := propext ⟨fun h => Ev.unfold (ab_Sm_mono d) h, fun h => Ev.fold (ab_Sm_mono d) h⟩
theorem ev_171_14 {Ls d : Nat} {q : Option ab_V → ab_W → Prop} {L S : List ab_V} {w : ab_W} : Ev Ls (Sm Ls d) q bk_171 14 L S w = ab_wb Ls (Sm Ls d) (Ev Ls (Sm Ls d) q bk_171) q 15 b_171_14 L S w := propext ⟨fun h => Ev.unfold (ab_Sm_mono d) h, fun h => Ev.fold (ab_Sm_mono d) h⟩
theorem ev_171_15 {Ls d : Nat} {q : Option ab_V → ab_W → Prop} {L S : List ab_V} {w : ab_W} : Ev Ls (Sm Ls d) q bk_171 15 L S w = ab_wb Ls (Sm Ls d) (Ev Ls (Sm Ls d) q bk_171) q 16 b_171_15 L S w := propext ⟨fun h => Ev.unfold (ab_Sm_mono d) h, fun h => Ev.fold (ab_Sm_mono d) h⟩
theorem ev_171_16 {Ls d : Nat} {q : Option ab_V → ab_W → Prop} {L S : List ab_V} {w : ab_W} : Ev Ls (Sm Ls d) q bk_171 16 L S w = ab_wb Ls (Sm Ls d) (Ev Ls (Sm Ls d) q bk_171) q 17 b_171_16 L S w := propext ⟨fun h => Ev.unfold (ab_Sm_mono d) h, fun h => Ev.fold (ab_Sm_mono d) h⟩
theorem ev_171_17 {Ls d : Nat} {q : Option ab_V → ab_W → Prop} {L S : List ab_V} {w : ab_W} : Ev Ls (Sm Ls d) q bk_171 17 L S w = ab_wb Ls (Sm Ls d) (Ev Ls (Sm Ls d) q bk_171) q 18 b_171_17 L S w := propext ⟨fun h => Ev.unfold (ab_Sm_mono d) h, fun h => Ev.fold (ab_Sm_mono d) h⟩
theorem en_172 {Ls d : Nat} {a0 : Nat} {a1 : Int} {a2 : Int} {w : ab_W} {q : Option ab_V → ab_W → Prop} : Sm Ls (d + 1) 172 [vR a0, vI a1, vI a2] w q = ab_wb Ls (Sm Ls d) (Ev Ls (Sm Ls d) q bk_172) q 1 b_172_0 [vR a0, vI a1, vI a2] [] w := propext ⟨fun h => Ev.unfold (ab_Sm_mono d) h.2, fun h => ⟨Nat.le_of_ble_eq_true rfl, Ev.fold (ab_Sm_mono d) h⟩⟩
theorem ev_172_0 {Ls d : Nat} {q : Option ab_V → ab_W → Prop} {L S : List ab_V} {w : ab_W} : Ev Ls (Sm Ls d) q bk_172 0 L S w = ab_wb Ls (Sm Ls d) (Ev Ls (Sm Ls d) q bk_172) q 1 b_172_0 L S w := propext ⟨fun h => Ev.unfold (ab_Sm_mono d) h, fun h => Ev.fold (ab_Sm_mono d) h⟩
theorem ev_172_1 {Ls d : Nat} {q : Option ab_V → ab_W → Prop} {L S : List ab_V} {w : ab_W} : Ev Ls (Sm Ls d) q bk_172 1 L S w = ab_wb Ls (Sm Ls d) (Ev Ls (Sm Ls d) q bk_172) q 2 b_172_1 L S w := propext ⟨fun h => Ev.unfold (ab_Sm_mono d) h, fun h => Ev.fold (ab_Sm_mono d) h⟩
theorem ev_172_2 {Ls d : Nat} {q : Option ab_V → ab_W → Prop} {L S : List ab_V} {w : ab_W} : Ev Ls (Sm Ls d) q bk_172 2 L S w = ab_wb Ls (Sm Ls d) (Ev Ls (Sm Ls d) q bk_172) q 3 b_172_2 L S w := propext ⟨fun h => Ev.unfold (ab_Sm_mono d) h, fun h => Ev.fold (ab_Sm_mono d) h⟩
theorem en_173 {Ls d : Nat} {a0 : Nat} {a1 : Int} {a2 : Int} {a3 : Int} {w : ab_W} {q : Option ab_V → ab_W → Prop} : Sm Ls (d + 1) 173 [vR a0, vI a1, vI a2, vI a3] w q = ab_wb Ls (Sm Ls d) (Ev Ls (Sm Ls d) q bk_173) q 1 b_173_0 [vR a0, vI a1, vI a2, vI a3, vX, vX, vX, vX, vX, vX] [] w := propext ⟨fun h => Ev.unfold (ab_Sm_mono d) h.2, fun h => ⟨Nat.le_of_ble_eq_true rfl, Ev.fold (ab_Sm_mono d) h⟩⟩
theorem ev_173_0 {Ls d : Nat} {q : Option ab_V → ab_W → Prop} {L S : List ab_V} {w : ab_W} : Ev Ls (Sm Ls d) q bk_173 0 L S w = ab_wb Ls (Sm Ls d) (Ev Ls (Sm Ls d) q bk_173) q 1 b_173_0 L S w := propext ⟨fun h => Ev.unfold (ab_Sm_mono d) h, fun h => Ev.fold (ab_Sm_mono d) h⟩
theorem ev_173_1 {Ls d : Nat} {q : Option ab_V → ab_W → Prop} {L S : List ab_V} {w : ab_W} : Ev Ls (Sm Ls d) q bk_173 1 L S w = ab_wb Ls (Sm Ls d) (Ev Ls (Sm Ls d) q bk_173) q 2 b_173_1 L S w := propext ⟨fun h => Ev.unfold (ab_Sm_mono d) h, fun h => Ev.fold (ab_Sm_mono d) h⟩
theorem ev_173_2 {Ls d : Nat} {q : Option ab_V → ab_W → Prop} {L S : List ab_V} {w : ab_W} : Ev Ls (Sm Ls d) q bk_173 2 L S w = ab_wb Ls (Sm Ls d) (Ev Ls (Sm Ls d) q bk_173) q 3 b_173_2 L S w := propext ⟨fun h => Ev.unfold (ab_Sm_mono d) h, fun h => Ev.fold (ab_Sm_mono d) h⟩
theorem ev_173_3 {Ls d : Nat} {q : Option ab_V → ab_W → Prop} {L S : List ab_V} {w : ab_W} : Ev Ls (Sm Ls d) q bk_173 3 L S w = ab_wb Ls (Sm Ls d) (Ev Ls (Sm Ls d) q bk_173) q 4 b_173_3 L S w := propext ⟨fun h => Ev.unfold (ab_Sm_mono d) h, fun h => Ev.fold (ab_Sm_mono d) h⟩
theorem ev_173_4 {Ls d : Nat} {q : Option ab_V → ab_W → Prop} {L S : List ab_V} {w : ab_W} : Ev Ls (Sm Ls d) q bk_173 4 L S w = ab_wb Ls (Sm Ls d) (Ev Ls (Sm Ls d) q bk_173) q 5 b_173_4 L S w := propext ⟨fun h => Ev.unfold (ab_Sm_mono d) h, fun h => Ev.fold (ab_Sm_mono d) h⟩
theorem ev_173_5 {Ls d : Nat} {q : Option ab_V → ab_W → Prop} {L S : List ab_V} {w : ab_W} : Ev Ls (Sm Ls d) q bk_173 5 L S w = ab_wb Ls (Sm Ls d) (Ev Ls (Sm Ls d) q bk_173) q 6 b_173_5 L S w := propext ⟨fun h => Ev.unfold (ab_Sm_mono d) h, fun h => Ev.fold (ab_Sm_mono d) h⟩
theorem ev_173_6 {Ls d : Nat} {q : Option ab_V → ab_W → Prop} {L S : List ab_V} {w : ab_W} : Ev Ls (Sm Ls d) q bk_173 6 L S w = ab_wb Ls (Sm Ls d) (Ev Ls (Sm Ls d) q bk_173) q 7 b_173_6 L S w := propext ⟨fun h => Ev.unfold (ab_Sm_mono d) h, fun h => Ev.fold (ab_Sm_mono d) h⟩
theorem ev_173_7 {Ls d : Nat} {q : Option ab_V → ab_W → Prop} {L S : List ab_V} {w : ab_W} : Ev Ls (Sm Ls d) q bk_173 7 L S w = ab_wb Ls (Sm Ls d) (Ev Ls (Sm Ls d) q bk_173) q 8 b_173_7 L S w := propext ⟨fun h => Ev.unfold (ab_Sm_mono d) h, fun h => Ev.fold (ab_Sm_mono d) h⟩
theorem ev_173_8 {Ls d : Nat} {q : Option ab_V → ab_W → Prop} {L S : List ab_V} {w : ab_W} : Ev Ls (Sm Ls d) q bk_173 8 L S w = ab_wb Ls (Sm Ls d) (Ev Ls (Sm Ls d) q bk_173) q 9 b_173_8 L S w := propext ⟨fun h => Ev.unfold (ab_Sm_mono d) h, fun h => Ev.fold (ab_Sm_mono d) h⟩
theorem ev_173_9 {Ls d : Nat} {q : Option ab_V → ab_W → Prop} {L S : List ab_V} {w : ab_W} : Ev Ls (Sm Ls d) q bk_173 9 L S w = ab_wb Ls (Sm Ls d) (Ev Ls (Sm Ls d) q bk_173) q 10 b_173_9 L S w := propext ⟨fun h => Ev.unfold (ab_Sm_mono d) h, fun h => Ev.fold (ab_Sm_mono d) h⟩
theorem en_174 {Ls d : Nat} {a0 : Nat} {a1 : Int} {a2 : Int} {a3 : Int} {w : ab_W} {q : Option ab_V → ab_W → Prop} : Sm Ls (d + 1) 174 [vR a0, vI a1, vI a2, vI a3] w q = ab_wb Ls (Sm Ls d) (Ev Ls (Sm Ls d) q bk_174) q 1 b_174_0 [vR a0, vI a1, vI a2, vI a3] [] w := propext ⟨fun h => Ev.unfold (ab_Sm_mono d) h.2, fun h => ⟨Nat.le_of_ble_eq_true rfl, Ev.fold (ab_Sm_mono d) h⟩⟩
theorem ev_174_0 {Ls d : Nat} {q : Option ab_V → ab_W → Prop} {L S : List ab_V} {w : ab_W} : Ev Ls (Sm Ls d) q bk_174 0 L S w = ab_wb Ls (Sm Ls d) (Ev Ls (Sm Ls d) q bk_174) q 1 b_174_0 L S w := propext ⟨fun h => Ev.unfold (ab_Sm_mono d) h, fun h => Ev.fold (ab_Sm_mono d) h⟩
theorem ev_174_1 {Ls d : Nat} {q : Option ab_V → ab_W → Prop} {L S : List ab_V} {w : ab_W} : Ev Ls (Sm Ls d) q bk_174 1 L S w = ab_wb Ls (Sm Ls d) (Ev Ls (Sm Ls d) q bk_174) q 2 b_174_1 L S w := propext ⟨fun h => Ev.unfold (ab_Sm_mono d) h, fun h => Ev.fold (ab_Sm_mono d) h⟩
theorem ev_174_2 {Ls d : Nat} {q : Option ab_V → ab_W → Prop} {L S : List ab_V} {w : ab_W} : Ev Ls (Sm Ls d) q bk_174 2 L S w = ab_wb Ls (Sm Ls d) (Ev Ls (Sm Ls d) q bk_174) q 3 b_174_2 L S w := propext ⟨fun h => Ev.unfold (ab_Sm_mono d) h, fun h => Ev.fold (ab_Sm_mono d) h⟩
theorem en_175 {Ls d : Nat} {a0 : Nat} {a1 : Int} {a2 : Int} {a3 : Int} {w : ab_W} {q : Option ab_V → ab_W → Prop} : Sm Ls (d + 1) 175 [vR a0, vI a1, vI a2, vI a3] w q = ab_wb Ls (Sm Ls d) (Ev Ls (Sm Ls d) q bk_175) q 1 b_175_0 [vR a0, vI a1, vI a2, vI a3, vX, vX] [] w := propext ⟨fun h => Ev.unfold (ab_Sm_mono d) h.2, fun h => ⟨Nat.le_of_ble_eq_true rfl, Ev.fold (ab_Sm_mono d) h⟩⟩
theorem ev_175_0 {Ls d : Nat} {q : Option ab_V → ab_W → Prop} {L S : List ab_V} {w : ab_W} : Ev Ls (Sm Ls d) q bk_175 0 L S w = ab_wb Ls (Sm Ls d) (Ev Ls (Sm Ls d) q bk_175) q 1 b_175_0 L S w := propext ⟨fun h => Ev.unfold (ab_Sm_mono d) h, fun h => Ev.fold (ab_Sm_mono d) h⟩
theorem ev_175_1 {Ls d : Nat} {q : Option ab_V → ab_W → Prop} {L S : List ab_V} {w : ab_W} : Ev Ls (Sm Ls d) q bk_175 1 L S w = ab_wb Ls (Sm Ls d) (Ev Ls (Sm Ls d) q bk_175) q 2 b_175_1 L S w := propext ⟨fun h => Ev.unfold (ab_Sm_mono d) h, fun h => Ev.fold (ab_Sm_mono d) h⟩
theorem ev_175_2 {Ls d : Nat} {q : Option ab_V → ab_W → Prop} {L S : List ab_V} {w : ab_W} : Ev Ls (Sm Ls d) q bk_175 2 L S w = ab_wb Ls (Sm Ls d) (Ev Ls (Sm Ls d) q bk_175) q 3 b_175_2 L S w := propext ⟨fun h => Ev.unfold (ab_Sm_mono d) h, fun h => Ev.fold (ab_Sm_mono d) h⟩
theorem en_176 {Ls d : Nat} {a0 : Nat} {a1 : Int} {a2 : Int} {a3 : Int} {w : ab_W} {q : Option ab_V → ab_W → Prop} : Sm Ls (d + 1) 176 [vR a0, vI a1, vI a2, vI a3] w q = ab_wb Ls (Sm Ls d) (Ev Ls (Sm Ls d) q bk_176) q 1 b_176_0 [vR a0, vI a1, vI a2, vI a3] [] w := propext ⟨fun h => Ev.unfold (ab_Sm_mono d) h.2, fun h => ⟨Nat.le_of_ble_eq_true rfl, Ev.fold (ab_Sm_mono d) h⟩⟩
theorem ev_176_0 {Ls d : Nat} {q : Option ab_V → ab_W → Prop} {L S : List ab_V} {w : ab_W} : Ev Ls (Sm Ls d) q bk_176 0 L S w = ab_wb Ls (Sm Ls d) (Ev Ls (Sm Ls d) q bk_176) q 1 b_176_0 L S w := propext ⟨fun h => Ev.unfold (ab_Sm_mono d) h, fun h => Ev.fold (ab_Sm_mono d) h⟩
theorem ev_176_1 {Ls d : Nat} {q : Option ab_V → ab_W → Prop} {L S : List ab_V} {w : ab_W} : Ev Ls (Sm Ls d) q bk_176 1 L S w = ab_wb Ls (Sm Ls d) (Ev Ls (Sm Ls d) q bk_176) q 2 b_176_1 L S w := propext ⟨fun h => Ev.unfold (ab_Sm_mono d) h, fun h => Ev.fold (ab_Sm_mono d) h⟩
theorem ev_176_2 {Ls d : Nat} {q : Option ab_V → ab_W → Prop} {L S : List ab_V} {w : ab_W} : Ev Ls (Sm Ls d) q bk_176 2 L S w = ab_wb Ls (Sm Ls d) (Ev Ls (Sm Ls d) q bk_176) q 3 b_176_2 L S w := propext ⟨fun h => Ev.unfold (ab_Sm_mono d) h, fun h => Ev.fold (ab_Sm_mono d) h⟩
theorem en_177 {Ls d : Nat} {a0 : Nat} {a1 : Int} {w : ab_W} {q : Option ab_V → ab_W → Prop} : Sm Ls (d + 1) 177 [vR a0, vI a1] w q = ab_wb Ls (Sm Ls d) (Ev Ls (Sm Ls d) q bk_177) q 1 b_177_0 [vR a0, vI a1] [] w := propext ⟨fun h => Ev.unfold (ab_Sm_mono d) h.2, fun h => ⟨Nat.le_of_ble_eq_true rfl, Ev.fold (ab_Sm_mono d) h⟩⟩
theorem ev_177_0 {Ls d : Nat} {q : Option ab_V → ab_W → Prop} {L S : List ab_V} {w : ab_W} : Ev Ls (Sm Ls d) q bk_177 0 L S w = ab_wb Ls (Sm Ls d) (Ev Ls (Sm Ls d) q bk_177) q 1 b_177_0 L S w := propext ⟨fun h => Ev.unfold (ab_Sm_mono d) h, fun h => Ev.fold (ab_Sm_mono d) h⟩
theorem en_178 {Ls d : Nat} {a0 : Int} {w : ab_W} {q : Option ab_V → ab_W → Prop} : Sm Ls (d + 1) 178 [vI a0] w q = ab_wb Ls (Sm Ls d) (Ev Ls (Sm Ls d) q bk_178) q 1 b_178_0 [vI a0] [] w := propext ⟨fun h => Ev.unfold (ab_Sm_mono d) h.2, fun h => ⟨Nat.le_of_ble_eq_true rfl, Ev.fold (ab_Sm_mono d) h⟩⟩
theorem ev_178_0 {Ls d : Nat} {q : Option ab_V → ab_W → Prop} {L S : List ab_V} {w : ab_W} : Ev Ls (Sm Ls d) q bk_178 0 L S w = ab_wb Ls (Sm Ls d) (Ev Ls (Sm Ls d) q bk_178) q 1 b_178_0 L S w := propext ⟨fun h => Ev.unfold (ab_Sm_mono d) h, fun h => Ev.fold (ab_Sm_mono d) h⟩
theorem en_179 {Ls d : Nat} {a0 : Nat} {a1 : Int} {a2 : Int} {a3 : Int} {w : ab_W} {q : Option ab_V → ab_W → Prop} : Sm Ls (d + 1) 179 [vR a0, vI a1, vI a2, vI a3] w q = ab_wb Ls (Sm Ls d) (Ev Ls (Sm Ls d) q bk_179) q 1 b_179_0 [vR a0, vI a1, vI a2, vI a3, vX] [] w := propext ⟨fun h => Ev.unfold (ab_Sm_mono d) h.2, fun h => ⟨Nat.le_of_ble_eq_true rfl, Ev.fold (ab_Sm_mono d) h⟩⟩
theorem ev_179_0 {Ls d : Nat} {q : Option ab_V → ab_W → Prop} {L S : List ab_V} {w : ab_W} : Ev Ls (Sm Ls d) q bk_179 0 L S w = ab_wb Ls (Sm Ls d) (Ev Ls (Sm Ls d) q bk_179) q 1 b_179_0 L S w := propext ⟨fun h => Ev.unfold (ab_Sm_mono d) h, fun h => Ev.fold (ab_Sm_mono d) h⟩
theorem ev_179_1 {Ls d : Nat} {q : Option ab_V → ab_W → Prop} {L S : List ab_V} {w : ab_W} : Ev Ls (Sm Ls d) q bk_179 1 L S w = ab_wb Ls (Sm Ls d) (Ev Ls (Sm Ls d) q bk_179) q 2 b_179_1 L S w := propext ⟨fun h => Ev.unfold (ab_Sm_mono d) h, fun h => Ev.fold (ab_Sm_mono d) h⟩
theorem ev_179_2 {Ls d : Nat} {q : Option ab_V → ab_W → Prop} {L S : List ab_V} {w : ab_W} : Ev Ls (Sm Ls d) q bk_179 2 L S w = ab_wb Ls (Sm Ls d) (Ev Ls (Sm Ls d) q bk_179) q 3 b_179_2 L S w := propext ⟨fun h => Ev.unfold (ab_Sm_mono d) h, fun h => Ev.fold (ab_Sm_mono d) h⟩
theorem ev_179_3 {Ls d : Nat} {q : Option ab_V → ab_W → Prop} {L S : List ab_V} {w : ab_W} : Ev Ls (Sm Ls d) q bk_179 3 L S w = ab_wb Ls (Sm Ls d) (Ev Ls (Sm Ls d) q bk_179) q 4 b_179_3 L S w := propext ⟨fun h => Ev.unfold (ab_Sm_mono d) h, fun h => Ev.fold (ab_Sm_mono d) h⟩
theorem ev_179_4 {Ls d : Nat} {q : Option ab_V → ab_W → Prop} {L S : List ab_V} {w : ab_W} : Ev Ls (Sm Ls d) q bk_179 4 L S w = ab_wb Ls (Sm Ls d) (Ev Ls (Sm Ls d) q bk_179) q 5 b_179_4 L S w := propext ⟨fun h => Ev.unfold (ab_Sm_mono d) h, fun h => Ev.fold (ab_Sm_mono d) h⟩
theorem ev_179_5 {Ls d : Nat} {q : Option ab_V → ab_W → Prop} {L S : List ab_V} {w : ab_W} : Ev Ls (Sm Ls d) q bk_179 5 L S w = ab_wb Ls (Sm Ls d) (Ev Ls (Sm Ls d) q bk_179) q 6 b_179_5 L S w := propext ⟨fun h => Ev.unfold (ab_Sm_mono d) h, fun h => Ev.fold (ab_Sm_mono d) h⟩
theorem en_180 {Ls d : Nat} {a0 : Nat} {a1 : Int} {w : ab_W} {q : Option ab_V → ab_W → Prop} : Sm Ls (d + 1) 180 [vR a0, vI a1] w q = ab_wb Ls (Sm Ls d) (Ev Ls (Sm Ls d) q bk_180) q 1 b_180_0 [vR a0, vI a1] [] w := propext ⟨fun h => Ev.unfold (ab_Sm_mono d) h.2, fun h => ⟨Nat.le_of_ble_eq_true rfl, Ev.fold (ab_Sm_mono d) h⟩⟩
theorem ev_180_0 {Ls d : Nat} {q : Option ab_V → ab_W → Prop} {L S : List ab_V} {w : ab_W} : Ev Ls (Sm Ls d) q bk_180 0 L S w = ab_wb Ls (Sm Ls d) (Ev Ls (Sm Ls d) q bk_180) q 1 b_180_0 L S w := propext ⟨fun h => Ev.unfold (ab_Sm_mono d) h, fun h => Ev.fold (ab_Sm_mono d) h⟩
theorem ev_180_1 {Ls d : Nat} {q : Option ab_V → ab_W → Prop} {L S : List ab_V} {w : ab_W} : Ev Ls (Sm Ls d) q bk_180 1 L S w = ab_wb Ls (Sm Ls d) (Ev Ls (Sm Ls d) q bk_180) q 2 b_180_1 L S w := propext ⟨fun h => Ev.unfold (ab_Sm_mono d) h, fun h => Ev.fold (ab_Sm_mono d) h⟩
theorem ev_180_2 {Ls d : Nat} {q : Option ab_V → ab_W → Prop} {L S : List ab_V} {w : ab_W} : Ev Ls (Sm Ls d) q bk_180 2 L S w = ab_wb Ls (Sm Ls d) (Ev Ls (Sm Ls d) q bk_180) q 3 b_180_2 L S w := propext ⟨fun h => Ev.unfold (ab_Sm_mono d) h, fun h => Ev.fold (ab_Sm_mono d) h⟩
theorem en_181 {Ls d : Nat} {a0 : Nat} {a1 : Int} {a2 : Int} {a3 : Int} {w : ab_W} {q : Option ab_V → ab_W → Prop} : Sm Ls (d + 1) 181 [vR a0, vI a1, vI a2, vI a3] w q = ab_wb Ls (Sm Ls d) (Ev Ls (Sm Ls d) q bk_181) q 1 b_181_0 [vR a0, vI a1, vI a2, vI a3] [] w := propext ⟨fun h => Ev.unfold (ab_Sm_mono d) h.2, fun h => ⟨Nat.le_of_ble_eq_true rfl, Ev.fold (ab_Sm_mono d) h⟩⟩
theorem ev_181_0 {Ls d : Nat} {q : Option ab_V → ab_W → Prop} {L S : List ab_V} {w : ab_W} : Ev Ls (Sm Ls d) q bk_181 0 L S w = ab_wb Ls (Sm Ls d) (Ev Ls (Sm Ls d) q bk_181) q 1 b_181_0 L S w := propext ⟨fun h => Ev.unfold (ab_Sm_mono d) h, fun h => Ev.fold (ab_Sm_mono d) h⟩
theorem ev_181_1 {Ls d : Nat} {q : Option ab_V → ab_W → Prop} {L S : List ab_V} {w : ab_W} : Ev Ls (Sm Ls d) q bk_181 1 L S w = ab_wb Ls (Sm Ls d) (Ev Ls (Sm Ls d) q bk_181) q 2 b_181_1 L S w := propext ⟨fun h => Ev.unfold (ab_Sm_mono d) h, fun h => Ev.fold (ab_Sm_mono d) h⟩
theorem ev_181_2 {Ls d : Nat} {q : Option ab_V → ab_W → Prop} {L S : List ab_V} {w : ab_W} : Ev Ls (Sm Ls d) q bk_181 2 L S w = ab_wb Ls (Sm Ls d) (Ev Ls (Sm Ls d) q bk_181) q 3 b_181_2 L S w := propext ⟨fun h => Ev.unfold (ab_Sm_mono d) h, fun h => Ev.fold (ab_Sm_mono d) h⟩
theorem ev_181_3 {Ls d : Nat} {q : Option ab_V → ab_W → Prop} {L S : List ab_V} {w : ab_W} : Ev Ls (Sm Ls d) q bk_181 3 L S w = ab_wb Ls (Sm Ls d) (Ev Ls (Sm Ls d) q bk_181) q 4 b_181_3 L S w := propext ⟨fun h => Ev.unfold (ab_Sm_mono d) h, fun h => Ev.fold (ab_Sm_mono d) h⟩
theorem ev_181_4 {Ls d : Nat} {q : Option ab_V → ab_W → Prop} {L S : List ab_V} {w : ab_W} : Ev Ls (Sm Ls d) q bk_181 4 L S w = ab_wb Ls (Sm Ls d) (Ev Ls (Sm Ls d) q bk_181) q 5 b_181_4 L S w := propext ⟨fun h => Ev.unfold (ab_Sm_mono d) h, fun h => Ev.fold (ab_Sm_mono d) h⟩
theorem en_182 {Ls d : Nat} {a0 : Nat} {a1 : Int} {a2 : Int} {a3 : Int} {w : ab_W} {q : Option ab_V → ab_W → Prop} : Sm Ls (d + 1) 182 [vR a0, vI a1, vI a2, vI a3] w q = ab_wb Ls (Sm Ls d) (Ev Ls (Sm Ls d) q bk_182) q 1 b_182_0 [vR a0, vI a1, vI a2, vI a3] [] w := propext ⟨fun h => Ev.unfold (ab_Sm_mono d) h.2, fun h => ⟨Nat.le_of_ble_eq_true rfl, Ev.fold (ab_Sm_mono d) h⟩⟩
theorem ev_182_0 {Ls d : Nat} {q : Option ab_V → ab_W → Prop} {L S : List ab_V} {w : ab_W} : Ev Ls (Sm Ls d) q bk_182 0 L S w = ab_wb Ls (Sm Ls d) (Ev Ls (Sm Ls d) q bk_182) q 1 b_182_0 L S w := propext ⟨fun h => Ev.unfold (ab_Sm_mono d) h, fun h => Ev.fold (ab_Sm_mono d) h⟩
theorem ev_182_1 {Ls d : Nat} {q : Option ab_V → ab_W → Prop} {L S : List ab_V} {w : ab_W} : Ev Ls (Sm Ls d) q bk_182 1 L S w = ab_wb Ls (Sm Ls d) (Ev Ls (Sm Ls d) q bk_182) q 2 b_182_1 L S w := propext ⟨fun h => Ev.unfold (ab_Sm_mono d) h, fun h => Ev.fold (ab_Sm_mono d) h⟩
theorem ev_182_2 {Ls d : Nat} {q : Option ab_V → ab_W → Prop} {L S : List ab_V} {w : ab_W} : Ev Ls (Sm Ls d) q bk_182 2 L S w = ab_wb Ls (Sm Ls d) (Ev Ls (Sm Ls d) q bk_182) q 3 b_182_2 L S w := propext ⟨fun h => Ev.unfold (ab_Sm_mono d) h, fun h => Ev.fold (ab_Sm_mono d) h⟩
theorem ev_182_3 {Ls d : Nat} {q : Option ab_V → ab_W → Prop} {L S : List ab_V} {w : ab_W} : Ev Ls (Sm Ls d) q bk_182 3 L S w = ab_wb Ls (Sm Ls d) (Ev Ls (Sm Ls d) q bk_182) q 4 b_182_3 L S w := propext ⟨fun h => Ev.unfold (ab_Sm_mono d) h, fun h => Ev.fold (ab_Sm_mono d) h⟩
theorem en_183 {Ls d : Nat} {a0 : Nat} {a1 : Int} {a2 : Int} {a3 : Int} {a4 : Int} {w : ab_W} {q : Option ab_V → ab_W → Prop} : Sm Ls (d + 1) 183 [vR a0, vI a1, vI a2, vI a3, vI a4] w q = ab_wb Ls (Sm Ls d) (Ev Ls (Sm Ls d) q bk_183) q 1 b_183_0 [vR a0, vI a1, vI a2, vI a3, vI a4, vX] [] w := propext ⟨fun h => Ev.unfold (ab_Sm_mono d) h.2, fun h => ⟨Nat.le_of_ble_eq_true rfl, Ev.fold (ab_Sm_mono d) h⟩⟩
theorem ev_183_0 {Ls d : Nat} {q : Option ab_V → ab_W → Prop} {L S : List ab_V} {w : ab_W} : Ev Ls (Sm Ls d) q bk_183 0 L S w = ab_wb Ls (Sm Ls d) (Ev Ls (Sm Ls d) q bk_183) q 1 b_183_0 L S w := propext ⟨fun h => Ev.unfold (ab_Sm_mono d) h, fun h => Ev.fold (ab_Sm_mono d) h⟩
theorem ev_183_1 {Ls d : Nat} {q : Option ab_V → ab_W → Prop} {L S : List ab_V} {w : ab_W} : Ev Ls (Sm Ls d) q bk_183 1 L S w = ab_wb Ls (Sm Ls d) (Ev Ls (Sm Ls d) q bk_183) q 2 b_183_1 L S w := propext ⟨fun h => Ev.unfold (ab_Sm_mono d) h, fun h => Ev.fold (ab_Sm_mono d) h⟩
theorem ev_183_2 {Ls d : Nat} {q : Option ab_V → ab_W → Prop} {L S : List ab_V} {w : ab_W} : Ev Ls (Sm Ls d) q bk_183 2 L S w = ab_wb Ls (Sm Ls d) (Ev Ls (Sm Ls d) q bk_183) q 3 b_183_2 L S w := propext ⟨fun h => Ev.unfold (ab_Sm_mono d) h, fun h => Ev.fold (ab_Sm_mono d) h⟩
theorem ev_183_3 {Ls d : Nat} {q : Option ab_V → ab_W → Prop} {L S : List ab_V} {w : ab_W} : Ev Ls (Sm Ls d) q bk_183 3 L S w = ab_wb Ls (Sm Ls d) (Ev Ls (Sm Ls d) q bk_183) q 4 b_183_3 L S w := propext ⟨fun h => Ev.unfold (ab_Sm_mono d) h, fun h => Ev.fold (ab_Sm_mono d) h⟩
theorem en_184 {Ls d : Nat} {a0 : Nat} {a1 : Int} {a2 : Int} {a3 : Int} {w : ab_W} {q : Option ab_V → ab_W → Prop} : Sm Ls (d + 1) 184 [vR a0, vI a1, vI a2, vI a3] w q = ab_wb Ls (Sm Ls d) (Ev Ls (Sm Ls d) q bk_184) q 1 b_184_0 [vR a0, vI a1, vI a2, vI a3, vX] [] w := propext ⟨fun h => Ev.unfold (ab_Sm_mono d) h.2, fun h => ⟨Nat.le_of_ble_eq_true rfl, Ev.fold (ab_Sm_mono d) h⟩⟩
theorem ev_184_0 {Ls d : Nat} {q : Option ab_V → ab_W → Prop} {L S : List ab_V} {w : ab_W} : Ev Ls (Sm Ls d) q bk_184 0 L S w = ab_wb Ls (Sm Ls d) (Ev Ls (Sm Ls d) q bk_184) q 1 b_184_0 L S w := propext ⟨fun h => Ev.unfold (ab_Sm_mono d) h, fun h => Ev.fold (ab_Sm_mono d) h⟩
theorem ev_184_1 {Ls d : Nat} {q : Option ab_V → ab_W → Prop} {L S : List ab_V} {w : ab_W} : Ev Ls (Sm Ls d) q bk_184 1 L S w = ab_wb Ls (Sm Ls d) (Ev Ls (Sm Ls d) q bk_184) q 2 b_184_1 L S w := propext ⟨fun h => Ev.unfold (ab_Sm_mono d) h, fun h => Ev.fold (ab_Sm_mono d) h⟩
theorem ev_184_2 {Ls d : Nat} {q : Option ab_V → ab_W → Prop} {L S : List ab_V} {w : ab_W} : Ev Ls (Sm Ls d) q bk_184 2 L S w = ab_wb Ls (Sm Ls d) (Ev Ls (Sm Ls d) q bk_184) q 3 b_184_2 L S w := propext ⟨fun h => Ev.unfold (ab_Sm_mono d) h, fun h => Ev.fold (ab_Sm_mono d) h⟩
theorem ev_184_3 {Ls d : Nat} {q : Option ab_V → ab_W → Prop} {L S : List ab_V} {w : ab_W} : Ev Ls (Sm Ls d) q bk_184 3 L S w = ab_wb Ls (Sm Ls d) (Ev Ls (Sm Ls d) q bk_184) q 4 b_184_3 L S w := propext ⟨fun h => Ev.unfold (ab_Sm_mono d) h, fun h => Ev.fold (ab_Sm_mono d) h⟩
theorem en_185 {Ls d : Nat} {a0 : Nat} {a1 : Int} {a2 : Int} {a3 : Int} {a4 : Int} {a5 : Int} {w : ab_W} {q : Option ab_V → ab_W → Prop} : Sm Ls (d + 1) 185 [vR a0, vI a1, vI a2, vI a3, vI a4, vI a5] w q = ab_wb Ls (Sm Ls d) (Ev Ls (Sm Ls d) q bk_185) q 1 b_185_0 [vR a0, vI a1, vI a2, vI a3, vI a4, vI a5, vX] [] w := propext ⟨fun h => Ev.unfold (ab_Sm_mono d) h.2, fun h => ⟨Nat.le_of_ble_eq_true rfl, Ev.fold (ab_Sm_mono d) h⟩⟩
theorem ev_185_0 {Ls d : Nat} {q : Option ab_V → ab_W → Prop} {L S : List ab_V} {w : ab_W} : Ev Ls (Sm Ls d) q bk_185 0 L S w = ab_wb Ls (Sm Ls d) (Ev Ls (Sm Ls d) q bk_185) q 1 b_185_0 L S w := propext ⟨fun h => Ev.unfold (ab_Sm_mono d) h, fun h => Ev.fold (ab_Sm_mono d) h⟩
theorem ev_185_1 {Ls d : Nat} {q : Option ab_V → ab_W → Prop} {L S : List ab_V} {w : ab_W} : Ev Ls (Sm Ls d) q bk_185 1 L S w = ab_wb Ls (Sm Ls d) (Ev Ls (Sm Ls d) q bk_185) q 2 b_185_1 L S w := propext ⟨fun h => Ev.unfold (ab_Sm_mono d) h, fun h => Ev.fold (ab_Sm_mono d) h⟩
theorem ev_185_2 {Ls d : Nat} {q : Option ab_V → ab_W → Prop} {L S : List ab_V} {w : ab_W} : Ev Ls (Sm Ls d) q bk_185 2 L S w = ab_wb Ls (Sm Ls d) (Ev Ls (Sm Ls d) q bk_185) q 3 b_185_2 L S w := propext ⟨fun h => Ev.unfold (ab_Sm_mono d) h, fun h => Ev.fold (ab_Sm_mono d) h⟩
theorem ev_185_3 {Ls d : Nat} {q : Option ab_V → ab_W → Prop} {L S : List ab_V} {w : ab_W} : Ev Ls (Sm Ls d) q bk_185 3 L S w = ab_wb Ls (Sm Ls d) (Ev Ls (Sm Ls d) q bk_185) q 4 b_185_3 L S w := propext ⟨fun h => Ev.unfold (ab_Sm_mono d) h, fun h => Ev.fold (ab_Sm_mono d) h⟩
theorem ev_185_4 {Ls d : Nat} {q : Option ab_V → ab_W → Prop} {L S : List ab_V} {w : ab_W} : Ev Ls (Sm Ls d) q bk_185 4 L S w = ab_wb Ls (Sm Ls d) (Ev Ls (Sm Ls d) q bk_185) q 5 b_185_4 L S w := propext ⟨fun h => Ev.unfold (ab_Sm_mono d) h, fun h => Ev.fold (ab_Sm_mono d) h⟩
theorem ev_185_5 {Ls d : Nat} {q : Option ab_V → ab_W → Prop} {L S : List ab_V} {w : ab_W} : Ev Ls (Sm Ls d) q bk_185 5 L S w = ab_wb Ls (Sm Ls d) (Ev Ls (Sm Ls d) q bk_185) q 6 b_185_5 L S w := propext ⟨fun h => Ev.unfold (ab_Sm_mono d) h, fun h => Ev.fold (ab_Sm_mono d) h⟩
theorem ev_185_6 {Ls d : Nat} {q : Option ab_V → ab_W → Prop} {L S : List ab_V} {w : ab_W} : Ev Ls (Sm Ls d) q bk_185 6 L S w = ab_wb Ls (Sm Ls d) (Ev Ls (Sm Ls d) q bk_185) q 7 b_185_6 L S w := propext ⟨fun h => Ev.unfold (ab_Sm_mono d) h, fun h => Ev.fold (ab_Sm_mono d) h⟩
theorem ev_185_7 {Ls d : Nat} {q : Option ab_V → ab_W → Prop} {L S : List ab_V} {w : ab_W} : Ev Ls (Sm Ls d) q bk_185 7 L S w = ab_wb Ls (Sm Ls d) (Ev Ls (Sm Ls d) q bk_185) q 8 b_185_7 L S w := propext ⟨fun h => Ev.unfold (ab_Sm_mono d) h, fun h => Ev.fold (ab_Sm_mono d) h⟩
theorem ev_185_8 {Ls d : Nat} {q : Option ab_V → ab_W → Prop} {L S : List ab_V} {w : ab_W} : Ev Ls (Sm Ls d) q bk_185 8 L S w = ab_wb Ls (Sm Ls d) (Ev Ls (Sm Ls d) q bk_185) q 9 b_185_8 L S w := propext ⟨fun h => Ev.unfold (ab_Sm_mono d) h, fun h => Ev.fold (ab_Sm_mono d) h⟩
theorem ev_185_9 {Ls d : Nat} {q : Option ab_V → ab_W → Prop} {L S : List ab_V} {w : ab_W} : Ev Ls (Sm Ls d) q bk_185 9 L S w = ab_wb Ls (Sm Ls d) (Ev Ls (Sm Ls d) q bk_185) q 10 b_185_9 L S w := propext ⟨fun h => Ev.unfold (ab_Sm_mono d) h, fun h => Ev.fold (ab_Sm_mono d) h⟩
theorem ev_185_10 {Ls d : Nat} {q : Option ab_V → ab_W → Prop} {L S : List ab_V} {w : ab_W} : Ev Ls (Sm Ls d) q bk_185 10 L S w = ab_wb Ls (Sm Ls d) (Ev Ls (Sm Ls d) q bk_185) q 11 b_185_10 L S w := propext ⟨fun h => Ev.unfold (ab_Sm_mono d) h, fun h => Ev.fold (ab_Sm_mono d) h⟩
theorem ev_185_11 {Ls d : Nat} {q : Option ab_V → ab_W → Prop} {L S : List ab_V} {w : ab_W} : Ev Ls (Sm Ls d) q bk_185 11 L S w = ab_wb Ls (Sm Ls d) (Ev Ls (Sm Ls d) q bk_185) q 12 b_185_11 L S w := propext ⟨fun h => Ev.unfold (ab_Sm_mono d) h, fun h => Ev.fold (ab_Sm_mono d) h⟩
theorem en_186 {Ls d : Nat} {a0 : Nat} {a1 : Int} {a2 : Int} {w : ab_W} {q : Option ab_V → ab_W → Prop} : Sm Ls (d + 1) 186 [vR a0, vI a1, vI a2] w q = ab_wb Ls (Sm Ls d) (Ev Ls (Sm Ls d) q bk_186) q 1 b_186_0 [vR a0, vI a1, vI a2, vX] [] w := propext ⟨fun h => Ev.unfold (ab_Sm_mono d) h.2, fun h => ⟨Nat.le_of_ble_eq_true rfl, Ev.fold (ab_Sm_mono d) h⟩⟩
theorem ev_186_0 {Ls d : Nat} {q : Option ab_V → ab_W → Prop} {L S : List ab_V} {w : ab_W} : Ev Ls (Sm Ls d) q bk_186 0 L S w = ab_wb Ls (Sm Ls d) (Ev Ls (Sm Ls d) q bk_186) q 1 b_186_0 L S w := propext ⟨fun h => Ev.unfold (ab_Sm_mono d) h, fun h => Ev.fold (ab_Sm_mono d) h⟩
theorem ev_186_1 {Ls d : Nat} {q : Option ab_V → ab_W → Prop} {L S : List ab_V} {w : ab_W} : Ev Ls (Sm Ls d) q bk_186 1 L S w = ab_wb Ls (Sm Ls d) (Ev Ls (Sm Ls d) q bk_186) q 2 b_186_1 L S w := propext ⟨fun h => Ev.unfold (ab_Sm_mono d) h, fun h => Ev.fold (ab_Sm_mono d) h⟩
theorem ev_186_2 {Ls d : Nat} {q : Option ab_V → ab_W → Prop} {L S : List ab_V} {w : ab_W} : Ev Ls (Sm Ls d) q bk_186 2 L S w = ab_wb Ls (Sm Ls d) (Ev Ls (Sm Ls d) q bk_186) q 3 b_186_2 L S w := propext ⟨fun h => Ev.unfold (ab_Sm_mono d) h, fun h => Ev.fold (ab_Sm_mono d) h⟩
theorem ev_186_3 {Ls d : Nat} {q : Option ab_V → ab_W → Prop} {L S : List ab_V} {w : ab_W} : Ev Ls (Sm Ls d) q bk_186 3 L S w = ab_wb Ls (Sm Ls d) (Ev Ls (Sm Ls d) q bk_186) q 4 b_186_3 L S w := propext ⟨fun h => Ev.unfold (ab_Sm_mono d) h, fun h => Ev.fold (ab_Sm_mono d) h⟩
theorem ev_186_4 {Ls d : Nat} {q : Option ab_V → ab_W → Prop} {L S : List ab_V} {w : ab_W} : Ev Ls (Sm Ls d) q bk_186 4 L S w = ab_wb Ls (Sm Ls d) (Ev Ls (Sm Ls d) q bk_186) q 5 b_186_4 L S w := propext ⟨fun h => Ev.unfold (ab_Sm_mono d) h, fun h => Ev.fold (ab_Sm_mono d) h⟩
theorem ev_186_5 {Ls d : Nat} {q : Option ab_V → ab_W → Prop} {L S : List ab_V} {w : ab_W} : Ev Ls (Sm Ls d) q bk_186 5 L S w = ab_wb Ls (Sm Ls d) (Ev Ls (Sm Ls d) q bk_186) q 6 b_186_5 L S w := propext ⟨fun h => Ev.unfold (ab_Sm_mono d) h, fun h => Ev.fold (ab_Sm_mono d) h⟩
theorem en_187 {Ls d : Nat} {a0 : Nat} {w : ab_W} {q : Option ab_V → ab_W → Prop} : Sm Ls (d + 1) 187 [vR a0] w q = ab_wb Ls (Sm Ls d) (Ev Ls (Sm Ls d) q bk_187) q 1 b_187_0 [vR a0, vX, vX] [] w := propext ⟨fun h => Ev.unfold (ab_Sm_mono d) h.2, fun h => ⟨Nat.le_of_ble_eq_true rfl, Ev.fold (ab_Sm_mono d) h⟩⟩
theorem ev_187_0 {Ls d : Nat} {q : Option ab_V → ab_W → Prop} {L S : List ab_V} {w : ab_W} : Ev Ls (Sm Ls d) q bk_187 0 L S w = ab_wb Ls (Sm Ls d) (Ev Ls (Sm Ls d) q bk_187) q 1 b_187_0 L S w := propext ⟨fun h => Ev.unfold (ab_Sm_mono d) h, fun h => Ev.fold (ab_Sm_mono d) h⟩
theorem ev_187_1 {Ls d : Nat} {q : Option ab_V → ab_W → Prop} {L S : List ab_V} {w : ab_W} : Ev Ls (Sm Ls d) q bk_187 1 L S w = ab_wb Ls (Sm Ls d) (Ev Ls (Sm Ls d) q bk_187) q 2 b_187_1 L S w := propext ⟨fun h => Ev.unfold (ab_Sm_mono d) h, fun h => Ev.fold (ab_Sm_mono d) h⟩
theorem ev_187_2 {Ls d : Nat} {q : Option ab_V → ab_W → Prop} {L S : List ab_V} {w : ab_W} : Ev Ls (Sm Ls d) q bk_187 2 L S w = ab_wb Ls (Sm Ls d) (Ev Ls (Sm Ls d) q bk_187) q 3 b_187_2 L S w := propext ⟨fun h => Ev.unfold (ab_Sm_mono d) h, fun h => Ev.fold (ab_Sm_mono d) h⟩
theorem ev_187_3 {Ls d : Nat} {q : Option ab_V → ab_W → Prop} {L S : List ab_V} {w : ab_W} : Ev Ls (Sm Ls d) q bk_187 3 L S w = ab_wb Ls (Sm Ls d) (Ev Ls (Sm Ls d) q bk_187) q 4 b_187_3 L S w := propext ⟨fun h => Ev.unfold (ab_Sm_mono d) h, fun h => Ev.fold (ab_Sm_mono d) h⟩
theorem ev_187_4 {Ls d : Nat} {q : Option ab_V → ab_W → Prop} {L S : List ab_V} {w : ab_W} : Ev Ls (Sm Ls d) q bk_187 4 L S w = ab_wb Ls (Sm Ls d) (Ev Ls (Sm Ls d) q bk_187) q 5 b_187_4 L S w := propext ⟨fun h => Ev.unfold (ab_Sm_mono d) h, fun h => Ev.fold (ab_Sm_mono d) h⟩
theorem en_188 {Ls d : Nat} {a0 : Nat} {w : ab_W} {q : Option ab_V → ab_W → Prop} : Sm Ls (d + 1) 188 [vR a0] w q = ab_wb Ls (Sm Ls d) (Ev Ls (Sm Ls d) q bk_188) q 1 b_188_0 [vR a0] [] w := propext ⟨fun h => Ev.unfold (ab_Sm_mono d) h.2, fun h => ⟨Nat.le_of_ble_eq_true rfl, Ev.fold (ab_Sm_mono d) h⟩⟩
theorem ev_188_0 {Ls d : Nat} {q : Option ab_V → ab_W → Prop} {L S : List ab_V} {w : ab_W} : Ev Ls (Sm Ls d) q bk_188 0 L S w = ab_wb Ls (Sm Ls d) (Ev Ls (Sm Ls d) q bk_188) q 1 b_188_0 L S w := propext ⟨fun h => Ev.unfold (ab_Sm_mono d) h, fun h => Ev.fold (ab_Sm_mono d) h⟩
theorem en_189 {Ls d : Nat} {a0 : Nat} {w : ab_W} {q : Option ab_V → ab_W → Prop} : Sm Ls (d + 1) 189 [vR a0] w q = ab_wb Ls (Sm Ls d) (Ev Ls (Sm Ls d) q bk_189) q 1 b_189_0 [vR a0] [] w := propext ⟨fun h => Ev.unfold (ab_Sm_mono d) h.2, fun h => ⟨Nat.le_of_ble_eq_true rfl, Ev.fold (ab_Sm_mono d) h⟩⟩
theorem ev_189_0 {Ls d : Nat} {q : Option ab_V → ab_W → Prop} {L S : List ab_V} {w : ab_W} : Ev Ls (Sm Ls d) q bk_189 0 L S w = ab_wb Ls (Sm Ls d) (Ev Ls (Sm Ls d) q bk_189) q 1 b_189_0 L S w := propext ⟨fun h => Ev.unfold (ab_Sm_mono d) h, fun h => Ev.fold (ab_Sm_mono d) h⟩
theorem en_190 {Ls d : Nat} {a0 : Nat} {a1 : Int} {w : ab_W} {q : Option ab_V → ab_W → Prop} : Sm Ls (d + 1) 190 [vR a0, vI a1] w q = ab_wb Ls (Sm Ls d) (Ev Ls (Sm Ls d) q bk_190) q 1 b_190_0 [vR a0, vI a1] [] w := propext ⟨fun h => Ev.unfold (ab_Sm_mono d) h.2, fun h => ⟨Nat.le_of_ble_eq_true rfl, Ev.fold (ab_Sm_mono d) h⟩⟩
theorem ev_190_0 {Ls d : Nat} {q : Option ab_V → ab_W → Prop} {L S : List ab_V} {w : ab_W} : Ev Ls (Sm Ls d) q bk_190 0 L S w = ab_wb Ls (Sm Ls d) (Ev Ls (Sm Ls d) q bk_190) q 1 b_190_0 L S w := propext ⟨fun h => Ev.unfold (ab_Sm_mono d) h, fun h => Ev.fold (ab_Sm_mono d) h⟩
theorem ev_190_1 {Ls d : Nat} {q : Option ab_V → ab_W → Prop} {L S : List ab_V} {w : ab_W} : Ev Ls (Sm Ls d) q bk_190 1 L S w = ab_wb Ls (Sm Ls d) (Ev Ls (Sm Ls d) q bk_190) q 2 b_190_1 L S w := propext ⟨fun h => Ev.unfold (ab_Sm_mono d) h, fun h => Ev.fold (ab_Sm_mono d) h⟩
theorem ev_190_2 {Ls d : Nat} {q : Option ab_V → ab_W → Prop} {L S : List ab_V} {w : ab_W} : Ev Ls (Sm Ls d) q bk_190 2 L S w = ab_wb Ls (Sm Ls d) (Ev Ls (Sm Ls d) q bk_190) q 3 b_190_2 L S w := propext ⟨fun h => Ev.unfold (ab_Sm_mono d) h, fun h => Ev.fold (ab_Sm_mono d) h⟩
theorem ev_190_3 {Ls d : Nat} {q : Option ab_V → ab_W → Prop} {L S : List ab_V} {w : ab_W} : Ev Ls (Sm Ls d) q bk_190 3 L S w = ab_wb Ls (Sm Ls d) (Ev Ls (Sm Ls d) q bk_190) q 4 b_190_3 L S w := propext ⟨fun h => Ev.unfold (ab_Sm_mono d) h, fun h => Ev.fold (ab_Sm_mono d) h⟩
theorem ev_190_4 {Ls d : Nat} {q : Option ab_V → ab_W → Prop} {L S : List ab_V} {w : ab_W} : Ev Ls (Sm Ls d) q bk_190 4 L S w = ab_wb Ls (Sm Ls d) (Ev Ls (Sm Ls d) q bk_190) q 5 b_190_4 L S w := propext ⟨fun h => Ev.unfold (ab_Sm_mono d) h, fun h => Ev.fold (ab_Sm_mono d) h⟩
theorem ev_190_5 {Ls d : Nat} {q : Option ab_V → ab_W → Prop} {L S : List ab_V} {w : ab_W} : Ev Ls (Sm Ls d) q bk_190 5 L S w = ab_wb Ls (Sm Ls d) (Ev Ls (Sm Ls d) q bk_190) q 6 b_190_5 L S w := propext ⟨fun h => Ev.unfold (ab_Sm_mono d) h, fun h => Ev.fold (ab_Sm_mono d) h⟩
theorem ev_190_6 {Ls d : Nat} {q : Option ab_V → ab_W → Prop} {L S : List ab_V} {w : ab_W} : Ev Ls (Sm Ls d) q bk_190 6 L S w = ab_wb Ls (Sm Ls d) (Ev Ls (Sm Ls d) q bk_190) q 7 b_190_6 L S w := propext ⟨fun h => Ev.unfold (ab_Sm_mono d) h, fun h => Ev.fold (ab_Sm_mono d) h⟩
theorem ev_190_7 {Ls d : Nat} {q : Option ab_V → ab_W → Prop} {L S : List ab_V} {w : ab_W} : Ev Ls (Sm Ls d) q bk_190 7 L S w = ab_wb Ls (Sm Ls d) (Ev Ls (Sm Ls d) q bk_190) q 8 b_190_7 L S w := propext ⟨fun h => Ev.unfold (ab_Sm_mono d) h, fun h => Ev.fold (ab_Sm_mono d) h⟩
theorem ev_190_8 {Ls d : Nat} {q : Option ab_V → ab_W → Prop} {L S : List ab_V} {w : ab_W} : Ev Ls (Sm Ls d) q bk_190 8 L S w = ab_wb Ls (Sm Ls d) (Ev Ls (Sm Ls d) q bk_190) q 9 b_190_8 L S w := propext ⟨fun h => Ev.unfold (ab_Sm_mono d) h, fun h => Ev.fold (ab_Sm_mono d) h⟩
theorem ev_190_9 {Ls d : Nat} {q : Option ab_V → ab_W → Prop} {L S : List ab_V} {w : ab_W} : Ev Ls (Sm Ls d) q bk_190 9 L S w = ab_wb Ls (Sm Ls d) (Ev Ls (Sm Ls d) q bk_190) q 10 b_190_9 L S w := propext ⟨fun h => Ev.unfold (ab_Sm_mono d) h, fun h => Ev.fold (ab_Sm_mono d) h⟩
theorem ev_190_10 {Ls d : Nat} {q : Option ab_V → ab_W → Prop} {L S : List ab_V} {w : ab_W} : Ev Ls (Sm Ls d) q bk_190 10 L S w = ab_wb Ls (Sm Ls d) (Ev Ls (Sm Ls d) q bk_190) q 11 b_190_10 L S w := propext ⟨fun h => Ev.unfold (ab_Sm_mono d) h, fun h => Ev.fold (ab_Sm_mono d) h⟩
theorem en_191 {Ls d : Nat} {a0 : Nat} {a1 : Int} {a2 : Int} {a3 : Int} {w : ab_W} {q : Option ab_V → ab_W → Prop} : Sm Ls (d + 1) 191 [vR a0, vL a1, vI a2, vI a3] w q = ab_wb Ls (Sm Ls d) (Ev Ls (Sm Ls d) q bk_191) q 1 b_191_0 [vR a0, vL a1, vX, vI a2, vI a3, vX, vX, vX] [] w := propext ⟨fun h => Ev.unfold (ab_Sm_mono d) h.2, fun h => ⟨Nat.le_of_ble_eq_true rfl, Ev.fold (ab_Sm_mono d) h⟩⟩
theorem ev_191_0 {Ls d : Nat} {q : Option ab_V → ab_W → Prop} {L S : List ab_V} {w : ab_W} : Ev Ls (Sm Ls d) q bk_191 0 L S w = ab_wb Ls (Sm Ls d) (Ev Ls (Sm Ls d) q bk_191) q 1 b_191_0 L S w := propext ⟨fun h => Ev.unfold (ab_Sm_mono d) h, fun h => Ev.fold (ab_Sm_mono d) h⟩
theorem ev_191_1 {Ls d : Nat} {q : Option ab_V → ab_W → Prop} {L S : List ab_V} {w : ab_W} : Ev Ls (Sm Ls d) q bk_191 1 L S w = ab_wb Ls (Sm Ls d) (Ev Ls (Sm Ls d) q bk_191) q 2 b_191_1 L S w := propext ⟨fun h => Ev.unfold (ab_Sm_mono d) h, fun h => Ev.fold (ab_Sm_mono d) h⟩
theorem ev_191_2 {Ls d : Nat} {q : Option ab_V → ab_W → Prop} {L S : List ab_V} {w : ab_W} : Ev Ls (Sm Ls d) q bk_191 2 L S w = ab_wb Ls (Sm Ls d) (Ev Ls (Sm Ls d) q bk_191) q 3 b_191_2 L S w := propext ⟨fun h => Ev.unfold (ab_Sm_mono d) h, fun h => Ev.fold (ab_Sm_mono d) h⟩
theorem en_192 {Ls d : Nat} {a0 : Nat} {a1 : Int} {a2 : Int} {a3 : Int} {w : ab_W} {q : Option ab_V → ab_W → Prop} : Sm Ls (d + 1) 192 [vR a0, vL a1, vI a2, vI a3] w q = ab_wb Ls (Sm Ls d) (Ev Ls (Sm Ls d) q bk_192) q 1 b_192_0 [vR a0, vL a1, vX, vI a2, vI a3, vX, vX, vX] [] w := propext ⟨fun h => Ev.unfold (ab_Sm_mono d) h.2, fun h => ⟨Nat.le_of_ble_eq_true rfl, Ev.fold (ab_Sm_mono d) h⟩⟩
theorem ev_192_0 {Ls d : Nat} {q : Option ab_V → ab_W → Prop} {L S : List ab_V} {w : ab_W} : Ev Ls (Sm Ls d) q bk_192 0 L S w = ab_wb Ls (Sm Ls d) (Ev Ls (Sm Ls d) q bk_192) q 1 b_192_0 L S w := propext ⟨fun h => Ev.unfold (ab_Sm_mono d) h, fun h => Ev.fold (ab_Sm_mono d) h⟩
theorem en_193 {Ls d : Nat} {a0 : Nat} {a1 : Int} {a2 : Int} {w : ab_W} {q : Option ab_V → ab_W → Prop} : Sm Ls (d + 1) 193 [vR a0, vL a1, vI a2] w q = ab_wb Ls (Sm Ls d) (Ev Ls (Sm Ls d) q bk_193) q 1 b_193_0 [vR a0, vL a1, vX, vI a2, vX, vX, vX] [] w := propext ⟨fun h => Ev.unfold (ab_Sm_mono d) h.2, fun h => ⟨Nat.le_of_ble_eq_true rfl, Ev.fold (ab_Sm_mono d) h⟩⟩
theorem ev_193_0 {Ls d : Nat} {q : Option ab_V → ab_W → Prop} {L S : List ab_V} {w : ab_W} : Ev Ls (Sm Ls d) q bk_193 0 L S w = ab_wb Ls (Sm Ls d) (Ev Ls (Sm Ls d) q bk_193) q 1 b_193_0 L S w := propext ⟨fun h => Ev.unfold (ab_Sm_mono d) h, fun h => Ev.fold (ab_Sm_mono d) h⟩
theorem ev_193_1 {Ls d : Nat} {q : Option ab_V → ab_W → Prop} {L S : List ab_V} {w : ab_W} : Ev Ls (Sm Ls d) q bk_193 1 L S w = ab_wb Ls (Sm Ls d) (Ev Ls (Sm Ls d) q bk_193) q 2 b_193_1 L S w := propext ⟨fun h => Ev.unfold (ab_Sm_mono d) h, fun h => Ev.fold (ab_Sm_mono d) h⟩
theorem ev_193_2 {Ls d : Nat} {q : Option ab_V → ab_W → Prop} {L S : List ab_V} {w : ab_W} : Ev Ls (Sm Ls d) q bk_193 2 L S w = ab_wb Ls (Sm Ls d) (Ev Ls (Sm Ls d) q bk_193) q 3 b_193_2 L S w := propext ⟨fun h => Ev.unfold (ab_Sm_mono d) h, fun h => Ev.fold (ab_Sm_mono d) h⟩
theorem ev_193_3 {Ls d : Nat} {q : Option ab_V → ab_W → Prop} {L S : List ab_V} {w : ab_W} : Ev Ls (Sm Ls d) q bk_193 3 L S w = ab_wb Ls (Sm Ls d) (Ev Ls (Sm Ls d) q bk_193) q 4 b_193_3 L S w := propext ⟨fun h => Ev.unfold (ab_Sm_mono d) h, fun h => Ev.fold (ab_Sm_mono d) h⟩
theorem ev_193_4 {Ls d : Nat} {q : Option ab_V → ab_W → Prop} {L S : List ab_V} {w : ab_W} : Ev Ls (Sm Ls d) q bk_193 4 L S w = ab_wb Ls (Sm Ls d) (Ev Ls (Sm Ls d) q bk_193) q 5 b_193_4 L S w := propext ⟨fun h => Ev.unfold (ab_Sm_mono d) h, fun h => Ev.fold (ab_Sm_mono d) h⟩
theorem en_194 {Ls d : Nat} {a0 : Nat} {w : ab_W} {q : Option ab_V → ab_W → Prop} : Sm Ls (d + 1) 194 [vR a0] w q = ab_wb Ls (Sm Ls d) (Ev Ls (Sm Ls d) q bk_194) q 1 b_194_0 [vR a0, vX, vX, vX] [] w := propext ⟨fun h => Ev.unfold (ab_Sm_mono d) h.2, fun h => ⟨Nat.le_of_ble_eq_true rfl, Ev.fold (ab_Sm_mono d) h⟩⟩
theorem ev_194_0 {Ls d : Nat} {q : Option ab_V → ab_W → Prop} {L S : List ab_V} {w : ab_W} : Ev Ls (Sm Ls d) q bk_194 0 L S w = ab_wb Ls (Sm Ls d) (Ev Ls (Sm Ls d) q bk_194) q 1 b_194_0 L S w := propext ⟨fun h => Ev.unfold (ab_Sm_mono d) h, fun h => Ev.fold (ab_Sm_mono d) h⟩
theorem ev_194_1 {Ls d : Nat} {q : Option ab_V → ab_W → Prop} {L S : List ab_V} {w : ab_W} : Ev Ls (Sm Ls d) q bk_194 1 L S w = ab_wb Ls (Sm Ls d) (Ev Ls (Sm Ls d) q bk_194) q 2 b_194_1 L S w := propext ⟨fun h => Ev.unfold (ab_Sm_mono d) h, fun h => Ev.fold (ab_Sm_mono d) h⟩
theorem ev_194_2 {Ls d : Nat} {q : Option ab_V → ab_W → Prop} {L S : List ab_V} {w : ab_W} : Ev Ls (Sm Ls d) q bk_194 2 L S w = ab_wb Ls (Sm Ls d) (Ev Ls (Sm Ls d) q bk_194) q 3 b_194_2 L S w := propext ⟨fun h => Ev.unfold (ab_Sm_mono d) h, fun h => Ev.fold (ab_Sm_mono d) h⟩
theorem ev_194_3 {Ls d : Nat} {q : Option ab_V → ab_W → Prop} {L S : List ab_V} {w : ab_W} : Ev Ls (Sm Ls d) q bk_194 3 L S w = ab_wb Ls (Sm Ls d) (Ev Ls (Sm Ls d) q bk_194) q 4 b_194_3 L S w := propext ⟨fun h => Ev.unfold (ab_Sm_mono d) h, fun h => Ev.fold (ab_Sm_mono d) h⟩
theorem ev_194_4 {Ls d : Nat} {q : Option ab_V → ab_W → Prop} {L S : List ab_V} {w : ab_W} : Ev Ls (Sm Ls d) q bk_194 4 L S w = ab_wb Ls (Sm Ls d) (Ev Ls (Sm Ls d) q bk_194) q 5 b_194_4 L S w := propext ⟨fun h => Ev.unfold (ab_Sm_mono d) h, fun h => Ev.fold (ab_Sm_mono d) h⟩
end
section
/-! the smallest methods, as equations -/
section Small17
variable {Ls d : Nat} {w : ab_W} {q : Option ab_V → ab_W → Prop}
/-- a yes or no -/
def ab_yn (P : Prop) (q : Option ab_V → ab_W → Prop) (w : ab_W) : Prop := (P → q (some (vI 1)) w) ∧ (¬ P → q (some (vI 0)) w)
theorem yn_t {P : Prop} (h : P) : ab_yn P q w = q (some (vI 1)) w := propext ⟨fun k => k.1 h, fun k => ⟨fun _ => k, fun n => absurd h n⟩⟩
theorem yn_f {P : Prop} (h : ¬ P) : ab_yn P q w = q (some (vI 0)) w := propext ⟨fun k => k.2 h, fun k => ⟨fun n => absurd n h, fun _ => k⟩⟩
theorem q_isLeg {a : Int} : Sm Ls (d + 1) 93 [vI a] w q = ab_yn (0 ≤ a ∧ a < 4) q w := by
  rw [en_93]; simp only [↓e_iload0, ↓e_if_lt, ↓e_iconst, ↓e_cmp_ge, ↓e_goto, ↓e_zret, ↓e_nil, b_93_0, b_93_1, b_93_2, ↓ev_93_1, ↓ev_93_2]
  by_cases h1 : a < 0
  · rw [yn_f (by omega)]; simp [h1]
  · by_cases h3 : 4 ≤ a
    · rw [yn_f (by omega)]; simp [h1, h3]
    · rw [yn_t (by omega)]; simp [h1, h3]
theorem q_isMoment {a : Int} : Sm Ls (d + 1) 94 [vI a] w q = ab_yn (0 ≤ a ∧ a < 48) q w := by
  rw [en_94]; simp only [↓e_iload0, ↓e_if_lt, ↓e_bipush, ↓e_cmp_ge, ↓e_iconst, ↓e_goto, ↓e_zret, ↓e_nil, b_94_0, b_94_1, b_94_2, ↓ev_94_1, ↓ev_94_2]
  by_cases h1 : a < 0
  · rw [yn_f (by omega)]; simp [h1]
  · by_cases h3 : 48 ≤ a
    · rw [yn_f (by omega)]; simp [h1, h3]
    · rw [yn_t (by omega)]; simp [h1, h3]
theorem q_isNumber {a : Int} : Sm Ls (d + 1) 95 [vI a] w q = ab_yn (0 ≤ a ∧ a < 4) q w := by
  rw [en_95]; simp only [↓e_iload0, ↓e_if_lt, ↓e_iconst, ↓e_cmp_ge, ↓e_goto, ↓e_zret, ↓e_nil, b_95_0, b_95_1, b_95_2, ↓ev_95_1, ↓ev_95_2]
  by_cases h1 : a < 0
  · rw [yn_f (by omega)]; simp [h1]
  · by_cases h3 : 4 ≤ a
    · rw [yn_f (by omega)]; simp [h1, h3]
    · rw [yn_t (by omega)]; simp [h1, h3]
theorem q_isSheet {a : Int} : Sm Ls (d + 1) 98 [vI a] w q = ab_yn (0 ≤ a ∧ a < 4) q w := by
  rw [en_98]; simp only [↓e_iload0, ↓e_if_lt, ↓e_iconst, ↓e_cmp_ge, ↓e_goto, ↓e_zret, ↓e_nil, b_98_0, b_98_1, b_98_2, ↓ev_98_1, ↓ev_98_2]
  by_cases h1 : a < 0
  · rw [yn_f (by omega)]; simp [h1]
  · by_cases h3 : 4 ≤ a
    · rw [yn_f (by omega)]; simp [h1, h3]
    · rw [yn_t (by omega)]; simp [h1, h3]
theorem q_isForm {a : Int} : Sm Ls (d + 1) 99 [vI a] w q = ab_yn (0 ≤ a ∧ a < 3) q w := by
  rw [en_99]; simp only [↓e_iload0, ↓e_if_lt, ↓e_iconst, ↓e_cmp_ge, ↓e_goto, ↓e_zret, ↓e_nil, b_99_0, b_99_1, b_99_2, ↓ev_99_1, ↓ev_99_2]
  by_cases h1 : a < 0
  · rw [yn_f (by omega)]; simp [h1]
  · by_cases h3 : 3 ≤ a
    · rw [yn_f (by omega)]; simp [h1, h3]
    · rw [yn_t (by omega)]; simp [h1, h3]
theorem q_isEither {a : Int} : Sm Ls (d + 1) 97 [vI a] w q = ab_yn (a = 0 ∨ a = 1) q w := by
  rw [en_97]; simp only [↓e_iload0, ↓e_if_eq, ↓e_iconst, ↓e_cmp_ne, ↓e_goto, ↓e_zret, ↓e_nil, b_97_0, b_97_1, b_97_2, b_97_3, ↓ev_97_1, ↓ev_97_2, ↓ev_97_3]
  by_cases h1 : a = 0
  · rw [yn_t (by omega)]; simp [h1]
  · by_cases h3 : a = 1
    · rw [yn_t (by omega)]; simp [h3]
    · rw [yn_f (by omega)]; simp [h1, h3]
theorem q_isTeam {a : Int} : Sm Ls (d + 1) 92 [vR 0, vI a] w q = ab_yn (0 ≤ a ∧ a < w 15 5) q w := by
  rw [en_92]; simp only [↓e_iload1, ↓e_if_lt, ↓e_aload0, ↓g_0_4, ↓g_15_5, ↓g_21_5, ↓e_cmp_ge, ↓e_iconst, ↓e_goto, ↓e_zret, ↓e_nil, b_92_0, b_92_1, b_92_2, ↓ev_92_1, ↓ev_92_2]
  by_cases h1 : a < 0
  · rw [yn_f (by omega)]; simp [h1]
  · by_cases h3 : w 15 5 ≤ a
    · rw [yn_f (by omega)]; simp [h1, h3]
    · rw [yn_t (by omega)]; simp [h1, h3]
theorem q_isEvent {a b c : Int} : Sm Ls (d + 2) 96 [vI a, vI b, vI c] w q = ab_yn ((0 ≤ a ∧ a ≤ 2) ∧ (0 ≤ b ∧ b < 48) ∧ (0 ≤ c ∧ c < 4)) q w := by
  rw [en_96]; simp only [↓e_iload0, ↓e_if_lt, ↓e_iconst, ↓e_cmp_gt, ↓e_iload1, e_rpn, e_rps, e_few0, e_few1, e_few2, e_few3, e_few4, ↓e_cs1, ↓e_if_eq, ↓e_iload2, ↓e_goto, ↓e_zret, ↓e_nil, b_96_0, b_96_1, b_96_2, ↓ev_96_1, ↓ev_96_2, q_isMoment, q_isNumber, ab_yn]
  by_cases h1 : a < 0
  · have h5 : ¬ ((0 ≤ a ∧ a ≤ 2) ∧ (0 ≤ b ∧ b < 48) ∧ (0 ≤ c ∧ c < 4)) := by omega
    simp [h1, h5]
  · by_cases h2 : 2 < a
    · have h5 : ¬ ((0 ≤ a ∧ a ≤ 2) ∧ (0 ≤ b ∧ b < 48) ∧ (0 ≤ c ∧ c < 4)) := by omega
      simp [h1, h2, h5]
    · by_cases h3 : 0 ≤ b ∧ b < 48
      · by_cases h4 : 0 ≤ c ∧ c < 4
        · have h5 : ((0 ≤ a ∧ a ≤ 2) ∧ (0 ≤ b ∧ b < 48) ∧ (0 ≤ c ∧ c < 4)) := by omega
          simp [h1, h2, h3, h4, h5]
        · have h5 : ¬ ((0 ≤ a ∧ a ≤ 2) ∧ (0 ≤ b ∧ b < 48) ∧ (0 ≤ c ∧ c < 4)) := by omega
          simp [h1, h2, h3, h4, h5]
      · have h5 : ¬ ((0 ≤ a ∧ a ≤ 2) ∧ (0 ≤ b ∧ b < 48) ∧ (0 ≤ c ∧ c < 4)) := by omega
        simp [h1, h2, h3, h5]
theorem q_isSooner {a b : Int} : Sm Ls (d + 1) 55 [vI a, vI b] w q = ab_yn (a ≠ -1 ∧ (b = -1 ∨ a < b)) q w := by
  rw [en_55]; simp only [↓e_iload0, ↓e_iconst, ↓e_cmp_eq, ↓e_iload1, ↓e_cmp_ge, ↓e_goto, ↓e_zret, ↓e_nil, b_55_0, b_55_1, b_55_2, b_55_3, ↓ev_55_1, ↓ev_55_2, ↓ev_55_3]
  by_cases h1 : a = -1
  · rw [yn_f (by omega)]; simp [h1]
  · by_cases h3 : b = -1
    · rw [yn_t (by omega)]; simp [h1, h3]
    · by_cases h4 : b ≤ a
      · rw [yn_f (by omega)]; simp [h1, h3, h4]
      · rw [yn_t (by omega)]; simp [h1, h3, h4]
theorem q_spared {i n a b : Int} : Sm Ls (d + 1) 58 [vI i, vI n, vI a, vI b] w q = q (some (vI (if i = -1 then n else if i = 0 then a else b))) w := by
  rw [en_58]; simp only [↓e_iload0, ↓e_iconst, ↓e_cmp_ne, ↓e_iload1, ↓e_iret, ↓e_if_ne, ↓e_iload2, ↓e_goto, ↓e_iload3, ↓e_nil, b_58_0, b_58_1, b_58_2, b_58_3, ↓ev_58_1, ↓ev_58_2, ↓ev_58_3]
  by_cases h1 : i = -1
  · simp [h1]
  · by_cases h3 : i = 0
    · simp [h3]
    · simp [h1, h3]
theorem q_nextSeed {a : Int} : Sm Ls (d + 1) 77 [vI a] w q = q (some (vI (iW (iW (1103515245 * a) + 12345)))) w := by
  rw [en_77]; simp only [↓e_ldc_w, ↓e_iload0, ↓e_imul, ↓e_sipush, ↓e_iadd, ↓e_iret, ↓e_nil, b_77_0]
theorem q_found {a : Int} : Sm Ls (d + 1) 100 [vR 0, vI a] w q = q (some (vI (iW (-10 - a)))) (ab_up w 0 12 a) := by
  rw [en_100]; simp only [↓e_aload0, ↓e_iload1, ↓p_0_12, ↓e_bipush, ↓e_isub, ↓e_iret, ↓e_nil, b_100_0]
theorem q_everyEvent : Sm Ls (d + 1) 41 [vR 0] w q = q (some (vI (iW (i_shl 1 (w 3 3) - 1)))) w := by
  rw [en_41]; simp only [↓e_iconst, ↓e_aload0, ↓g_0_1, ↓g_3_3, ↓g_7_3, ↓g_11_3, ↓e_ishl, ↓e_isub, ↓e_iret, ↓e_nil, b_41_0]
theorem q_in {a b c : Int} : Sm Ls (d + 1) 101 [vI a, vI b, vI c] w q = ab_yn (b ≤ a ∧ a ≤ c) q w := by
  rw [en_101]; simp only [↓e_iload0, ↓e_iload1, ↓e_cmp_lt, ↓e_iload2, ↓e_cmp_gt, ↓e_iconst, ↓e_goto, ↓e_zret, ↓e_nil, b_101_0, b_101_1, b_101_2, ↓ev_101_1, ↓ev_101_2]
  by_cases h1 : a < b
  · rw [yn_f (by omega)]; simp [h1]
  · by_cases h3 : c < a
    · rw [yn_f (by omega)]; simp [h1, h3]
    · rw [yn_t (by omega)]; simp [h1, h3]
theorem q_isIn {a b : Int} : Sm Ls (d + 1) 102 [vI a, vI b] w q = ab_yn (i_and (i_shr a b) 1 = 1) q w := by
  rw [en_102]; simp only [↓e_iload0, ↓e_iload1, ↓e_ishr, ↓e_iconst, ↓e_iand, ↓e_cmp_ne, ↓e_goto, ↓e_zret, ↓e_nil, b_102_0, b_102_1, b_102_2, ↓ev_102_1, ↓ev_102_2]
  by_cases h1 : i_and (i_shr a b) 1 = 1
  · rw [yn_t h1]; simp [h1]
  · rw [yn_f h1]; simp [h1]
theorem q_no {a : Int} : Sm Ls (d + 1) 103 [vI a] w q = q (some (vL (lW (-9223372036854775808 - a)))) w := by
  rw [en_103]; simp only [↓e_ldc2_w, ↓e_iload0, ↓e_i2l, ↓e_lsub, ↓e_lret, ↓e_nil, b_103_0]
theorem yn_ret {P : Prop} : ab_yn P (fun r w' => ab_wb Ls (Sm Ls d) (Ev Ls (Sm Ls d) q []) q 1 [(.ireturn, [1], 0)] [] (ab_rp r []) w') w = ab_yn P q w := by
  unfold ab_yn
  simp only [e_rps, e_zret]
  simp
theorem yn_fin {P : Prop} {J : Nat → List ab_V → List ab_V → ab_W → Prop} {L : List ab_V} {nx : Nat} : ab_yn P (fun r w' => ab_wb Ls (Sm Ls d) J q nx [(.ireturn, [1], 0)] L (ab_rp r []) w') w = ab_yn P q w := by
  unfold ab_yn
  simp only [e_rps, e_zret]
  simp
theorem q_isMomentM {a : Int} : Sm Ls (d + 2) 105 [vI a] w q = ab_yn (0 ≤ a ∧ a ≤ 47) q w := by
  rw [en_105]; simp only [↓e_iload0, ↓e_iconst, ↓e_bipush, e_rpn, e_rps, e_few0, e_few1, e_few2, e_few3, e_few4, ↓e_cs3, ↓e_zret, ↓e_nil, b_105_0, q_in, yn_fin, true_and]
theorem q_isFour {a : Int} : Sm Ls (d + 2) 106 [vI a] w q = ab_yn (0 ≤ a ∧ a ≤ 3) q w := by
  rw [en_106]; simp only [↓e_iload0, ↓e_iconst, e_rpn, e_rps, e_few0, e_few1, e_few2, e_few3, e_few4, ↓e_cs3, ↓e_zret, ↓e_nil, b_106_0, q_in, yn_fin, true_and]
theorem q_isTwo {a : Int} : Sm Ls (d + 2) 107 [vI a] w q = ab_yn (0 ≤ a ∧ a ≤ 1) q w := by
  rw [en_107]; simp only [↓e_iload0, ↓e_iconst, e_rpn, e_rps, e_few0, e_few1, e_few2, e_few3, e_few4, ↓e_cs3, ↓e_zret, ↓e_nil, b_107_0, q_in, yn_fin, true_and]
theorem q_isThree {a : Int} : Sm Ls (d + 2) 108 [vI a] w q = ab_yn (0 ≤ a ∧ a ≤ 2) q w := by
  rw [en_108]; simp only [↓e_iload0, ↓e_iconst, e_rpn, e_rps, e_few0, e_few1, e_few2, e_few3, e_few4, ↓e_cs3, ↓e_zret, ↓e_nil, b_108_0, q_in, yn_fin, true_and]
theorem q_isSheetM {a : Int} : Sm Ls (d + 2) 178 [vI a] w q = ab_yn (0 ≤ a ∧ a ≤ 3) q w := by
  rw [en_178]; simp only [↓e_iload0, ↓e_iconst, e_rpn, e_rps, e_few0, e_few1, e_few2, e_few3, e_few4, ↓e_cs3, ↓e_zret, ↓e_nil, b_178_0, q_in, yn_fin, true_and]
theorem q_meets {a : Int} : Sm Ls (d + 1) 177 [vR 39, vI a] w q = q (some (vI (iW (-10 - a)))) (ab_up w 39 37 a) := by
  rw [en_177]; simp only [↓e_aload0, ↓e_iload1, ↓p_39_37, ↓e_bipush, ↓e_isub, ↓e_iret, ↓e_nil, b_177_0]
end Small17
end
section
/-! MATHEMATICS: one team's run, moment by moment -/
def t_str (so pa own : Int) (rn : Bool) : Int :=
  if pa + (if so = 0 then (if own < 3 then 1 else if own < 6 then 0 else -1) else 0) - (if so = 2 ∧ own = 0 then 1 else 0) - (if rn = true then 1 else 0) < 1 then 1
  else pa + (if so = 0 then (if own < 3 then 1 else if own < 6 then 0 else -1) else 0) - (if so = 2 ∧ own = 0 then 1 else 0) - (if rn = true then 1 else 0)
theorem t_str_in {so pa own : Int} {rn : Bool} (h : 1 ≤ pa ∧ pa ≤ 9) : 1 ≤ t_str so pa own rn ∧ t_str so pa own rn ≤ 10 := by
  unfold t_str
  repeat' split
  all_goals omega
/-- how far it is behind a moment in which it goes on (or stands) -/
def t_far (so pa : Nat → Int) (r s : Bool) (st : Int × Nat × Int) : Int := if s = true then st.1 else st.1 + t_str (so st.2.1) (pa st.2.1) st.2.2 r
/-- far, leg, own moments -/
def t_nx (so pa : Nat → Int) (lg : Int) (r s : Bool) (st : Int × Nat × Int) : Int × Nat × Int :=
  if st.2.1 = 4 then st
  else if lg * ((st.2.1 : Int) + 1) ≤ t_far so pa r s st then (t_far so pa r s st, st.2.1 + 1, 0)
  else (t_far so pa r s st, st.2.1, st.2.2 + 1)
def t_S (so pa : Nat → Int) (lg : Int) (rn sd : Nat → Bool) : Nat → Int × Nat × Int
  | 0 => (0, 0, 0)
  | m + 1 => t_nx so pa lg (rn m) (sd m) (t_S so pa lg rn sd m)
/-- the moment in which leg l is done, among the first m; -1 -/
def t_E (so pa : Nat → Int) (lg : Int) (rn sd : Nat → Bool) (l : Nat) : Nat → Int
  | 0 => -1
  | m + 1 => if (t_S so pa lg rn sd m).2.1 = l ∧ (t_S so pa lg rn sd (m + 1)).2.1 = l + 1 then (m : Int) else t_E so pa lg rn sd l m
/-- in how many of the first m moments it stands, ahead of home -/
def t_D (so pa : Nat → Int) (lg : Int) (rn sd : Nat → Bool) : Nat → Int
  | 0 => 0
  | m + 1 => t_D so pa lg rn sd m + (if ¬ (t_S so pa lg rn sd m).2.1 = 4 ∧ sd m = true then 1 else 0)
section Run18
variable {so pa : Nat → Int} {lg : Int} {rn sd : Nat → Bool}
theorem t_S_s (m : Nat) : t_S so pa lg rn sd (m + 1) = t_nx so pa lg (rn m) (sd m) (t_S so pa lg rn sd m) := rfl
theorem t_leg_step (m : Nat) : (t_S so pa lg rn sd (m + 1)).2.1 = (t_S so pa lg rn sd m).2.1 ∨ ((t_S so pa lg rn sd m).2.1 ≠ 4 ∧ (t_S so pa lg rn sd (m + 1)).2.1 = (t_S so pa lg rn sd m).2.1 + 1) := by
  rw [t_S_s]
  unfold t_nx
  split
  · exact Or.inl rfl
  · rename_i h
    split
    · exact Or.inr ⟨h, rfl⟩
    · exact Or.inl rfl
theorem t_leg_le (m : Nat) : (t_S so pa lg rn sd m).2.1 ≤ 4 := by
  induction m with
  | zero => exact Nat.zero_le _
  | succ m ih =>
    rcases t_leg_step (so := so) (pa := pa) (lg := lg) (rn := rn) (sd := sd) m with h | ⟨h1, h⟩ <;> omega
theorem t_leg_m (m : Nat) : (t_S so pa lg rn sd m).2.1 ≤ m := by
  induction m with
  | zero => exact Nat.zero_le _
  | succ m ih =>
    rcases t_leg_step (so := so) (pa := pa) (lg := lg) (rn := rn) (sd := sd) m with h | ⟨h1, h⟩ <;> omega
theorem t_leg_mono {a b : Nat} (h : a ≤ b) : (t_S so pa lg rn sd a).2.1 ≤ (t_S so pa lg rn sd b).2.1 := by
  induction b with
  | zero => have : a = 0 := by omega
            subst this; exact Nat.le_refl _
  | succ b ih =>
    by_cases hb : a = b + 1
    · subst hb; exact Nat.le_refl _
    · have := ih (by omega)
      rcases t_leg_step (so := so) (pa := pa) (lg := lg) (rn := rn) (sd := sd) b with h | ⟨h1, h⟩ <;> omega
/-- paces and the length as they may be -/
def t_ok (pa : Nat → Int) (lg : Int) : Prop := (∀ l, l < 4 → 1 ≤ pa l ∧ pa l ≤ 9) ∧ 10 ≤ lg ∧ lg ≤ 60
theorem t_mul {lg : Int} {l : Nat} (h : l < 4) : lg * ((l : Int) + 1) = (if l = 0 then lg else if l = 1 then 2 * lg else if l = 2 then 3 * lg else 4 * lg) := by
  rcases (show l = 0 ∨ l = 1 ∨ l = 2 ∨ l = 3 by omega) with rfl | rfl | rfl | rfl <;> simp <;> omega
theorem t_inv (h : t_ok pa lg) (m : Nat) : 0 ≤ (t_S so pa lg rn sd m).1 ∧ ((t_S so pa lg rn sd m).2.1 ≠ 4 → (t_S so pa lg rn sd m).1 < lg * (((t_S so pa lg rn sd m).2.1 : Int) + 1)) ∧ (t_S so pa lg rn sd m).1 ≤ 249 ∧ 0 ≤ (t_S so pa lg rn sd m).2.2 ∧ (t_S so pa lg rn sd m).2.2 ≤ m := by
  obtain ⟨hp, hl1, hl2⟩ := h
  induction m with
  | zero => exact ⟨Int.le_refl _, fun _ => by simp [t_S]; omega, by simp [t_S], Int.le_refl _, Int.le_refl _⟩
  | succ m ih =>
    obtain ⟨h1, h2, h3, h4, h5⟩ := ih
    have h6 := t_leg_le (so := so) (pa := pa) (lg := lg) (rn := rn) (sd := sd) m
    rw [t_S_s]
    generalize t_S so pa lg rn sd m = st at h1 h2 h3 h4 h5 h6 ⊢
    obtain ⟨f, l, o⟩ := st
    dsimp only at h1 h2 h3 h4 h5 h6
    unfold t_nx
    dsimp only
    by_cases h4l : l = 4
    · rw [if_pos h4l]
      exact ⟨h1, h2, h3, h4, by dsimp only; omega⟩
    · rw [if_neg h4l]
      have hl : l < 4 := by omega
      have hs := t_str_in (so := so l) (own := o) (rn := rn m) (hp l hl)
      have hf : f ≤ t_far so pa (rn m) (sd m) (f, l, o) ∧ t_far so pa (rn m) (sd m) (f, l, o) ≤ f + 10 := by
        unfold t_far
        dsimp only
        split <;> omega
      have h2' := h2 h4l
      rw [t_mul hl] at h2'
      by_cases hge : lg * ((l : Int) + 1) ≤ t_far so pa (rn m) (sd m) (f, l, o)
      · rw [if_pos hge]
        rw [t_mul hl] at hge
        generalize t_far so pa (rn m) (sd m) (f, l, o) = g at hf hge ⊢
        refine ⟨by dsimp only; omega, fun h5l => ?_, ?_, Int.le_refl _, by dsimp only; omega⟩
        · dsimp only at h5l ⊢
          rw [t_mul (by omega)]
          rcases (show l = 0 ∨ l = 1 ∨ l = 2 by omega) with rfl | rfl | rfl <;> simp at h2' hge ⊢ <;> omega
        · dsimp only
          rcases (show l = 0 ∨ l = 1 ∨ l = 2 ∨ l = 3 by omega) with rfl | rfl | rfl | rfl <;> simp at h2' hge ⊢ <;> omega
      · rw [if_neg hge]
        rw [t_mul hl] at hge
        generalize t_far so pa (rn m) (sd m) (f, l, o) = g at hf hge ⊢
        refine ⟨by dsimp only; omega, fun _ => ?_, ?_, by dsimp only; omega, by dsimp only; omega⟩
        · dsimp only
          rw [t_mul hl]
          omega
        · dsimp only
          rcases (show l = 0 ∨ l = 1 ∨ l = 2 ∨ l = 3 by omega) with rfl | rfl | rfl | rfl <;> simp at h2' hge ⊢ <;> omega
/-- who is as far as the next leg's end didn't stand -/
theorem t_go (h : t_ok pa lg) {m : Nat} (hm : (t_S so pa lg rn sd (m + 1)).2.1 = (t_S so pa lg rn sd m).2.1 + 1) : sd m = false := by
  have hi := (t_inv (so := so) (rn := rn) (sd := sd) h m).2.1
  rw [t_S_s] at hm
  unfold t_nx at hm
  split at hm
  · omega
  · rename_i h4
    have hi := hi h4
    split at hm
    · rename_i hge
      cases hs : sd m with
      | false => rfl
      | true =>
        rw [hs] at hge
        simp [t_far] at hge
        omega
    · dsimp only at hm; omega
theorem t_E_s (l m : Nat) : t_E so pa lg rn sd l (m + 1) = if (t_S so pa lg rn sd m).2.1 = l ∧ (t_S so pa lg rn sd (m + 1)).2.1 = l + 1 then (m : Int) else t_E so pa lg rn sd l m := rfl
theorem t_E_in (l m : Nat) : -1 ≤ t_E so pa lg rn sd l m ∧ t_E so pa lg rn sd l m < m := by
  induction m with
  | zero => simp [t_E]
  | succ m ih =>
    rw [t_E_s]
    split <;> omega
/-- done by then -/
theorem t_E_iff (l : Nat) : ∀ (n k : Nat), k < n → ((t_E so pa lg rn sd l n ≠ -1 ∧ t_E so pa lg rn sd l n ≤ k) ↔ l < (t_S so pa lg rn sd (k + 1)).2.1) := by
  intro n
  induction n with
  | zero => intro k hk; omega
  | succ n ih =>
    intro k hk
    have hstep := t_leg_step (so := so) (pa := pa) (lg := lg) (rn := rn) (sd := sd) n
    have hin := t_E_in (so := so) (pa := pa) (lg := lg) (rn := rn) (sd := sd) l n
    rw [t_E_s]
    by_cases hc : (t_S so pa lg rn sd n).2.1 = l ∧ (t_S so pa lg rn sd (n + 1)).2.1 = l + 1
    · rw [if_pos hc]
      by_cases hkn : k = n
      · subst hkn; omega
      · have hmono := t_leg_mono (so := so) (pa := pa) (lg := lg) (rn := rn) (sd := sd) (show k + 1 ≤ n by omega)
        omega
    · rw [if_neg hc]
      by_cases hkn : k = n
      · subst hkn
        by_cases hz : k = 0
        · subst hz
          have h0 : (t_S so pa lg rn sd 0).2.1 = 0 := rfl
          have hE : t_E so pa lg rn sd l 0 = -1 := rfl
          rw [h0] at hc hstep
          rw [hE]
          omega
        · obtain ⟨k', rfl⟩ : ∃ k', k = k' + 1 := ⟨k - 1, by omega⟩
          have h1 := ih k' (by omega)
          push_cast at hin ⊢
          omega
      · exact ih k (by omega)
theorem t_E_end {l n k : Nat} (hk : k < n) : t_E so pa lg rn sd l (k + 1) = if t_E so pa lg rn sd l n ≠ -1 ∧ t_E so pa lg rn sd l n ≤ k then t_E so pa lg rn sd l n else -1 := by
  induction n with
  | zero => omega
  | succ n ih =>
    have hi := t_E_iff (so := so) (pa := pa) (lg := lg) (rn := rn) (sd := sd) l (n + 1) k hk
    by_cases hkn : k = n
    · subst hkn
      have hin := t_E_in (so := so) (pa := pa) (lg := lg) (rn := rn) (sd := sd) l (k + 1)
      push_cast at hin
      by_cases h9 : t_E so pa lg rn sd l (k + 1) = -1
      · rw [if_neg (by omega)]; exact h9
      · rw [if_pos ⟨h9, by omega⟩]
    · have h2 := ih (by omega)
      have hi2 := t_E_iff (so := so) (pa := pa) (lg := lg) (rn := rn) (sd := sd) l n k (by omega)
      rw [h2, t_E_s]
      by_cases hc : (t_S so pa lg rn sd n).2.1 = l ∧ (t_S so pa lg rn sd (n + 1)).2.1 = l + 1
      · rw [t_E_s, if_pos hc] at hi
        rw [if_pos hc]
        have hnot : ¬ (t_E so pa lg rn sd l n ≠ -1 ∧ t_E so pa lg rn sd l n ≤ k) := by
          rw [hi2, ← hi]; omega
        rw [if_neg hnot, if_neg (by omega)]
      · rw [if_neg hc]
theorem t_S_home {m : Nat} (h : (t_S so pa lg rn sd m).2.1 = 4) : t_S so pa lg rn sd (m + 1) = t_S so pa lg rn sd m := by
  rw [t_S_s]; unfold t_nx; rw [if_pos h]
/-- the moment ahead of the leg under way -/
def t_P (so pa : Nat → Int) (lg : Int) (rn sd : Nat → Bool) (l m : Nat) : Int := if l = 0 then -1 else t_E so pa lg rn sd (l - 1) m
theorem t_own (m : Nat) : (t_S so pa lg rn sd m).2.1 ≠ 4 → (t_S so pa lg rn sd m).2.2 = (m : Int) - 1 - t_P so pa lg rn sd (t_S so pa lg rn sd m).2.1 m := by
  induction m with
  | zero => intro _; rfl
  | succ m ih =>
    intro h
    have hstep := t_leg_step (so := so) (pa := pa) (lg := lg) (rn := rn) (sd := sd) m
    have hle := t_leg_le (so := so) (pa := pa) (lg := lg) (rn := rn) (sd := sd) m
    rcases hstep with hs | ⟨h1, hs⟩
    · have h4 : (t_S so pa lg rn sd m).2.1 ≠ 4 := by omega
      have ih := ih h4
      have ho : (t_S so pa lg rn sd (m + 1)).2.2 = (t_S so pa lg rn sd m).2.2 + 1 := by
        rw [t_S_s] at hs ⊢
        unfold t_nx at hs ⊢
        rw [if_neg h4] at hs ⊢
        split at hs
        · dsimp only at hs; omega
        · rename_i hq; rw [if_neg hq]
      have hP : t_P so pa lg rn sd (t_S so pa lg rn sd (m + 1)).2.1 (m + 1) = t_P so pa lg rn sd (t_S so pa lg rn sd m).2.1 m := by
        rw [hs]
        unfold t_P
        split
        · rfl
        · rw [t_E_s, if_neg (by omega)]
      rw [ho, ih, hP]
      push_cast
      omega
    · have ho : (t_S so pa lg rn sd (m + 1)).2.2 = 0 := by
        rw [t_S_s] at hs ⊢
        unfold t_nx at hs ⊢
        rw [if_neg h1] at hs ⊢
        split at hs
        · rename_i hq; rw [if_pos hq]
        · dsimp only at hs; omega
      have hP : t_P so pa lg rn sd (t_S so pa lg rn sd (m + 1)).2.1 (m + 1) = m := by
        rw [hs]
        unfold t_P
        rw [if_neg (by omega), t_E_s, if_pos ⟨by omega, by omega⟩]
      rw [ho, hP]
      push_cast
      omega
/-- how long leg l lasted, among the first m moments -/
def t_L (so pa : Nat → Int) (lg : Int) (rn sd : Nat → Bool) (l m : Nat) : Int := if t_E so pa lg rn sd l m = -1 then -1 else t_E so pa lg rn sd l m - t_P so pa lg rn sd l m
theorem t_L_s (l m : Nat) : t_L so pa lg rn sd l (m + 1) = if (t_S so pa lg rn sd m).2.1 = l ∧ (t_S so pa lg rn sd (m + 1)).2.1 = l + 1 then (t_S so pa lg rn sd m).2.2 + 1 else t_L so pa lg rn sd l m := by
  have hle := t_leg_le (so := so) (pa := pa) (lg := lg) (rn := rn) (sd := sd) (m + 1)
  by_cases hc : (t_S so pa lg rn sd m).2.1 = l ∧ (t_S so pa lg rn sd (m + 1)).2.1 = l + 1
  · rw [if_pos hc]
    have ho := t_own (so := so) (pa := pa) (lg := lg) (rn := rn) (sd := sd) m (by omega)
    rw [hc.1] at ho
    unfold t_L
    rw [t_E_s, if_pos hc, if_neg (by omega), ho]
    have hP : t_P so pa lg rn sd l (m + 1) = t_P so pa lg rn sd l m := by
      unfold t_P
      split
      · rfl
      · rw [t_E_s, if_neg (by omega)]
    rw [hP]
    omega
  · rw [if_neg hc]
    unfold t_L
    rw [t_E_s, if_neg hc]
    by_cases h9 : t_E so pa lg rn sd l m = -1
    · rw [if_pos h9, if_pos h9]
    · rw [if_neg h9, if_neg h9]
      have hP : t_P so pa lg rn sd l (m + 1) = t_P so pa lg rn sd l m := by
        unfold t_P
        split
        · rfl
        · rename_i hl0
          rw [t_E_s, if_neg]
          intro hq
          have hin := t_E_in (so := so) (pa := pa) (lg := lg) (rn := rn) (sd := sd) l m
          have hm0 : m ≠ 0 := by
            intro hz; subst hz; exact h9 rfl
          obtain ⟨m', rfl⟩ : ∃ m', m = m' + 1 := ⟨m - 1, by omega⟩
          have hi := (t_E_iff (so := so) (pa := pa) (lg := lg) (rn := rn) (sd := sd) l (m' + 1) m' (by omega)).mp ⟨h9, by push_cast at hin; omega⟩
          omega
      rw [hP]
end Run18
end
section
/-! MATHEMATICS: who is ahead -/
/-- a team's standing behind a moment: F how far, H when home -/
def r_V (F : Nat → Nat → Int) (H : Nat → Int) (t m : Nat) : Int := (if H t ≠ -1 ∧ H t ≤ m then (48 - H t) * 4096 else 0) + 4 * F t m + 3 - t
/-- how many of the first n teams are ahead of t -/
def r_rk (F : Nat → Nat → Int) (H : Nat → Int) (t m : Nat) : Nat → Int
  | 0 => 0
  | n + 1 => r_rk F H t m n + (if r_V F H t m < r_V F H n m then 1 else 0)
/-- the foremost of the first n teams, and its standing -/
def r_fo (F : Nat → Nat → Int) (H : Nat → Int) (m : Nat) : Nat → Int × Int
  | 0 => (-1, -1)
  | n + 1 => if (r_fo F H m n).2 < r_V F H n m then ((n : Int), r_V F H n m) else r_fo F H m n
/-- the last of the first n teams whose rank is 0 -/
def r_fi (R : Nat → Int) : Nat → Int
  | 0 => -1
  | n + 1 => if R n = 0 then (n : Int) else r_fi R n
/-- as far and as late as may be -/
def r_ok (F : Nat → Nat → Int) (H : Nat → Int) (T : Nat) : Prop := T ≤ 4 ∧ ∀ t, t < T → (∀ m, m < 48 → 0 ≤ F t m ∧ F t m ≤ 249) ∧ -1 ≤ H t ∧ H t ≤ 47
section Rank19
variable {F : Nat → Nat → Int} {H : Nat → Int} {T : Nat}
theorem r_V_in (h : r_ok F H T) {t m : Nat} (ht : t < T) (hm : m < 48) : 0 ≤ r_V F H t m := by
  obtain ⟨h1, h2⟩ := (h.2 t ht).1 m hm
  obtain ⟨h3, h4⟩ := (h.2 t ht).2
  have := h.1
  unfold r_V
  split <;> omega
theorem r_V_ne (h : r_ok F H T) {a b m : Nat} (ha : a < T) (hb : b < T) (hm : m < 48) (hab : a ≠ b) : r_V F H a m ≠ r_V F H b m := by
  have := h.1
  unfold r_V
  split <;> split <;> omega
/-- who is home is ahead; of two, who came sooner; else who is farther, then the less -/
theorem r_ahead (h : r_ok F H T) {a b m : Nat} (ha : a < T) (hb : b < T) (hm : m < 48) (hab : a ≠ b) {x y : Int} (hx : x = if H a ≠ -1 ∧ H a ≤ m then H a else -1) (hy : y = if H b ≠ -1 ∧ H b ≤ m then H b else -1) :
    r_V F H b m < r_V F H a m ↔ (if (x ≠ -1 ∧ y = -1) ∨ (x = -1 ∧ y ≠ -1) then x ≠ -1 else if x ≠ -1 ∧ x ≠ y then x < y else if F a m ≠ F b m then F b m < F a m else a < b) := by
  have h1 := h.1
  obtain ⟨a1, a2⟩ := (h.2 a ha).1 m hm
  obtain ⟨b1, b2⟩ := (h.2 b hb).1 m hm
  obtain ⟨a3, a4⟩ := (h.2 a ha).2
  obtain ⟨b3, b4⟩ := (h.2 b hb).2
  unfold r_V
  by_cases ca : H a ≠ -1 ∧ H a ≤ m
  · rw [if_pos ca] at hx
    by_cases cb : H b ≠ -1 ∧ H b ≤ m
    · rw [if_pos cb] at hy
      rw [if_pos ca, if_pos cb, if_neg (by omega)]
      subst hx; subst hy
      by_cases hne : H a = H b
      · rw [if_neg (by omega), hne]
        by_cases hf : F a m = F b m
        · rw [if_neg (by omega)]; omega
        · rw [if_pos hf]; omega
      · rw [if_pos ⟨ca.1, hne⟩]; omega
    · rw [if_neg cb] at hy
      rw [if_pos ca, if_neg cb, if_pos (by omega)]
      omega
  · rw [if_neg ca] at hx
    by_cases cb : H b ≠ -1 ∧ H b ≤ m
    · rw [if_pos cb] at hy
      rw [if_neg ca, if_pos cb, if_pos (by omega)]
      omega
    · rw [if_neg cb] at hy
      rw [if_neg ca, if_neg cb, if_neg (by omega), if_neg (by omega)]
      by_cases hf : F a m = F b m
      · rw [if_neg (by omega)]; omega
      · rw [if_pos hf]; omega
theorem r_rk_in (t m : Nat) : ∀ n, 0 ≤ r_rk F H t m n ∧ r_rk F H t m n ≤ n
  | 0 => by simp [r_rk]
  | n + 1 => by
    have := r_rk_in t m n
    unfold r_rk
    split <;> omega
theorem r_rk_0 (t m : Nat) : ∀ n, r_rk F H t m n = 0 ↔ ∀ o, o < n → ¬ r_V F H t m < r_V F H o m
  | 0 => by simp [r_rk]
  | n + 1 => by
    have h1 := r_rk_in (F := F) (H := H) t m n
    have h2 := r_rk_0 t m n
    unfold r_rk
    constructor
    · intro h o ho
      by_cases hon : o = n
      · subst hon; intro hq; rw [if_pos hq] at h; omega
      · refine h2.mp ?_ o (by omega)
        split at h <;> omega
    · intro h
      rw [if_neg (h n (by omega)), h2.mpr (fun o ho => h o (by omega))]
      rfl
theorem r_fo_spec (h : r_ok F H T) {m : Nat} (hm : m < 48) : ∀ n, n ≤ T → (n = 0 ∧ r_fo F H m n = (-1, -1)) ∨ ∃ t, t < n ∧ r_fo F H m n = ((t : Int), r_V F H t m) ∧ ∀ o, o < n → r_V F H o m ≤ r_V F H t m
  | 0, _ => Or.inl ⟨rfl, rfl⟩
  | n + 1, hn => by
    refine Or.inr ?_
    have hV := r_V_in h (show n < T by omega) hm
    rcases r_fo_spec h hm n (by omega) with ⟨h0, h1⟩ | ⟨t, h1, h2, h3⟩
    · subst h0
      refine ⟨0, by omega, ?_, fun o ho => ?_⟩
      · unfold r_fo; rw [h1, if_pos (by dsimp only; omega)]
      · have : o = 0 := by omega
        subst this; exact Int.le_refl _
    · unfold r_fo
      rw [h2]
      dsimp only
      by_cases hlt : r_V F H t m < r_V F H n m
      · rw [if_pos hlt]
        refine ⟨n, by omega, rfl, fun o ho => ?_⟩
        by_cases hon : o = n
        · subst hon; exact Int.le_refl _
        · have := h3 o (by omega); omega
      · rw [if_neg hlt]
        refine ⟨t, by omega, rfl, fun o ho => ?_⟩
        by_cases hon : o = n
        · subst hon; omega
        · exact h3 o (by omega)
theorem r_fo_rk (h : r_ok F H T) {m t : Nat} (hm : m < 48) (ht : t < T) : (r_fo F H m T).1 = t ↔ r_rk F H t m T = 0 := by
  rw [r_rk_0]
  rcases r_fo_spec h hm T (Nat.le_refl _) with ⟨h0, h1⟩ | ⟨u, h1, h2, h3⟩
  · omega
  · rw [h2]
    dsimp only
    constructor
    · intro hq o ho
      have : u = t := by omega
      subst this
      have := h3 o ho; omega
    · intro hq
      by_cases hut : u = t
      · omega
      · have h4 := h3 t ht
        have h5 := r_V_ne h ht h1 hm (Ne.symm hut)
        exact absurd (by omega) (hq u h1)
/-- the last whose rank is 0 is the foremost -/
theorem r_fi_fo (h : r_ok F H T) {m : Nat} (hm : m < 48) : r_fi (fun t => r_rk F H t m T) T = (r_fo F H m T).1 := by
  have key : ∀ n, n ≤ T → ((∃ t : Nat, t < n ∧ r_rk F H t m T = 0 ∧ r_fi (fun t => r_rk F H t m T) n = t) ∨ ((∀ t, t < n → r_rk F H t m T ≠ 0) ∧ r_fi (fun t => r_rk F H t m T) n = -1)) := by
    intro n
    induction n with
    | zero => intro _; exact Or.inr ⟨fun t ht => by omega, rfl⟩
    | succ n ih =>
      intro hn
      unfold r_fi
      by_cases h0 : r_rk F H n m T = 0
      · rw [if_pos h0]; exact Or.inl ⟨n, by omega, h0, rfl⟩
      · rw [if_neg h0]
        rcases ih (by omega) with ⟨t, h1, h2, h3⟩ | ⟨h1, h2⟩
        · exact Or.inl ⟨t, by omega, h2, h3⟩
        · refine Or.inr ⟨fun t ht => ?_, h2⟩
          by_cases htn : t = n
          · subst htn; exact h0
          · exact h1 t (by omega)
  rcases key T (Nat.le_refl _) with ⟨t, h1, h2, h3⟩ | ⟨h1, h2⟩
  · rw [h3]; exact ((r_fo_rk h hm h1).mpr h2).symm
  · rw [h2]
    rcases r_fo_spec h hm T (Nat.le_refl _) with ⟨h3, h4⟩ | ⟨u, h3, h4, h5⟩
    · rw [h4]
    · exact absurd ((r_fo_rk h hm h3).mp (by rw [h4])) (h1 u h3)
/-- who has won; -1 -/
def r_won (F : Nat → Nat → Int) (H : Nat → Int) (T : Nat) : Int := if (r_fo F H 47 T).1 ≠ -1 ∧ H (r_fo F H 47 T).1.toNat ≠ -1 then (r_fo F H 47 T).1 else -1
/-- the model's way: the last who is home and has rank 0 -/
def r_wi (H R : Nat → Int) : Nat → Int
  | 0 => -1
  | n + 1 => if H n ≠ -1 ∧ R n = 0 then (n : Int) else r_wi H R n
theorem r_wi_won (h : r_ok F H T) : r_wi H (fun t => r_rk F H t 47 T) T = r_won F H T := by
  have key : ∀ n, n ≤ T → ((∃ t : Nat, t < n ∧ H t ≠ -1 ∧ r_rk F H t 47 T = 0 ∧ r_wi H (fun t => r_rk F H t 47 T) n = t) ∨ ((∀ t, t < n → ¬ (H t ≠ -1 ∧ r_rk F H t 47 T = 0)) ∧ r_wi H (fun t => r_rk F H t 47 T) n = -1)) := by
    intro n
    induction n with
    | zero => intro _; exact Or.inr ⟨fun t ht => by omega, rfl⟩
    | succ n ih =>
      intro hn
      unfold r_wi
      by_cases h0 : H n ≠ -1 ∧ r_rk F H n 47 T = 0
      · rw [if_pos h0]; exact Or.inl ⟨n, by omega, h0.1, h0.2, rfl⟩
      · rw [if_neg h0]
        rcases ih (by omega) with ⟨t, h1, h2, h3, h4⟩ | ⟨h1, h2⟩
        · exact Or.inl ⟨t, by omega, h2, h3, h4⟩
        · refine Or.inr ⟨fun t ht => ?_, h2⟩
          by_cases htn : t = n
          · subst htn; exact h0
          · exact h1 t (by omega)
  unfold r_won
  rcases key T (Nat.le_refl _) with ⟨t, h1, h2, h3, h4⟩ | ⟨h1, h2⟩
  · have h5 := (r_fo_rk h (show 47 < 48 by omega) h1).mpr h3
    rw [h4, h5, if_pos]
    exact ⟨by omega, by rw [Int.toNat_natCast]; exact h2⟩
  · rw [h2]
    rcases r_fo_spec h (show 47 < 48 by omega) T (Nat.le_refl _) with ⟨h3, h4⟩ | ⟨u, h3, h4, h5⟩
    · rw [h4]; rfl
    · have h6 := (r_fo_rk h (show 47 < 48 by omega) h3).mp (by rw [h4])
      rw [h4, if_neg]
      rintro ⟨-, h7⟩
      rw [Int.toNat_natCast] at h7
      exact h1 u h3 ⟨h7, h6⟩
/-- the class's way: the greatest standing above 4095 -/
def r_ww (V : Nat → Int) : Nat → Int × Int
  | 0 => (-1, 4095)
  | n + 1 => if (r_ww V n).2 < V n then ((n : Int), V n) else r_ww V n
theorem r_ww_won (h : r_ok F H T) : (r_ww (fun t => r_V F H t 47) T).1 = r_won F H T := by
  have hom : ∀ t, t < T → (H t ≠ -1 ↔ 4095 < r_V F H t 47) := by
    intro t ht
    have h1 := h.1
    obtain ⟨a1, a2⟩ := (h.2 t ht).1 47 (by omega)
    obtain ⟨a3, a4⟩ := (h.2 t ht).2
    unfold r_V
    by_cases c : H t ≠ -1 ∧ H t ≤ ((47 : Nat) : Int)
    · rw [if_pos c]; omega
    · rw [if_neg c]; omega
  have key : ∀ n, n ≤ T → ((∃ t : Nat, t < n ∧ H t ≠ -1 ∧ (∀ o, o < n → r_V F H o 47 ≤ r_V F H t 47) ∧ r_ww (fun t => r_V F H t 47) n = ((t : Int), r_V F H t 47)) ∨ ((∀ t, t < n → ¬ (H t ≠ -1)) ∧ r_ww (fun t => r_V F H t 47) n = (-1, 4095))) := by
    intro n
    induction n with
    | zero => intro _; exact Or.inr ⟨fun t ht => by omega, rfl⟩
    | succ n ih =>
      intro hn
      have hh := hom n (by omega)
      unfold r_ww
      rcases ih (by omega) with ⟨t, h1, h2, h3, h4⟩ | ⟨h1, h2⟩
      · rw [h4]
        dsimp only
        have ht := (hom t (by omega)).mp h2
        by_cases hlt : r_V F H t 47 < r_V F H n 47
        · rw [if_pos hlt]
          refine Or.inl ⟨n, by omega, hh.mpr (by omega), fun o ho => ?_, rfl⟩
          by_cases hon : o = n
          · subst hon; exact Int.le_refl _
          · have := h3 o (by omega); omega
        · rw [if_neg hlt]
          refine Or.inl ⟨t, by omega, h2, fun o ho => ?_, rfl⟩
          by_cases hon : o = n
          · subst hon; omega
          · exact h3 o (by omega)
      · rw [h2]
        dsimp only
        by_cases hlt : 4095 < r_V F H n 47
        · rw [if_pos hlt]
          refine Or.inl ⟨n, by omega, hh.mpr hlt, fun o ho => ?_, rfl⟩
          by_cases hon : o = n
          · subst hon; exact Int.le_refl _
          · have h5 := h1 o (by omega)
            have h6 := hom o (by omega)
            have : ¬ 4095 < r_V F H o 47 := fun q => h5 (h6.mpr q)
            omega
        · rw [if_neg hlt]
          refine Or.inr ⟨fun t ht => ?_, rfl⟩
          by_cases htn : t = n
          · subst htn; intro q; exact hlt (hh.mp q)
          · exact h1 t (by omega)
  unfold r_won
  rcases r_fo_spec h (show 47 < 48 by omega) T (Nat.le_refl _) with ⟨h3, h4⟩ | ⟨u, h3, h4, h5⟩
  · subst h3; rfl
  · rw [h4]
    dsimp only
    rw [Int.toNat_natCast]
    rcases key T (Nat.le_refl _) with ⟨t, h1, h2, h6, h7⟩ | ⟨h1, h2⟩
    · rw [h7]
      dsimp only
      have hut : u = t := by
        by_cases hne : u = t
        · exact hne
        · have := r_V_ne h h3 h1 (show 47 < 48 by omega) hne
          have := h5 t h1
          have := h6 u h3
          omega
      subst hut
      rw [if_pos ⟨by omega, h2⟩]
    · rw [h2, if_neg (fun q => h1 u h3 q.2)]
end Rank19
end
section
/-! filling rows; generic stepping over arrays; worlds -/
section Fill20
variable {Ls : Nat} {C : Nat → List ab_V → ab_W → (Option ab_V → ab_W → Prop) → Prop} {J : Nat → List ab_V → List ab_V → ab_W → Prop} {Rt : Option ab_V → ab_W → Prop} {nx : Nat} {is : List ab_I} {ex : List Nat} {z : Int} {L S : List ab_V} {w : ab_W}
theorem e_ias {p n : Nat} {i x : Int} (h : ab_arr 0 p = some n) : ab_wb Ls C J Rt nx ((.iastore, ex, z) :: is) L (vI x :: vI i :: vR p :: S) w = ((0 ≤ i ∧ i < (n : Int)) ∧ ab_wb Ls C J Rt nx is L S (ab_up w p i x)) := by
  simp only [ab_wb, ab_wp, h]
theorem e_las {p n : Nat} {i x : Int} (h : ab_arr 1 p = some n) : ab_wb Ls C J Rt nx ((.lastore, ex, z) :: is) L (vL x :: vI i :: vR p :: S) w = ((0 ≤ i ∧ i < (n : Int)) ∧ ab_wb Ls C J Rt nx is L S (ab_up w p i x)) := by
  simp only [ab_wb, ab_wp, h]
theorem e_lenk {kd p n : Nat} (h : ab_arr kd p = some n) : ab_wb Ls C J Rt nx ((.arraylength, ex, z) :: is) L (vR p :: S) w = ab_wb Ls C J Rt nx is L (vI (n : Int) :: S) w := by
  obtain ⟨rs, e⟩ := ab_arr_of h
  simp only [ab_wb, ab_wp, ab_pR, ab_len, e]
end Fill20
def ab_fl (w : ab_W) (p : Nat) (a b v : Int) : ab_W := fun r j => if r = p then (if a ≤ j ∧ j < b then v else w r j) else w r j
theorem ab_fl_0 {w : ab_W} {p : Nat} {a v : Int} : ab_fl w p a a v = w := by
  funext r j
  unfold ab_fl
  split
  · rw [if_neg (by omega)]
  · rfl
theorem ab_fl_s {w : ab_W} {p : Nat} {a i v : Int} (h : a ≤ i) : ab_up (ab_fl w p a i v) p i v = ab_fl w p a (i + 1) v := by
  funext r j
  unfold ab_up ab_fl
  by_cases hr : r = p
  · simp only [if_pos hr]
    by_cases hj : j = i
    · rw [if_pos hj, if_pos (by omega)]
    · rw [if_neg hj]
      by_cases h2 : a ≤ j ∧ j < i
      · rw [if_pos h2, if_pos (by omega)]
      · rw [if_neg h2, if_neg (by omega)]
  · simp only [if_neg hr]
theorem ab_up_at {w : ab_W} {p : Nat} {i v : Int} : ab_up w p i v p i = v := by simp [ab_up]
theorem ab_up_nj {w : ab_W} {p : Nat} {i v j : Int} (h : j ≠ i) : ab_up w p i v p j = w p j := by simp [ab_up, h]
theorem ab_up_p {w : ab_W} {p r : Nat} {i v j : Int} (h : r ≠ p) : ab_up w p i v r j = w r j := by simp [ab_up, h]
theorem ab_fl_p {w : ab_W} {p r : Nat} {a b v j : Int} (h : r ≠ p) : ab_fl w p a b v r j = w r j := by simp [ab_fl, h]
theorem ab_fl_pp {w : ab_W} {p r : Nat} {a b v : Int} (h : r ≠ p) : ab_fl w p a b v r = w r := by funext j; simp [ab_fl, h]
theorem ab_fl_in {w : ab_W} {p : Nat} {a b v j : Int} (h : a ≤ j ∧ j < b) : ab_fl w p a b v p j = v := by simp [ab_fl, h]
theorem ab_fl_out {w : ab_W} {p : Nat} {a b v j : Int} (h : ¬ (a ≤ j ∧ j < b)) : ab_fl w p a b v p j = w p j := by simp only [ab_fl, if_pos, if_neg h]
section Fills20
variable {Ls d : Nat} {q : Option ab_V → ab_W → Prop}
/-- Arrays.fill(int[], int) -/
theorem q_fill1 {p n : Nat} {v : Int} {w : ab_W} (hp : ab_arr 0 p = some n) (hn : n < 2000) (h : q none (ab_fl w p 0 n v)) : Sm Ls (d + 1) 4 [vR p, vI v] w q := by
  have key : ∀ (k i : Nat), i + k = n → Ev Ls (Sm Ls d) q bk_4 1 [vR p, vI v, vI (i : Int), vI (n : Int)] [] (ab_fl w p 0 i v) := by
    intro k
    induction k with
    | zero =>
      intro i hi
      rw [ev_4_1]
      simp only [↓e_iconst, ↓e_istore2, e_klI, e_klR, e_klX, e_klL, ↓e_aload0, ↓e_istore3, ↓e_iload2, ↓e_iload3, ↓e_cmp_ge, ↓e_iload1, ↓e_iinc2, ↓e_goto, ↓e_vret, ↓y_2, ↓n_2, ↓y_4, ↓n_4, ↓y_5, ↓n_5, ↓y_6, ↓n_6, ↓y_8, ↓n_8, ↓y_9, ↓n_9, ↓y_10, ↓n_10, ↓y_12, ↓n_12, ↓y_13, ↓n_13, ↓y_14, ↓n_14, ↓y_16, ↓n_16, ↓y_17, ↓n_17, ↓n_18, ↓y_19, ↓n_19, ↓y_20, ↓n_20, ↓y_22, ↓n_22, ↓y_23, ↓n_23, ↓n_24, ↓y_25, ↓n_25, ↓y_26, ↓n_26, ↓y_27, ↓n_27, ↓y_28, ↓n_28, ↓y_29, ↓n_29, ↓y_32, ↓n_32, ↓y_34, ↓n_34, ↓y_36, ↓n_36, ↓y_38, ↓n_38, ↓e_nil, b_4_0, b_4_1, b_4_2, ↓ev_4_2]
      have : i = n := by omega
      subst this
      exact ⟨fun _ => h, fun q => absurd (Int.le_refl _) q⟩
    | succ k ih =>
      intro i hi
      rw [ev_4_1]
      simp only [↓e_iconst, ↓e_istore2, e_klI, e_klR, e_klX, e_klL, ↓e_aload0, ↓e_istore3, ↓e_iload2, ↓e_iload3, ↓e_cmp_ge, ↓e_iload1, ↓e_iinc2, ↓e_goto, ↓e_vret, ↓y_2, ↓n_2, ↓y_4, ↓n_4, ↓y_5, ↓n_5, ↓y_6, ↓n_6, ↓y_8, ↓n_8, ↓y_9, ↓n_9, ↓y_10, ↓n_10, ↓y_12, ↓n_12, ↓y_13, ↓n_13, ↓y_14, ↓n_14, ↓y_16, ↓n_16, ↓y_17, ↓n_17, ↓n_18, ↓y_19, ↓n_19, ↓y_20, ↓n_20, ↓y_22, ↓n_22, ↓y_23, ↓n_23, ↓n_24, ↓y_25, ↓n_25, ↓y_26, ↓n_26, ↓y_27, ↓n_27, ↓y_28, ↓n_28, ↓y_29, ↓n_29, ↓y_32, ↓n_32, ↓y_34, ↓n_34, ↓y_36, ↓n_36, ↓y_38, ↓n_38, ↓e_nil, b_4_0, b_4_1, b_4_2, ↓ev_4_2, ↓e_ias hp]
      refine ⟨fun hq => absurd hq (by omega), fun _ => ⟨⟨by omega, by omega⟩, ?_⟩⟩
      rw [ab_fl_s (by omega), iW_id (by omega) (by omega)]
      exact ih (i + 1) (by omega)
  rw [en_4]
  simp only [↓e_iconst, ↓e_istore2, e_klI, e_klR, e_klX, e_klL, ↓e_aload0, ↓e_istore3, ↓e_iload2, ↓e_iload3, ↓e_cmp_ge, ↓e_iload1, ↓e_iinc2, ↓e_goto, ↓e_vret, ↓y_2, ↓n_2, ↓y_4, ↓n_4, ↓y_5, ↓n_5, ↓y_6, ↓n_6, ↓y_8, ↓n_8, ↓y_9, ↓n_9, ↓y_10, ↓n_10, ↓y_12, ↓n_12, ↓y_13, ↓n_13, ↓y_14, ↓n_14, ↓y_16, ↓n_16, ↓y_17, ↓n_17, ↓n_18, ↓y_19, ↓n_19, ↓y_20, ↓n_20, ↓y_22, ↓n_22, ↓y_23, ↓n_23, ↓n_24, ↓y_25, ↓n_25, ↓y_26, ↓n_26, ↓y_27, ↓n_27, ↓y_28, ↓n_28, ↓y_29, ↓n_29, ↓y_32, ↓n_32, ↓y_34, ↓n_34, ↓y_36, ↓n_36, ↓y_38, ↓n_38, ↓e_nil, b_4_0, b_4_1, b_4_2, ↓e_lenk hp]
  have := key n 0 (by omega)
  rw [show ((0 : Nat) : Int) = 0 from rfl, ab_fl_0] at this
  exact this
/-- Arrays.fill(long[], long) -/
theorem q_fillL {p n : Nat} {v : Int} {w : ab_W} (hp : ab_arr 1 p = some n) (hn : n < 2000) (h : q none (ab_fl w p 0 n v)) : Sm Ls (d + 1) 3 [vR p, vL v] w q := by
  have key : ∀ (k i : Nat), i + k = n → Ev Ls (Sm Ls d) q bk_3 1 [vR p, vL v, vX, vI (i : Int), vI (n : Int)] [] (ab_fl w p 0 i v) := by
    intro k
    induction k with
    | zero =>
      intro i hi
      rw [ev_3_1]
      simp only [↓e_iconst, ↓e_istore3, e_klI, e_klR, e_klX, e_klL, ↓e_aload0, ↓e_istore4, ↓e_iload3, ↓e_iload4, ↓e_cmp_ge, ↓e_lload1, ↓e_iinc3, ↓e_goto, ↓e_vret, ↓n_2, ↓n_4, ↓n_5, ↓n_6, ↓n_8, ↓n_9, ↓n_10, ↓n_12, ↓n_13, ↓n_14, ↓n_16, ↓n_17, ↓y_18, ↓n_18, ↓n_19, ↓n_20, ↓n_22, ↓n_23, ↓y_24, ↓n_24, ↓n_25, ↓n_26, ↓n_27, ↓n_28, ↓n_29, ↓n_32, ↓n_34, ↓n_36, ↓n_38, ↓e_nil, b_3_0, b_3_1, b_3_2, ↓ev_3_2]
      have : i = n := by omega
      subst this
      exact ⟨fun _ => h, fun q => absurd (Int.le_refl _) q⟩
    | succ k ih =>
      intro i hi
      rw [ev_3_1]
      simp only [↓e_iconst, ↓e_istore3, e_klI, e_klR, e_klX, e_klL, ↓e_aload0, ↓e_istore4, ↓e_iload3, ↓e_iload4, ↓e_cmp_ge, ↓e_lload1, ↓e_iinc3, ↓e_goto, ↓e_vret, ↓n_2, ↓n_4, ↓n_5, ↓n_6, ↓n_8, ↓n_9, ↓n_10, ↓n_12, ↓n_13, ↓n_14, ↓n_16, ↓n_17, ↓y_18, ↓n_18, ↓n_19, ↓n_20, ↓n_22, ↓n_23, ↓y_24, ↓n_24, ↓n_25, ↓n_26, ↓n_27, ↓n_28, ↓n_29, ↓n_32, ↓n_34, ↓n_36, ↓n_38, ↓e_nil, b_3_0, b_3_1, b_3_2, ↓ev_3_2, ↓e_las hp]
      refine ⟨fun hq => absurd hq (by omega), fun _ => ⟨⟨by omega, by omega⟩, ?_⟩⟩
      rw [ab_fl_s (by omega), iW_id (by omega) (by omega)]
      exact ih (i + 1) (by omega)
  rw [en_3]
  simp only [↓e_iconst, ↓e_istore3, e_klI, e_klR, e_klX, e_klL, ↓e_aload0, ↓e_istore4, ↓e_iload3, ↓e_iload4, ↓e_cmp_ge, ↓e_lload1, ↓e_iinc3, ↓e_goto, ↓e_vret, ↓n_2, ↓n_4, ↓n_5, ↓n_6, ↓n_8, ↓n_9, ↓n_10, ↓n_12, ↓n_13, ↓n_14, ↓n_16, ↓n_17, ↓y_18, ↓n_18, ↓n_19, ↓n_20, ↓n_22, ↓n_23, ↓y_24, ↓n_24, ↓n_25, ↓n_26, ↓n_27, ↓n_28, ↓n_29, ↓n_32, ↓n_34, ↓n_36, ↓n_38, ↓e_nil, b_3_0, b_3_1, b_3_2, ↓e_lenk hp]
  have := key n 0 (by omega)
  rw [show ((0 : Nat) : Int) = 0 from rfl, ab_fl_0] at this
  exact this
theorem q_range {a b c : Int} {w : ab_W} (h1 : 0 ≤ b) (h2 : b ≤ c) (h3 : c ≤ a) : Sm Ls (d + 1) 2 [vI a, vI b, vI c] w q = q none w := by
  rw [en_2]
  simp only [↓e_iload1, ↓e_iload2, ↓e_cmp_le, ↓e_if_ge, ↓e_iload0, ↓e_vret, ↓e_nil, b_2_0, b_2_1, b_2_2, b_2_3, b_2_4, b_2_5, b_2_6, ↓ev_2_2, ↓ev_2_4, ↓ev_2_6]
  simp [h1, h2, h3]
/-- Arrays.fill(int[], int, int, int) -/
theorem q_fill3 {p n : Nat} {a b v : Int} {w : ab_W} (hp : ab_arr 0 p = some n) (hn : n < 2000) (h1 : 0 ≤ a) (h2 : a ≤ b) (h3 : b ≤ n) (h : q none (ab_fl w p a b v)) : Sm Ls (d + 2) 5 [vR p, vI a, vI b, vI v] w q := by
  have key : ∀ (k : Nat) (i : Int), a ≤ i → i + k = b → Ev Ls (Sm Ls (d + 1)) q bk_5 1 [vR p, vI a, vI b, vI v, vI i] [] (ab_fl w p a i v) := by
    intro k
    induction k with
    | zero =>
      intro i ha hi
      rw [ev_5_1]
      simp only [↓e_aload0, ↓e_iload1, ↓e_iload2, e_rpn, e_rps, e_few0, e_few1, e_few2, e_few3, e_few4, ↓e_cs3, ↓e_istore4, e_klI, e_klR, e_klX, e_klL, ↓e_iload4, ↓e_cmp_ge, ↓e_iload3, ↓e_iinc4, ↓e_goto, ↓e_vret, ↓y_2, ↓n_2, ↓y_4, ↓n_4, ↓y_5, ↓n_5, ↓y_6, ↓n_6, ↓y_8, ↓n_8, ↓y_9, ↓n_9, ↓y_10, ↓n_10, ↓y_12, ↓n_12, ↓y_13, ↓n_13, ↓y_14, ↓n_14, ↓y_16, ↓n_16, ↓y_17, ↓n_17, ↓n_18, ↓y_19, ↓n_19, ↓y_20, ↓n_20, ↓y_22, ↓n_22, ↓y_23, ↓n_23, ↓n_24, ↓y_25, ↓n_25, ↓y_26, ↓n_26, ↓y_27, ↓n_27, ↓y_28, ↓n_28, ↓y_29, ↓n_29, ↓y_32, ↓n_32, ↓y_34, ↓n_34, ↓y_36, ↓n_36, ↓y_38, ↓n_38, ↓e_nil, b_5_0, b_5_1, b_5_2, ↓ev_5_2]
      have : i = b := by omega
      subst this
      exact ⟨fun _ => h, fun q => absurd (Int.le_refl _) q⟩
    | succ k ih =>
      intro i ha hi
      rw [ev_5_1]
      simp only [↓e_aload0, ↓e_iload1, ↓e_iload2, e_rpn, e_rps, e_few0, e_few1, e_few2, e_few3, e_few4, ↓e_cs3, ↓e_istore4, e_klI, e_klR, e_klX, e_klL, ↓e_iload4, ↓e_cmp_ge, ↓e_iload3, ↓e_iinc4, ↓e_goto, ↓e_vret, ↓y_2, ↓n_2, ↓y_4, ↓n_4, ↓y_5, ↓n_5, ↓y_6, ↓n_6, ↓y_8, ↓n_8, ↓y_9, ↓n_9, ↓y_10, ↓n_10, ↓y_12, ↓n_12, ↓y_13, ↓n_13, ↓y_14, ↓n_14, ↓y_16, ↓n_16, ↓y_17, ↓n_17, ↓n_18, ↓y_19, ↓n_19, ↓y_20, ↓n_20, ↓y_22, ↓n_22, ↓y_23, ↓n_23, ↓n_24, ↓y_25, ↓n_25, ↓y_26, ↓n_26, ↓y_27, ↓n_27, ↓y_28, ↓n_28, ↓y_29, ↓n_29, ↓y_32, ↓n_32, ↓y_34, ↓n_34, ↓y_36, ↓n_36, ↓y_38, ↓n_38, ↓e_nil, b_5_0, b_5_1, b_5_2, ↓ev_5_2, ↓e_ias hp]
      refine ⟨fun hq => absurd hq (by omega), fun _ => ⟨⟨by omega, by omega⟩, ?_⟩⟩
      rw [ab_fl_s ha, iW_id (by omega) (by omega)]
      exact ih (i + 1) (by omega) (by push_cast at hi; omega)
  rw [en_5]
  simp only [↓e_aload0, ↓e_iload1, ↓e_iload2, e_rpn, e_rps, e_few0, e_few1, e_few2, e_few3, e_few4, ↓e_cs3, ↓e_istore4, e_klI, e_klR, e_klX, e_klL, ↓e_iload4, ↓e_cmp_ge, ↓e_iload3, ↓e_iinc4, ↓e_goto, ↓e_vret, ↓y_2, ↓n_2, ↓y_4, ↓n_4, ↓y_5, ↓n_5, ↓y_6, ↓n_6, ↓y_8, ↓n_8, ↓y_9, ↓n_9, ↓y_10, ↓n_10, ↓y_12, ↓n_12, ↓y_13, ↓n_13, ↓y_14, ↓n_14, ↓y_16, ↓n_16, ↓y_17, ↓n_17, ↓n_18, ↓y_19, ↓n_19, ↓y_20, ↓n_20, ↓y_22, ↓n_22, ↓y_23, ↓n_23, ↓n_24, ↓y_25, ↓n_25, ↓y_26, ↓n_26, ↓y_27, ↓n_27, ↓y_28, ↓n_28, ↓y_29, ↓n_29, ↓y_32, ↓n_32, ↓y_34, ↓n_34, ↓y_36, ↓n_36, ↓y_38, ↓n_38, ↓e_nil, b_5_0, b_5_1, b_5_2, ↓e_lenk hp]
  rw [q_range h1 h2 h3]
  simp only [↓e_aload0, ↓e_iload1, ↓e_iload2, e_rpn, e_rps, e_few0, e_few1, e_few2, e_few3, e_few4, ↓e_cs3, ↓e_istore4, e_klI, e_klR, e_klX, e_klL, ↓e_iload4, ↓e_cmp_ge, ↓e_iload3, ↓e_iinc4, ↓e_goto, ↓e_vret, ↓y_2, ↓n_2, ↓y_4, ↓n_4, ↓y_5, ↓n_5, ↓y_6, ↓n_6, ↓y_8, ↓n_8, ↓y_9, ↓n_9, ↓y_10, ↓n_10, ↓y_12, ↓n_12, ↓y_13, ↓n_13, ↓y_14, ↓n_14, ↓y_16, ↓n_16, ↓y_17, ↓n_17, ↓n_18, ↓y_19, ↓n_19, ↓y_20, ↓n_20, ↓y_22, ↓n_22, ↓y_23, ↓n_23, ↓n_24, ↓y_25, ↓n_25, ↓y_26, ↓n_26, ↓y_27, ↓n_27, ↓y_28, ↓n_28, ↓y_29, ↓n_29, ↓y_32, ↓n_32, ↓y_34, ↓n_34, ↓y_36, ↓n_36, ↓y_38, ↓n_38, ↓e_nil, b_5_0, b_5_1, b_5_2]
  have := key (b - a).toNat a (Int.le_refl _) (by omega)
  rw [ab_fl_0] at this
  exact ⟨trivial, this⟩
end Fills20
end
section
/-! bits (rows of kit/laws/BITS.to-paste first) -/
theorem wb_tb (n : Nat) : (lN n).toBitVec = BitVec.ofNat 64 n := rfl
theorem wb_inj {a b : Int64} (h : a.toBitVec = b.toBitVec) : a = b := Int64.toBitVec_inj.mp h
theorem wb_tn {n : Nat} (h : n < 2 ^ 64) : (lN n).toBitVec.toNat = n := by rw [wb_tb, BitVec.toNat_ofNat, Nat.mod_eq_of_lt h]
theorem wb_of (x : Int64) : ∃ n, n < 2 ^ 64 ∧ x = lN n := ⟨x.toBitVec.toNat, x.toBitVec.isLt, wb_inj (by rw [wb_tb]; simp)⟩
theorem wb_of32 (x : Int32) : ∃ n, n < 2 ^ 32 ∧ x = nI n := ⟨x.toBitVec.toNat, x.toBitVec.isLt, Int32.toBitVec_inj.mp (by show _ = BitVec.ofNat 32 _; simp)⟩
theorem wb_c : ∀ k, k < 64 → ((nI k).toInt64 &&& 63) = lN k := by decide +kernel
theorem wb_cu : ∀ k, k < 64 → ((nI k).toInt64.toUInt64 &&& Int64.toUInt64 63) = UInt64.ofNat k := by decide +kernel
theorem wb_sm : ∀ k, k < 64 → (BitVec.ofNat 64 k).smod 64 = BitVec.ofNat 64 k := by decide +kernel
theorem wb_pw {a b : Nat} (h : a ≤ b) : 2 ^ b = 2 ^ a * 2 ^ (b - a) := by rw [← Nat.pow_add]; congr 1; omega
theorem wb_lt2 {a b : Nat} (h : a < b) : 2 ^ a < 2 ^ b := Nat.pow_lt_pow_right (by decide) h
theorem wb_mod (n : Nat) : lN n = lN (n % 2 ^ 64) := wb_inj (by rw [wb_tb, wb_tb]; apply BitVec.eq_of_toNat_eq; rw [BitVec.toNat_ofNat, BitVec.toNat_ofNat, Nat.mod_mod])
theorem wb_shr {n k : Nat} (hn : n < 2 ^ 64) (hk : k < 64) : ((lN n).toUInt64 >>> ((nI k).toInt64.toUInt64 &&& Int64.toUInt64 63)).toInt64 = lN (n / 2 ^ k) := by
  rw [wb_cu k hk]
  apply wb_inj
  apply BitVec.eq_of_toNat_eq
  show ((lN n).toUInt64 >>> UInt64.ofNat k).toNat = (BitVec.ofNat 64 _).toNat
  have h1 : (UInt64.ofNat k).toNat = k := by
    show (BitVec.ofNat 64 k).toNat = k
    rw [BitVec.toNat_ofNat, Nat.mod_eq_of_lt (by omega)]
  have h2 : (lN n).toUInt64.toNat = n := wb_tn hn
  rw [UInt64.toNat_shiftRight, h1, h2, Nat.mod_eq_of_lt hk, Nat.shiftRight_eq_div_pow, BitVec.toNat_ofNat, Nat.mod_eq_of_lt (Nat.lt_of_le_of_lt (Nat.div_le_self _ _) hn)]
theorem wb_shl (n : Nat) {k : Nat} (hk : k < 64) : lN n <<< ((nI k).toInt64 &&& 63) = lN (n * 2 ^ k) := by
  rw [wb_c k hk]
  apply wb_inj
  rw [Int64.toBitVec_shiftLeft, wb_tb, wb_tb, wb_tb, wb_sm k hk]
  apply BitVec.eq_of_toNat_eq
  rw [BitVec.shiftLeft_eq', BitVec.toNat_shiftLeft, BitVec.toNat_ofNat, BitVec.toNat_ofNat, BitVec.toNat_ofNat, Nat.mod_eq_of_lt (show k < 2 ^ 64 by omega), Nat.shiftLeft_eq, Nat.mul_mod, Nat.mod_mod, ← Nat.mul_mod]
theorem wb_and {a b : Nat} (ha : a < 2 ^ 64) (hb : b < 2 ^ 64) : lN a &&& lN b = lN (a &&& b) := by
  apply wb_inj
  rw [Int64.toBitVec_and, wb_tb, wb_tb, wb_tb]
  apply BitVec.eq_of_toNat_eq
  rw [BitVec.toNat_and, BitVec.toNat_ofNat, BitVec.toNat_ofNat, BitVec.toNat_ofNat, Nat.mod_eq_of_lt ha, Nat.mod_eq_of_lt hb, Nat.mod_eq_of_lt (Nat.and_lt_two_pow _ hb)]
theorem wb_or {a b : Nat} (ha : a < 2 ^ 64) (hb : b < 2 ^ 64) : lN a ||| lN b = lN (a ||| b) := by
  apply wb_inj
  rw [Int64.toBitVec_or, wb_tb, wb_tb, wb_tb]
  apply BitVec.eq_of_toNat_eq
  rw [BitVec.toNat_or, BitVec.toNat_ofNat, BitVec.toNat_ofNat, BitVec.toNat_ofNat, Nat.mod_eq_of_lt ha, Nat.mod_eq_of_lt hb, Nat.mod_eq_of_lt (Nat.or_lt_two_pow ha hb)]
theorem wb_mask {n k : Nat} (hn : n < 2 ^ 64) (hk : k < 64) : lN n &&& lN (2 ^ k - 1) = lN (n % 2 ^ k) := by
  rw [wb_and hn (by have := wb_lt2 hk; omega), Nat.and_two_pow_sub_one_eq_mod]
theorem wb_a1 {n : Nat} (hn : n < 2 ^ 64) : lN n &&& 1 = lN (n % 2) := wb_mask (k := 1) hn (by decide)
theorem wb_bit {n k : Nat} (hn : n < 2 ^ 64) (hk : k < 64) : ((lN n).toUInt64 >>> ((nI k).toInt64.toUInt64 &&& Int64.toUInt64 63)).toInt64 &&& 1 = lN (n / 2 ^ k % 2) := by
  rw [wb_shr hn hk, wb_a1 (Nat.lt_of_le_of_lt (Nat.div_le_self _ _) hn)]
theorem pf_lI {a : Nat} (h : a < 2 ^ 63) : (lN a).toInt = (a : Int) := lg_ofNat_toInt h
theorem pf_shr {a d : Nat} {D : Int64} (hD : (D.toBitVec.smod 64).toNat = d) (h : a < 2 ^ 62) : lN a >>> D = lN (a / 2 ^ d) := by
  have hd : a / 2 ^ d ≤ a := Nat.div_le_self _ _
  apply Int64.toInt_inj.mp
  have e : (lN a >>> D).toInt = (lN a).toInt >>> d := by
    rw [← hD]
    exact BitVec.toInt_sshiftRight ..
  rw [e, Int.shiftRight_eq_div_pow, pf_lI (by omega), pf_lI (by omega)]
  rfl
theorem s_l : ∀ n, n < 32 → ((nI n &&& 31).toBitVec.smod 32).toNat = n := by decide +kernel
theorem nx_and (a b : Nat) : nI a &&& nI b = nI (a &&& b) := by
  apply Int32.toBitVec_inj.1
  show BitVec.ofNat 32 a &&& BitVec.ofNat 32 b = BitVec.ofNat 32 (a &&& b)
  apply BitVec.eq_of_getLsbD_eq
  intro i hi
  simp [hi]
theorem l_of (n : Nat) : Int64.ofInt (n : Int) = lN n := by
  apply Int64.toInt_inj.mp
  rw [Int64.toInt_ofInt]
  simp [lN, Int64.toInt_ofNat']
theorem i_of (n : Nat) : Int32.ofInt (n : Int) = nI n := (ab_ofNat n).symm
theorem b_land {a b : Nat} (ha : a < 2 ^ 63) (hb : b < 2 ^ 63) : l_and (a : Int) (b : Int) = ((a &&& b : Nat) : Int) := by
  unfold l_and
  rw [l_of, l_of, wb_and (by omega) (by omega), pk_lT (Nat.lt_of_le_of_lt Nat.and_le_left ha)]
theorem b_lor {a b : Nat} (ha : a < 2 ^ 63) (hb : b < 2 ^ 63) : l_or (a : Int) (b : Int) = ((a ||| b : Nat) : Int) := by
  unfold l_or
  rw [l_of, l_of, wb_or (by omega) (by omega), pk_lT (Nat.or_lt_two_pow ha hb)]
theorem b_lshl {a k : Nat} (hk : k < 64) (h : a * 2 ^ k < 2 ^ 63) : l_shl (a : Int) (k : Int) = ((a * 2 ^ k : Nat) : Int) := by
  unfold l_shl
  rw [l_of, i_of, wb_shl a hk, pk_lT h]
theorem b_lshr {a k : Nat} (hk : k < 64) (h : a < 2 ^ 62) : l_shr (a : Int) (k : Int) = ((a / 2 ^ k : Nat) : Int) := by
  unfold l_shr
  have e : (((nI k).toInt64 &&& 63).toBitVec.smod 64).toNat = k := by
    rw [wb_c k hk, wb_tb, wb_sm k hk, BitVec.toNat_ofNat, Nat.mod_eq_of_lt (by omega)]
  rw [l_of, i_of, pf_shr e h, pk_lT (Nat.lt_of_le_of_lt (Nat.div_le_self _ _) (by omega))]
theorem nI_T {n : Nat} (h : n < 2 ^ 31) : (nI n).toInt = (n : Int) := nI_toInt h
theorem b_iand {a b : Nat} (ha : a < 2 ^ 31) : i_and (a : Int) (b : Int) = ((a &&& b : Nat) : Int) := by
  unfold i_and
  rw [i_of, i_of, nx_and, nI_T (Nat.lt_of_le_of_lt Nat.and_le_left ha)]
theorem b_ishl {a k : Nat} (hk : k < 32) (h : a * 2 ^ k < 2 ^ 31) : i_shl (a : Int) (k : Int) = ((a * 2 ^ k : Nat) : Int) := by
  unfold i_shl
  rw [i_of, i_of, pk_shlN (nI k &&& 31) k (s_l k hk) (by omega), nI_T h]
theorem b_ishr {a k : Nat} (hk : k < 32) (h : a < 2 ^ 31) : i_shr (a : Int) (k : Int) = ((a / 2 ^ k : Nat) : Int) := by
  unfold i_shr
  rw [i_of, i_of, pk_shrN h (nI k &&& 31) k (s_l k hk), nI_T (Nat.lt_of_le_of_lt (Nat.div_le_self _ _) h)]
theorem b_ior {a b : Nat} (ha : a < 2 ^ 31) (hb : b < 2 ^ 31) : i_or (a : Int) (b : Int) = ((a ||| b : Nat) : Int) := by
  unfold i_or
  have e : nI a ||| nI b = nI (a ||| b) := by
    apply Int32.toBitVec_inj.mp
    rw [Int32.toBitVec_or]
    show BitVec.ofNat 32 a ||| BitVec.ofNat 32 b = BitVec.ofNat 32 (a ||| b)
    apply BitVec.eq_of_toNat_eq
    rw [BitVec.toNat_or, BitVec.toNat_ofNat, BitVec.toNat_ofNat, BitVec.toNat_ofNat, Nat.mod_eq_of_lt (by omega), Nat.mod_eq_of_lt (by omega), Nat.mod_eq_of_lt (Nat.lt_of_lt_of_le (Nat.or_lt_two_pow ha hb) (by decide))]
  rw [i_of, i_of, e, nI_T (Nat.or_lt_two_pow ha hb)]
theorem b_bit {a k : Nat} : a / 2 ^ k % 2 = if a.testBit k then 1 else 0 := by
  rw [Nat.testBit_eq_decide_div_mod_eq]
  by_cases h : a / 2 ^ k % 2 = 1
  · simp [h]
  · have : a / 2 ^ k % 2 = 0 := by omega
    simp [this]
/-- a bit of a long -/
theorem b_lbit {a k : Nat} (hk : k < 64) (h : a < 2 ^ 62) : l_and (l_shr (a : Int) (k : Int)) 1 = if a.testBit k then 1 else 0 := by
  rw [b_lshr hk h, show (1 : Int) = ((1 : Nat) : Int) from rfl, b_land (Nat.lt_of_le_of_lt (Nat.div_le_self _ _) (by omega)) (by omega)]
  rw [show a / 2 ^ k &&& 1 = a / 2 ^ k % 2 from Nat.and_one_is_mod _, b_bit]
  split <;> rfl
/-- a bit of an int -/
theorem b_ibit {a k : Nat} (hk : k < 32) (h : a < 2 ^ 31) : i_and (i_shr (a : Int) (k : Int)) 1 = if a.testBit k then 1 else 0 := by
  rw [b_ishr hk h, show (1 : Int) = ((1 : Nat) : Int) from rfl, b_iand (Nat.lt_of_le_of_lt (Nat.div_le_self _ _) h)]
  rw [show a / 2 ^ k &&& 1 = a / 2 ^ k % 2 from Nat.and_one_is_mod _, b_bit]
  split <;> rfl
theorem b_7 (k : Nat) : (7 : Nat).testBit k = decide (k < 3) := by
  by_cases h : k < 3
  · rcases (show k = 0 ∨ k = 1 ∨ k = 2 by omega) with rfl | rfl | rfl <;> rfl
  · rw [Nat.testBit_lt_two_pow (Nat.lt_of_lt_of_le (show 7 < 2 ^ 3 by decide) (Nat.pow_le_pow_right (by decide) (by omega)))]
    simp [h]
theorem b_1s {k j : Nat} : (1 * 2 ^ k).testBit j = decide (j = k) := by
  rw [Nat.one_mul, Nat.testBit_two_pow]
  by_cases h : k = j
  · simp [h]
  · have : ¬ j = k := fun q => h q.symm
    simp [h, this]
theorem b_7s {k j : Nat} : (7 * 2 ^ k).testBit j = decide (k ≤ j ∧ j ≤ k + 2) := by
  rw [← Nat.shiftLeft_eq, Nat.testBit_shiftLeft, b_7]
  by_cases h : k ≤ j
  · by_cases h2 : j ≤ k + 2
    · have : j - k < 3 := by omega
      simp [h, h2, this]
    · have : ¬ j - k < 3 := by omega
      simp [h, h2, this]
  · simp [h]
/-- taking an event out of a set of eight -/
theorem b_out : ∀ s : Nat, s < 256 → ∀ a : Nat, a < 8 → i_and (s : Int) (i_xor (i_shl 1 (a : Int)) (-1)) = ((s &&& (255 - 2 ^ a) : Nat) : Int) := by decide +kernel
theorem b_out_bit : ∀ a : Nat, a < 8 → ∀ e : Nat, e < 8 → (255 - 2 ^ a).testBit e = decide (e ≠ a) := by decide +kernel
end
section
/-! the class's race: conditions -/
theorem ab_e {q : Option ab_V → ab_W → Prop} {w : ab_W} {v v' : Int} (h : q (some (vI v)) w) (e : v = v') : q (some (vI v')) w := e ▸ h
/-- rain by the first n events, of those in the set s -/
def e_rn (ek ew : Nat → Int) (s : Nat) (m : Nat) : Nat → Bool
  | 0 => false
  | n + 1 => e_rn ek ew s m n || (s.testBit n && decide (ek n = 0 ∧ ew n ≤ m))
/-- team t stands in moment m -/
def e_sd (ek ew en : Nat → Int) (s : Nat) (t m : Nat) : Nat → Bool
  | 0 => false
  | n + 1 => e_sd ek ew en s t m n || (s.testBit n && decide (en n = t ∧ ((ek n = 1 ∧ ew n = m) ∨ (ek n = 2 ∧ ew n ≤ m ∧ m ≤ ew n + 2))))
def e_ok (n : Nat) (ek ew en : Nat → Int) : Prop := n ≤ 8 ∧ ∀ e, e < n → (0 ≤ ek e ∧ ek e ≤ 2) ∧ (0 ≤ ew e ∧ ew e ≤ 47) ∧ (0 ≤ en e ∧ en e ≤ 3)
/-- a Triples object at p holds them -/
def c_ev (p : Nat) (w : ab_W) (n : Nat) (ek ew en : Nat → Int) : Prop := w p 3 = n ∧ ∀ e, e < n → w (p + 1) e = ek e ∧ w (p + 2) e = ew e ∧ w (p + 3) e = en e
/-- a Race object at P has this length, rain and stops -/
def c_cond (P : Nat) (w : ab_W) (lg : Int) (rn : Nat → Bool) (sd : Nat → Nat → Bool) : Prop :=
  w P 6 = lg ∧ (0 ≤ w P 7 ∧ w P 7 ≤ 48) ∧ (∀ m : Nat, m < 48 → decide (w P 7 ≤ (m : Int)) = rn m) ∧ ∀ t : Nat, t < 4 → ∃ N : Nat, N < 2 ^ 50 ∧ w (P + 3) (t : Int) = N ∧ ∀ m : Nat, m < 48 → N.testBit m = sd t m
section Race22
variable {Ls d : Nat} {w : ab_W} {q : Option ab_V → ab_W → Prop}
theorem q_stride {P : Nat} (hP : P = 15 ∨ P = 21) {a b c : Int} (ha : 0 ≤ a ∧ a < 16) (hp : 1 ≤ w (P + 2) a ∧ w (P + 2) a ≤ 9) (h : q (some (vI (t_str (w (P + 1) a) (w (P + 2) a) b (decide (w P 7 ≤ c))))) w) : Sm Ls (d + 2) 13 [vR P, vI a, vI b, vI c] w q := by
  rcases hP with rfl | rfl
  all_goals
    rw [en_13]
    simp only [↓e_aload0, ↓g_15_1, ↓g_21_1, ↓e_iload1, ↓e_istore4, e_klI, e_klR, e_klX, e_klL, ↓g_15_0, ↓g_21_0, ↓e_if_ne, ↓e_iload4, ↓e_iload2, ↓e_iconst, ↓e_cmp_ge, ↓e_goto, ↓e_iadd, ↓e_bipush, ↓e_cmp_lt, ↓e_isub, ↓e_cmp_ne, ↓e_iinc4, ↓e_iload3, ↓g_15_7, ↓g_21_7, e_rpn, e_rps, e_few0, e_few1, e_few2, e_few3, e_few4, ↓e_mmax, ↓e_999, ↓e_iret, ↓x_16, ↓x_17, ↓x_22, ↓x_23, ↓e_nil, b_13_0, b_13_1, b_13_2, b_13_3, b_13_4, b_13_5, b_13_6, b_13_7, ↓ev_13_1, ↓ev_13_2, ↓ev_13_3, ↓ev_13_4, ↓ev_13_5, ↓ev_13_6, ↓ev_13_7, true_and, ha, and_self]
    dsimp only [Nat.reduceAdd] at hp h
    simp (disch := omega) only [iW_id]
    repeat' (first | apply And.intro | intro _)
    all_goals
      refine ab_e h ?_
      unfold t_str i_max
      simp only [decide_eq_true_eq]
      repeat' split
      all_goals omega
/-- what an event does to a race -/
def c_bf (P : Nat) (w : ab_W) (a b c : Int) : ab_W := if a = 0 then ab_up w P 7 (if w P 7 ≤ b then w P 7 else b) else ab_up w (P + 3) c (l_or (w (P + 3) c) (l_shl (if a = 1 then 1 else 7) b))
theorem q_befall {P : Nat} (hP : P = 15 ∨ P = 21) {a b c : Int} (hc : 0 ≤ c ∧ c < 4) (h : q none (c_bf P w a b c)) : Sm Ls (d + 1) 10 [vR P, vI a, vI b, vI c] w q := by
  rcases hP with rfl | rfl
  all_goals
    rw [en_10]
    simp only [↓e_iload1, ↓e_if_ne, ↓e_aload0, ↓e_iload2, ↓g_15_7, ↓g_21_7, ↓e_cmp_ge, ↓e_goto, ↓p_15_7, ↓p_21_7, ↓e_iconst, ↓e_cmp_ne, ↓g_15_2, ↓g_21_2, ↓e_iload3, ↓e_dup2, ↓e_lconst1, ↓e_lshl, ↓e_lor, ↓e_ldc2_w, ↓e_vret, ↓x_18, ↓y_18, ↓x_24, ↓y_24, ↓e_nil, b_10_0, b_10_1, b_10_2, b_10_3, b_10_4, b_10_5, ↓ev_10_1, ↓ev_10_2, ↓ev_10_3, ↓ev_10_4, ↓ev_10_5, true_and, hc, and_self]
    unfold c_bf at h
    dsimp only [Nat.reduceAdd] at h
    refine ⟨fun h1 => ⟨fun h2 => ?_, fun h2 => ?_⟩, fun h1 => ⟨fun h2 => ?_, fun h2 => ?_⟩⟩
    · rw [if_neg h1, if_neg h2] at h; exact h
    · rw [if_neg h1, if_pos (by omega)] at h; exact h
    · rw [if_pos (by omega), if_pos h2] at h; exact h
    · rw [if_pos (by omega), if_neg h2] at h; exact h
/-- an event more -/
theorem c_bf_cond {P : Nat} {v : ab_W} {lg : Int} {n s : Nat} {ek ew en : Nat → Int} (h : c_cond P v lg (fun m => e_rn ek ew s m n) (fun t m => e_sd ek ew en s t m n)) (hs : s.testBit n = true) (h1 : 0 ≤ ek n ∧ ek n ≤ 2) (h2 : 0 ≤ ew n ∧ ew n ≤ 47) (h3 : 0 ≤ en n ∧ en n ≤ 3) :
    c_cond P (c_bf P v (ek n) (ew n) (en n)) lg (fun m => e_rn ek ew s m (n + 1)) (fun t m => e_sd ek ew en s t m (n + 1)) := by
  obtain ⟨g1, g2, g3, g4⟩ := h
  unfold c_bf
  by_cases hk : ek n = 0
  · rw [if_pos hk]
    refine ⟨?_, ?_, fun m hm => ?_, fun t ht => ?_⟩
    · rw [ab_up_nj (by omega)]; exact g1
    · rw [ab_up_at]; split <;> omega
    · rw [ab_up_at]
      show _ = (e_rn ek ew s m n || (s.testBit n && decide (ek n = 0 ∧ ew n ≤ m)))
      have g3' : decide (v P 7 ≤ (m : Int)) = e_rn ek ew s m n := g3 m hm
      rw [← g3', hs]
      by_cases hr : v P 7 ≤ ew n
      · rw [if_pos hr]
        by_cases hm2 : v P 7 ≤ (m : Int)
        · simp [hm2]
        · have : ¬ ew n ≤ (m : Int) := by omega
          simp [hm2, this]
      · rw [if_neg hr]
        by_cases hm2 : v P 7 ≤ (m : Int)
        · have : ew n ≤ (m : Int) := by omega
          simp [hm2, this]
        · simp [hm2, hk]
    · obtain ⟨N, n1, n2, n3⟩ := g4 t ht
      refine ⟨N, n1, by rw [ab_up_p (by omega)]; exact n2, fun m hm => ?_⟩
      rw [n3 m hm]
      show _ = (e_sd ek ew en s t m n || (s.testBit n && decide (en n = t ∧ ((ek n = 1 ∧ ew n = m) ∨ (ek n = 2 ∧ ew n ≤ m ∧ m ≤ ew n + 2)))))
      have : ¬ (en n = t ∧ ((ek n = 1 ∧ ew n = m) ∨ (ek n = 2 ∧ ew n ≤ m ∧ m ≤ ew n + 2))) := by omega
      simp [this]
  · rw [if_neg hk]
    refine ⟨?_, ?_, fun m hm => ?_, fun t ht => ?_⟩
    · rw [ab_up_p (by omega)]; exact g1
    · rw [ab_up_p (by omega)]; exact g2
    · rw [ab_up_p (by omega)]
      show _ = (e_rn ek ew s m n || (s.testBit n && decide (ek n = 0 ∧ ew n ≤ m)))
      have g3' : decide (v P 7 ≤ (m : Int)) = e_rn ek ew s m n := g3 m hm
      rw [← g3']
      simp [hk]
    · obtain ⟨N, n1, n2, n3⟩ := g4 t ht
      by_cases htn : en n = (t : Int)
      · rw [htn, ab_up_at]
        obtain ⟨b, hb⟩ : ∃ b : Nat, ew n = (b : Int) := ⟨(ew n).toNat, by omega⟩
        have hb48 : b < 48 := by omega
        have hpw : 2 ^ b ≤ 2 ^ 47 := Nat.pow_le_pow_right (by decide) (by omega)
        obtain ⟨M, hM1, hM2, hM3⟩ : ∃ M : Nat, l_shl (if ek n = 1 then 1 else 7) (ew n) = (M : Int) ∧ M < 2 ^ 50 ∧ ∀ j, M.testBit j = decide ((ek n = 1 ∧ ew n = (j : Int)) ∨ (ek n = 2 ∧ ew n ≤ (j : Int) ∧ (j : Int) ≤ ew n + 2)) := by
          rw [hb]
          by_cases h11 : ek n = 1
          · refine ⟨1 * 2 ^ b, ?_, by omega, fun j => ?_⟩
            · rw [if_pos h11]; exact b_lshl (a := 1) (by omega) (by omega)
            · rw [b_1s]
              congr 1
              rw [eq_iff_iff]
              omega
          · refine ⟨7 * 2 ^ b, ?_, by omega, fun j => ?_⟩
            · rw [if_neg h11]; exact b_lshl (a := 7) (by omega) (by omega)
            · rw [b_7s]
              congr 1
              rw [eq_iff_iff]
              omega
        refine ⟨N ||| M, Nat.or_lt_two_pow n1 hM2, ?_, fun m hm => ?_⟩
        · rw [n2, hM1, b_lor (by omega) (by omega)]
        · rw [Nat.testBit_or, n3 m hm, hM3]
          show _ = (e_sd ek ew en s t m n || (s.testBit n && decide (en n = t ∧ ((ek n = 1 ∧ ew n = m) ∨ (ek n = 2 ∧ ew n ≤ m ∧ m ≤ ew n + 2)))))
          rw [hs]
          simp [htn]
      · rw [ab_up_nj (by omega)]
        refine ⟨N, n1, n2, fun m hm => ?_⟩
        rw [n3 m hm]
        show _ = (e_sd ek ew en s t m n || (s.testBit n && decide (en n = t ∧ ((ek n = 1 ∧ ew n = m) ∨ (ek n = 2 ∧ ew n ≤ m ∧ m ≤ ew n + 2)))))
        simp [htn]
theorem c_skip_cond {P : Nat} {v : ab_W} {lg : Int} {n s : Nat} {ek ew en : Nat → Int} (h : c_cond P v lg (fun m => e_rn ek ew s m n) (fun t m => e_sd ek ew en s t m n)) (hs : s.testBit n = false) :
    c_cond P v lg (fun m => e_rn ek ew s m (n + 1)) (fun t m => e_sd ek ew en s t m (n + 1)) := by
  obtain ⟨g1, g2, g3, g4⟩ := h
  refine ⟨g1, g2, fun m hm => ?_, fun t ht => ?_⟩
  · have g3' : decide (v P 7 ≤ (m : Int)) = e_rn ek ew s m n := g3 m hm
    show _ = (e_rn ek ew s m n || (s.testBit n && decide (ek n = 0 ∧ ew n ≤ m)))
    rw [g3', hs]; simp
  · obtain ⟨N, n1, n2, n3⟩ := g4 t ht
    refine ⟨N, n1, n2, fun m hm => ?_⟩
    rw [n3 m hm]
    show _ = (e_sd ek ew en s t m n || (s.testBit n && decide (en n = t ∧ ((ek n = 1 ∧ ew n = m) ∨ (ek n = 2 ∧ ew n ≤ m ∧ m ≤ ew n + 2)))))
    rw [hs]; simp
theorem q_setc {P p0 : Nat} (hP : P = 15 ∨ P = 21) (h0 : p0 = 3 ∨ p0 = 11) {lg : Int} {s n : Nat} {ek ew en : Nat → Int} (hs : s < 256) (hE : c_ev p0 w n ek ew en) (hok : e_ok n ek ew en)
    (h : ∀ w' : ab_W, (∀ p, p ≠ P → p ≠ P + 3 → w' p = w p) → (∀ j, j ≠ 6 → j ≠ 7 → w' P j = w P j) → c_cond P w' lg (fun m => e_rn ek ew s m n) (fun t m => e_sd ek ew en s t m n) → q none w') : Sm Ls (d + 2) 9 [vR P, vI lg, vR p0, vI s] w q := by
  have key : ∀ (k e : Nat), e + k = n → ∀ v : ab_W, (∀ p, p ≠ P → p ≠ P + 3 → v p = w p) → (∀ j, j ≠ 6 → j ≠ 7 → v P j = w P j) → c_cond P v lg (fun m => e_rn ek ew s m e) (fun t m => e_sd ek ew en s t m e) → Ev Ls (Sm Ls (d + 1)) q bk_9 1 [vR P, vI lg, vR p0, vI s, vI (e : Int)] [] v := by
    intro k
    induction k with
    | zero =>
      intro e he v v1 v2 v3
      have : e = n := by omega
      subst this
      have hz : v p0 3 = (e : Int) := by rw [v1 p0 (by omega) (by omega)]; exact hE.1
      have hfin := h v v1 v2 v3
      rw [ev_9_1]
      rcases h0 with rfl | rfl
      all_goals
        simp only [↓e_aload0, ↓e_iload1, ↓p_15_6, ↓p_21_6, ↓e_bipush, ↓p_15_7, ↓p_21_7, ↓g_15_2, ↓g_21_2, ↓e_lconst0, e_rpn, e_rps, e_few0, e_few1, e_few2, e_few3, e_few4, ↓e_cs2, ↓e_iconst, ↓e_istore4, e_klI, e_klR, e_klX, e_klL, ↓e_iload4, ↓e_aload2, ↓g_3_3, ↓g_7_3, ↓g_11_3, ↓e_cmp_ge, ↓e_iload3, ↓e_ishr, ↓e_iand, ↓e_if_eq, ↓g_3_0, ↓g_7_0, ↓g_11_0, ↓g_3_1, ↓g_7_1, ↓g_11_1, ↓g_3_2, ↓g_7_2, ↓g_11_2, ↓e_cv4, i_15, i_21, ↓e_iinc4, ↓e_goto, ↓e_vret, ↓x_4, ↓x_5, ↓x_6, ↓x_8, ↓x_9, ↓x_10, ↓x_12, ↓x_13, ↓x_14, ↓e_nil, b_9_0, b_9_1, b_9_2, b_9_3, ↓ev_9_3]
        exact ⟨fun _ => hfin, fun hq => absurd (by omega) hq⟩
    | succ k ih =>
      intro e he v v1 v2 v3
      have hz : v p0 3 = (n : Int) := by rw [v1 p0 (by omega) (by omega)]; exact hE.1
      obtain ⟨e1, e2, e3⟩ := hE.2 e (by omega)
      obtain ⟨o1, o2, o3⟩ := hok.2 e (by omega)
      have hn8 := hok.1
      have x1 : v (p0 + 1) e = ek e := by rw [v1 _ (by omega) (by omega)]; exact e1
      have x2 : v (p0 + 2) e = ew e := by rw [v1 _ (by omega) (by omega)]; exact e2
      have x3 : v (p0 + 3) e = en e := by rw [v1 _ (by omega) (by omega)]; exact e3
      have hbit := b_ibit (a := s) (k := e) (by omega) (by omega)
      rw [ev_9_1]
      have hnext : s.testBit e = false → Ev Ls (Sm Ls (d + 1)) q bk_9 1 [vR P, vI lg, vR p0, vI s, vI (iW ((e : Int) + 1))] [] v := fun hf => by
        rw [iW_id (by omega) (by omega)]
        exact ih (e + 1) (by omega) v v1 v2 (c_skip_cond v3 hf)
      have hnext2 : s.testBit e = true → Ev Ls (Sm Ls (d + 1)) q bk_9 1 [vR P, vI lg, vR p0, vI s, vI (iW ((e : Int) + 1))] [] (c_bf P v (ek e) (ew e) (en e)) := fun hf => by
        rw [iW_id (by omega) (by omega)]
        refine ih (e + 1) (by omega) _ (fun p p1 p2 => ?_) (fun j j1 j2 => ?_) (c_bf_cond v3 hf o1 o2 o3)
        · rw [← v1 p p1 p2]
          unfold c_bf
          split
          · exact ab_up_ne p1
          · exact ab_up_ne p2
        · rw [← v2 j j1 j2]
          unfold c_bf
          split
          · exact ab_up_nj j2
          · exact ab_up_p (by omega)
      have hcall : s.testBit e = true → Sm Ls (d + 1) 10 [vR P, vI (ek e), vI (ew e), vI (en e)] v (fun r w' => Ev Ls (Sm Ls (d + 1)) q bk_9 1 [vR P, vI lg, vR p0, vI s, vI (iW ((e : Int) + 1))] (ab_rp r []) w') := fun hf => q_befall hP (by omega) (hnext2 hf)
      have hin : (0 ≤ (e : Int) ∧ (e : Int) < 8) := by omega
      rcases h0 with rfl | rfl
      all_goals rcases hP with rfl | rfl
      all_goals
        dsimp only [Nat.reduceAdd] at x1 x2 x3
        simp only [↓e_aload0, ↓e_iload1, ↓p_15_6, ↓p_21_6, ↓e_bipush, ↓p_15_7, ↓p_21_7, ↓g_15_2, ↓g_21_2, ↓e_lconst0, e_rpn, e_rps, e_few0, e_few1, e_few2, e_few3, e_few4, ↓e_cs2, ↓e_iconst, ↓e_istore4, e_klI, e_klR, e_klX, e_klL, ↓e_iload4, ↓e_aload2, ↓g_3_3, ↓g_7_3, ↓g_11_3, ↓e_cmp_ge, ↓e_iload3, ↓e_ishr, ↓e_iand, ↓e_if_eq, ↓g_3_0, ↓g_7_0, ↓g_11_0, ↓g_3_1, ↓g_7_1, ↓g_11_1, ↓g_3_2, ↓g_7_2, ↓g_11_2, ↓e_cv4, i_15, i_21, ↓e_iinc4, ↓e_goto, ↓e_vret, ↓x_4, ↓x_5, ↓x_6, ↓x_8, ↓x_9, ↓x_10, ↓x_12, ↓x_13, ↓x_14, ↓e_nil, b_9_0, b_9_1, b_9_2, b_9_3, ↓ev_9_2, hin, and_self, true_and, x1, x2, x3, hz, hbit]
        refine ⟨fun hq => absurd hq (by omega), fun _ => ?_⟩
        cases hb : s.testBit e with
        | false => simp; exact hnext hb
        | true => simp; exact hcall hb
  rw [en_9]
  have hfin : Ev Ls (Sm Ls (d + 1)) q bk_9 1 [vR P, vI lg, vR p0, vI s, vI 0] [] (ab_fl (ab_up (ab_up w P 6 lg) P 7 48) (P + 3) 0 4 0) := by
    refine key n 0 (by omega) _ (fun p p1 p2 => ?_) (fun j j1 j2 => ?_) ⟨?_, ?_, fun m hm => ?_, fun t ht => ?_⟩
    · rw [ab_fl_pp p2, ab_up_ne p1, ab_up_ne p1]
    · rw [ab_fl_p (by omega), ab_up_nj j2, ab_up_nj j1]
    · rw [ab_fl_p (by omega), ab_up_nj (by omega), ab_up_at]
    · rw [ab_fl_p (by omega), ab_up_at]; omega
    · rw [ab_fl_p (by omega), ab_up_at]
      show decide ((48 : Int) ≤ m) = false
      have : ¬ (48 : Int) ≤ m := by omega
      simp [this]
    · refine ⟨0, by omega, ?_, fun m hm => ?_⟩
      · rw [ab_fl_in (by omega)]; rfl
      · simp [e_sd]
  rcases hP with rfl | rfl
  all_goals
    simp only [↓e_aload0, ↓e_iload1, ↓p_15_6, ↓p_21_6, ↓e_bipush, ↓p_15_7, ↓p_21_7, ↓g_15_2, ↓g_21_2, ↓e_lconst0, e_rpn, e_rps, e_few0, e_few1, e_few2, e_few3, e_few4, ↓e_cs2, ↓e_iconst, ↓e_istore4, e_klI, e_klR, e_klX, e_klL, ↓e_iload4, ↓e_aload2, ↓g_3_3, ↓g_7_3, ↓g_11_3, ↓e_cmp_ge, ↓e_iload3, ↓e_ishr, ↓e_iand, ↓e_if_eq, ↓g_3_0, ↓g_7_0, ↓g_11_0, ↓g_3_1, ↓g_7_1, ↓g_11_1, ↓g_3_2, ↓g_7_2, ↓g_11_2, ↓e_cv4, i_15, i_21, ↓e_iinc4, ↓e_goto, ↓e_vret, ↓x_4, ↓x_5, ↓x_6, ↓x_8, ↓x_9, ↓x_10, ↓x_12, ↓x_13, ↓x_14, ↓e_nil, b_9_0, b_9_1, b_9_2, b_9_3, true_and]
    exact q_fillL (n := 4) rfl (by omega) hfin
end Race22
end
section
/-! the class's run of a team -/
section Home23
variable {so pa : Nat → Int} {lg : Int} {rn sd : Nat → Bool}
theorem t_home_S {a b : Nat} (h : (t_S so pa lg rn sd a).2.1 = 4) (hab : a ≤ b) : t_S so pa lg rn sd b = t_S so pa lg rn sd a := by
  induction b with
  | zero => have : a = 0 := by omega
            subst this; rfl
  | succ b ih =>
    by_cases hb : a = b + 1
    · subst hb; rfl
    · have h1 := ih (by omega)
      rw [t_S_home (by rw [h1]; exact h), h1]
theorem t_home_E {a b l : Nat} (h : (t_S so pa lg rn sd a).2.1 = 4) (hab : a ≤ b) : t_E so pa lg rn sd l b = t_E so pa lg rn sd l a := by
  induction b with
  | zero => have : a = 0 := by omega
            subst this; rfl
  | succ b ih =>
    by_cases hb : a = b + 1
    · subst hb; rfl
    · rw [t_E_s, if_neg, ih (by omega)]
      rw [t_home_S h (show a ≤ b by omega), t_home_S h (show a ≤ b + 1 by omega)]
      omega
end Home23
/-- in w' the race at P has run for team t: metres and ends are S's and E's, all else is as in w -/
def c_ran (P t : Nat) (S : Nat → Int × Nat × Int) (E : Nat → Int) (w w' : ab_W) : Prop :=
  (∀ p, p ≠ P + 4 → p ≠ P + 5 → w' p = w p) ∧ (∀ m : Nat, m < 48 → w' (P + 4) ((t : Int) * 48 + m) = (S (m + 1)).1) ∧ (∀ l : Nat, l < 4 → w' (P + 5) ((t : Int) * 4 + l) = E l) ∧
  (∀ i : Int, ¬ ((t : Int) * 48 ≤ i ∧ i < (t : Int) * 48 + 48) → w' (P + 4) i = w (P + 4) i) ∧ (∀ i : Int, ¬ ((t : Int) * 4 ≤ i ∧ i < (t : Int) * 4 + 4) → w' (P + 5) i = w (P + 5) i)
section RunTeam23
variable {Ls d : Nat} {w : ab_W} {q : Option ab_V → ab_W → Prop}
set_option maxRecDepth 100000 in
set_option maxHeartbeats 4000000 in
theorem q_runTeam {P t : Nat} (hP : P = 15 ∨ P = 21) (ht : t < 4) {so pa : Nat → Int} {lg : Int} {rn : Nat → Bool} {sd : Nat → Nat → Bool} (hc : c_cond P w lg rn sd) (hso : ∀ l : Nat, l < 4 → w (P + 1) ((t : Int) * 4 + l) = so l) (hpa : ∀ l : Nat, l < 4 → w (P + 2) ((t : Int) * 4 + l) = pa l) (hok : t_ok pa lg)
    (h : ∀ w', c_ran P t (t_S so pa lg rn (sd t)) (fun l => t_E so pa lg rn (sd t) l 48) w w' → q none w') : Sm Ls (d + 3) 12 [vR P, vI t] w q := by
  obtain ⟨hlg, hr1, hr2, hst⟩ := hc
  have hbits : ∀ m : Nat, m < 48 → l_and (l_shr (w (P + 3) (t : Int)) (m : Int)) 1 = if sd t m = true then 1 else 0 := by
    obtain ⟨N, hN1, hN2, hN3⟩ := hst t ht
    intro m hm
    rw [hN2, b_lbit (by omega) (Nat.lt_trans hN1 (by decide)), hN3 m hm]
  clear hst
  have hl1 := hok.2.1
  have hl2 := hok.2.2
  have hfar : ab_arr 0 (P + 4) = some 192 ∧ ab_arr 0 (P + 5) = some 16 := by rcases hP with rfl | rfl <;> exact ⟨rfl, rfl⟩
  -- behind the step of a moment
  have key : ∀ (k m : Nat), m + k = 48 → ∀ (v : ab_W) (f o : Int) (l : Nat), t_S so pa lg rn (sd t) m = (f, l, o) → l ≠ 4 →
      (∀ p, p ≠ P + 4 → p ≠ P + 5 → v p = w p) → (∀ j : Nat, j < m → v (P + 4) ((t : Int) * 48 + j) = (t_S so pa lg rn (sd t) (j + 1)).1) → (∀ l : Nat, l < 4 → v (P + 5) ((t : Int) * 4 + l) = t_E so pa lg rn (sd t) l m) →
      (∀ i : Int, ¬ ((t : Int) * 48 ≤ i ∧ i < (t : Int) * 48 + 48) → v (P + 4) i = w (P + 4) i) → (∀ i : Int, ¬ ((t : Int) * 4 ≤ i ∧ i < (t : Int) * 4 + 4) → v (P + 5) i = w (P + 5) i) →
      Ev Ls (Sm Ls (d + 2)) q bk_12 1 [vR P, vI t, vI ((t : Int) * 48), vI f, vI l, vI o, vI m] [] v := by
    intro k
    induction k with
    | zero =>
      intro m hm v f o l hS hl4 v1 v2 v3 v4 v5
      have : m = 48 := by omega
      subst this
      rw [ev_12_1]
      have hfin := h v ⟨v1, fun j hj => v2 j hj, v3, v4, v5⟩
      simp only [↓e_iload1, ↓e_bipush, ↓e_imul, ↓e_istore2, e_klI, e_klR, e_klX, e_klL, ↓e_iconst, ↓e_istore3, ↓e_istore4, ↓e_istore5, ↓e_aload0, ↓g_15_4, ↓g_21_4, ↓e_iadd, e_rpn, e_rps, e_few0, e_few1, e_few2, e_few3, e_few4, ↓e_cs4, ↓e_istore6, ↓e_iload6, ↓e_cmp_ge, ↓g_15_2, ↓g_21_2, ↓e_lshr, ↓e_lconst1, ↓e_land, ↓e_lconst0, ↓e_lcmp, ↓e_if_ne, ↓e_iload3, ↓e_iload4, ↓e_iload5, ↓e_cv4, i_15, i_21, ↓e_iinc5, ↓g_15_3, ↓g_21_3, ↓e_iload2, ↓g_15_6, ↓g_21_6, ↓e_cmp_lt, ↓e_iinc4, ↓e_cmp_ne, ↓e_goto, ↓e_iinc6, ↓e_vret, ↓x_18, ↓y_19, ↓y_20, ↓x_24, ↓y_25, ↓y_26, ↓e_nil, b_12_0, b_12_1, b_12_2, b_12_3, b_12_4, b_12_5, ↓ev_12_5]
      exact ⟨fun _ => hfin, fun hq => absurd (by omega) hq⟩
    | succ k ih =>
      intro m hm v f o l hS hl4 v1 v2 v3 v4 v5
      have hm48 : m < 48 := by omega
      have hinv := t_inv (so := so) (rn := rn) (sd := sd t) hok m
      have hle := t_leg_le (so := so) (pa := pa) (lg := lg) (rn := rn) (sd := sd t) m
      rw [hS] at hinv hle
      dsimp only at hinv hle
      obtain ⟨i1, i2, i3, i4, i5⟩ := hinv
      have hl : l < 4 := by omega
      have hnx : t_S so pa lg rn (sd t) (m + 1) = t_nx so pa lg (rn m) (sd t m) (f, l, o) := by rw [t_S_s, hS]
      generalize hg : t_far so pa (rn m) (sd t m) (f, l, o) = g
      have hgr : f ≤ g ∧ g ≤ f + 10 := by
        have hs := t_str_in (so := so l) (own := o) (rn := rn m) (hok.1 l hl)
        rw [← hg]
        unfold t_far
        dsimp only
        split <;> omega
      have hmul : lg * ((l : Int) + 1) = ((l : Int) + 1) * lg := Int.mul_comm _ _
      have hmb : 0 ≤ ((l : Int) + 1) * lg ∧ ((l : Int) + 1) * lg ≤ 240 := by
        rcases (show l = 0 ∨ l = 1 ∨ l = 2 ∨ l = 3 by omega) with rfl | rfl | rfl | rfl <;> simp <;> omega
      -- behind the going
      have hb2 : Ev Ls (Sm Ls (d + 2)) q bk_12 2 [vR P, vI t, vI ((t : Int) * 48), vI g, vI l, vI o, vI m] [] v := by
        have hlgv : (ab_up v (P + 4) ((t : Int) * 48 + m) g) P 6 = lg := by rw [ab_up_p (by omega), v1 P (by omega) (by omega)]; exact hlg
        have u1 : ∀ p, p ≠ P + 4 → p ≠ P + 5 → (ab_up v (P + 4) ((t : Int) * 48 + m) g) p = w p := fun p p1 p2 => by rw [ab_up_ne p1]; exact v1 p p1 p2
        have hadv : lg * ((l : Int) + 1) ≤ g → t_S so pa lg rn (sd t) (m + 1) = (g, l + 1, 0) := fun hge => by
          rw [hnx]; unfold t_nx; dsimp only; rw [if_neg hl4, hg, if_pos hge]
        have hstay : ¬ lg * ((l : Int) + 1) ≤ g → t_S so pa lg rn (sd t) (m + 1) = (g, l, o + 1) := fun hge => by
          rw [hnx]; unfold t_nx; dsimp only; rw [if_neg hl4, hg, if_neg hge]
        have u2 : (t_S so pa lg rn (sd t) (m + 1)).1 = g → ∀ j : Nat, j < m + 1 → (ab_up v (P + 4) ((t : Int) * 48 + m) g) (P + 4) ((t : Int) * 48 + j) = (t_S so pa lg rn (sd t) (j + 1)).1 := fun hgs j hj => by
          by_cases hjm : j = m
          · subst hjm; rw [ab_up_at, hgs]
          · rw [ab_up_nj (by omega)]; exact v2 j (by omega)
        have u4 : ∀ i : Int, ¬ ((t : Int) * 48 ≤ i ∧ i < (t : Int) * 48 + 48) → (ab_up v (P + 4) ((t : Int) * 48 + m) g) (P + 4) i = w (P + 4) i := fun i hi => by rw [ab_up_nj (by omega)]; exact v4 i hi
        have hin1 : (0 ≤ (t : Int) * 48 + m ∧ (t : Int) * 48 + m < 192) := by omega
        have hin2 : (0 ≤ (t : Int) * 4 + l ∧ (t : Int) * 4 + l < 16) := by omega
        -- it stays on its leg
        have hA : g < ((l : Int) + 1) * lg → Ev Ls (Sm Ls (d + 2)) q bk_12 1 [vR P, vI t, vI ((t : Int) * 48), vI g, vI l, vI (o + 1), vI ((m : Int) + 1)] [] (ab_up v (P + 4) ((t : Int) * 48 + m) g) := fun hlt => by
          have hs := hstay (by omega)
          refine ih (m + 1) (by omega) _ g (o + 1) l hs hl4 u1 (u2 (by rw [hs])) (fun l' hl' => ?_) u4 (fun i hi => by rw [ab_up_p (by omega)]; exact v5 i hi)
          rw [ab_up_p (by omega), v3 l' hl', t_E_s, if_neg]
          rw [hs, hS]; dsimp only; omega
        -- the leg is done
        have e3 : ¬ g < ((l : Int) + 1) * lg → ∀ l' : Nat, l' < 4 → (ab_up (ab_up v (P + 4) ((t : Int) * 48 + m) g) (P + 5) ((t : Int) * 4 + l) m) (P + 5) ((t : Int) * 4 + l') = t_E so pa lg rn (sd t) l' (m + 1) := fun hge l' hl' => by
          have hs := hadv (by omega)
          rw [t_E_s, hs, hS]
          dsimp only
          by_cases hll : l' = l
          · subst hll; rw [ab_up_at, if_pos ⟨rfl, rfl⟩]
          · rw [ab_up_nj (by omega), ab_up_p (by omega), v3 l' hl', if_neg (by omega)]
        have hB : ¬ g < ((l : Int) + 1) * lg → ¬ (l : Int) + 1 = 4 → Ev Ls (Sm Ls (d + 2)) q bk_12 1 [vR P, vI t, vI ((t : Int) * 48), vI g, vI ((l : Int) + 1), vI 0, vI ((m : Int) + 1)] [] (ab_up (ab_up v (P + 4) ((t : Int) * 48 + m) g) (P + 5) ((t : Int) * 4 + l) m) := fun hge hl3 => by
          have hs := hadv (by omega)
          refine ih (m + 1) (by omega) _ g 0 (l + 1) hs (by omega) (fun p p1 p2 => by rw [ab_up_ne p2]; exact u1 p p1 p2) (fun j hj => by rw [ab_up_p (by omega)]; exact u2 (by rw [hs]) j hj) (e3 hge) (fun i hi => by rw [ab_up_p (by omega)]; exact u4 i hi) (fun i hi => by rw [ab_up_nj (by omega), ab_up_p (by omega)]; exact v5 i hi)
        have hC : ∀ Q' : Option ab_V → ab_W → Prop, (∀ w', q none w' → Q' none w') → ¬ g < ((l : Int) + 1) * lg → ¬ ¬ (l : Int) + 1 = 4 → Sm Ls (d + 2) 5 [vR (P + 4), vI ((t : Int) * 48 + m), vI ((t : Int) * 48 + 48), vI g] (ab_up (ab_up v (P + 4) ((t : Int) * 48 + m) g) (P + 5) ((t : Int) * 4 + l) m) Q' := fun Q' hQ hge hl3 => by
          have hs := hadv (by omega)
          have hh : (t_S so pa lg rn (sd t) (m + 1)).2.1 = 4 := by rw [hs]; dsimp only; omega
          refine q_fill3 (n := 192) hfar.1 (by omega) (by omega) (by omega) (by omega) (hQ _ (h _ ⟨fun p p1 p2 => ?_, fun j hj => ?_, fun l' hl' => ?_, fun i hi => ?_, fun i hi => ?_⟩))
          · rw [ab_fl_pp p1, ab_up_ne p2]; exact u1 p p1 p2
          · by_cases hjm : m ≤ j
            · rw [ab_fl_in (by omega), t_home_S hh (show m + 1 ≤ j + 1 by omega), hs]
            · rw [ab_fl_out (by omega), ab_up_p (by omega)]; exact u2 (by rw [hs]) j (by omega)
          · rw [ab_fl_p (by omega)]
            show _ = t_E so pa lg rn (sd t) l' 48
            rw [t_home_E hh (show m + 1 ≤ 48 by omega)]
            exact e3 hge l' hl'
          · rw [ab_fl_out (by omega), ab_up_p (by omega)]; exact u4 i hi
          · rw [ab_fl_p (by omega), ab_up_nj (by omega), ab_up_p (by omega)]; exact v5 i hi
        have hl44 : ¬ (l : Int) = 4 := by omega
        obtain ⟨w1, w2, w3, w4, w5, w6, w7, w8⟩ : iW ((t : Int) * 48 + m) = (t : Int) * 48 + m ∧ iW ((l : Int) + 1) = (l : Int) + 1 ∧ iW (((l : Int) + 1) * lg) = ((l : Int) + 1) * lg ∧ iW ((t : Int) * 4) = (t : Int) * 4 ∧ iW ((t : Int) * 4 + l) = (t : Int) * 4 + l ∧ iW (o + 1) = o + 1 ∧ iW ((m : Int) + 1) = (m : Int) + 1 ∧ iW ((t : Int) * 48 + 48) = (t : Int) * 48 + 48 :=
          ⟨iW_id (by omega) (by omega), iW_id (by omega) (by omega), iW_id (by omega) (by omega), iW_id (by omega) (by omega), iW_id (by omega) (by omega), iW_id (by omega) (by omega), iW_id (by omega) (by omega), iW_id (by omega) (by omega)⟩
        rw [ev_12_2]
        clear ih v2 v3 v4 v5 u1 u2 u4 hstay hadv e3
        rcases hP with rfl | rfl
        all_goals
          dsimp only [Nat.reduceAdd] at hA hB hC hlgv
          simp only [↓e_iload1, ↓e_bipush, ↓e_imul, ↓e_istore2, e_klI, e_klR, e_klX, e_klL, ↓e_iconst, ↓e_istore3, ↓e_istore4, ↓e_istore5, ↓e_aload0, ↓g_15_4, ↓g_21_4, ↓e_iadd, e_rpn, e_rps, e_few0, e_few1, e_few2, e_few3, e_few4, ↓e_cs4, ↓e_istore6, ↓e_iload6, ↓e_cmp_ge, ↓g_15_2, ↓g_21_2, ↓e_lshr, ↓e_lconst1, ↓e_land, ↓e_lconst0, ↓e_lcmp, ↓e_if_ne, ↓e_iload3, ↓e_iload4, ↓e_iload5, ↓e_cv4, i_15, i_21, ↓e_iinc5, ↓g_15_3, ↓g_21_3, ↓e_iload2, ↓g_15_6, ↓g_21_6, ↓e_cmp_lt, ↓e_iinc4, ↓e_cmp_ne, ↓e_goto, ↓e_iinc6, ↓e_vret, ↓x_18, ↓y_19, ↓y_20, ↓x_24, ↓y_25, ↓y_26, ↓e_nil, b_12_0, b_12_1, b_12_2, b_12_3, b_12_4, b_12_5, ↓ev_12_3, ↓ev_12_4, ↓ev_12_5, w1, w2, w3, w4, w5, w6, w7, w8, hlgv, hin1, hin2, and_self, true_and]
          refine ⟨fun hq => ⟨fun _ => hA hq, fun h4 => absurd hl44 h4⟩, fun hq => ⟨fun h4 => hB hq h4, fun h4 => ?_⟩⟩
          refine hC _ (fun w' hw => ?_) hq h4
          simp only [e_rpn, e_vret]
          exact hw
      have hb3 : v (P + 3) (t : Int) = w (P + 3) t := by rw [v1 _ (by omega) (by omega)]
      have hbit := hbits m hm48
      have hso' : v (P + 1) ((t : Int) * 4 + l) = so l := by rw [v1 _ (by omega) (by omega)]; exact hso l hl
      have hpa' : v (P + 2) ((t : Int) * 4 + l) = pa l := by rw [v1 _ (by omega) (by omega)]; exact hpa l hl
      have hrn : decide (v P 7 ≤ (m : Int)) = rn m := by rw [v1 _ (by omega) (by omega)]; exact hr2 m hm48
      have hin3 : (0 ≤ (t : Int) ∧ (t : Int) < 4) := by omega
      have hp1 := hok.1 l hl
      have hsg : sd t m = true → g = f := fun hs => by rw [← hg]; unfold t_far; rw [if_pos hs]
      have hgg : sd t m = false → g = f + t_str (so l) (pa l) o (rn m) := fun hs => by rw [← hg]; unfold t_far; rw [if_neg (by rw [hs]; decide)]
      have hgi : iW g = g := iW_id (by omega) (by omega)
      have hcall : sd t m = false → ∀ Q' : Option ab_V → ab_W → Prop, Q' (some (vI (t_str (so l) (pa l) o (rn m)))) v → Sm Ls (d + 2) 13 [vR P, vI ((t : Int) * 4 + l), vI o, vI m] v Q' := fun hs Q' hQ => by
        refine q_stride hP (by clear hgi; omega) (by rw [hpa']; exact hp1) ?_
        rw [hso', hpa', hrn]; exact hQ
      have hnm : ¬ 48 ≤ (m : Int) := by clear hgi; omega
      obtain ⟨w4, w5⟩ : iW ((t : Int) * 4) = (t : Int) * 4 ∧ iW ((t : Int) * 4 + l) = (t : Int) * 4 + l := ⟨iW_id (by clear hgi; omega) (by clear hgi; omega), iW_id (by clear hgi; omega) (by clear hgi; omega)⟩
      rw [ev_12_1]
      clear ih v2 v3 v4 v5 hok hbits
      rcases hP with rfl | rfl
      all_goals
        dsimp only [Nat.reduceAdd] at hb3 hbit hcall
        simp only [↓e_iload1, ↓e_bipush, ↓e_imul, ↓e_istore2, e_klI, e_klR, e_klX, e_klL, ↓e_iconst, ↓e_istore3, ↓e_istore4, ↓e_istore5, ↓e_aload0, ↓g_15_4, ↓g_21_4, ↓e_iadd, e_rpn, e_rps, e_few0, e_few1, e_few2, e_few3, e_few4, ↓e_cs4, ↓e_istore6, ↓e_iload6, ↓e_cmp_ge, ↓g_15_2, ↓g_21_2, ↓e_lshr, ↓e_lconst1, ↓e_land, ↓e_lconst0, ↓e_lcmp, ↓e_if_ne, ↓e_iload3, ↓e_iload4, ↓e_iload5, ↓e_cv4, i_15, i_21, ↓e_iinc5, ↓g_15_3, ↓g_21_3, ↓e_iload2, ↓g_15_6, ↓g_21_6, ↓e_cmp_lt, ↓e_iinc4, ↓e_cmp_ne, ↓e_goto, ↓e_iinc6, ↓e_vret, ↓x_18, ↓y_19, ↓y_20, ↓x_24, ↓y_25, ↓y_26, ↓e_nil, b_12_0, b_12_1, b_12_2, b_12_3, b_12_4, b_12_5, hnm, hin3, and_self, true_and, false_implies, not_false_eq_true, true_implies, hb3, hbit, w4, w5]
        cases hs : sd t m with
        | true =>
          rw [hsg hs] at hb2
          exact ⟨fun _ => hb2, fun hq => absurd (by decide) hq⟩
        | false =>
          refine ⟨fun hq => absurd (by decide) hq, fun _ => hcall hs _ ?_⟩
          simp only [↓e_iload1, ↓e_bipush, ↓e_imul, ↓e_istore2, e_klI, e_klR, e_klX, e_klL, ↓e_iconst, ↓e_istore3, ↓e_istore4, ↓e_istore5, ↓e_aload0, ↓g_15_4, ↓g_21_4, ↓e_iadd, e_rpn, e_rps, e_few0, e_few1, e_few2, e_few3, e_few4, ↓e_cs4, ↓e_istore6, ↓e_iload6, ↓e_cmp_ge, ↓g_15_2, ↓g_21_2, ↓e_lshr, ↓e_lconst1, ↓e_land, ↓e_lconst0, ↓e_lcmp, ↓e_if_ne, ↓e_iload3, ↓e_iload4, ↓e_iload5, ↓e_cv4, i_15, i_21, ↓e_iinc5, ↓g_15_3, ↓g_21_3, ↓e_iload2, ↓g_15_6, ↓g_21_6, ↓e_cmp_lt, ↓e_iinc4, ↓e_cmp_ne, ↓e_goto, ↓e_iinc6, ↓e_vret, ↓x_18, ↓y_19, ↓y_20, ↓x_24, ↓y_25, ↓y_26, ↓e_nil, b_12_0, b_12_1, b_12_2, b_12_3, b_12_4, b_12_5]
          rw [← hgg hs, hgi]
          exact hb2
  have h0 : Ev Ls (Sm Ls (d + 2)) q bk_12 1 [vR P, vI t, vI ((t : Int) * 48), vI 0, vI 0, vI 0, vI 0] [] (ab_fl w (P + 5) ((t : Int) * 4) ((t : Int) * 4 + 4) (-1)) := by
    refine key 48 0 (by omega) _ 0 0 0 rfl (by omega) (fun p p1 p2 => ab_fl_pp p2) (fun j hj => by omega) (fun l hl => ?_) (fun i hi => ab_fl_p (by omega)) (fun i hi => ab_fl_out hi)
    rw [ab_fl_in (by omega)]; rfl
  have hcall : ∀ Q' : Option ab_V → ab_W → Prop, Q' none (ab_fl w (P + 5) ((t : Int) * 4) ((t : Int) * 4 + 4) (-1)) → Sm Ls (d + 2) 5 [vR (P + 5), vI ((t : Int) * 4), vI ((t : Int) * 4 + 4), vI (-1)] w Q' := fun Q' hQ => q_fill3 (n := 16) hfar.2 (by omega) (by omega) (by omega) (by omega) hQ
  obtain ⟨w1, w2, w3⟩ : iW ((t : Int) * 48) = (t : Int) * 48 ∧ iW ((t : Int) * 4) = (t : Int) * 4 ∧ iW ((t : Int) * 4 + 4) = (t : Int) * 4 + 4 := ⟨iW_id (by omega) (by omega), iW_id (by omega) (by omega), iW_id (by omega) (by omega)⟩
  rw [en_12]
  clear key
  rcases hP with rfl | rfl
  all_goals
    dsimp only [Nat.reduceAdd] at h0 hcall
    simp only [↓e_iload1, ↓e_bipush, ↓e_imul, ↓e_istore2, e_klI, e_klR, e_klX, e_klL, ↓e_iconst, ↓e_istore3, ↓e_istore4, ↓e_istore5, ↓e_aload0, ↓g_15_4, ↓g_21_4, ↓e_iadd, e_rpn, e_rps, e_few0, e_few1, e_few2, e_few3, e_few4, ↓e_cs4, ↓e_istore6, ↓e_iload6, ↓e_cmp_ge, ↓g_15_2, ↓g_21_2, ↓e_lshr, ↓e_lconst1, ↓e_land, ↓e_lconst0, ↓e_lcmp, ↓e_if_ne, ↓e_iload3, ↓e_iload4, ↓e_iload5, ↓e_cv4, i_15, i_21, ↓e_iinc5, ↓g_15_3, ↓g_21_3, ↓e_iload2, ↓g_15_6, ↓g_21_6, ↓e_cmp_lt, ↓e_iinc4, ↓e_cmp_ne, ↓e_goto, ↓e_iinc6, ↓e_vret, ↓x_18, ↓y_19, ↓y_20, ↓x_24, ↓y_25, ↓y_26, ↓e_nil, b_12_0, b_12_1, b_12_2, b_12_3, b_12_4, b_12_5, w1, w2, w3, true_and]
    exact hcall _ h0
end RunTeam23
end
